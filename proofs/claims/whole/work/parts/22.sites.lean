/-! SiteObjects$Sites.clear(II)V -/
abbrev GX5_clear (p : Program) (l : Launch) (e : Env) (s : State) (m : MethodId) (args : Array Value) (below : List Frame) (meth : Method) (c : Code) (D : va_G) (ca : Nat → ClassId) (ad : Nat → Nat) (res : Mm) : Nat → List (Nat × Value) → List Value → Mm → Option (Mm) → Prop := G p l e { frames := 0, cells := 0, slots := 0, locals := 0 } s m args below meth c (MQ below (QcV D vcl ca ad shC s.heap.size res) args s 0 0 (Aw ad shC.length s.heap.size)) 3 D vcl ca ad shC (Aw ad shC.length s.heap.size) res
def f_X5_clear (o : Nat) (x1 : Int) (x2 : Int) (σ : Mm) : Option (Mm) :=
  (some (stI (stI (stI (stI σ (o + 9) 0 x1) (o + 9) 1 x2) (o + 9) 2 0) (o + 9) 3 0)).bind (fun σ1 => some (stI σ1 (o + 9) 4 0))
theorem hd_X5_clear : yX5_clear.cls = RX5 ∧ yX5_clear.cls ≠ "java/lang/invoke/MethodHandle" ∧ yX5_clear.cls ≠ "java/lang/invoke/VarHandle" ∧ (parseMethodDescriptor yX5_clear.desc).map (fun d => d.parameters.length) = some 2 := by decide +kernel
set_option maxRecDepth 100000 in
set_option maxHeartbeats 4000000 in
theorem c_X5_clear {l : Launch} {D : va_G} {ca : Nat → ClassId} {ad : Nat → Nat} {o : Nat} {x1 : Int} {x2 : Int} (ho : o = 15 ∨ o = 29) (hx1 : inR x1) (hx2 : inR x2) {σ : Mm} : CtV l D vcl ca ad shC NC yX5_clear (Cond.code yX5_clear cX5_clear 3 none :: tbG) { frames := 0, cells := 0, slots := 0, locals := 0 } [.ref (ad (o + 9)), .int (oi x1), .int (oi x2)] σ (f_X5_clear o x1 x2 σ) := by
  refine ct_V RX5 rfl (by decide) rfl (Nat.le_of_ble_eq_true rfl) (fun p e s m below meth c res X hN hr hlk => ?_)
  show GX5_clear p l e s m _ below meth c D ca ad res 0 [(0, .ref (ad (o + 9))), (1, .int (oi x1)), (2, .int (oi x2))] [] σ (f_X5_clear o x1 x2 σ)
  unfold f_X5_clear
  refine q_aload_n X dX5_clear_0 0 rfl ?_
  refine q_iload_n X dX5_clear_1 1 rfl ?_
  refine fp_X5_9 ho X hx1 dX5_clear_2 ?_
  refine q_aload_n X dX5_clear_5 0 rfl ?_
  refine q_iload_n X dX5_clear_6 2 rfl ?_
  refine fp_X5_15 ho X hx2 dX5_clear_7 ?_
  refine q_aload_n X dX5_clear_10 0 rfl ?_
  refine q_iconst X dX5_clear_11 ?_
  refine fp_X5_18 ho X (by decide) dX5_clear_12 ?_
  refine q_aload_n X dX5_clear_15 0 rfl ?_
  refine q_iconst X dX5_clear_16 ?_
  refine fp_X5_21 ho X (by decide) dX5_clear_17 ?_
  refine q_nm (fun σ1 => ?_)
  refine q_aload_n X dX5_clear_20 0 rfl ?_
  refine q_iconst X dX5_clear_21 ?_
  refine fp_X5_24 ho X (Or.inl rfl) dX5_clear_22 ?_
  exact q_vret X hr hlk dX5_clear_25

/-! SiteObjects$Sites.nodeWith(II)I -/
abbrev GX5_nodeWith (p : Program) (l : Launch) (e : Env) (s : State) (m : MethodId) (args : Array Value) (below : List Frame) (meth : Method) (c : Code) (D : va_G) (ca : Nat → ClassId) (ad : Nat → Nat) (σ : Mm) (res : Int) : Nat → List (Nat × Value) → List Value → Mm → Option (Int) → Prop := G p l e { frames := 0, cells := 0, slots := 0, locals := 0 } s m args below meth c (MQ below (QcI D vcl ca ad shC s.heap.size (res, σ)) args s 0 0 (Aw ad shC.length s.heap.size)) 4 D vcl ca ad shC (Aw ad shC.length s.heap.size) res
def f_X5_nodeWith_2 (o : Nat) : Nat → Int → Int → Int → Mm → Option (Int)
  | 0, _, _, _, _ => none
  | n + 1, x1, x2, x3, σ => (if (σ.1 (o + 9) 2) ≤ x3 then some (-1) else ck ((0 : Int) ≤ x3 ∧ x3 < ((80 : Nat) : Int)) ((if (σ.1 (o + 10) (Int.toNat x3)) = x1 then ck ((0 : Int) ≤ x3 ∧ x3 < ((80 : Nat) : Int)) ((if (σ.1 (o + 11) (Int.toNat x3)) = x2 then some x3 else ck (inR (x3 + 1)) (f_X5_nodeWith_2 o n x1 x2 (x3 + 1) σ))) else ck (inR (x3 + 1)) (f_X5_nodeWith_2 o n x1 x2 (x3 + 1) σ))))
set_option maxRecDepth 100000 in
set_option maxHeartbeats 4000000 in
theorem t_X5_nodeWith_2 {p : Program} {l : Launch} {e : Env} {s : State} {m : MethodId} {args : Array Value} {below : List Frame} {meth : Method} {c : Code} {D : va_G} {ca : Nat → ClassId} {ad : Nat → Nat} {σ : Mm} {res : Int} {o : Nat} (X : Cx p s m args c cX5_nodeWith 4 RX5 (Cond.code yX5_nodeWith cX5_nodeWith 4 (some .int) :: tbG) D vcl ca) (hN : NC s) (hr : meth.sig.returnType = (some .int)) (hlk : meth.locks = false) (ho : o = 15 ∨ o = 29) : ∀ (n : Nat) (x1 : Int) (x2 : Int) (x3 : Int), inR x1 → inR x2 → inR x3 → GX5_nodeWith p l e s m args below meth c D ca ad σ res 2 [(0, .ref (ad (o + 9))), (1, .int (oi x1)), (2, .int (oi x2)), (3, .int (oi x3))] [] σ (f_X5_nodeWith_2 o n x1 x2 x3 σ)
  := by
  intro n
  induction n with
  | zero => intro x1 x2 x3 hx1 hx2 hx3 h; cases h
  | succ n ih =>
    intro x1 x2 x3 hx1 hx2 hx3
    rw [f_X5_nodeWith_2]
    refine q_iload_n X dX5_nodeWith_2 3 rfl ?_
    refine q_aload_n X dX5_nodeWith_3 0 rfl ?_
    refine fg_X5_18 ho X dX5_nodeWith_4 (fun h1 => ?_)
    refine q_icmp_ge X hx3 h1 38 dX5_nodeWith_7 (by decide) (fun h2 => ?_) (fun h2 => ?_)
    · refine q_iconst X dX5_nodeWith_38 ?_
      exact q_iretp X (by decide) hr hlk dX5_nodeWith_39
    · refine q_aload_n X dX5_nodeWith_10 0 rfl ?_
      refine fg_X5_28 ho X dX5_nodeWith_11 ?_
      refine q_iload_n X dX5_nodeWith_14 3 rfl ?_
      refine q_iald X (hF10 ho) (by decide) dX5_nodeWith_15 (fun h3 => ?_)
      refine q_iload_n X dX5_nodeWith_16 1 rfl ?_
      refine q_icmp_ne X h3 hx1 32 dX5_nodeWith_17 (by decide) (fun h4 => ?_) (fun h4 => ?_)
      · refine q_aload_n X dX5_nodeWith_20 0 rfl ?_
        refine fg_X5_32 ho X dX5_nodeWith_21 ?_
        refine q_iload_n X dX5_nodeWith_24 3 rfl ?_
        refine q_iald X (hF11 ho) (by decide) dX5_nodeWith_25 (fun h5 => ?_)
        refine q_iload_n X dX5_nodeWith_26 2 rfl ?_
        refine q_icmp_ne X h5 hx2 32 dX5_nodeWith_27 (by decide) (fun h6 => ?_) (fun h6 => ?_)
        · refine q_iload_n X dX5_nodeWith_30 3 rfl ?_
          exact q_iretp X hx3 hr hlk dX5_nodeWith_31
        · refine q_iinc X [(3, .int (oi (x3 + 1))), (0, .ref (ad (o + 9))), (1, .int (oi x1)), (2, .int (oi x2))] dX5_nodeWith_32 (by decide) 3 rfl rfl (fun h7 => ?_)
          refine q_goto X 2 dX5_nodeWith_35 (by decide) ?_
          refine q_sub [(0, .ref (ad (o + 9))), (1, .int (oi x1)), (2, .int (oi x2)), (3, .int (oi (x3 + 1)))] [1, 2, 3, 0] rfl ?_
          exact ih x1 x2 (x3 + 1) hx1 hx2 h7
      · refine q_iinc X [(3, .int (oi (x3 + 1))), (0, .ref (ad (o + 9))), (1, .int (oi x1)), (2, .int (oi x2))] dX5_nodeWith_32 (by decide) 3 rfl rfl (fun h8 => ?_)
        refine q_goto X 2 dX5_nodeWith_35 (by decide) ?_
        refine q_sub [(0, .ref (ad (o + 9))), (1, .int (oi x1)), (2, .int (oi x2)), (3, .int (oi (x3 + 1)))] [1, 2, 3, 0] rfl ?_
        exact ih x1 x2 (x3 + 1) hx1 hx2 h8
def f_X5_nodeWith (o : Nat) (x1 : Int) (x2 : Int) (σ : Mm) : Option (Int) :=
  f_X5_nodeWith_2 o 2000 x1 x2 0 σ
theorem hd_X5_nodeWith : yX5_nodeWith.cls = RX5 ∧ yX5_nodeWith.cls ≠ "java/lang/invoke/MethodHandle" ∧ yX5_nodeWith.cls ≠ "java/lang/invoke/VarHandle" ∧ (parseMethodDescriptor yX5_nodeWith.desc).map (fun d => d.parameters.length) = some 2 := by decide +kernel
set_option maxRecDepth 100000 in
set_option maxHeartbeats 4000000 in
theorem c_X5_nodeWith {l : Launch} {D : va_G} {ca : Nat → ClassId} {ad : Nat → Nat} {o : Nat} {x1 : Int} {x2 : Int} (ho : o = 15 ∨ o = 29) (hx1 : inR x1) (hx2 : inR x2) {σ : Mm} : CtI l D vcl ca ad shC NC yX5_nodeWith (Cond.code yX5_nodeWith cX5_nodeWith 4 (some .int) :: tbG) { frames := 0, cells := 0, slots := 0, locals := 0 } [.ref (ad (o + 9)), .int (oi x1), .int (oi x2)] σ ((f_X5_nodeWith o x1 x2 σ).map (fun r => (r, σ))) := by
  refine ct_Ip RX5 rfl (by decide) rfl (Nat.le_of_ble_eq_true rfl) (fun p e s m below meth c res X hN hr hlk => ?_)
  show GX5_nodeWith p l e s m _ below meth c D ca ad σ res 0 [(0, .ref (ad (o + 9))), (1, .int (oi x1)), (2, .int (oi x2))] [] σ (f_X5_nodeWith o x1 x2 σ)
  unfold f_X5_nodeWith
  refine q_iconst X dX5_nodeWith_0 ?_
  refine q_istore_n X [(3, .int (oi 0)), (0, .ref (ad (o + 9))), (1, .int (oi x1)), (2, .int (oi x2))] dX5_nodeWith_1 (by decide) rfl ?_
  refine q_sub [(0, .ref (ad (o + 9))), (1, .int (oi x1)), (2, .int (oi x2)), (3, .int (oi 0))] [1, 2, 3, 0] rfl ?_
  exact t_X5_nodeWith_2 X hN hr hlk ho 2000 x1 x2 0 hx1 hx2 (by decide)

/-! SiteObjects$Sites.addNode(II)I -/
abbrev GX5_addNode (p : Program) (l : Launch) (e : Env) (s : State) (m : MethodId) (args : Array Value) (below : List Frame) (meth : Method) (c : Code) (D : va_G) (ca : Nat → ClassId) (ad : Nat → Nat) (res : Int × Mm) : Nat → List (Nat × Value) → List Value → Mm → Option (Int × Mm) → Prop := G p l e { frames := 0, cells := 0, slots := 0, locals := 0 } s m args below meth c (MQ below (QcI D vcl ca ad shC s.heap.size res) args s 0 0 (Aw ad shC.length s.heap.size)) 3 D vcl ca ad shC (Aw ad shC.length s.heap.size) res
def f_X5_addNode (o : Nat) (x1 : Int) (x2 : Int) (σ : Mm) : Option (Int × Mm) :=
  (if (σ.1 (o + 9) 2) < 80 then ck ((0 : Int) ≤ (σ.1 (o + 9) 2) ∧ (σ.1 (o + 9) 2) < ((80 : Nat) : Int)) (ck ((0 : Int) ≤ ((stI σ (o + 10) (Int.toNat (σ.1 (o + 9) 2)) x1).1 (o + 9) 2) ∧ ((stI σ (o + 10) (Int.toNat (σ.1 (o + 9) 2)) x1).1 (o + 9) 2) < ((80 : Nat) : Int)) ((some (stI (stI σ (o + 10) (Int.toNat (σ.1 (o + 9) 2)) x1) (o + 11) (Int.toNat ((stI σ (o + 10) (Int.toNat (σ.1 (o + 9) 2)) x1).1 (o + 9) 2)) x2)).bind (fun σ5 => ck (inR ((σ5.1 (o + 9) 2) + 1)) (ck (inR (((stI σ5 (o + 9) 2 ((σ5.1 (o + 9) 2) + 1)).1 (o + 9) 2) - 1)) (some ((((stI σ5 (o + 9) 2 ((σ5.1 (o + 9) 2) + 1)).1 (o + 9) 2) - 1), (stI σ5 (o + 9) 2 ((σ5.1 (o + 9) 2) + 1)))))))) else some ((-1), (stI σ (o + 9) 4 1)))
theorem hd_X5_addNode : yX5_addNode.cls = RX5 ∧ yX5_addNode.cls ≠ "java/lang/invoke/MethodHandle" ∧ yX5_addNode.cls ≠ "java/lang/invoke/VarHandle" ∧ (parseMethodDescriptor yX5_addNode.desc).map (fun d => d.parameters.length) = some 2 := by decide +kernel
set_option maxRecDepth 100000 in
set_option maxHeartbeats 4000000 in
theorem c_X5_addNode {l : Launch} {D : va_G} {ca : Nat → ClassId} {ad : Nat → Nat} {o : Nat} {x1 : Int} {x2 : Int} (ho : o = 15 ∨ o = 29) (hx1 : inR x1) (hx2 : inR x2) {σ : Mm} : CtI l D vcl ca ad shC NC yX5_addNode (Cond.code yX5_addNode cX5_addNode 3 (some .int) :: tbG) { frames := 0, cells := 0, slots := 0, locals := 0 } [.ref (ad (o + 9)), .int (oi x1), .int (oi x2)] σ (f_X5_addNode o x1 x2 σ) := by
  refine ct_I RX5 rfl (by decide) rfl (Nat.le_of_ble_eq_true rfl) (fun p e s m below meth c res X hN hr hlk => ?_)
  show GX5_addNode p l e s m _ below meth c D ca ad res 0 [(0, .ref (ad (o + 9))), (1, .int (oi x1)), (2, .int (oi x2))] [] σ (f_X5_addNode o x1 x2 σ)
  unfold f_X5_addNode
  refine q_aload_n X dX5_addNode_0 0 rfl ?_
  refine fg_X5_18 ho X dX5_addNode_1 (fun h1 => ?_)
  refine q_bipush X dX5_addNode_4 (by decide) ?_
  refine q_icmp_lt X h1 (by decide) 16 dX5_addNode_6 (by decide) (fun h2 => ?_) (fun h2 => ?_)
  · refine q_aload_n X dX5_addNode_16 0 rfl ?_
    refine fg_X5_28 ho X dX5_addNode_17 ?_
    refine q_aload_n X dX5_addNode_20 0 rfl ?_
    refine fg_X5_18 ho X dX5_addNode_21 (fun h3 => ?_)
    refine q_iload_n X dX5_addNode_24 1 rfl ?_
    refine q_iast X (hF10 ho) (by decide) hx1 dX5_addNode_25 ?_
    refine q_aload_n X dX5_addNode_26 0 rfl ?_
    refine fg_X5_32 ho X dX5_addNode_27 ?_
    refine q_aload_n X dX5_addNode_30 0 rfl ?_
    refine fg_X5_18 ho X dX5_addNode_31 (fun h4 => ?_)
    refine q_iload_n X dX5_addNode_34 2 rfl ?_
    refine q_iast X (hF11 ho) (by decide) hx2 dX5_addNode_35 ?_
    refine q_nm (fun σ5 => ?_)
    refine q_aload_n X dX5_addNode_36 0 rfl ?_
    refine q_dup X dX5_addNode_37 rfl ?_
    refine fg_X5_18 ho X dX5_addNode_38 (fun h6 => ?_)
    refine q_iconst X dX5_addNode_41 ?_
    refine q_iadd X dX5_addNode_42 ?_
    refine q_ck (fun h7 => ?_)
    refine fp_X5_18 ho X h7 dX5_addNode_43 ?_
    refine q_aload_n X dX5_addNode_46 0 rfl ?_
    refine fg_X5_18 ho X dX5_addNode_47 (fun h8 => ?_)
    refine q_iconst X dX5_addNode_50 ?_
    refine q_isub X dX5_addNode_51 ?_
    refine q_ck (fun h9 => ?_)
    exact q_iret X h9 hr hlk dX5_addNode_52
  · refine q_aload_n X dX5_addNode_9 0 rfl ?_
    refine q_iconst X dX5_addNode_10 ?_
    refine fp_X5_24 ho X (Or.inr rfl) dX5_addNode_11 ?_
    refine q_iconst X dX5_addNode_14 ?_
    exact q_iret X (by decide) hr hlk dX5_addNode_15

/-! SiteObjects$Sites.nameWith(II)I -/
abbrev GX5_nameWith (p : Program) (l : Launch) (e : Env) (s : State) (m : MethodId) (args : Array Value) (below : List Frame) (meth : Method) (c : Code) (D : va_G) (ca : Nat → ClassId) (ad : Nat → Nat) (σ : Mm) (res : Int) : Nat → List (Nat × Value) → List Value → Mm → Option (Int) → Prop := G p l e { frames := 0, cells := 0, slots := 0, locals := 0 } s m args below meth c (MQ below (QcI D vcl ca ad shC s.heap.size (res, σ)) args s 0 0 (Aw ad shC.length s.heap.size)) 4 D vcl ca ad shC (Aw ad shC.length s.heap.size) res
def f_X5_nameWith_2 (o : Nat) : Nat → Int → Int → Int → Mm → Option (Int)
  | 0, _, _, _, _ => none
  | n + 1, x1, x2, x3, σ => (if (σ.1 (o + 9) 3) ≤ x3 then some (-1) else ck ((0 : Int) ≤ x3 ∧ x3 < ((60 : Nat) : Int)) ((if (σ.1 (o + 12) (Int.toNat x3)) = x2 then ck ((0 : Int) ≤ x3 ∧ x3 < ((60 : Nat) : Int)) ((if (σ.1 (o + 13) (Int.toNat x3)) = x1 then some x3 else ck (inR (x3 + 1)) (f_X5_nameWith_2 o n x1 x2 (x3 + 1) σ))) else ck (inR (x3 + 1)) (f_X5_nameWith_2 o n x1 x2 (x3 + 1) σ))))
set_option maxRecDepth 100000 in
set_option maxHeartbeats 4000000 in
theorem t_X5_nameWith_2 {p : Program} {l : Launch} {e : Env} {s : State} {m : MethodId} {args : Array Value} {below : List Frame} {meth : Method} {c : Code} {D : va_G} {ca : Nat → ClassId} {ad : Nat → Nat} {σ : Mm} {res : Int} {o : Nat} (X : Cx p s m args c cX5_nameWith 4 RX5 (Cond.code yX5_nameWith cX5_nameWith 4 (some .int) :: tbG) D vcl ca) (hN : NC s) (hr : meth.sig.returnType = (some .int)) (hlk : meth.locks = false) (ho : o = 15 ∨ o = 29) : ∀ (n : Nat) (x1 : Int) (x2 : Int) (x3 : Int), inR x1 → inR x2 → inR x3 → GX5_nameWith p l e s m args below meth c D ca ad σ res 2 [(0, .ref (ad (o + 9))), (1, .int (oi x1)), (2, .int (oi x2)), (3, .int (oi x3))] [] σ (f_X5_nameWith_2 o n x1 x2 x3 σ)
  := by
  intro n
  induction n with
  | zero => intro x1 x2 x3 hx1 hx2 hx3 h; cases h
  | succ n ih =>
    intro x1 x2 x3 hx1 hx2 hx3
    rw [f_X5_nameWith_2]
    refine q_iload_n X dX5_nameWith_2 3 rfl ?_
    refine q_aload_n X dX5_nameWith_3 0 rfl ?_
    refine fg_X5_21 ho X dX5_nameWith_4 (fun h1 => ?_)
    refine q_icmp_ge X hx3 h1 38 dX5_nameWith_7 (by decide) (fun h2 => ?_) (fun h2 => ?_)
    · refine q_iconst X dX5_nameWith_38 ?_
      exact q_iretp X (by decide) hr hlk dX5_nameWith_39
    · refine q_aload_n X dX5_nameWith_10 0 rfl ?_
      refine fg_X5_35 ho X dX5_nameWith_11 ?_
      refine q_iload_n X dX5_nameWith_14 3 rfl ?_
      refine q_iald X (hF12 ho) (by decide) dX5_nameWith_15 (fun h3 => ?_)
      refine q_iload_n X dX5_nameWith_16 2 rfl ?_
      refine q_icmp_ne X h3 hx2 32 dX5_nameWith_17 (by decide) (fun h4 => ?_) (fun h4 => ?_)
      · refine q_aload_n X dX5_nameWith_20 0 rfl ?_
        refine fg_X5_38 ho X dX5_nameWith_21 ?_
        refine q_iload_n X dX5_nameWith_24 3 rfl ?_
        refine q_iald X (hF13 ho) (by decide) dX5_nameWith_25 (fun h5 => ?_)
        refine q_iload_n X dX5_nameWith_26 1 rfl ?_
        refine q_icmp_ne X h5 hx1 32 dX5_nameWith_27 (by decide) (fun h6 => ?_) (fun h6 => ?_)
        · refine q_iload_n X dX5_nameWith_30 3 rfl ?_
          exact q_iretp X hx3 hr hlk dX5_nameWith_31
        · refine q_iinc X [(3, .int (oi (x3 + 1))), (0, .ref (ad (o + 9))), (1, .int (oi x1)), (2, .int (oi x2))] dX5_nameWith_32 (by decide) 3 rfl rfl (fun h7 => ?_)
          refine q_goto X 2 dX5_nameWith_35 (by decide) ?_
          refine q_sub [(0, .ref (ad (o + 9))), (1, .int (oi x1)), (2, .int (oi x2)), (3, .int (oi (x3 + 1)))] [1, 2, 3, 0] rfl ?_
          exact ih x1 x2 (x3 + 1) hx1 hx2 h7
      · refine q_iinc X [(3, .int (oi (x3 + 1))), (0, .ref (ad (o + 9))), (1, .int (oi x1)), (2, .int (oi x2))] dX5_nameWith_32 (by decide) 3 rfl rfl (fun h8 => ?_)
        refine q_goto X 2 dX5_nameWith_35 (by decide) ?_
        refine q_sub [(0, .ref (ad (o + 9))), (1, .int (oi x1)), (2, .int (oi x2)), (3, .int (oi (x3 + 1)))] [1, 2, 3, 0] rfl ?_
        exact ih x1 x2 (x3 + 1) hx1 hx2 h8
def f_X5_nameWith (o : Nat) (x1 : Int) (x2 : Int) (σ : Mm) : Option (Int) :=
  f_X5_nameWith_2 o 2000 x1 x2 0 σ
theorem hd_X5_nameWith : yX5_nameWith.cls = RX5 ∧ yX5_nameWith.cls ≠ "java/lang/invoke/MethodHandle" ∧ yX5_nameWith.cls ≠ "java/lang/invoke/VarHandle" ∧ (parseMethodDescriptor yX5_nameWith.desc).map (fun d => d.parameters.length) = some 2 := by decide +kernel
set_option maxRecDepth 100000 in
set_option maxHeartbeats 4000000 in
theorem c_X5_nameWith {l : Launch} {D : va_G} {ca : Nat → ClassId} {ad : Nat → Nat} {o : Nat} {x1 : Int} {x2 : Int} (ho : o = 15 ∨ o = 29) (hx1 : inR x1) (hx2 : inR x2) {σ : Mm} : CtI l D vcl ca ad shC NC yX5_nameWith (Cond.code yX5_nameWith cX5_nameWith 4 (some .int) :: tbG) { frames := 0, cells := 0, slots := 0, locals := 0 } [.ref (ad (o + 9)), .int (oi x1), .int (oi x2)] σ ((f_X5_nameWith o x1 x2 σ).map (fun r => (r, σ))) := by
  refine ct_Ip RX5 rfl (by decide) rfl (Nat.le_of_ble_eq_true rfl) (fun p e s m below meth c res X hN hr hlk => ?_)
  show GX5_nameWith p l e s m _ below meth c D ca ad σ res 0 [(0, .ref (ad (o + 9))), (1, .int (oi x1)), (2, .int (oi x2))] [] σ (f_X5_nameWith o x1 x2 σ)
  unfold f_X5_nameWith
  refine q_iconst X dX5_nameWith_0 ?_
  refine q_istore_n X [(3, .int (oi 0)), (0, .ref (ad (o + 9))), (1, .int (oi x1)), (2, .int (oi x2))] dX5_nameWith_1 (by decide) rfl ?_
  refine q_sub [(0, .ref (ad (o + 9))), (1, .int (oi x1)), (2, .int (oi x2)), (3, .int (oi 0))] [1, 2, 3, 0] rfl ?_
  exact t_X5_nameWith_2 X hN hr hlk ho 2000 x1 x2 0 hx1 hx2 (by decide)

/-! SiteObjects$Sites.addName(II)I -/
abbrev GX5_addName (p : Program) (l : Launch) (e : Env) (s : State) (m : MethodId) (args : Array Value) (below : List Frame) (meth : Method) (c : Code) (D : va_G) (ca : Nat → ClassId) (ad : Nat → Nat) (res : Int × Mm) : Nat → List (Nat × Value) → List Value → Mm → Option (Int × Mm) → Prop := G p l e { frames := 0, cells := 0, slots := 0, locals := 0 } s m args below meth c (MQ below (QcI D vcl ca ad shC s.heap.size res) args s 0 0 (Aw ad shC.length s.heap.size)) 3 D vcl ca ad shC (Aw ad shC.length s.heap.size) res
def f_X5_addName (o : Nat) (x1 : Int) (x2 : Int) (σ : Mm) : Option (Int × Mm) :=
  (if (σ.1 (o + 9) 3) < 60 then ck ((0 : Int) ≤ (σ.1 (o + 9) 3) ∧ (σ.1 (o + 9) 3) < ((60 : Nat) : Int)) (ck ((0 : Int) ≤ ((stI σ (o + 12) (Int.toNat (σ.1 (o + 9) 3)) x2).1 (o + 9) 3) ∧ ((stI σ (o + 12) (Int.toNat (σ.1 (o + 9) 3)) x2).1 (o + 9) 3) < ((60 : Nat) : Int)) ((some (stI (stI σ (o + 12) (Int.toNat (σ.1 (o + 9) 3)) x2) (o + 13) (Int.toNat ((stI σ (o + 12) (Int.toNat (σ.1 (o + 9) 3)) x2).1 (o + 9) 3)) x1)).bind (fun σ5 => ck (inR ((σ5.1 (o + 9) 3) + 1)) (ck (inR (((stI σ5 (o + 9) 3 ((σ5.1 (o + 9) 3) + 1)).1 (o + 9) 3) - 1)) (some ((((stI σ5 (o + 9) 3 ((σ5.1 (o + 9) 3) + 1)).1 (o + 9) 3) - 1), (stI σ5 (o + 9) 3 ((σ5.1 (o + 9) 3) + 1)))))))) else some ((-1), (stI σ (o + 9) 4 1)))
theorem hd_X5_addName : yX5_addName.cls = RX5 ∧ yX5_addName.cls ≠ "java/lang/invoke/MethodHandle" ∧ yX5_addName.cls ≠ "java/lang/invoke/VarHandle" ∧ (parseMethodDescriptor yX5_addName.desc).map (fun d => d.parameters.length) = some 2 := by decide +kernel
set_option maxRecDepth 100000 in
set_option maxHeartbeats 4000000 in
theorem c_X5_addName {l : Launch} {D : va_G} {ca : Nat → ClassId} {ad : Nat → Nat} {o : Nat} {x1 : Int} {x2 : Int} (ho : o = 15 ∨ o = 29) (hx1 : inR x1) (hx2 : inR x2) {σ : Mm} : CtI l D vcl ca ad shC NC yX5_addName (Cond.code yX5_addName cX5_addName 3 (some .int) :: tbG) { frames := 0, cells := 0, slots := 0, locals := 0 } [.ref (ad (o + 9)), .int (oi x1), .int (oi x2)] σ (f_X5_addName o x1 x2 σ) := by
  refine ct_I RX5 rfl (by decide) rfl (Nat.le_of_ble_eq_true rfl) (fun p e s m below meth c res X hN hr hlk => ?_)
  show GX5_addName p l e s m _ below meth c D ca ad res 0 [(0, .ref (ad (o + 9))), (1, .int (oi x1)), (2, .int (oi x2))] [] σ (f_X5_addName o x1 x2 σ)
  unfold f_X5_addName
  refine q_aload_n X dX5_addName_0 0 rfl ?_
  refine fg_X5_21 ho X dX5_addName_1 (fun h1 => ?_)
  refine q_bipush X dX5_addName_4 (by decide) ?_
  refine q_icmp_lt X h1 (by decide) 16 dX5_addName_6 (by decide) (fun h2 => ?_) (fun h2 => ?_)
  · refine q_aload_n X dX5_addName_16 0 rfl ?_
    refine fg_X5_35 ho X dX5_addName_17 ?_
    refine q_aload_n X dX5_addName_20 0 rfl ?_
    refine fg_X5_21 ho X dX5_addName_21 (fun h3 => ?_)
    refine q_iload_n X dX5_addName_24 2 rfl ?_
    refine q_iast X (hF12 ho) (by decide) hx2 dX5_addName_25 ?_
    refine q_aload_n X dX5_addName_26 0 rfl ?_
    refine fg_X5_38 ho X dX5_addName_27 ?_
    refine q_aload_n X dX5_addName_30 0 rfl ?_
    refine fg_X5_21 ho X dX5_addName_31 (fun h4 => ?_)
    refine q_iload_n X dX5_addName_34 1 rfl ?_
    refine q_iast X (hF13 ho) (by decide) hx1 dX5_addName_35 ?_
    refine q_nm (fun σ5 => ?_)
    refine q_aload_n X dX5_addName_36 0 rfl ?_
    refine q_dup X dX5_addName_37 rfl ?_
    refine fg_X5_21 ho X dX5_addName_38 (fun h6 => ?_)
    refine q_iconst X dX5_addName_41 ?_
    refine q_iadd X dX5_addName_42 ?_
    refine q_ck (fun h7 => ?_)
    refine fp_X5_21 ho X h7 dX5_addName_43 ?_
    refine q_aload_n X dX5_addName_46 0 rfl ?_
    refine fg_X5_21 ho X dX5_addName_47 (fun h8 => ?_)
    refine q_iconst X dX5_addName_50 ?_
    refine q_isub X dX5_addName_51 ?_
    refine q_ck (fun h9 => ?_)
    exact q_iret X h9 hr hlk dX5_addName_52
  · refine q_aload_n X dX5_addName_9 0 rfl ?_
    refine q_iconst X dX5_addName_10 ?_
    refine fp_X5_24 ho X (Or.inr rfl) dX5_addName_11 ?_
    refine q_iconst X dX5_addName_14 ?_
    exact q_iret X (by decide) hr hlk dX5_addName_15

/-! SiteObjects$Sites.ahead(II)I -/
abbrev GX5_ahead (p : Program) (l : Launch) (e : Env) (s : State) (m : MethodId) (args : Array Value) (below : List Frame) (meth : Method) (c : Code) (D : va_G) (ca : Nat → ClassId) (ad : Nat → Nat) (σ : Mm) (res : Int) : Nat → List (Nat × Value) → List Value → Mm → Option (Int) → Prop := G p l e { frames := 0, cells := 0, slots := 0, locals := 0 } s m args below meth c (MQ below (QcI D vcl ca ad shC s.heap.size (res, σ)) args s 0 0 (Aw ad shC.length s.heap.size)) 4 D vcl ca ad shC (Aw ad shC.length s.heap.size) res
def f_X5_ahead (o : Nat) (x1 : Int) (x2 : Int) (σ : Mm) : Option (Int) :=
  (if (σ.1 (o + 9) 1) = 0 then some 0 else (if (σ.1 (o + 9) 1) = 1 then some (iShl (x1 + 1) 8) else some (iOr (iShl (x1 + 1) 8) (iShr x2 8))))
theorem hd_X5_ahead : yX5_ahead.cls = RX5 ∧ yX5_ahead.cls ≠ "java/lang/invoke/MethodHandle" ∧ yX5_ahead.cls ≠ "java/lang/invoke/VarHandle" ∧ (parseMethodDescriptor yX5_ahead.desc).map (fun d => d.parameters.length) = some 2 := by decide +kernel
set_option maxRecDepth 100000 in
set_option maxHeartbeats 4000000 in
theorem c_X5_ahead {l : Launch} {D : va_G} {ca : Nat → ClassId} {ad : Nat → Nat} {o : Nat} {x1 : Int} {x2 : Int} (ho : o = 15 ∨ o = 29) (hx1 : inR x1) (hx2 : inR x2) {σ : Mm} : CtI l D vcl ca ad shC NC yX5_ahead (Cond.code yX5_ahead cX5_ahead 4 (some .int) :: tbG) { frames := 0, cells := 0, slots := 0, locals := 0 } [.ref (ad (o + 9)), .int (oi x1), .int (oi x2)] σ ((f_X5_ahead o x1 x2 σ).map (fun r => (r, σ))) := by
  refine ct_Ip RX5 rfl (by decide) rfl (Nat.le_of_ble_eq_true rfl) (fun p e s m below meth c res X hN hr hlk => ?_)
  show GX5_ahead p l e s m _ below meth c D ca ad σ res 0 [(0, .ref (ad (o + 9))), (1, .int (oi x1)), (2, .int (oi x2))] [] σ (f_X5_ahead o x1 x2 σ)
  unfold f_X5_ahead
  refine q_iload_n X dX5_ahead_0 1 rfl ?_
  refine q_iconst X dX5_ahead_1 ?_
  refine q_iadd X dX5_ahead_2 ?_
  refine q_bipush X dX5_ahead_3 (by decide) ?_
  refine q_ishl X dX5_ahead_5 ?_
  refine q_istore_n X [(3, .int (oi (iShl (x1 + 1) 8))), (0, .ref (ad (o + 9))), (1, .int (oi x1)), (2, .int (oi x2))] dX5_ahead_6 (by decide) rfl ?_
  refine q_aload_n X dX5_ahead_7 1 rfl ?_
  refine fg_X5_15 ho X dX5_ahead_8 (fun h1 => ?_)
  refine q_ite (fun h2 => ?_) (fun h2 => ?_)
  · refine q_lsw X h1 25 36 dX5_ahead_11 (by decide) (by rw [h2]; rfl) (by decide) ?_
    refine q_iconst X dX5_ahead_36 ?_
    exact q_iretp X (by decide) hr hlk dX5_ahead_37
  · refine q_ite (fun h3 => ?_) (fun h3 => ?_)
    · refine q_lsw X h1 27 38 dX5_ahead_11 (by decide) (by rw [h3]; rfl) (by decide) ?_
      refine q_iload_n X dX5_ahead_38 0 rfl ?_
      exact q_iretp X (oi_rng _) hr hlk dX5_ahead_39
    · refine q_lsw X h1 29 40 dX5_ahead_11 (by decide) (by simp [Op.lookupswitch.offset, Ne.symm h2, Ne.symm h3]) (by decide) ?_
      refine q_iload_n X dX5_ahead_40 0 rfl ?_
      refine q_iload_n X dX5_ahead_41 3 rfl ?_
      refine q_bipush X dX5_ahead_42 (by decide) ?_
      refine q_ishr X dX5_ahead_44 ?_
      refine q_ior X dX5_ahead_45 ?_
      exact q_iretp X (oi_rng _) hr hlk dX5_ahead_46

/-! SiteObjects$Sites.contextOfAsked(III)I -/
abbrev GX5_contextOfAsked (p : Program) (l : Launch) (e : Env) (s : State) (m : MethodId) (args : Array Value) (below : List Frame) (meth : Method) (c : Code) (D : va_G) (ca : Nat → ClassId) (ad : Nat → Nat) (σ : Mm) (res : Int) : Nat → List (Nat × Value) → List Value → Mm → Option (Int) → Prop := G p l e { frames := 1, cells := 0, slots := 0, locals := 23 } s m args below meth c (MQ below (QcI D vcl ca ad shC s.heap.size (res, σ)) args s 0 0 (Aw ad shC.length s.heap.size)) 4 D vcl ca ad shC (Aw ad shC.length s.heap.size) res
def f_X5_contextOfAsked (o : Nat) (x1 : Int) (x2 : Int) (x3 : Int) (σ : Mm) : Option (Int) :=
  (if (σ.1 (o + 9) 0) = 0 then ck ((0 : Int) ≤ x1 ∧ x1 < ((80 : Nat) : Int)) ((f_X5_ahead o x2 (σ.1 (o + 11) (Int.toNat x1)) σ).bind (fun r4 => some r4)) else ck ((0 : Int) ≤ x3 ∧ x3 < ((60 : Nat) : Int)) (ck ((0 : Int) ≤ x3 ∧ x3 < ((60 : Nat) : Int)) (ck ((0 : Int) ≤ (σ.1 (o + 13) (Int.toNat x3)) ∧ (σ.1 (o + 13) (Int.toNat x3)) < ((80 : Nat) : Int)) (ck (inR ((σ.1 (o + 12) (Int.toNat x3)) + 100)) ((f_X5_ahead o ((σ.1 (o + 12) (Int.toNat x3)) + 100) (σ.1 (o + 11) (Int.toNat (σ.1 (o + 13) (Int.toNat x3)))) σ).bind (fun r11 => some r11))))))
theorem hd_X5_contextOfAsked : yX5_contextOfAsked.cls = RX5 ∧ yX5_contextOfAsked.cls ≠ "java/lang/invoke/MethodHandle" ∧ yX5_contextOfAsked.cls ≠ "java/lang/invoke/VarHandle" ∧ (parseMethodDescriptor yX5_contextOfAsked.desc).map (fun d => d.parameters.length) = some 3 := by decide +kernel
set_option maxRecDepth 100000 in
set_option maxHeartbeats 4000000 in
theorem c_X5_contextOfAsked {l : Launch} {D : va_G} {ca : Nat → ClassId} {ad : Nat → Nat} {o : Nat} {x1 : Int} {x2 : Int} {x3 : Int} (ho : o = 15 ∨ o = 29) (hx1 : inR x1) (hx2 : inR x2) (hx3 : inR x3) {σ : Mm} : CtI l D vcl ca ad shC NC yX5_contextOfAsked (Cond.code yX5_contextOfAsked cX5_contextOfAsked 4 (some .int) :: tbG) { frames := 1, cells := 0, slots := 0, locals := 23 } [.ref (ad (o + 9)), .int (oi x1), .int (oi x2), .int (oi x3)] σ ((f_X5_contextOfAsked o x1 x2 x3 σ).map (fun r => (r, σ))) := by
  refine ct_Ip RX5 rfl (by decide) rfl (Nat.le_of_ble_eq_true rfl) (fun p e s m below meth c res X hN hr hlk => ?_)
  show GX5_contextOfAsked p l e s m _ below meth c D ca ad σ res 0 [(0, .ref (ad (o + 9))), (1, .int (oi x1)), (2, .int (oi x2)), (3, .int (oi x3))] [] σ (f_X5_contextOfAsked o x1 x2 x3 σ)
  unfold f_X5_contextOfAsked
  refine q_aload_n X dX5_contextOfAsked_0 0 rfl ?_
  refine fg_X5_9 ho X dX5_contextOfAsked_1 (fun h1 => ?_)
  refine q_if_ne X h1 19 dX5_contextOfAsked_4 (by decide) (fun h2 => ?_) (fun h2 => ?_)
  · refine q_aload_n X dX5_contextOfAsked_7 0 rfl ?_
    refine q_iload_n X dX5_contextOfAsked_8 2 rfl ?_
    refine q_aload_n X dX5_contextOfAsked_9 0 rfl ?_
    refine fg_X5_32 ho X dX5_contextOfAsked_10 ?_
    refine q_iload_n X dX5_contextOfAsked_13 1 rfl ?_
    refine q_iald X (hF11 ho) (by decide) dX5_contextOfAsked_14 (fun h3 => ?_)
    refine q_callIp X NCok hN Aw_new (c_X5_ahead ho hx2 h3) (rn_V X (cwV 2 X.2.2.2.2.1 (tbG_good _ (tbG_V mw_497 mw_499 mp_1_13 mw_5 mw_500)) rfl rfl rfl hd_X5_ahead ⟨by decide, by decide⟩) (hO9 ho) rfl rfl rfl (Nat.le_of_ble_eq_true rfl) dX5_contextOfAsked_15) (fun r4 _ h6 => ?_)
    exact q_iretp X h6 hr hlk dX5_contextOfAsked_18
  · refine q_aload_n X dX5_contextOfAsked_19 0 rfl ?_
    refine q_aload_n X dX5_contextOfAsked_20 0 rfl ?_
    refine fg_X5_35 ho X dX5_contextOfAsked_21 ?_
    refine q_iload_n X dX5_contextOfAsked_24 3 rfl ?_
    refine q_iald X (hF12 ho) (by decide) dX5_contextOfAsked_25 (fun h7 => ?_)
    refine q_bipush X dX5_contextOfAsked_26 (by decide) ?_
    refine q_iadd X dX5_contextOfAsked_28 ?_
    refine q_aload_n X dX5_contextOfAsked_29 0 rfl ?_
    refine fg_X5_32 ho X dX5_contextOfAsked_30 ?_
    refine q_aload_n X dX5_contextOfAsked_33 0 rfl ?_
    refine fg_X5_38 ho X dX5_contextOfAsked_34 ?_
    refine q_iload_n X dX5_contextOfAsked_37 3 rfl ?_
    refine q_iald X (hF13 ho) (by decide) dX5_contextOfAsked_38 (fun h8 => ?_)
    refine q_iald X (hF11 ho) (by decide) dX5_contextOfAsked_39 (fun h9 => ?_)
    refine q_ck (fun h10 => ?_)
    refine q_callIp X NCok hN Aw_new (c_X5_ahead ho h10 h9) (rn_V X (cwV 2 X.2.2.2.2.1 (tbG_good _ (tbG_V mw_497 mw_499 mp_1_13 mw_5 mw_500)) rfl rfl rfl hd_X5_ahead ⟨by decide, by decide⟩) (hO9 ho) rfl rfl rfl (Nat.le_of_ble_eq_true rfl) dX5_contextOfAsked_40) (fun r11 _ h13 => ?_)
    exact q_iretp X h13 hr hlk dX5_contextOfAsked_43

/-! SiteObjects$Sites.contextOfCalled(II)I -/
abbrev GX5_contextOfCalled (p : Program) (l : Launch) (e : Env) (s : State) (m : MethodId) (args : Array Value) (below : List Frame) (meth : Method) (c : Code) (D : va_G) (ca : Nat → ClassId) (ad : Nat → Nat) (σ : Mm) (res : Int) : Nat → List (Nat × Value) → List Value → Mm → Option (Int) → Prop := G p l e { frames := 1, cells := 0, slots := 0, locals := 23 } s m args below meth c (MQ below (QcI D vcl ca ad shC s.heap.size (res, σ)) args s 0 0 (Aw ad shC.length s.heap.size)) 3 D vcl ca ad shC (Aw ad shC.length s.heap.size) res
def f_X5_contextOfCalled (o : Nat) (x1 : Int) (x2 : Int) (σ : Mm) : Option (Int) :=
  (if (σ.1 (o + 9) 0) = 1 then ck ((0 : Int) ≤ x1 ∧ x1 < ((80 : Nat) : Int)) (some (σ.1 (o + 11) (Int.toNat x1))) else ck ((0 : Int) ≤ x1 ∧ x1 < ((80 : Nat) : Int)) ((f_X5_ahead o x2 (σ.1 (o + 11) (Int.toNat x1)) σ).bind (fun r5 => some r5)))
theorem hd_X5_contextOfCalled : yX5_contextOfCalled.cls = RX5 ∧ yX5_contextOfCalled.cls ≠ "java/lang/invoke/MethodHandle" ∧ yX5_contextOfCalled.cls ≠ "java/lang/invoke/VarHandle" ∧ (parseMethodDescriptor yX5_contextOfCalled.desc).map (fun d => d.parameters.length) = some 2 := by decide +kernel
set_option maxRecDepth 100000 in
set_option maxHeartbeats 4000000 in
theorem c_X5_contextOfCalled {l : Launch} {D : va_G} {ca : Nat → ClassId} {ad : Nat → Nat} {o : Nat} {x1 : Int} {x2 : Int} (ho : o = 15 ∨ o = 29) (hx1 : inR x1) (hx2 : inR x2) {σ : Mm} : CtI l D vcl ca ad shC NC yX5_contextOfCalled (Cond.code yX5_contextOfCalled cX5_contextOfCalled 3 (some .int) :: tbG) { frames := 1, cells := 0, slots := 0, locals := 23 } [.ref (ad (o + 9)), .int (oi x1), .int (oi x2)] σ ((f_X5_contextOfCalled o x1 x2 σ).map (fun r => (r, σ))) := by
  refine ct_Ip RX5 rfl (by decide) rfl (Nat.le_of_ble_eq_true rfl) (fun p e s m below meth c res X hN hr hlk => ?_)
  show GX5_contextOfCalled p l e s m _ below meth c D ca ad σ res 0 [(0, .ref (ad (o + 9))), (1, .int (oi x1)), (2, .int (oi x2))] [] σ (f_X5_contextOfCalled o x1 x2 σ)
  unfold f_X5_contextOfCalled
  refine q_aload_n X dX5_contextOfCalled_0 0 rfl ?_
  refine fg_X5_9 ho X dX5_contextOfCalled_1 (fun h1 => ?_)
  refine q_iconst X dX5_contextOfCalled_4 ?_
  refine q_icmp_ne X h1 (by decide) 17 dX5_contextOfCalled_5 (by decide) (fun h2 => ?_) (fun h2 => ?_)
  · refine q_aload_n X dX5_contextOfCalled_8 0 rfl ?_
    refine fg_X5_32 ho X dX5_contextOfCalled_9 ?_
    refine q_iload_n X dX5_contextOfCalled_12 1 rfl ?_
    refine q_iald X (hF11 ho) (by decide) dX5_contextOfCalled_13 (fun h3 => ?_)
    refine q_goto X 28 dX5_contextOfCalled_14 (by decide) ?_
    exact q_iretp X h3 hr hlk dX5_contextOfCalled_28
  · refine q_aload_n X dX5_contextOfCalled_17 0 rfl ?_
    refine q_iload_n X dX5_contextOfCalled_18 2 rfl ?_
    refine q_aload_n X dX5_contextOfCalled_19 0 rfl ?_
    refine fg_X5_32 ho X dX5_contextOfCalled_20 ?_
    refine q_iload_n X dX5_contextOfCalled_23 1 rfl ?_
    refine q_iald X (hF11 ho) (by decide) dX5_contextOfCalled_24 (fun h4 => ?_)
    refine q_callIp X NCok hN Aw_new (c_X5_ahead ho hx2 h4) (rn_V X (cwV 2 X.2.2.2.2.1 (tbG_good _ (tbG_V mw_497 mw_499 mp_1_13 mw_5 mw_500)) rfl rfl rfl hd_X5_ahead ⟨by decide, by decide⟩) (hO9 ho) rfl rfl rfl (Nat.le_of_ble_eq_true rfl) dX5_contextOfCalled_25) (fun r5 _ h7 => ?_)
    exact q_iretp X h7 hr hlk dX5_contextOfCalled_28

/-! SiteObjects$Sites.firstNumber(I)I -/
abbrev GX5_firstNumber (p : Program) (l : Launch) (e : Env) (s : State) (m : MethodId) (args : Array Value) (below : List Frame) (meth : Method) (c : Code) (D : va_G) (ca : Nat → ClassId) (ad : Nat → Nat) (σ : Mm) (res : Int) : Nat → List (Nat × Value) → List Value → Mm → Option (Int) → Prop := G p l e { frames := 0, cells := 0, slots := 0, locals := 0 } s m args below meth c (MQ below (QcI D vcl ca ad shC s.heap.size (res, σ)) args s 0 0 (Aw ad shC.length s.heap.size)) 3 D vcl ca ad shC (Aw ad shC.length s.heap.size) res
def f_X5_firstNumber (o : Nat) (x1 : Int) (σ : Mm) : Option (Int) :=
  ck ((0 : Int) ≤ x1 ∧ x1 < ((80 : Nat) : Int)) ((if (iShr (σ.1 (o + 11) (Int.toNat x1)) 8) = 0 then some (-9) else ck (inR ((iShr (σ.1 (o + 11) (Int.toNat x1)) 8) - 1)) (some ((iShr (σ.1 (o + 11) (Int.toNat x1)) 8) - 1))))
theorem hd_X5_firstNumber : yX5_firstNumber.cls = RX5 ∧ yX5_firstNumber.cls ≠ "java/lang/invoke/MethodHandle" ∧ yX5_firstNumber.cls ≠ "java/lang/invoke/VarHandle" ∧ (parseMethodDescriptor yX5_firstNumber.desc).map (fun d => d.parameters.length) = some 1 := by decide +kernel
set_option maxRecDepth 100000 in
set_option maxHeartbeats 4000000 in
theorem c_X5_firstNumber {l : Launch} {D : va_G} {ca : Nat → ClassId} {ad : Nat → Nat} {o : Nat} {x1 : Int} (ho : o = 15 ∨ o = 29) (hx1 : inR x1) {σ : Mm} : CtI l D vcl ca ad shC NC yX5_firstNumber (Cond.code yX5_firstNumber cX5_firstNumber 3 (some .int) :: tbG) { frames := 0, cells := 0, slots := 0, locals := 0 } [.ref (ad (o + 9)), .int (oi x1)] σ ((f_X5_firstNumber o x1 σ).map (fun r => (r, σ))) := by
  refine ct_Ip RX5 rfl (by decide) rfl (Nat.le_of_ble_eq_true rfl) (fun p e s m below meth c res X hN hr hlk => ?_)
  show GX5_firstNumber p l e s m _ below meth c D ca ad σ res 0 [(0, .ref (ad (o + 9))), (1, .int (oi x1))] [] σ (f_X5_firstNumber o x1 σ)
  unfold f_X5_firstNumber
  refine q_aload_n X dX5_firstNumber_0 0 rfl ?_
  refine fg_X5_32 ho X dX5_firstNumber_1 ?_
  refine q_iload_n X dX5_firstNumber_4 1 rfl ?_
  refine q_iald X (hF11 ho) (by decide) dX5_firstNumber_5 (fun h1 => ?_)
  refine q_bipush X dX5_firstNumber_6 (by decide) ?_
  refine q_ishr X dX5_firstNumber_8 ?_
  refine q_istore_n X [(2, .int (oi (iShr (σ.1 (o + 11) (Int.toNat x1)) 8))), (0, .ref (ad (o + 9))), (1, .int (oi x1))] dX5_firstNumber_9 (by decide) rfl ?_
  refine q_iload_n X dX5_firstNumber_10 0 rfl ?_
  refine q_if_ne X (oi_rng _) 19 dX5_firstNumber_11 (by decide) (fun h2 => ?_) (fun h2 => ?_)
  · refine q_bipush X dX5_firstNumber_14 (by decide) ?_
    refine q_goto X 22 dX5_firstNumber_16 (by decide) ?_
    exact q_iretp X (by decide) hr hlk dX5_firstNumber_22
  · refine q_iload_n X dX5_firstNumber_19 0 rfl ?_
    refine q_iconst X dX5_firstNumber_20 ?_
    refine q_isub X dX5_firstNumber_21 ?_
    refine q_ck (fun h3 => ?_)
    exact q_iretp X h3 hr hlk dX5_firstNumber_22

/-! SiteObjects$Sites.secondNumber(I)I -/
abbrev GX5_secondNumber (p : Program) (l : Launch) (e : Env) (s : State) (m : MethodId) (args : Array Value) (below : List Frame) (meth : Method) (c : Code) (D : va_G) (ca : Nat → ClassId) (ad : Nat → Nat) (σ : Mm) (res : Int) : Nat → List (Nat × Value) → List Value → Mm → Option (Int) → Prop := G p l e { frames := 0, cells := 0, slots := 0, locals := 0 } s m args below meth c (MQ below (QcI D vcl ca ad shC s.heap.size (res, σ)) args s 0 0 (Aw ad shC.length s.heap.size)) 3 D vcl ca ad shC (Aw ad shC.length s.heap.size) res
def f_X5_secondNumber (o : Nat) (x1 : Int) (σ : Mm) : Option (Int) :=
  ck ((0 : Int) ≤ x1 ∧ x1 < ((80 : Nat) : Int)) ((if (iAnd (σ.1 (o + 11) (Int.toNat x1)) 255) = 0 then some (-9) else ck (inR ((iAnd (σ.1 (o + 11) (Int.toNat x1)) 255) - 1)) (some ((iAnd (σ.1 (o + 11) (Int.toNat x1)) 255) - 1))))
theorem hd_X5_secondNumber : yX5_secondNumber.cls = RX5 ∧ yX5_secondNumber.cls ≠ "java/lang/invoke/MethodHandle" ∧ yX5_secondNumber.cls ≠ "java/lang/invoke/VarHandle" ∧ (parseMethodDescriptor yX5_secondNumber.desc).map (fun d => d.parameters.length) = some 1 := by decide +kernel
set_option maxRecDepth 100000 in
set_option maxHeartbeats 4000000 in
theorem c_X5_secondNumber {l : Launch} {D : va_G} {ca : Nat → ClassId} {ad : Nat → Nat} {o : Nat} {x1 : Int} (ho : o = 15 ∨ o = 29) (hx1 : inR x1) {σ : Mm} : CtI l D vcl ca ad shC NC yX5_secondNumber (Cond.code yX5_secondNumber cX5_secondNumber 3 (some .int) :: tbG) { frames := 0, cells := 0, slots := 0, locals := 0 } [.ref (ad (o + 9)), .int (oi x1)] σ ((f_X5_secondNumber o x1 σ).map (fun r => (r, σ))) := by
  refine ct_Ip RX5 rfl (by decide) rfl (Nat.le_of_ble_eq_true rfl) (fun p e s m below meth c res X hN hr hlk => ?_)
  show GX5_secondNumber p l e s m _ below meth c D ca ad σ res 0 [(0, .ref (ad (o + 9))), (1, .int (oi x1))] [] σ (f_X5_secondNumber o x1 σ)
  unfold f_X5_secondNumber
  refine q_aload_n X dX5_secondNumber_0 0 rfl ?_
  refine fg_X5_32 ho X dX5_secondNumber_1 ?_
  refine q_iload_n X dX5_secondNumber_4 1 rfl ?_
  refine q_iald X (hF11 ho) (by decide) dX5_secondNumber_5 (fun h1 => ?_)
  refine q_sipush X dX5_secondNumber_6 (by decide) ?_
  refine q_iand X dX5_secondNumber_9 ?_
  refine q_istore_n X [(2, .int (oi (iAnd (σ.1 (o + 11) (Int.toNat x1)) 255))), (0, .ref (ad (o + 9))), (1, .int (oi x1))] dX5_secondNumber_10 (by decide) rfl ?_
  refine q_iload_n X dX5_secondNumber_11 0 rfl ?_
  refine q_if_ne X (oi_rng _) 20 dX5_secondNumber_12 (by decide) (fun h2 => ?_) (fun h2 => ?_)
  · refine q_bipush X dX5_secondNumber_15 (by decide) ?_
    refine q_goto X 23 dX5_secondNumber_17 (by decide) ?_
    exact q_iretp X (by decide) hr hlk dX5_secondNumber_23
  · refine q_iload_n X dX5_secondNumber_20 0 rfl ?_
    refine q_iconst X dX5_secondNumber_21 ?_
    refine q_isub X dX5_secondNumber_22 ?_
    refine q_ck (fun h3 => ?_)
    exact q_iretp X h3 hr hlk dX5_secondNumber_23
