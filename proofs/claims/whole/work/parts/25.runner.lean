/-! SiteObjects$Runner.tallyHold(IJ)V -/
abbrev GX4_tallyHold (p : Program) (l : Launch) (e : Env) (s : State) (m : MethodId) (args : Array Value) (below : List Frame) (meth : Method) (c : Code) (D : va_G) (ca : Nat → ClassId) (ad : Nat → Nat) (res : Mm) : Nat → List (Nat × Value) → List Value → Mm → Option (Mm) → Prop := G p l e { frames := 0, cells := 0, slots := 0, locals := 0 } s m args below meth c (MQ below (QcV D vcl ca ad shC s.heap.size res) args s 0 0 (Aw ad shC.length s.heap.size)) 5 D vcl ca ad shC (Aw ad shC.length s.heap.size) res
def f_X4_tallyHold (x1 : Int) (x2 : Int64) (σ : Mm) : Option (Mm) :=
  (if x1 = (-9) then some σ else ck ((0 : Int) ≤ 3 ∧ 3 < ((9 : Nat) : Int)) (ck (inR ((σ.1 49 3) + 1)) (ck ((0 : Int) ≤ 3 ∧ 3 < ((9 : Nat) : Int)) (ck ((0 : Int) ≤ x1 ∧ x1 < ((300 : Nat) : Int)) ((if ((stI σ 49 3 ((σ.1 49 3) + 1)).1 52 (Int.toNat x1)) < 0 then ck ((0 : Int) ≤ 4 ∧ 4 < ((9 : Nat) : Int)) (ck (inR (((stI σ 49 3 ((σ.1 49 3) + 1)).1 49 4) + 1)) (ck ((0 : Int) ≤ 4 ∧ 4 < ((9 : Nat) : Int)) ((some (stI (stI σ 49 3 ((σ.1 49 3) + 1)) 49 4 (((stI σ 49 3 ((σ.1 49 3) + 1)).1 49 4) + 1))).bind (fun σ8 => some σ8)))) else (if ((lShr x2 ((stI σ 49 3 ((σ.1 49 3) + 1)).1 52 (Int.toNat x1))) &&& 1) = 0 then ck ((0 : Int) ≤ 4 ∧ 4 < ((9 : Nat) : Int)) (ck (inR (((stI σ 49 3 ((σ.1 49 3) + 1)).1 49 4) + 1)) (ck ((0 : Int) ≤ 4 ∧ 4 < ((9 : Nat) : Int)) ((some (stI (stI σ 49 3 ((σ.1 49 3) + 1)) 49 4 (((stI σ 49 3 ((σ.1 49 3) + 1)).1 49 4) + 1))).bind (fun σ12 => some σ12)))) else some (stI σ 49 3 ((σ.1 49 3) + 1)))))))))
theorem hd_X4_tallyHold : yX4_tallyHold.cls = RX4 ∧ yX4_tallyHold.cls ≠ "java/lang/invoke/MethodHandle" ∧ yX4_tallyHold.cls ≠ "java/lang/invoke/VarHandle" ∧ (parseMethodDescriptor yX4_tallyHold.desc).map (fun d => d.parameters.length) = some 2 := by decide +kernel
set_option maxRecDepth 100000 in
set_option maxHeartbeats 4000000 in
theorem c_X4_tallyHold {l : Launch} {D : va_G} {ca : Nat → ClassId} {ad : Nat → Nat} {x1 : Int} {x2 : Int64} (hx1 : inR x1) {σ : Mm} : CtV l D vcl ca ad shC NC yX4_tallyHold (Cond.code yX4_tallyHold cX4_tallyHold 5 none :: tbG) { frames := 0, cells := 0, slots := 0, locals := 0 } [.ref (ad 43), .int (oi x1), .long x2] σ (f_X4_tallyHold x1 x2 σ) := by
  refine ct_V RX4 rfl (by decide) rfl (Nat.le_of_ble_eq_true rfl) (fun p e s m below meth c res X hN hr hlk => ?_)
  show GX4_tallyHold p l e s m _ below meth c D ca ad res 0 [(0, .ref (ad 43)), (1, .int (oi x1)), (2, .long x2)] [] σ (f_X4_tallyHold x1 x2 σ)
  unfold f_X4_tallyHold
  refine q_iload_n X dX4_tallyHold_0 1 rfl ?_
  refine q_bipush X dX4_tallyHold_1 (by decide) ?_
  refine q_icmp_ne X hx1 (by decide) 7 dX4_tallyHold_3 (by decide) (fun h1 => ?_) (fun h1 => ?_)
  · exact q_vret X hr hlk dX4_tallyHold_6
  · refine q_aload_n X dX4_tallyHold_7 0 rfl ?_
    refine fg_X4_18 X dX4_tallyHold_8 ?_
    refine q_iconst X dX4_tallyHold_11 ?_
    refine q_dup2 X dX4_tallyHold_12 rfl rfl ?_
    refine q_iald X hC49 (by decide) dX4_tallyHold_13 (fun h2 => ?_)
    refine q_iconst X dX4_tallyHold_14 ?_
    refine q_iadd X dX4_tallyHold_15 ?_
    refine q_ck (fun h3 => ?_)
    refine q_iast X hC49 (by decide) h3 dX4_tallyHold_16 ?_
    refine q_aload_n X dX4_tallyHold_17 0 rfl ?_
    refine fg_X4_47 X dX4_tallyHold_18 ?_
    refine fg_X4_210 X dX4_tallyHold_21 ?_
    refine q_iload_n X dX4_tallyHold_24 1 rfl ?_
    refine q_iald X hC52 (by decide) dX4_tallyHold_25 (fun h4 => ?_)
    refine q_istore X [(4, .int (oi ((stI σ 49 3 ((σ.1 49 3) + 1)).1 52 (Int.toNat x1)))), (0, .ref (ad 43)), (1, .int (oi x1)), (2, .long x2)] dX4_tallyHold_26 (by decide) rfl ?_
    refine q_iload X dX4_tallyHold_28 0 rfl ?_
    refine q_if_lt X h4 44 dX4_tallyHold_30 (by decide) (fun h5 => ?_) (fun h5 => ?_)
    · refine q_aload_n X dX4_tallyHold_44 1 rfl ?_
      refine fg_X4_18 X dX4_tallyHold_45 ?_
      refine q_iconst X dX4_tallyHold_48 ?_
      refine q_dup2 X dX4_tallyHold_49 rfl rfl ?_
      refine q_iald X hC49 (by decide) dX4_tallyHold_50 (fun h6 => ?_)
      refine q_iconst X dX4_tallyHold_51 ?_
      refine q_iadd X dX4_tallyHold_52 ?_
      refine q_ck (fun h7 => ?_)
      refine q_iast X hC49 (by decide) h7 dX4_tallyHold_53 ?_
      refine q_nm (fun σ8 => ?_)
      exact q_vret X hr hlk dX4_tallyHold_54
    · refine q_lload_n X dX4_tallyHold_33 3 rfl ?_
      refine q_iload X dX4_tallyHold_34 0 rfl ?_
      refine q_lshr X dX4_tallyHold_36 ?_
      refine q_lconst X 1 dX4_tallyHold_37 rfl ?_
      refine q_land X dX4_tallyHold_38 ?_
      refine q_lconst X 0 dX4_tallyHold_39 rfl ?_
      refine q_lcmp_ne X 54 dX4_tallyHold_40 dX4_tallyHold_41 (by decide) (fun h9 => ?_) (fun h9 => ?_)
      · refine q_aload_n X dX4_tallyHold_44 1 rfl ?_
        refine fg_X4_18 X dX4_tallyHold_45 ?_
        refine q_iconst X dX4_tallyHold_48 ?_
        refine q_dup2 X dX4_tallyHold_49 rfl rfl ?_
        refine q_iald X hC49 (by decide) dX4_tallyHold_50 (fun h10 => ?_)
        refine q_iconst X dX4_tallyHold_51 ?_
        refine q_iadd X dX4_tallyHold_52 ?_
        refine q_ck (fun h11 => ?_)
        refine q_iast X hC49 (by decide) h11 dX4_tallyHold_53 ?_
        refine q_nm (fun σ12 => ?_)
        exact q_vret X hr hlk dX4_tallyHold_54
      · exact q_vret X hr hlk dX4_tallyHold_54

/-! SiteObjects$Runner.setVar(II)V -/
abbrev GX4_setVar (p : Program) (l : Launch) (e : Env) (s : State) (m : MethodId) (args : Array Value) (below : List Frame) (meth : Method) (c : Code) (D : va_G) (ca : Nat → ClassId) (ad : Nat → Nat) (res : Mm) : Nat → List (Nat × Value) → List Value → Mm → Option (Mm) → Prop := G p l e { frames := 1, cells := 0, slots := 0, locals := 24 } s m args below meth c (MQ below (QcV D vcl ca ad shC s.heap.size res) args s 0 0 (Aw ad shC.length s.heap.size)) 4 D vcl ca ad shC (Aw ad shC.length s.heap.size) res
def f_X4_setVar (x1 : Int) (x2 : Int) (σ : Mm) : Option (Mm) :=
  (f_X1_setVar x1 x2 σ).bind (fun r1 => (f_X1_topNode r1).bind (fun r4 => (if 0 ≤ r4 then (f_X0_setOf 15 r4 x1 r1).bind (fun r8 => (f_X4_tallyHold x2 r8 r1).bind (fun r11 => some r11)) else (f_X4_tallyHold x2 0 r1).bind (fun r14 => some r14))))
theorem hd_X4_setVar : yX4_setVar.cls = RX4 ∧ yX4_setVar.cls ≠ "java/lang/invoke/MethodHandle" ∧ yX4_setVar.cls ≠ "java/lang/invoke/VarHandle" ∧ (parseMethodDescriptor yX4_setVar.desc).map (fun d => d.parameters.length) = some 2 := by decide +kernel
set_option maxRecDepth 100000 in
set_option maxHeartbeats 4000000 in
theorem c_X4_setVar {l : Launch} {D : va_G} {ca : Nat → ClassId} {ad : Nat → Nat} {x1 : Int} {x2 : Int} (hx1 : inR x1) (hx2 : inR x2) {σ : Mm} : CtV l D vcl ca ad shC NC yX4_setVar (Cond.code yX4_setVar cX4_setVar 4 none :: tbG) { frames := 1, cells := 0, slots := 0, locals := 24 } [.ref (ad 43), .int (oi x1), .int (oi x2)] σ (f_X4_setVar x1 x2 σ) := by
  refine ct_V RX4 rfl (by decide) rfl (Nat.le_of_ble_eq_true rfl) (fun p e s m below meth c res X hN hr hlk => ?_)
  show GX4_setVar p l e s m _ below meth c D ca ad res 0 [(0, .ref (ad 43)), (1, .int (oi x1)), (2, .int (oi x2))] [] σ (f_X4_setVar x1 x2 σ)
  unfold f_X4_setVar
  refine q_aload_n X dX4_setVar_0 0 rfl ?_
  refine fg_X4_12 X dX4_setVar_1 ?_
  refine q_iload_n X dX4_setVar_4 1 rfl ?_
  refine q_iload_n X dX4_setVar_5 2 rfl ?_
  refine q_callV X NCok hN Aw_new (c_X1_setVar hx1 hx2) (rn_V X (cwV 2 X.2.2.2.2.1 (tbG_good _ (tbG_V mw_624 mw_625 mw_626 mw_7 mw_627)) rfl rfl rfl hd_X1_setVar ⟨by decide, by decide⟩) hC44 rfl rfl rfl (Nat.le_of_ble_eq_true rfl) dX4_setVar_6) (fun r1 _ => ?_)
  refine q_aload_n X dX4_setVar_9 0 rfl ?_
  refine fg_X4_12 X dX4_setVar_10 ?_
  refine q_callIp X NCok hN Aw_new c_X1_topNode (rn_V X (cwV 0 X.2.2.2.2.1 (tbG_good _ (tbG_V mw_628 mw_629 mw_630 mw_7 mw_631)) rfl rfl rfl hd_X1_topNode ⟨by decide, by decide⟩) hC44 rfl rfl rfl (Nat.le_of_ble_eq_true rfl) dX4_setVar_13) (fun r4 _ h6 => ?_)
  refine q_istore_n X [(3, .int (oi r4)), (0, .ref (ad 43)), (1, .int (oi x1)), (2, .int (oi x2))] dX4_setVar_16 (by decide) rfl ?_
  refine q_aload_n X dX4_setVar_17 1 rfl ?_
  refine q_iload_n X dX4_setVar_18 3 rfl ?_
  refine q_iload_n X dX4_setVar_19 0 rfl ?_
  refine q_if_ge X h6 27 dX4_setVar_20 (by decide) (fun h7 => ?_) (fun h7 => ?_)
  · refine q_aload_n X dX4_setVar_27 1 rfl ?_
    refine fg_X4_38 X dX4_setVar_28 ?_
    refine q_iload_n X dX4_setVar_31 0 rfl ?_
    refine q_iload_n X dX4_setVar_32 2 rfl ?_
    refine q_callLp X NCok hN Aw_new (c_X0_setOf (Or.inl rfl) h6 hx1) (rn_V X (cwV 2 X.2.2.2.2.1 (tbG_good _ (tbG_V mw_632 mw_458 mw_459 mw_4 mw_460)) rfl rfl rfl hd_X0_setOf ⟨by decide, by decide⟩) (hO0 (Or.inl rfl)) rfl rfl rfl (Nat.le_of_ble_eq_true rfl) dX4_setVar_33) (fun r8 _ => ?_)
    refine q_callV X NCok hN Aw_new (c_X4_tallyHold hx2) (rn_V X (cwV 2 X.2.2.2.2.1 (tbG_good _ (tbG_V mw_633 mw_635 mp_2_10 mw_6 mw_636)) rfl rfl rfl hd_X4_tallyHold ⟨by decide, by decide⟩) hC43 rfl rfl rfl (Nat.le_of_ble_eq_true rfl) dX4_setVar_36) (fun r11 _ => ?_)
    exact q_vret X hr hlk dX4_setVar_39
  · refine q_lconst X 0 dX4_setVar_23 rfl ?_
    refine q_goto X 36 dX4_setVar_24 (by decide) ?_
    refine q_callV X NCok hN Aw_new (c_X4_tallyHold hx2) (rn_V X (cwV 2 X.2.2.2.2.1 (tbG_good _ (tbG_V mw_633 mw_635 mp_2_10 mw_6 mw_636)) rfl rfl rfl hd_X4_tallyHold ⟨by decide, by decide⟩) hC43 rfl rfl rfl (Nat.le_of_ble_eq_true rfl) dX4_setVar_36) (fun r14 _ => ?_)
    exact q_vret X hr hlk dX4_setVar_39

/-! SiteObjects$Runner.enter(IIII)V -/
abbrev GX4_enter (p : Program) (l : Launch) (e : Env) (s : State) (m : MethodId) (args : Array Value) (below : List Frame) (meth : Method) (c : Code) (D : va_G) (ca : Nat → ClassId) (ad : Nat → Nat) (res : Mm) : Nat → List (Nat × Value) → List Value → Mm → Option (Mm) → Prop := G p l e { frames := 2, cells := 0, slots := 0, locals := 47 } s m args below meth c (MQ below (QcV D vcl ca ad shC s.heap.size res) args s 0 0 (Aw ad shC.length s.heap.size)) 5 D vcl ca ad shC (Aw ad shC.length s.heap.size) res
def f_X4_enter (x1 : Int) (x2 : Int) (x3 : Int) (x4 : Int) (σ : Mm) : Option (Mm) :=
  (f_X1_push x1 x2 σ).bind (fun r1 => ck ((0 : Int) ≤ 5 ∧ 5 < ((9 : Nat) : Int)) (ck ((0 : Int) ≤ 5 ∧ 5 < ((9 : Nat) : Int)) ((some (stI r1 49 5 (if (r1.1 49 5) < (r1.1 44 0) then (r1.1 44 0) else (r1.1 49 5)))).bind (fun σ7 => (f_X4_setVar 0 x3 σ7).bind (fun r8 => (f_X4_setVar 1 x4 r8).bind (fun r11 => some r11))))))
theorem hd_X4_enter : yX4_enter.cls = RX4 ∧ yX4_enter.cls ≠ "java/lang/invoke/MethodHandle" ∧ yX4_enter.cls ≠ "java/lang/invoke/VarHandle" ∧ (parseMethodDescriptor yX4_enter.desc).map (fun d => d.parameters.length) = some 4 := by decide +kernel
set_option maxRecDepth 100000 in
set_option maxHeartbeats 4000000 in
theorem c_X4_enter {l : Launch} {D : va_G} {ca : Nat → ClassId} {ad : Nat → Nat} {x1 : Int} {x2 : Int} {x3 : Int} {x4 : Int} (hx1 : inR x1) (hx2 : inR x2) (hx3 : inR x3) (hx4 : inR x4) {σ : Mm} : CtV l D vcl ca ad shC NC yX4_enter (Cond.code yX4_enter cX4_enter 5 none :: tbG) { frames := 2, cells := 0, slots := 0, locals := 47 } [.ref (ad 43), .int (oi x1), .int (oi x2), .int (oi x3), .int (oi x4)] σ (f_X4_enter x1 x2 x3 x4 σ) := by
  refine ct_V RX4 rfl (by decide) rfl (Nat.le_of_ble_eq_true rfl) (fun p e s m below meth c res X hN hr hlk => ?_)
  show GX4_enter p l e s m _ below meth c D ca ad res 0 [(0, .ref (ad 43)), (1, .int (oi x1)), (2, .int (oi x2)), (3, .int (oi x3)), (4, .int (oi x4))] [] σ (f_X4_enter x1 x2 x3 x4 σ)
  unfold f_X4_enter
  refine q_aload_n X dX4_enter_0 0 rfl ?_
  refine fg_X4_12 X dX4_enter_1 ?_
  refine q_iload_n X dX4_enter_4 1 rfl ?_
  refine q_iload_n X dX4_enter_5 2 rfl ?_
  refine q_callV X NCok hN Aw_new (c_X1_push hx1 hx2) (rn_V X (cwV 2 X.2.2.2.2.1 (tbG_good _ (tbG_V mw_613 mw_614 mw_615 mw_7 mw_616)) rfl rfl rfl hd_X1_push ⟨by decide, by decide⟩) hC44 rfl rfl rfl (Nat.le_of_ble_eq_true rfl) dX4_enter_6) (fun r1 _ => ?_)
  refine q_aload_n X dX4_enter_9 0 rfl ?_
  refine fg_X4_18 X dX4_enter_10 ?_
  refine q_iconst X dX4_enter_13 ?_
  refine q_aload_n X dX4_enter_14 0 rfl ?_
  refine fg_X4_18 X dX4_enter_15 ?_
  refine q_iconst X dX4_enter_18 ?_
  refine q_iald X hC49 (by decide) dX4_enter_19 (fun h4 => ?_)
  refine q_aload_n X dX4_enter_20 0 rfl ?_
  refine fg_X4_12 X dX4_enter_21 ?_
  refine fg_X4_60 X dX4_enter_24 (fun h5 => ?_)
  refine q_max X h4 h5 (List.mem_cons_of_mem _ mw_617) (List.mem_cons_of_mem _ mw_618) (List.mem_cons_of_mem _ mw_11) (List.mem_cons_of_mem _ mw_619) (Nat.le_of_ble_eq_true rfl) (Nat.le_of_ble_eq_true rfl) dX4_enter_27 (fun h6 => ?_)
  refine q_iast X hC49 (by decide) h6 dX4_enter_30 ?_
  refine q_nm (fun σ7 => ?_)
  refine q_aload_n X dX4_enter_31 0 rfl ?_
  refine q_iconst X dX4_enter_32 ?_
  refine q_iload_n X dX4_enter_33 3 rfl ?_
  refine q_callV X NCok hN Aw_new (c_X4_setVar (by decide) hx3) (rn_V X (cwV 2 X.2.2.2.2.1 (tbG_good _ (tbG_V mw_620 mw_622 mp_2_9 mw_6 mw_623)) rfl rfl rfl hd_X4_setVar ⟨by decide, by decide⟩) hC43 rfl rfl rfl (Nat.le_of_ble_eq_true rfl) dX4_enter_34) (fun r8 _ => ?_)
  refine q_aload_n X dX4_enter_37 0 rfl ?_
  refine q_iconst X dX4_enter_38 ?_
  refine q_iload X dX4_enter_39 4 rfl ?_
  refine q_callV X NCok hN Aw_new (c_X4_setVar (by decide) hx4) (rn_V X (cwV 2 X.2.2.2.2.1 (tbG_good _ (tbG_V mw_620 mw_622 mp_2_9 mw_6 mw_623)) rfl rfl rfl hd_X4_setVar ⟨by decide, by decide⟩) hC43 rfl rfl rfl (Nat.le_of_ble_eq_true rfl) dX4_enter_41) (fun r11 _ => ?_)
  exact q_vret X hr hlk dX4_enter_44

/-! SiteObjects$Runner.leave(I)V -/
abbrev GX4_leave (p : Program) (l : Launch) (e : Env) (s : State) (m : MethodId) (args : Array Value) (below : List Frame) (meth : Method) (c : Code) (D : va_G) (ca : Nat → ClassId) (ad : Nat → Nat) (res : Mm) : Nat → List (Nat × Value) → List Value → Mm → Option (Mm) → Prop := G p l e { frames := 2, cells := 0, slots := 0, locals := 47 } s m args below meth c (MQ below (QcV D vcl ca ad shC s.heap.size res) args s 0 0 (Aw ad shC.length s.heap.size)) 3 D vcl ca ad shC (Aw ad shC.length s.heap.size) res
def f_X4_leave (x1 : Int) (σ : Mm) : Option (Mm) :=
  ck (inR ((σ.1 44 0) - 1)) ((if ((stI σ 44 0 ((σ.1 44 0) - 1)).1 44 0) = 0 then ck ((0 : Int) ≤ 7 ∧ 7 < ((9 : Nat) : Int)) (some (stI (stI (stI σ 44 0 ((σ.1 44 0) - 1)) 49 7 x1) 43 7 0)) else (f_X1_topMethod (stI σ 44 0 ((σ.1 44 0) - 1))).bind (fun r5 => (f_X1_topNext (stI σ 44 0 ((σ.1 44 0) - 1))).bind (fun r8 => ck (inR (r8 - 1)) ((f_X3_stepAt r5 (r8 - 1) (stI σ 44 0 ((σ.1 44 0) - 1))).bind (fun r12 => (if r12 < 0 then some (stI σ 44 0 ((σ.1 44 0) - 1)) else ck ((0 : Int) ≤ r12 ∧ r12 < ((90 : Nat) : Int)) ((f_X4_setVar ((stI σ 44 0 ((σ.1 44 0) - 1)).1 9 (Int.toNat r12)) x1 (stI σ 44 0 ((σ.1 44 0) - 1))).bind (fun r17 => some r17)))))))))
theorem hd_X4_leave : yX4_leave.cls = RX4 ∧ yX4_leave.cls ≠ "java/lang/invoke/MethodHandle" ∧ yX4_leave.cls ≠ "java/lang/invoke/VarHandle" ∧ (parseMethodDescriptor yX4_leave.desc).map (fun d => d.parameters.length) = some 1 := by decide +kernel
set_option maxRecDepth 100000 in
set_option maxHeartbeats 4000000 in
theorem c_X4_leave {l : Launch} {D : va_G} {ca : Nat → ClassId} {ad : Nat → Nat} {x1 : Int} (hx1 : inR x1) {σ : Mm} : CtV l D vcl ca ad shC NC yX4_leave (Cond.code yX4_leave cX4_leave 3 none :: tbG) { frames := 2, cells := 0, slots := 0, locals := 47 } [.ref (ad 43), .int (oi x1)] σ (f_X4_leave x1 σ) := by
  refine ct_V RX4 rfl (by decide) rfl (Nat.le_of_ble_eq_true rfl) (fun p e s m below meth c res X hN hr hlk => ?_)
  show GX4_leave p l e s m _ below meth c D ca ad res 0 [(0, .ref (ad 43)), (1, .int (oi x1))] [] σ (f_X4_leave x1 σ)
  unfold f_X4_leave
  refine q_aload_n X dX4_leave_0 0 rfl ?_
  refine fg_X4_12 X dX4_leave_1 ?_
  refine q_dup X dX4_leave_4 rfl ?_
  refine fg_X4_60 X dX4_leave_5 (fun h1 => ?_)
  refine q_iconst X dX4_leave_8 ?_
  refine q_isub X dX4_leave_9 ?_
  refine q_ck (fun h2 => ?_)
  refine fp_X4_60 X h2 dX4_leave_10 ?_
  refine q_aload_n X dX4_leave_13 0 rfl ?_
  refine fg_X4_12 X dX4_leave_14 ?_
  refine fg_X4_60 X dX4_leave_17 (fun h3 => ?_)
  refine q_if_ne X h3 37 dX4_leave_20 (by decide) (fun h4 => ?_) (fun h4 => ?_)
  · refine q_aload_n X dX4_leave_23 0 rfl ?_
    refine fg_X4_18 X dX4_leave_24 ?_
    refine q_bipush X dX4_leave_27 (by decide) ?_
    refine q_iload_n X dX4_leave_29 1 rfl ?_
    refine q_iast X hC49 (by decide) hx1 dX4_leave_30 ?_
    refine q_aload_n X dX4_leave_31 0 rfl ?_
    refine q_iconst X dX4_leave_32 ?_
    refine fp_X4_30 X (Or.inl rfl) dX4_leave_33 ?_
    exact q_vret X hr hlk dX4_leave_36
  · refine q_aload_n X dX4_leave_37 0 rfl ?_
    refine fg_X4_34 X dX4_leave_38 ?_
    refine q_aload_n X dX4_leave_41 0 rfl ?_
    refine fg_X4_12 X dX4_leave_42 ?_
    refine q_callIp X NCok hN Aw_new c_X1_topMethod (rn_V X (cwV 0 X.2.2.2.2.1 (tbG_good _ (tbG_V mw_641 mw_642 mw_643 mw_7 mw_644)) rfl rfl rfl hd_X1_topMethod ⟨by decide, by decide⟩) hC44 rfl rfl rfl (Nat.le_of_ble_eq_true rfl) dX4_leave_45) (fun r5 _ h7 => ?_)
    refine q_aload_n X dX4_leave_48 0 rfl ?_
    refine fg_X4_12 X dX4_leave_49 ?_
    refine q_callIp X NCok hN Aw_new c_X1_topNext (rn_V X (cwV 0 X.2.2.2.2.1 (tbG_good _ (tbG_V mw_645 mw_646 mw_647 mw_7 mw_648)) rfl rfl rfl hd_X1_topNext ⟨by decide, by decide⟩) hC44 rfl rfl rfl (Nat.le_of_ble_eq_true rfl) dX4_leave_52) (fun r8 _ h10 => ?_)
    refine q_iconst X dX4_leave_55 ?_
    refine q_isub X dX4_leave_56 ?_
    refine q_ck (fun h11 => ?_)
    refine q_callIp X NCok hN Aw_new (c_X3_stepAt h7 h11) (rn_V X (cwV 2 X.2.2.2.2.1 (tbG_good _ (tbG_V mw_649 mw_428 mw_429 mw_2 mw_430)) rfl rfl rfl hd_X3_stepAt ⟨by decide, by decide⟩) hC1 rfl rfl rfl (Nat.le_of_ble_eq_true rfl) dX4_leave_57) (fun r12 _ h14 => ?_)
    refine q_istore_n X [(2, .int (oi r12)), (0, .ref (ad 43)), (1, .int (oi x1))] dX4_leave_60 (by decide) rfl ?_
    refine q_iload_n X dX4_leave_61 0 rfl ?_
    refine q_if_lt X h14 79 dX4_leave_62 (by decide) (fun h15 => ?_) (fun h15 => ?_)
    · exact q_vret X hr hlk dX4_leave_79
    · refine q_aload_n X dX4_leave_65 1 rfl ?_
      refine q_aload_n X dX4_leave_66 1 rfl ?_
      refine fg_X4_34 X dX4_leave_67 ?_
      refine fg_X4_97 X dX4_leave_70 ?_
      refine q_iload_n X dX4_leave_73 0 rfl ?_
      refine q_iald X hC9 (by decide) dX4_leave_74 (fun h16 => ?_)
      refine q_iload_n X dX4_leave_75 2 rfl ?_
      refine q_callV X NCok hN Aw_new (c_X4_setVar h16 hx1) (rn_V X (cwV 2 X.2.2.2.2.1 (tbG_good _ (tbG_V mw_620 mw_622 mp_2_9 mw_6 mw_623)) rfl rfl rfl hd_X4_setVar ⟨by decide, by decide⟩) hC43 rfl rfl rfl (Nat.le_of_ble_eq_true rfl) dX4_leave_76) (fun r17 _ => ?_)
      exact q_vret X hr hlk dX4_leave_79

/-! SiteObjects$Runner.fail(II)V -/
abbrev GX4_fail (p : Program) (l : Launch) (e : Env) (s : State) (m : MethodId) (args : Array Value) (below : List Frame) (meth : Method) (c : Code) (D : va_G) (ca : Nat → ClassId) (ad : Nat → Nat) (res : Mm) : Nat → List (Nat × Value) → List Value → Mm → Option (Mm) → Prop := G p l e { frames := 0, cells := 0, slots := 0, locals := 0 } s m args below meth c (MQ below (QcV D vcl ca ad shC s.heap.size res) args s 0 0 (Aw ad shC.length s.heap.size)) 3 D vcl ca ad shC (Aw ad shC.length s.heap.size) res
def f_X4_fail (x1 : Int) (x2 : Int) (σ : Mm) : Option (Mm) :=
  ck ((0 : Int) ≤ 0 ∧ 0 < ((9 : Nat) : Int)) (ck ((0 : Int) ≤ 6 ∧ 6 < ((9 : Nat) : Int)) (some (stI (stI (stI σ 49 0 x1) 49 6 x2) 43 7 0)))
theorem hd_X4_fail : yX4_fail.cls = RX4 ∧ yX4_fail.cls ≠ "java/lang/invoke/MethodHandle" ∧ yX4_fail.cls ≠ "java/lang/invoke/VarHandle" ∧ (parseMethodDescriptor yX4_fail.desc).map (fun d => d.parameters.length) = some 2 := by decide +kernel
set_option maxRecDepth 100000 in
set_option maxHeartbeats 4000000 in
theorem c_X4_fail {l : Launch} {D : va_G} {ca : Nat → ClassId} {ad : Nat → Nat} {x1 : Int} {x2 : Int} (hx1 : inR x1) (hx2 : inR x2) {σ : Mm} : CtV l D vcl ca ad shC NC yX4_fail (Cond.code yX4_fail cX4_fail 3 none :: tbG) { frames := 0, cells := 0, slots := 0, locals := 0 } [.ref (ad 43), .int (oi x1), .int (oi x2)] σ (f_X4_fail x1 x2 σ) := by
  refine ct_V RX4 rfl (by decide) rfl (Nat.le_of_ble_eq_true rfl) (fun p e s m below meth c res X hN hr hlk => ?_)
  show GX4_fail p l e s m _ below meth c D ca ad res 0 [(0, .ref (ad 43)), (1, .int (oi x1)), (2, .int (oi x2))] [] σ (f_X4_fail x1 x2 σ)
  unfold f_X4_fail
  refine q_aload_n X dX4_fail_0 0 rfl ?_
  refine fg_X4_18 X dX4_fail_1 ?_
  refine q_iconst X dX4_fail_4 ?_
  refine q_iload_n X dX4_fail_5 1 rfl ?_
  refine q_iast X hC49 (by decide) hx1 dX4_fail_6 ?_
  refine q_aload_n X dX4_fail_7 0 rfl ?_
  refine fg_X4_18 X dX4_fail_8 ?_
  refine q_bipush X dX4_fail_11 (by decide) ?_
  refine q_iload_n X dX4_fail_13 2 rfl ?_
  refine q_iast X hC49 (by decide) hx2 dX4_fail_14 ?_
  refine q_aload_n X dX4_fail_15 0 rfl ?_
  refine q_iconst X dX4_fail_16 ?_
  refine fp_X4_30 X (Or.inl rfl) dX4_fail_17 ?_
  exact q_vret X hr hlk dX4_fail_20

/-! SiteObjects$Runner.make(I)V -/
abbrev GX4_make (p : Program) (l : Launch) (e : Env) (s : State) (m : MethodId) (args : Array Value) (below : List Frame) (meth : Method) (c : Code) (D : va_G) (ca : Nat → ClassId) (ad : Nat → Nat) (res : Mm) : Nat → List (Nat × Value) → List Value → Mm → Option (Mm) → Prop := G p l e { frames := 2, cells := 0, slots := 0, locals := 47 } s m args below meth c (MQ below (QcV D vcl ca ad shC s.heap.size res) args s 0 0 (Aw ad shC.length s.heap.size)) 4 D vcl ca ad shC (Aw ad shC.length s.heap.size) res
def f_X4_make (x1 : Int) (σ : Mm) : Option (Mm) :=
  (f_X1_topNode σ).bind (fun r1 => (f_X5_nameWith 15 r1 x1 σ).bind (fun r4 => (f_X2_add x1 r4 r1 σ).bind (fun r7 => ck ((0 : Int) ≤ 2 ∧ 2 < ((9 : Nat) : Int)) (ck ((0 : Int) ≤ x1 ∧ x1 < ((90 : Nat) : Int)) ((f_X4_setVar ((stI r7.2 49 2 (r7.2.1 50 1)).1 9 (Int.toNat x1)) r7.1 (stI r7.2 49 2 (r7.2.1 50 1))).bind (fun r12 => some r12))))))
theorem hd_X4_make : yX4_make.cls = RX4 ∧ yX4_make.cls ≠ "java/lang/invoke/MethodHandle" ∧ yX4_make.cls ≠ "java/lang/invoke/VarHandle" ∧ (parseMethodDescriptor yX4_make.desc).map (fun d => d.parameters.length) = some 1 := by decide +kernel
set_option maxRecDepth 100000 in
set_option maxHeartbeats 4000000 in
theorem c_X4_make {l : Launch} {D : va_G} {ca : Nat → ClassId} {ad : Nat → Nat} {x1 : Int} (hx1 : inR x1) {σ : Mm} : CtV l D vcl ca ad shC NC yX4_make (Cond.code yX4_make cX4_make 4 none :: tbG) { frames := 2, cells := 0, slots := 0, locals := 47 } [.ref (ad 43), .int (oi x1)] σ (f_X4_make x1 σ) := by
  refine ct_V RX4 rfl (by decide) rfl (Nat.le_of_ble_eq_true rfl) (fun p e s m below meth c res X hN hr hlk => ?_)
  show GX4_make p l e s m _ below meth c D ca ad res 0 [(0, .ref (ad 43)), (1, .int (oi x1))] [] σ (f_X4_make x1 σ)
  unfold f_X4_make
  refine q_aload_n X dX4_make_0 0 rfl ?_
  refine fg_X4_12 X dX4_make_1 ?_
  refine q_callIp X NCok hN Aw_new c_X1_topNode (rn_V X (cwV 0 X.2.2.2.2.1 (tbG_good _ (tbG_V mw_628 mw_629 mw_630 mw_7 mw_631)) rfl rfl rfl hd_X1_topNode ⟨by decide, by decide⟩) hC44 rfl rfl rfl (Nat.le_of_ble_eq_true rfl) dX4_make_4) (fun r1 _ h3 => ?_)
  refine q_istore_n X [(2, .int (oi r1)), (0, .ref (ad 43)), (1, .int (oi x1))] dX4_make_7 (by decide) rfl ?_
  refine q_aload_n X dX4_make_8 1 rfl ?_
  refine fg_X4_47 X dX4_make_9 ?_
  refine q_iload_n X dX4_make_12 2 rfl ?_
  refine q_aload_n X dX4_make_13 1 rfl ?_
  refine fg_X4_38 X dX4_make_14 ?_
  refine fg_X4_156 (o := 15) (Or.inl rfl) X dX4_make_17 ?_
  refine q_iload_n X dX4_make_20 0 rfl ?_
  refine q_iload_n X dX4_make_21 2 rfl ?_
  refine q_callIp X NCok hN Aw_new (c_X5_nameWith (Or.inl rfl) h3 hx1) (rn_V X (cwV 2 X.2.2.2.2.1 (tbG_good _ (tbG_V mw_670 mw_440 mw_441 mw_5 mw_442)) rfl rfl rfl hd_X5_nameWith ⟨by decide, by decide⟩) (hO9 (Or.inl rfl)) rfl rfl rfl (Nat.le_of_ble_eq_true rfl) dX4_make_22) (fun r4 _ h6 => ?_)
  refine q_iload_n X dX4_make_25 0 rfl ?_
  refine q_callI X NCok hN Aw_new (c_X2_add hx1 h6 h3) (rn_V X (cwV 3 X.2.2.2.2.1 (tbG_good _ (tbG_V mw_671 mw_672 mw_673 mw_8 mw_674)) rfl rfl rfl hd_X2_add ⟨by decide, by decide⟩) hC50 rfl rfl rfl (Nat.le_of_ble_eq_true rfl) dX4_make_26) (fun r7 _ h9 => ?_)
  refine q_istore_n X [(3, .int (oi r7.1)), (2, .int (oi r1)), (0, .ref (ad 43)), (1, .int (oi x1))] dX4_make_29 (by decide) rfl ?_
  refine q_aload_n X dX4_make_30 2 rfl ?_
  refine fg_X4_18 X dX4_make_31 ?_
  refine q_iconst X dX4_make_34 ?_
  refine q_aload_n X dX4_make_35 2 rfl ?_
  refine fg_X4_47 X dX4_make_36 ?_
  refine fg_X4_171 X dX4_make_39 (fun h10 => ?_)
  refine q_iast X hC49 (by decide) h10 dX4_make_42 ?_
  refine q_aload_n X dX4_make_43 2 rfl ?_
  refine q_aload_n X dX4_make_44 2 rfl ?_
  refine fg_X4_34 X dX4_make_45 ?_
  refine fg_X4_97 X dX4_make_48 ?_
  refine q_iload_n X dX4_make_51 3 rfl ?_
  refine q_iald X hC9 (by decide) dX4_make_52 (fun h11 => ?_)
  refine q_iload_n X dX4_make_53 0 rfl ?_
  refine q_callV X NCok hN Aw_new (c_X4_setVar h11 h9) (rn_V X (cwV 2 X.2.2.2.2.1 (tbG_good _ (tbG_V mw_620 mw_622 mp_2_9 mw_6 mw_623)) rfl rfl rfl hd_X4_setVar ⟨by decide, by decide⟩) hC43 rfl rfl rfl (Nat.le_of_ble_eq_true rfl) dX4_make_54) (fun r12 _ => ?_)
  exact q_vret X hr hlk dX4_make_57

/-! SiteObjects$Runner.load(II)V -/
abbrev GX4_load (p : Program) (l : Launch) (e : Env) (s : State) (m : MethodId) (args : Array Value) (below : List Frame) (meth : Method) (c : Code) (D : va_G) (ca : Nat → ClassId) (ad : Nat → Nat) (res : Mm) : Nat → List (Nat × Value) → List Value → Mm → Option (Mm) → Prop := G p l e { frames := 2, cells := 0, slots := 0, locals := 47 } s m args below meth c (MQ below (QcV D vcl ca ad shC s.heap.size res) args s 0 0 (Aw ad shC.length s.heap.size)) 3 D vcl ca ad shC (Aw ad shC.length s.heap.size) res
def f_X4_load (x1 : Int) (x2 : Int) (σ : Mm) : Option (Mm) :=
  (if x2 = (-9) then (f_X4_fail 1 x1 σ).bind (fun r2 => some r2) else (f_X2_isRow x2 σ).bind (fun r5 => (if r5 = 0 then ck ((0 : Int) ≤ x1 ∧ x1 < ((90 : Nat) : Int)) (ck ((0 : Int) ≤ x1 ∧ x1 < ((90 : Nat) : Int)) ((f_X2_fieldOf x2 (σ.1 11 (Int.toNat x1)) σ).bind (fun r11 => (f_X4_setVar (σ.1 9 (Int.toNat x1)) r11 σ).bind (fun r14 => some r14)))) else (f_X4_fail 2 x1 σ).bind (fun r17 => some r17))))
theorem hd_X4_load : yX4_load.cls = RX4 ∧ yX4_load.cls ≠ "java/lang/invoke/MethodHandle" ∧ yX4_load.cls ≠ "java/lang/invoke/VarHandle" ∧ (parseMethodDescriptor yX4_load.desc).map (fun d => d.parameters.length) = some 2 := by decide +kernel
set_option maxRecDepth 100000 in
set_option maxHeartbeats 4000000 in
theorem c_X4_load {l : Launch} {D : va_G} {ca : Nat → ClassId} {ad : Nat → Nat} {x1 : Int} {x2 : Int} (hx1 : inR x1) (hx2 : inR x2) {σ : Mm} : CtV l D vcl ca ad shC NC yX4_load (Cond.code yX4_load cX4_load 3 none :: tbG) { frames := 2, cells := 0, slots := 0, locals := 47 } [.ref (ad 43), .int (oi x1), .int (oi x2)] σ (f_X4_load x1 x2 σ) := by
  refine ct_V RX4 rfl (by decide) rfl (Nat.le_of_ble_eq_true rfl) (fun p e s m below meth c res X hN hr hlk => ?_)
  show GX4_load p l e s m _ below meth c D ca ad res 0 [(0, .ref (ad 43)), (1, .int (oi x1)), (2, .int (oi x2))] [] σ (f_X4_load x1 x2 σ)
  unfold f_X4_load
  refine q_iload_n X dX4_load_0 2 rfl ?_
  refine q_bipush X dX4_load_1 (by decide) ?_
  refine q_icmp_ne X hx2 (by decide) 15 dX4_load_3 (by decide) (fun h1 => ?_) (fun h1 => ?_)
  · refine q_aload_n X dX4_load_6 0 rfl ?_
    refine q_iconst X dX4_load_7 ?_
    refine q_iload_n X dX4_load_8 1 rfl ?_
    refine q_callV X NCok hN Aw_new (c_X4_fail (by decide) hx1) (rn_V X (cwV 2 X.2.2.2.2.1 (tbG_good _ (tbG_V mw_654 mw_656 mp_2_13 mw_6 mw_657)) rfl rfl rfl hd_X4_fail ⟨by decide, by decide⟩) hC43 rfl rfl rfl (Nat.le_of_ble_eq_true rfl) dX4_load_9) (fun r2 _ => ?_)
    refine q_goto X 65 dX4_load_12 (by decide) ?_
    exact q_vret X hr hlk dX4_load_65
  · refine q_aload_n X dX4_load_15 0 rfl ?_
    refine fg_X4_47 X dX4_load_16 ?_
    refine q_iload_n X dX4_load_19 2 rfl ?_
    refine q_callIp X NCok hN Aw_new (c_X2_isRow hx2) (rn_V X (cwV 1 X.2.2.2.2.1 (tbG_good _ (tbG_V mw_683 mw_684 mw_685 mw_8 mw_686)) rfl rfl rfl hd_X2_isRow ⟨by decide, by decide⟩) hC50 rfl rfl rfl (Nat.le_of_ble_eq_true rfl) dX4_load_20) (fun r5 _ h7 => ?_)
    refine q_if_eq X h7 35 dX4_load_23 (by decide) (fun h8 => ?_) (fun h8 => ?_)
    · refine q_aload_n X dX4_load_35 0 rfl ?_
      refine q_aload_n X dX4_load_36 0 rfl ?_
      refine fg_X4_34 X dX4_load_37 ?_
      refine fg_X4_97 X dX4_load_40 ?_
      refine q_iload_n X dX4_load_43 1 rfl ?_
      refine q_iald X hC9 (by decide) dX4_load_44 (fun h9 => ?_)
      refine q_aload_n X dX4_load_45 0 rfl ?_
      refine fg_X4_47 X dX4_load_46 ?_
      refine q_iload_n X dX4_load_49 2 rfl ?_
      refine q_aload_n X dX4_load_50 0 rfl ?_
      refine fg_X4_34 X dX4_load_51 ?_
      refine fg_X4_103 X dX4_load_54 ?_
      refine q_iload_n X dX4_load_57 1 rfl ?_
      refine q_iald X hC11 (by decide) dX4_load_58 (fun h10 => ?_)
      refine q_callIp X NCok hN Aw_new (c_X2_fieldOf hx2 h10) (rn_V X (cwV 2 X.2.2.2.2.1 (tbG_good _ (tbG_V mw_687 mw_688 mw_689 mw_8 mw_690)) rfl rfl rfl hd_X2_fieldOf ⟨by decide, by decide⟩) hC50 rfl rfl rfl (Nat.le_of_ble_eq_true rfl) dX4_load_59) (fun r11 _ h13 => ?_)
      refine q_callV X NCok hN Aw_new (c_X4_setVar h9 h13) (rn_V X (cwV 2 X.2.2.2.2.1 (tbG_good _ (tbG_V mw_620 mw_622 mp_2_9 mw_6 mw_623)) rfl rfl rfl hd_X4_setVar ⟨by decide, by decide⟩) hC43 rfl rfl rfl (Nat.le_of_ble_eq_true rfl) dX4_load_62) (fun r14 _ => ?_)
      exact q_vret X hr hlk dX4_load_65
    · refine q_aload_n X dX4_load_26 0 rfl ?_
      refine q_iconst X dX4_load_27 ?_
      refine q_iload_n X dX4_load_28 1 rfl ?_
      refine q_callV X NCok hN Aw_new (c_X4_fail (by decide) hx1) (rn_V X (cwV 2 X.2.2.2.2.1 (tbG_good _ (tbG_V mw_654 mw_656 mp_2_13 mw_6 mw_657)) rfl rfl rfl hd_X4_fail ⟨by decide, by decide⟩) hC43 rfl rfl rfl (Nat.le_of_ble_eq_true rfl) dX4_load_29) (fun r17 _ => ?_)
      refine q_goto X 65 dX4_load_32 (by decide) ?_
      exact q_vret X hr hlk dX4_load_65

/-! SiteObjects$Runner.setInside(IIII)V -/
abbrev GX4_setInside (p : Program) (l : Launch) (e : Env) (s : State) (m : MethodId) (args : Array Value) (below : List Frame) (meth : Method) (c : Code) (D : va_G) (ca : Nat → ClassId) (ad : Nat → Nat) (res : Mm) : Nat → List (Nat × Value) → List Value → Mm → Option (Mm) → Prop := G p l e { frames := 1, cells := 0, slots := 0, locals := 24 } s m args below meth c (MQ below (QcV D vcl ca ad shC s.heap.size res) args s 0 0 (Aw ad shC.length s.heap.size)) 6 D vcl ca ad shC (Aw ad shC.length s.heap.size) res
def f_X4_setInside (x1 : Int) (x2 : Int) (x3 : Int) (x4 : Int) (σ : Mm) : Option (Mm) :=
  ck ((0 : Int) ≤ ((x1 * 5) + x2) ∧ ((x1 * 5) + x2) < ((1500 : Nat) : Int)) (ck ((0 : Int) ≤ x1 ∧ x1 < ((300 : Nat) : Int)) ((if 0 ≤ ((stI σ 54 (Int.toNat ((x1 * 5) + x2)) x4).1 52 (Int.toNat x1)) then (f_X0_insideOf 15 ((stI σ 54 (Int.toNat ((x1 * 5) + x2)) x4).1 52 (Int.toNat x1)) x3 (stI σ 54 (Int.toNat ((x1 * 5) + x2)) x4)).bind (fun r3 => (f_X4_tallyHold x4 r3 (stI σ 54 (Int.toNat ((x1 * 5) + x2)) x4)).bind (fun r6 => some r6)) else (f_X4_tallyHold x4 0 (stI σ 54 (Int.toNat ((x1 * 5) + x2)) x4)).bind (fun r9 => some r9))))
theorem hd_X4_setInside : yX4_setInside.cls = RX4 ∧ yX4_setInside.cls ≠ "java/lang/invoke/MethodHandle" ∧ yX4_setInside.cls ≠ "java/lang/invoke/VarHandle" ∧ (parseMethodDescriptor yX4_setInside.desc).map (fun d => d.parameters.length) = some 4 := by decide +kernel
set_option maxRecDepth 100000 in
set_option maxHeartbeats 4000000 in
theorem c_X4_setInside {l : Launch} {D : va_G} {ca : Nat → ClassId} {ad : Nat → Nat} {x1 : Int} {x2 : Int} {x3 : Int} {x4 : Int} (hx1 : inR x1) (hx2 : inR x2) (hx3 : inR x3) (hx4 : inR x4) {σ : Mm} : CtV l D vcl ca ad shC NC yX4_setInside (Cond.code yX4_setInside cX4_setInside 6 none :: tbG) { frames := 1, cells := 0, slots := 0, locals := 24 } [.ref (ad 43), .int (oi x1), .int (oi x2), .int (oi x3), .int (oi x4)] σ (f_X4_setInside x1 x2 x3 x4 σ) := by
  refine ct_V RX4 rfl (by decide) rfl (Nat.le_of_ble_eq_true rfl) (fun p e s m below meth c res X hN hr hlk => ?_)
  show GX4_setInside p l e s m _ below meth c D ca ad res 0 [(0, .ref (ad 43)), (1, .int (oi x1)), (2, .int (oi x2)), (3, .int (oi x3)), (4, .int (oi x4))] [] σ (f_X4_setInside x1 x2 x3 x4 σ)
  unfold f_X4_setInside
  refine q_aload_n X dX4_setInside_0 0 rfl ?_
  refine fg_X4_47 X dX4_setInside_1 ?_
  refine fg_X4_257 X dX4_setInside_4 ?_
  refine q_iload_n X dX4_setInside_7 1 rfl ?_
  refine q_iconst X dX4_setInside_8 ?_
  refine q_imul X dX4_setInside_9 ?_
  refine q_iload_n X dX4_setInside_10 2 rfl ?_
  refine q_iadd X dX4_setInside_11 ?_
  refine q_iload X dX4_setInside_12 4 rfl ?_
  refine q_iast X hC54 (by decide) hx4 dX4_setInside_14 ?_
  refine q_aload_n X dX4_setInside_15 0 rfl ?_
  refine fg_X4_47 X dX4_setInside_16 ?_
  refine fg_X4_210 X dX4_setInside_19 ?_
  refine q_iload_n X dX4_setInside_22 1 rfl ?_
  refine q_iald X hC52 (by decide) dX4_setInside_23 (fun h1 => ?_)
  refine q_istore X [(5, .int (oi ((stI σ 54 (Int.toNat ((x1 * 5) + x2)) x4).1 52 (Int.toNat x1)))), (0, .ref (ad 43)), (1, .int (oi x1)), (2, .int (oi x2)), (3, .int (oi x3)), (4, .int (oi x4))] dX4_setInside_24 (by decide) rfl ?_
  refine q_aload_n X dX4_setInside_26 1 rfl ?_
  refine q_iload X dX4_setInside_27 5 rfl ?_
  refine q_iload X dX4_setInside_29 0 rfl ?_
  refine q_if_ge X h1 38 dX4_setInside_31 (by decide) (fun h2 => ?_) (fun h2 => ?_)
  · refine q_aload_n X dX4_setInside_38 1 rfl ?_
    refine fg_X4_38 X dX4_setInside_39 ?_
    refine q_iload X dX4_setInside_42 0 rfl ?_
    refine q_iload_n X dX4_setInside_44 4 rfl ?_
    refine q_callLp X NCok hN Aw_new (c_X0_insideOf (Or.inl rfl) h1 hx3) (rn_V X (cwV 2 X.2.2.2.2.1 (tbG_good _ (tbG_V mw_700 mw_466 mw_467 mw_4 mw_468)) rfl rfl rfl hd_X0_insideOf ⟨by decide, by decide⟩) (hO0 (Or.inl rfl)) rfl rfl rfl (Nat.le_of_ble_eq_true rfl) dX4_setInside_45) (fun r3 _ => ?_)
    refine q_callV X NCok hN Aw_new (c_X4_tallyHold hx4) (rn_V X (cwV 2 X.2.2.2.2.1 (tbG_good _ (tbG_V mw_633 mw_635 mp_2_10 mw_6 mw_636)) rfl rfl rfl hd_X4_tallyHold ⟨by decide, by decide⟩) hC43 rfl rfl rfl (Nat.le_of_ble_eq_true rfl) dX4_setInside_48) (fun r6 _ => ?_)
    exact q_vret X hr hlk dX4_setInside_51
  · refine q_lconst X 0 dX4_setInside_34 rfl ?_
    refine q_goto X 48 dX4_setInside_35 (by decide) ?_
    refine q_callV X NCok hN Aw_new (c_X4_tallyHold hx4) (rn_V X (cwV 2 X.2.2.2.2.1 (tbG_good _ (tbG_V mw_633 mw_635 mp_2_10 mw_6 mw_636)) rfl rfl rfl hd_X4_tallyHold ⟨by decide, by decide⟩) hC43 rfl rfl rfl (Nat.le_of_ble_eq_true rfl) dX4_setInside_48) (fun r9 _ => ?_)
    exact q_vret X hr hlk dX4_setInside_51

/-! SiteObjects$Runner.store(II)V -/
abbrev GX4_store (p : Program) (l : Launch) (e : Env) (s : State) (m : MethodId) (args : Array Value) (below : List Frame) (meth : Method) (c : Code) (D : va_G) (ca : Nat → ClassId) (ad : Nat → Nat) (res : Mm) : Nat → List (Nat × Value) → List Value → Mm → Option (Mm) → Prop := G p l e { frames := 2, cells := 0, slots := 0, locals := 49 } s m args below meth c (MQ below (QcV D vcl ca ad shC s.heap.size res) args s 0 0 (Aw ad shC.length s.heap.size)) 3 D vcl ca ad shC (Aw ad shC.length s.heap.size) res
def f_X4_store (x1 : Int) (x2 : Int) (σ : Mm) : Option (Mm) :=
  (if x2 = (-9) then (f_X4_fail 1 x1 σ).bind (fun r2 => some r2) else (f_X2_isRow x2 σ).bind (fun r5 => (if r5 = 0 then ck ((0 : Int) ≤ x1 ∧ x1 < ((90 : Nat) : Int)) (ck ((0 : Int) ≤ x1 ∧ x1 < ((90 : Nat) : Int)) (ck ((0 : Int) ≤ x1 ∧ x1 < ((90 : Nat) : Int)) ((f_X1_varOf (σ.1 10 (Int.toNat x1)) σ).bind (fun r12 => (f_X4_setInside x2 (σ.1 11 (Int.toNat x1)) (σ.1 11 (Int.toNat x1)) r12 σ).bind (fun r15 => some r15))))) else (f_X4_fail 2 x1 σ).bind (fun r18 => some r18))))
theorem hd_X4_store : yX4_store.cls = RX4 ∧ yX4_store.cls ≠ "java/lang/invoke/MethodHandle" ∧ yX4_store.cls ≠ "java/lang/invoke/VarHandle" ∧ (parseMethodDescriptor yX4_store.desc).map (fun d => d.parameters.length) = some 2 := by decide +kernel
set_option maxRecDepth 100000 in
set_option maxHeartbeats 4000000 in
theorem c_X4_store {l : Launch} {D : va_G} {ca : Nat → ClassId} {ad : Nat → Nat} {x1 : Int} {x2 : Int} (hx1 : inR x1) (hx2 : inR x2) {σ : Mm} : CtV l D vcl ca ad shC NC yX4_store (Cond.code yX4_store cX4_store 3 none :: tbG) { frames := 2, cells := 0, slots := 0, locals := 49 } [.ref (ad 43), .int (oi x1), .int (oi x2)] σ (f_X4_store x1 x2 σ) := by
  refine ct_V RX4 rfl (by decide) rfl (Nat.le_of_ble_eq_true rfl) (fun p e s m below meth c res X hN hr hlk => ?_)
  show GX4_store p l e s m _ below meth c D ca ad res 0 [(0, .ref (ad 43)), (1, .int (oi x1)), (2, .int (oi x2))] [] σ (f_X4_store x1 x2 σ)
  unfold f_X4_store
  refine q_iload_n X dX4_store_0 2 rfl ?_
  refine q_bipush X dX4_store_1 (by decide) ?_
  refine q_icmp_ne X hx2 (by decide) 15 dX4_store_3 (by decide) (fun h1 => ?_) (fun h1 => ?_)
  · refine q_aload_n X dX4_store_6 0 rfl ?_
    refine q_iconst X dX4_store_7 ?_
    refine q_iload_n X dX4_store_8 1 rfl ?_
    refine q_callV X NCok hN Aw_new (c_X4_fail (by decide) hx1) (rn_V X (cwV 2 X.2.2.2.2.1 (tbG_good _ (tbG_V mw_654 mw_656 mp_2_13 mw_6 mw_657)) rfl rfl rfl hd_X4_fail ⟨by decide, by decide⟩) hC43 rfl rfl rfl (Nat.le_of_ble_eq_true rfl) dX4_store_9) (fun r2 _ => ?_)
    refine q_goto X 74 dX4_store_12 (by decide) ?_
    exact q_vret X hr hlk dX4_store_74
  · refine q_aload_n X dX4_store_15 0 rfl ?_
    refine fg_X4_47 X dX4_store_16 ?_
    refine q_iload_n X dX4_store_19 2 rfl ?_
    refine q_callIp X NCok hN Aw_new (c_X2_isRow hx2) (rn_V X (cwV 1 X.2.2.2.2.1 (tbG_good _ (tbG_V mw_683 mw_684 mw_685 mw_8 mw_686)) rfl rfl rfl hd_X2_isRow ⟨by decide, by decide⟩) hC50 rfl rfl rfl (Nat.le_of_ble_eq_true rfl) dX4_store_20) (fun r5 _ h7 => ?_)
    refine q_if_eq X h7 35 dX4_store_23 (by decide) (fun h8 => ?_) (fun h8 => ?_)
    · refine q_aload_n X dX4_store_35 0 rfl ?_
      refine q_iload_n X dX4_store_36 2 rfl ?_
      refine q_aload_n X dX4_store_37 0 rfl ?_
      refine fg_X4_34 X dX4_store_38 ?_
      refine fg_X4_103 X dX4_store_41 ?_
      refine q_iload_n X dX4_store_44 1 rfl ?_
      refine q_iald X hC11 (by decide) dX4_store_45 (fun h9 => ?_)
      refine q_aload_n X dX4_store_46 0 rfl ?_
      refine fg_X4_34 X dX4_store_47 ?_
      refine fg_X4_103 X dX4_store_50 ?_
      refine q_iload_n X dX4_store_53 1 rfl ?_
      refine q_iald X hC11 (by decide) dX4_store_54 (fun h10 => ?_)
      refine q_aload_n X dX4_store_55 0 rfl ?_
      refine fg_X4_12 X dX4_store_56 ?_
      refine q_aload_n X dX4_store_59 0 rfl ?_
      refine fg_X4_34 X dX4_store_60 ?_
      refine fg_X4_100 X dX4_store_63 ?_
      refine q_iload_n X dX4_store_66 1 rfl ?_
      refine q_iald X hC10 (by decide) dX4_store_67 (fun h11 => ?_)
      refine q_callIp X NCok hN Aw_new (c_X1_varOf h11) (rn_V X (cwV 1 X.2.2.2.2.1 (tbG_good _ (tbG_V mw_675 mw_676 mw_677 mw_7 mw_678)) rfl rfl rfl hd_X1_varOf ⟨by decide, by decide⟩) hC44 rfl rfl rfl (Nat.le_of_ble_eq_true rfl) dX4_store_68) (fun r12 _ h14 => ?_)
      refine q_callV X NCok hN Aw_new (c_X4_setInside hx2 h9 h10 h14) (rn_V X (cwV 4 X.2.2.2.2.1 (tbG_good _ (tbG_V mw_696 mw_698 mp_3_2 mw_6 mw_699)) rfl rfl rfl hd_X4_setInside ⟨by decide, by decide⟩) hC43 rfl rfl rfl (Nat.le_of_ble_eq_true rfl) dX4_store_71) (fun r15 _ => ?_)
      exact q_vret X hr hlk dX4_store_74
    · refine q_aload_n X dX4_store_26 0 rfl ?_
      refine q_iconst X dX4_store_27 ?_
      refine q_iload_n X dX4_store_28 1 rfl ?_
      refine q_callV X NCok hN Aw_new (c_X4_fail (by decide) hx1) (rn_V X (cwV 2 X.2.2.2.2.1 (tbG_good _ (tbG_V mw_654 mw_656 mp_2_13 mw_6 mw_657)) rfl rfl rfl hd_X4_fail ⟨by decide, by decide⟩) hC43 rfl rfl rfl (Nat.le_of_ble_eq_true rfl) dX4_store_29) (fun r18 _ => ?_)
      refine q_goto X 74 dX4_store_32 (by decide) ?_
      exact q_vret X hr hlk dX4_store_74

/-! SiteObjects$Runner.failureOfPlace(II)I -/
abbrev GX4_failureOfPlace (p : Program) (l : Launch) (e : Env) (s : State) (m : MethodId) (args : Array Value) (below : List Frame) (meth : Method) (c : Code) (D : va_G) (ca : Nat → ClassId) (ad : Nat → Nat) (σ : Mm) (res : Int) : Nat → List (Nat × Value) → List Value → Mm → Option (Int) → Prop := G p l e { frames := 2, cells := 0, slots := 0, locals := 43 } s m args below meth c (MQ below (QcI D vcl ca ad shC s.heap.size (res, σ)) args s 0 0 (Aw ad shC.length s.heap.size)) 3 D vcl ca ad shC (Aw ad shC.length s.heap.size) res
def f_X4_failureOfPlace (x1 : Int) (x2 : Int) (σ : Mm) : Option (Int) :=
  (if x1 = (-9) then some 1 else (f_X2_isRow x1 σ).bind (fun r2 => (if r2 = 0 then some 2 else (f_X2_hasPlace x1 x2 σ).bind (fun r6 => (if r6 = 0 then some 3 else some 0)))))
theorem hd_X4_failureOfPlace : yX4_failureOfPlace.cls = RX4 ∧ yX4_failureOfPlace.cls ≠ "java/lang/invoke/MethodHandle" ∧ yX4_failureOfPlace.cls ≠ "java/lang/invoke/VarHandle" ∧ (parseMethodDescriptor yX4_failureOfPlace.desc).map (fun d => d.parameters.length) = some 2 := by decide +kernel
set_option maxRecDepth 100000 in
set_option maxHeartbeats 4000000 in
theorem c_X4_failureOfPlace {l : Launch} {D : va_G} {ca : Nat → ClassId} {ad : Nat → Nat} {x1 : Int} {x2 : Int} (hx1 : inR x1) (hx2 : inR x2) {σ : Mm} : CtI l D vcl ca ad shC NC yX4_failureOfPlace (Cond.code yX4_failureOfPlace cX4_failureOfPlace 3 (some .int) :: tbG) { frames := 2, cells := 0, slots := 0, locals := 43 } [.ref (ad 43), .int (oi x1), .int (oi x2)] σ ((f_X4_failureOfPlace x1 x2 σ).map (fun r => (r, σ))) := by
  refine ct_Ip RX4 rfl (by decide) rfl (Nat.le_of_ble_eq_true rfl) (fun p e s m below meth c res X hN hr hlk => ?_)
  show GX4_failureOfPlace p l e s m _ below meth c D ca ad σ res 0 [(0, .ref (ad 43)), (1, .int (oi x1)), (2, .int (oi x2))] [] σ (f_X4_failureOfPlace x1 x2 σ)
  unfold f_X4_failureOfPlace
  refine q_iload_n X dX4_failureOfPlace_0 1 rfl ?_
  refine q_bipush X dX4_failureOfPlace_1 (by decide) ?_
  refine q_icmp_ne X hx1 (by decide) 8 dX4_failureOfPlace_3 (by decide) (fun h1 => ?_) (fun h1 => ?_)
  · refine q_iconst X dX4_failureOfPlace_6 ?_
    exact q_iretp X (by decide) hr hlk dX4_failureOfPlace_7
  · refine q_aload_n X dX4_failureOfPlace_8 0 rfl ?_
    refine fg_X4_47 X dX4_failureOfPlace_9 ?_
    refine q_iload_n X dX4_failureOfPlace_12 1 rfl ?_
    refine q_callIp X NCok hN Aw_new (c_X2_isRow hx1) (rn_V X (cwV 1 X.2.2.2.2.1 (tbG_good _ (tbG_V mw_683 mw_684 mw_685 mw_8 mw_686)) rfl rfl rfl hd_X2_isRow ⟨by decide, by decide⟩) hC50 rfl rfl rfl (Nat.le_of_ble_eq_true rfl) dX4_failureOfPlace_13) (fun r2 _ h4 => ?_)
    refine q_if_ne X h4 21 dX4_failureOfPlace_16 (by decide) (fun h5 => ?_) (fun h5 => ?_)
    · refine q_iconst X dX4_failureOfPlace_19 ?_
      exact q_iretp X (by decide) hr hlk dX4_failureOfPlace_20
    · refine q_aload_n X dX4_failureOfPlace_21 0 rfl ?_
      refine fg_X4_47 X dX4_failureOfPlace_22 ?_
      refine q_iload_n X dX4_failureOfPlace_25 1 rfl ?_
      refine q_iload_n X dX4_failureOfPlace_26 2 rfl ?_
      refine q_callIp X NCok hN Aw_new (c_X2_hasPlace hx1 hx2) (rn_V X (cwV 2 X.2.2.2.2.1 (tbG_good _ (tbG_V mw_709 mw_710 mw_711 mw_8 mw_712)) rfl rfl rfl hd_X2_hasPlace ⟨by decide, by decide⟩) hC50 rfl rfl rfl (Nat.le_of_ble_eq_true rfl) dX4_failureOfPlace_27) (fun r6 _ h8 => ?_)
      refine q_if_eq X h8 37 dX4_failureOfPlace_30 (by decide) (fun h9 => ?_) (fun h9 => ?_)
      · refine q_iconst X dX4_failureOfPlace_37 ?_
        exact q_iretp X (by decide) hr hlk dX4_failureOfPlace_38
      · refine q_iconst X dX4_failureOfPlace_33 ?_
        refine q_goto X 38 dX4_failureOfPlace_34 (by decide) ?_
        exact q_iretp X (by decide) hr hlk dX4_failureOfPlace_38

/-! SiteObjects$Runner.take(II)V -/
abbrev GX4_take (p : Program) (l : Launch) (e : Env) (s : State) (m : MethodId) (args : Array Value) (below : List Frame) (meth : Method) (c : Code) (D : va_G) (ca : Nat → ClassId) (ad : Nat → Nat) (res : Mm) : Nat → List (Nat × Value) → List Value → Mm → Option (Mm) → Prop := G p l e { frames := 3, cells := 0, slots := 0, locals := 65 } s m args below meth c (MQ below (QcV D vcl ca ad shC s.heap.size res) args s 0 0 (Aw ad shC.length s.heap.size)) 4 D vcl ca ad shC (Aw ad shC.length s.heap.size) res
def f_X4_take (x1 : Int) (x2 : Int) (σ : Mm) : Option (Mm) :=
  ck ((0 : Int) ≤ x1 ∧ x1 < ((90 : Nat) : Int)) ((f_X4_failureOfPlace x2 (σ.1 11 (Int.toNat x1)) σ).bind (fun r2 => (if r2 = 0 then ck ((0 : Int) ≤ x1 ∧ x1 < ((90 : Nat) : Int)) (ck ((0 : Int) ≤ x1 ∧ x1 < ((90 : Nat) : Int)) ((f_X2_placeOf x2 (σ.1 11 (Int.toNat x1)) σ).bind (fun r8 => (f_X4_setVar (σ.1 9 (Int.toNat x1)) r8 σ).bind (fun r11 => some r11)))) else (f_X4_fail r2 x1 σ).bind (fun r14 => some r14))))
theorem hd_X4_take : yX4_take.cls = RX4 ∧ yX4_take.cls ≠ "java/lang/invoke/MethodHandle" ∧ yX4_take.cls ≠ "java/lang/invoke/VarHandle" ∧ (parseMethodDescriptor yX4_take.desc).map (fun d => d.parameters.length) = some 2 := by decide +kernel
set_option maxRecDepth 100000 in
set_option maxHeartbeats 4000000 in
theorem c_X4_take {l : Launch} {D : va_G} {ca : Nat → ClassId} {ad : Nat → Nat} {x1 : Int} {x2 : Int} (hx1 : inR x1) (hx2 : inR x2) {σ : Mm} : CtV l D vcl ca ad shC NC yX4_take (Cond.code yX4_take cX4_take 4 none :: tbG) { frames := 3, cells := 0, slots := 0, locals := 65 } [.ref (ad 43), .int (oi x1), .int (oi x2)] σ (f_X4_take x1 x2 σ) := by
  refine ct_V RX4 rfl (by decide) rfl (Nat.le_of_ble_eq_true rfl) (fun p e s m below meth c res X hN hr hlk => ?_)
  show GX4_take p l e s m _ below meth c D ca ad res 0 [(0, .ref (ad 43)), (1, .int (oi x1)), (2, .int (oi x2))] [] σ (f_X4_take x1 x2 σ)
  unfold f_X4_take
  refine q_aload_n X dX4_take_0 0 rfl ?_
  refine q_iload_n X dX4_take_1 2 rfl ?_
  refine q_aload_n X dX4_take_2 0 rfl ?_
  refine fg_X4_34 X dX4_take_3 ?_
  refine fg_X4_103 X dX4_take_6 ?_
  refine q_iload_n X dX4_take_9 1 rfl ?_
  refine q_iald X hC11 (by decide) dX4_take_10 (fun h1 => ?_)
  refine q_callIp X NCok hN Aw_new (c_X4_failureOfPlace hx2 h1) (rn_V X (cwV 2 X.2.2.2.2.1 (tbG_good _ (tbG_V mw_705 mw_707 mp_3_4 mw_6 mw_708)) rfl rfl rfl hd_X4_failureOfPlace ⟨by decide, by decide⟩) hC43 rfl rfl rfl (Nat.le_of_ble_eq_true rfl) dX4_take_11) (fun r2 _ h4 => ?_)
  refine q_istore_n X [(3, .int (oi r2)), (0, .ref (ad 43)), (1, .int (oi x1)), (2, .int (oi x2))] dX4_take_14 (by decide) rfl ?_
  refine q_iload_n X dX4_take_15 0 rfl ?_
  refine q_if_eq X h4 28 dX4_take_16 (by decide) (fun h5 => ?_) (fun h5 => ?_)
  · refine q_aload_n X dX4_take_28 1 rfl ?_
    refine q_aload_n X dX4_take_29 1 rfl ?_
    refine fg_X4_34 X dX4_take_30 ?_
    refine fg_X4_97 X dX4_take_33 ?_
    refine q_iload_n X dX4_take_36 2 rfl ?_
    refine q_iald X hC9 (by decide) dX4_take_37 (fun h6 => ?_)
    refine q_aload_n X dX4_take_38 1 rfl ?_
    refine fg_X4_47 X dX4_take_39 ?_
    refine q_iload_n X dX4_take_42 3 rfl ?_
    refine q_aload_n X dX4_take_43 1 rfl ?_
    refine fg_X4_34 X dX4_take_44 ?_
    refine fg_X4_103 X dX4_take_47 ?_
    refine q_iload_n X dX4_take_50 2 rfl ?_
    refine q_iald X hC11 (by decide) dX4_take_51 (fun h7 => ?_)
    refine q_callIp X NCok hN Aw_new (c_X2_placeOf hx2 h7) (rn_V X (cwV 2 X.2.2.2.2.1 (tbG_good _ (tbG_V mw_714 mw_715 mw_716 mw_8 mw_717)) rfl rfl rfl hd_X2_placeOf ⟨by decide, by decide⟩) hC50 rfl rfl rfl (Nat.le_of_ble_eq_true rfl) dX4_take_52) (fun r8 _ h10 => ?_)
    refine q_callV X NCok hN Aw_new (c_X4_setVar h6 h10) (rn_V X (cwV 2 X.2.2.2.2.1 (tbG_good _ (tbG_V mw_620 mw_622 mp_2_9 mw_6 mw_623)) rfl rfl rfl hd_X4_setVar ⟨by decide, by decide⟩) hC43 rfl rfl rfl (Nat.le_of_ble_eq_true rfl) dX4_take_55) (fun r11 _ => ?_)
    exact q_vret X hr hlk dX4_take_58
  · refine q_aload_n X dX4_take_19 1 rfl ?_
    refine q_iload_n X dX4_take_20 0 rfl ?_
    refine q_iload_n X dX4_take_21 2 rfl ?_
    refine q_callV X NCok hN Aw_new (c_X4_fail h4 hx1) (rn_V X (cwV 2 X.2.2.2.2.1 (tbG_good _ (tbG_V mw_654 mw_656 mp_2_13 mw_6 mw_657)) rfl rfl rfl hd_X4_fail ⟨by decide, by decide⟩) hC43 rfl rfl rfl (Nat.le_of_ble_eq_true rfl) dX4_take_22) (fun r14 _ => ?_)
    refine q_goto X 58 dX4_take_25 (by decide) ?_
    exact q_vret X hr hlk dX4_take_58

/-! SiteObjects$Runner.lay(III)V -/
abbrev GX4_lay (p : Program) (l : Launch) (e : Env) (s : State) (m : MethodId) (args : Array Value) (below : List Frame) (meth : Method) (c : Code) (D : va_G) (ca : Nat → ClassId) (ad : Nat → Nat) (res : Mm) : Nat → List (Nat × Value) → List Value → Mm → Option (Mm) → Prop := G p l e { frames := 3, cells := 0, slots := 0, locals := 65 } s m args below meth c (MQ below (QcV D vcl ca ad shC s.heap.size res) args s 0 0 (Aw ad shC.length s.heap.size)) 5 D vcl ca ad shC (Aw ad shC.length s.heap.size) res
def f_X4_lay (x1 : Int) (x2 : Int) (x3 : Int) (σ : Mm) : Option (Mm) :=
  ck ((0 : Int) ≤ x1 ∧ x1 < ((90 : Nat) : Int)) ((f_X4_failureOfPlace x2 (σ.1 11 (Int.toNat x1)) σ).bind (fun r2 => (if r2 = 0 then (if x3 = (-9) then ck ((0 : Int) ≤ x1 ∧ x1 < ((90 : Nat) : Int)) ((f_X4_setInside x2 (σ.1 11 (Int.toNat x1)) 4 x3 σ).bind (fun r8 => some r8)) else (f_X2_classOf x3 σ).bind (fun r11 => (f_X2_rowClass x2 σ).bind (fun r14 => (f_X3_liesBelow r11 r14 σ).bind (fun r17 => (if r17 = 0 then (f_X4_fail 4 x1 σ).bind (fun r21 => some r21) else ck ((0 : Int) ≤ x1 ∧ x1 < ((90 : Nat) : Int)) ((f_X4_setInside x2 (σ.1 11 (Int.toNat x1)) 4 x3 σ).bind (fun r25 => some r25))))))) else (f_X4_fail r2 x1 σ).bind (fun r28 => some r28))))
theorem hd_X4_lay : yX4_lay.cls = RX4 ∧ yX4_lay.cls ≠ "java/lang/invoke/MethodHandle" ∧ yX4_lay.cls ≠ "java/lang/invoke/VarHandle" ∧ (parseMethodDescriptor yX4_lay.desc).map (fun d => d.parameters.length) = some 3 := by decide +kernel
set_option maxRecDepth 100000 in
set_option maxHeartbeats 4000000 in
theorem c_X4_lay {l : Launch} {D : va_G} {ca : Nat → ClassId} {ad : Nat → Nat} {x1 : Int} {x2 : Int} {x3 : Int} (hx1 : inR x1) (hx2 : inR x2) (hx3 : inR x3) {σ : Mm} : CtV l D vcl ca ad shC NC yX4_lay (Cond.code yX4_lay cX4_lay 5 none :: tbG) { frames := 3, cells := 0, slots := 0, locals := 65 } [.ref (ad 43), .int (oi x1), .int (oi x2), .int (oi x3)] σ (f_X4_lay x1 x2 x3 σ) := by
  refine ct_V RX4 rfl (by decide) rfl (Nat.le_of_ble_eq_true rfl) (fun p e s m below meth c res X hN hr hlk => ?_)
  show GX4_lay p l e s m _ below meth c D ca ad res 0 [(0, .ref (ad 43)), (1, .int (oi x1)), (2, .int (oi x2)), (3, .int (oi x3))] [] σ (f_X4_lay x1 x2 x3 σ)
  unfold f_X4_lay
  refine q_aload_n X dX4_lay_0 0 rfl ?_
  refine q_iload_n X dX4_lay_1 2 rfl ?_
  refine q_aload_n X dX4_lay_2 0 rfl ?_
  refine fg_X4_34 X dX4_lay_3 ?_
  refine fg_X4_103 X dX4_lay_6 ?_
  refine q_iload_n X dX4_lay_9 1 rfl ?_
  refine q_iald X hC11 (by decide) dX4_lay_10 (fun h1 => ?_)
  refine q_callIp X NCok hN Aw_new (c_X4_failureOfPlace hx2 h1) (rn_V X (cwV 2 X.2.2.2.2.1 (tbG_good _ (tbG_V mw_705 mw_707 mp_3_4 mw_6 mw_708)) rfl rfl rfl hd_X4_failureOfPlace ⟨by decide, by decide⟩) hC43 rfl rfl rfl (Nat.le_of_ble_eq_true rfl) dX4_lay_11) (fun r2 _ h4 => ?_)
  refine q_istore X [(4, .int (oi r2)), (0, .ref (ad 43)), (1, .int (oi x1)), (2, .int (oi x2)), (3, .int (oi x3))] dX4_lay_14 (by decide) rfl ?_
  refine q_iload X dX4_lay_16 0 rfl ?_
  refine q_if_eq X h4 31 dX4_lay_18 (by decide) (fun h5 => ?_) (fun h5 => ?_)
  · refine q_iload_n X dX4_lay_31 4 rfl ?_
    refine q_bipush X dX4_lay_32 (by decide) ?_
    refine q_icmp_eq X hx3 (by decide) 72 dX4_lay_34 (by decide) (fun h6 => ?_) (fun h6 => ?_)
    · refine q_aload_n X dX4_lay_72 1 rfl ?_
      refine q_iload_n X dX4_lay_73 3 rfl ?_
      refine q_aload_n X dX4_lay_74 1 rfl ?_
      refine fg_X4_34 X dX4_lay_75 ?_
      refine fg_X4_103 X dX4_lay_78 ?_
      refine q_iload_n X dX4_lay_81 2 rfl ?_
      refine q_iald X hC11 (by decide) dX4_lay_82 (fun h7 => ?_)
      refine q_iconst X dX4_lay_83 ?_
      refine q_iload_n X dX4_lay_84 4 rfl ?_
      refine q_callV X NCok hN Aw_new (c_X4_setInside hx2 h7 (by decide) hx3) (rn_V X (cwV 4 X.2.2.2.2.1 (tbG_good _ (tbG_V mw_696 mw_698 mp_3_2 mw_6 mw_699)) rfl rfl rfl hd_X4_setInside ⟨by decide, by decide⟩) hC43 rfl rfl rfl (Nat.le_of_ble_eq_true rfl) dX4_lay_85) (fun r8 _ => ?_)
      exact q_vret X hr hlk dX4_lay_88
    · refine q_aload_n X dX4_lay_37 1 rfl ?_
      refine fg_X4_34 X dX4_lay_38 ?_
      refine q_aload_n X dX4_lay_41 1 rfl ?_
      refine fg_X4_47 X dX4_lay_42 ?_
      refine q_iload_n X dX4_lay_45 4 rfl ?_
      refine q_callIp X NCok hN Aw_new (c_X2_classOf hx3) (rn_V X (cwV 1 X.2.2.2.2.1 (tbG_good _ (tbG_V mw_722 mw_723 mw_724 mw_8 mw_725)) rfl rfl rfl hd_X2_classOf ⟨by decide, by decide⟩) hC50 rfl rfl rfl (Nat.le_of_ble_eq_true rfl) dX4_lay_46) (fun r11 _ h13 => ?_)
      refine q_aload_n X dX4_lay_49 1 rfl ?_
      refine fg_X4_47 X dX4_lay_50 ?_
      refine q_iload_n X dX4_lay_53 3 rfl ?_
      refine q_callIp X NCok hN Aw_new (c_X2_rowClass hx2) (rn_V X (cwV 1 X.2.2.2.2.1 (tbG_good _ (tbG_V mw_727 mw_728 mw_729 mw_8 mw_730)) rfl rfl rfl hd_X2_rowClass ⟨by decide, by decide⟩) hC50 rfl rfl rfl (Nat.le_of_ble_eq_true rfl) dX4_lay_54) (fun r14 _ h16 => ?_)
      refine q_callIp X NCok hN Aw_new (c_X3_liesBelow h13 h16) (rn_V X (cwV 2 X.2.2.2.2.1 (tbG_good _ (tbG_V mw_731 mw_359 mw_360 mw_2 mw_361)) rfl rfl rfl hd_X3_liesBelow ⟨by decide, by decide⟩) hC1 rfl rfl rfl (Nat.le_of_ble_eq_true rfl) dX4_lay_57) (fun r17 _ h19 => ?_)
      refine q_if_ne X h19 72 dX4_lay_60 (by decide) (fun h20 => ?_) (fun h20 => ?_)
      · refine q_aload_n X dX4_lay_63 1 rfl ?_
        refine q_iconst X dX4_lay_64 ?_
        refine q_iload_n X dX4_lay_65 2 rfl ?_
        refine q_callV X NCok hN Aw_new (c_X4_fail (by decide) hx1) (rn_V X (cwV 2 X.2.2.2.2.1 (tbG_good _ (tbG_V mw_654 mw_656 mp_2_13 mw_6 mw_657)) rfl rfl rfl hd_X4_fail ⟨by decide, by decide⟩) hC43 rfl rfl rfl (Nat.le_of_ble_eq_true rfl) dX4_lay_66) (fun r21 _ => ?_)
        refine q_goto X 88 dX4_lay_69 (by decide) ?_
        exact q_vret X hr hlk dX4_lay_88
      · refine q_aload_n X dX4_lay_72 1 rfl ?_
        refine q_iload_n X dX4_lay_73 3 rfl ?_
        refine q_aload_n X dX4_lay_74 1 rfl ?_
        refine fg_X4_34 X dX4_lay_75 ?_
        refine fg_X4_103 X dX4_lay_78 ?_
        refine q_iload_n X dX4_lay_81 2 rfl ?_
        refine q_iald X hC11 (by decide) dX4_lay_82 (fun h24 => ?_)
        refine q_iconst X dX4_lay_83 ?_
        refine q_iload_n X dX4_lay_84 4 rfl ?_
        refine q_callV X NCok hN Aw_new (c_X4_setInside hx2 h24 (by decide) hx3) (rn_V X (cwV 4 X.2.2.2.2.1 (tbG_good _ (tbG_V mw_696 mw_698 mp_3_2 mw_6 mw_699)) rfl rfl rfl hd_X4_setInside ⟨by decide, by decide⟩) hC43 rfl rfl rfl (Nat.le_of_ble_eq_true rfl) dX4_lay_85) (fun r25 _ => ?_)
        exact q_vret X hr hlk dX4_lay_88
  · refine q_aload_n X dX4_lay_21 1 rfl ?_
    refine q_iload X dX4_lay_22 0 rfl ?_
    refine q_iload_n X dX4_lay_24 2 rfl ?_
    refine q_callV X NCok hN Aw_new (c_X4_fail h4 hx1) (rn_V X (cwV 2 X.2.2.2.2.1 (tbG_good _ (tbG_V mw_654 mw_656 mp_2_13 mw_6 mw_657)) rfl rfl rfl hd_X4_fail ⟨by decide, by decide⟩) hC43 rfl rfl rfl (Nat.le_of_ble_eq_true rfl) dX4_lay_25) (fun r28 _ => ?_)
    refine q_goto X 88 dX4_lay_28 (by decide) ?_
    exact q_vret X hr hlk dX4_lay_88

/-! SiteObjects$Runner.cast(II)V -/
abbrev GX4_cast (p : Program) (l : Launch) (e : Env) (s : State) (m : MethodId) (args : Array Value) (below : List Frame) (meth : Method) (c : Code) (D : va_G) (ca : Nat → ClassId) (ad : Nat → Nat) (res : Mm) : Nat → List (Nat × Value) → List Value → Mm → Option (Mm) → Prop := G p l e { frames := 2, cells := 0, slots := 0, locals := 47 } s m args below meth c (MQ below (QcV D vcl ca ad shC s.heap.size res) args s 0 0 (Aw ad shC.length s.heap.size)) 3 D vcl ca ad shC (Aw ad shC.length s.heap.size) res
def f_X4_cast (x1 : Int) (x2 : Int) (σ : Mm) : Option (Mm) :=
  (if x2 = (-9) then ck ((0 : Int) ≤ x1 ∧ x1 < ((90 : Nat) : Int)) ((f_X4_setVar (σ.1 9 (Int.toNat x1)) x2 σ).bind (fun r3 => some r3)) else (f_X2_classOf x2 σ).bind (fun r6 => ck ((0 : Int) ≤ x1 ∧ x1 < ((90 : Nat) : Int)) ((f_X3_liesBelow r6 (σ.1 11 (Int.toNat x1)) σ).bind (fun r10 => (if r10 = 0 then (f_X4_fail 5 x1 σ).bind (fun r14 => some r14) else ck ((0 : Int) ≤ x1 ∧ x1 < ((90 : Nat) : Int)) ((f_X4_setVar (σ.1 9 (Int.toNat x1)) x2 σ).bind (fun r18 => some r18)))))))
theorem hd_X4_cast : yX4_cast.cls = RX4 ∧ yX4_cast.cls ≠ "java/lang/invoke/MethodHandle" ∧ yX4_cast.cls ≠ "java/lang/invoke/VarHandle" ∧ (parseMethodDescriptor yX4_cast.desc).map (fun d => d.parameters.length) = some 2 := by decide +kernel
set_option maxRecDepth 100000 in
set_option maxHeartbeats 4000000 in
theorem c_X4_cast {l : Launch} {D : va_G} {ca : Nat → ClassId} {ad : Nat → Nat} {x1 : Int} {x2 : Int} (hx1 : inR x1) (hx2 : inR x2) {σ : Mm} : CtV l D vcl ca ad shC NC yX4_cast (Cond.code yX4_cast cX4_cast 3 none :: tbG) { frames := 2, cells := 0, slots := 0, locals := 47 } [.ref (ad 43), .int (oi x1), .int (oi x2)] σ (f_X4_cast x1 x2 σ) := by
  refine ct_V RX4 rfl (by decide) rfl (Nat.le_of_ble_eq_true rfl) (fun p e s m below meth c res X hN hr hlk => ?_)
  show GX4_cast p l e s m _ below meth c D ca ad res 0 [(0, .ref (ad 43)), (1, .int (oi x1)), (2, .int (oi x2))] [] σ (f_X4_cast x1 x2 σ)
  unfold f_X4_cast
  refine q_iload_n X dX4_cast_0 2 rfl ?_
  refine q_bipush X dX4_cast_1 (by decide) ?_
  refine q_icmp_eq X hx2 (by decide) 42 dX4_cast_3 (by decide) (fun h1 => ?_) (fun h1 => ?_)
  · refine q_aload_n X dX4_cast_42 0 rfl ?_
    refine q_aload_n X dX4_cast_43 0 rfl ?_
    refine fg_X4_34 X dX4_cast_44 ?_
    refine fg_X4_97 X dX4_cast_47 ?_
    refine q_iload_n X dX4_cast_50 1 rfl ?_
    refine q_iald X hC9 (by decide) dX4_cast_51 (fun h2 => ?_)
    refine q_iload_n X dX4_cast_52 2 rfl ?_
    refine q_callV X NCok hN Aw_new (c_X4_setVar h2 hx2) (rn_V X (cwV 2 X.2.2.2.2.1 (tbG_good _ (tbG_V mw_620 mw_622 mp_2_9 mw_6 mw_623)) rfl rfl rfl hd_X4_setVar ⟨by decide, by decide⟩) hC43 rfl rfl rfl (Nat.le_of_ble_eq_true rfl) dX4_cast_53) (fun r3 _ => ?_)
    exact q_vret X hr hlk dX4_cast_56
  · refine q_aload_n X dX4_cast_6 0 rfl ?_
    refine fg_X4_34 X dX4_cast_7 ?_
    refine q_aload_n X dX4_cast_10 0 rfl ?_
    refine fg_X4_47 X dX4_cast_11 ?_
    refine q_iload_n X dX4_cast_14 2 rfl ?_
    refine q_callIp X NCok hN Aw_new (c_X2_classOf hx2) (rn_V X (cwV 1 X.2.2.2.2.1 (tbG_good _ (tbG_V mw_722 mw_723 mw_724 mw_8 mw_725)) rfl rfl rfl hd_X2_classOf ⟨by decide, by decide⟩) hC50 rfl rfl rfl (Nat.le_of_ble_eq_true rfl) dX4_cast_15) (fun r6 _ h8 => ?_)
    refine q_aload_n X dX4_cast_18 0 rfl ?_
    refine fg_X4_34 X dX4_cast_19 ?_
    refine fg_X4_103 X dX4_cast_22 ?_
    refine q_iload_n X dX4_cast_25 1 rfl ?_
    refine q_iald X hC11 (by decide) dX4_cast_26 (fun h9 => ?_)
    refine q_callIp X NCok hN Aw_new (c_X3_liesBelow h8 h9) (rn_V X (cwV 2 X.2.2.2.2.1 (tbG_good _ (tbG_V mw_731 mw_359 mw_360 mw_2 mw_361)) rfl rfl rfl hd_X3_liesBelow ⟨by decide, by decide⟩) hC1 rfl rfl rfl (Nat.le_of_ble_eq_true rfl) dX4_cast_27) (fun r10 _ h12 => ?_)
    refine q_if_ne X h12 42 dX4_cast_30 (by decide) (fun h13 => ?_) (fun h13 => ?_)
    · refine q_aload_n X dX4_cast_33 0 rfl ?_
      refine q_iconst X dX4_cast_34 ?_
      refine q_iload_n X dX4_cast_35 1 rfl ?_
      refine q_callV X NCok hN Aw_new (c_X4_fail (by decide) hx1) (rn_V X (cwV 2 X.2.2.2.2.1 (tbG_good _ (tbG_V mw_654 mw_656 mp_2_13 mw_6 mw_657)) rfl rfl rfl hd_X4_fail ⟨by decide, by decide⟩) hC43 rfl rfl rfl (Nat.le_of_ble_eq_true rfl) dX4_cast_36) (fun r14 _ => ?_)
      refine q_goto X 56 dX4_cast_39 (by decide) ?_
      exact q_vret X hr hlk dX4_cast_56
    · refine q_aload_n X dX4_cast_42 0 rfl ?_
      refine q_aload_n X dX4_cast_43 0 rfl ?_
      refine fg_X4_34 X dX4_cast_44 ?_
      refine fg_X4_97 X dX4_cast_47 ?_
      refine q_iload_n X dX4_cast_50 1 rfl ?_
      refine q_iald X hC9 (by decide) dX4_cast_51 (fun h17 => ?_)
      refine q_iload_n X dX4_cast_52 2 rfl ?_
      refine q_callV X NCok hN Aw_new (c_X4_setVar h17 hx2) (rn_V X (cwV 2 X.2.2.2.2.1 (tbG_good _ (tbG_V mw_620 mw_622 mp_2_9 mw_6 mw_623)) rfl rfl rfl hd_X4_setVar ⟨by decide, by decide⟩) hC43 rfl rfl rfl (Nat.le_of_ble_eq_true rfl) dX4_cast_53) (fun r18 _ => ?_)
      exact q_vret X hr hlk dX4_cast_56

/-! SiteObjects$Runner.nodeAsked(III)I -/
abbrev GX4_nodeAsked (p : Program) (l : Launch) (e : Env) (s : State) (m : MethodId) (args : Array Value) (below : List Frame) (meth : Method) (c : Code) (D : va_G) (ca : Nat → ClassId) (ad : Nat → Nat) (σ : Mm) (res : Int) : Nat → List (Nat × Value) → List Value → Mm → Option (Int) → Prop := G p l e { frames := 2, cells := 0, slots := 0, locals := 46 } s m args below meth c (MQ below (QcI D vcl ca ad shC s.heap.size (res, σ)) args s 0 0 (Aw ad shC.length s.heap.size)) 5 D vcl ca ad shC (Aw ad shC.length s.heap.size) res
def f_X4_nodeAsked (x1 : Int) (x2 : Int) (x3 : Int) (σ : Mm) : Option (Int) :=
  (f_X1_topNode σ).bind (fun r1 => (if r1 < 0 then some (-1) else (if 0 ≤ x3 then (f_X5_contextOfAsked 15 r1 x2 x3 σ).bind (fun r6 => (f_X5_nodeWith 15 x1 r6 σ).bind (fun r9 => some r9)) else some (-1))))
theorem hd_X4_nodeAsked : yX4_nodeAsked.cls = RX4 ∧ yX4_nodeAsked.cls ≠ "java/lang/invoke/MethodHandle" ∧ yX4_nodeAsked.cls ≠ "java/lang/invoke/VarHandle" ∧ (parseMethodDescriptor yX4_nodeAsked.desc).map (fun d => d.parameters.length) = some 3 := by decide +kernel
set_option maxRecDepth 100000 in
set_option maxHeartbeats 4000000 in
theorem c_X4_nodeAsked {l : Launch} {D : va_G} {ca : Nat → ClassId} {ad : Nat → Nat} {x1 : Int} {x2 : Int} {x3 : Int} (hx1 : inR x1) (hx2 : inR x2) (hx3 : inR x3) {σ : Mm} : CtI l D vcl ca ad shC NC yX4_nodeAsked (Cond.code yX4_nodeAsked cX4_nodeAsked 5 (some .int) :: tbG) { frames := 2, cells := 0, slots := 0, locals := 46 } [.ref (ad 43), .int (oi x1), .int (oi x2), .int (oi x3)] σ ((f_X4_nodeAsked x1 x2 x3 σ).map (fun r => (r, σ))) := by
  refine ct_Ip RX4 rfl (by decide) rfl (Nat.le_of_ble_eq_true rfl) (fun p e s m below meth c res X hN hr hlk => ?_)
  show GX4_nodeAsked p l e s m _ below meth c D ca ad σ res 0 [(0, .ref (ad 43)), (1, .int (oi x1)), (2, .int (oi x2)), (3, .int (oi x3))] [] σ (f_X4_nodeAsked x1 x2 x3 σ)
  unfold f_X4_nodeAsked
  refine q_aload_n X dX4_nodeAsked_0 0 rfl ?_
  refine fg_X4_12 X dX4_nodeAsked_1 ?_
  refine q_callIp X NCok hN Aw_new c_X1_topNode (rn_V X (cwV 0 X.2.2.2.2.1 (tbG_good _ (tbG_V mw_628 mw_629 mw_630 mw_7 mw_631)) rfl rfl rfl hd_X1_topNode ⟨by decide, by decide⟩) hC44 rfl rfl rfl (Nat.le_of_ble_eq_true rfl) dX4_nodeAsked_4) (fun r1 _ h3 => ?_)
  refine q_istore X [(4, .int (oi r1)), (0, .ref (ad 43)), (1, .int (oi x1)), (2, .int (oi x2)), (3, .int (oi x3))] dX4_nodeAsked_7 (by decide) rfl ?_
  refine q_iload X dX4_nodeAsked_9 0 rfl ?_
  refine q_if_lt X h3 18 dX4_nodeAsked_11 (by decide) (fun h4 => ?_) (fun h4 => ?_)
  · refine q_iconst X dX4_nodeAsked_18 ?_
    exact q_iretp X (by decide) hr hlk dX4_nodeAsked_19
  · refine q_iload_n X dX4_nodeAsked_14 4 rfl ?_
    refine q_if_ge X hx3 20 dX4_nodeAsked_15 (by decide) (fun h5 => ?_) (fun h5 => ?_)
    · refine q_aload_n X dX4_nodeAsked_20 1 rfl ?_
      refine fg_X4_38 X dX4_nodeAsked_21 ?_
      refine fg_X4_156 (o := 15) (Or.inl rfl) X dX4_nodeAsked_24 ?_
      refine q_iload_n X dX4_nodeAsked_27 2 rfl ?_
      refine q_aload_n X dX4_nodeAsked_28 1 rfl ?_
      refine fg_X4_38 X dX4_nodeAsked_29 ?_
      refine fg_X4_156 (o := 15) (Or.inl rfl) X dX4_nodeAsked_32 ?_
      refine q_iload X dX4_nodeAsked_35 0 rfl ?_
      refine q_iload_n X dX4_nodeAsked_37 3 rfl ?_
      refine q_iload_n X dX4_nodeAsked_38 4 rfl ?_
      refine q_callIp X NCok hN Aw_new (c_X5_contextOfAsked (Or.inl rfl) h3 hx2 hx3) (rn_V X (cwV 3 X.2.2.2.2.1 (tbG_good _ (tbG_V mw_749 mw_494 mw_495 mw_5 mw_496)) rfl rfl rfl hd_X5_contextOfAsked ⟨by decide, by decide⟩) (hO9 (Or.inl rfl)) rfl rfl rfl (Nat.le_of_ble_eq_true rfl) dX4_nodeAsked_39) (fun r6 _ h8 => ?_)
      refine q_callIp X NCok hN Aw_new (c_X5_nodeWith (Or.inl rfl) hx1 h8) (rn_V X (cwV 2 X.2.2.2.2.1 (tbG_good _ (tbG_V mw_750 mw_419 mw_420 mw_5 mw_421)) rfl rfl rfl hd_X5_nodeWith ⟨by decide, by decide⟩) (hO9 (Or.inl rfl)) rfl rfl rfl (Nat.le_of_ble_eq_true rfl) dX4_nodeAsked_42) (fun r9 _ h11 => ?_)
      exact q_iretp X h11 hr hlk dX4_nodeAsked_45
    · refine q_iconst X dX4_nodeAsked_18 ?_
      exact q_iretp X (by decide) hr hlk dX4_nodeAsked_19

/-! SiteObjects$Runner.ask(II)V -/
abbrev GX4_ask (p : Program) (l : Launch) (e : Env) (s : State) (m : MethodId) (args : Array Value) (below : List Frame) (meth : Method) (c : Code) (D : va_G) (ca : Nat → ClassId) (ad : Nat → Nat) (res : Mm) : Nat → List (Nat × Value) → List Value → Mm → Option (Mm) → Prop := G p l e { frames := 3, cells := 0, slots := 0, locals := 71 } s m args below meth c (MQ below (QcV D vcl ca ad shC s.heap.size res) args s 0 0 (Aw ad shC.length s.heap.size)) 4 D vcl ca ad shC (Aw ad shC.length s.heap.size) res
def f_X4_ask (x1 : Int) (x2 : Int) (σ : Mm) : Option (Mm) :=
  (if x2 = (-9) then (f_X4_fail 1 x1 σ).bind (fun r2 => some r2) else (f_X2_classOf x2 σ).bind (fun r5 => ck ((0 : Int) ≤ x1 ∧ x1 < ((90 : Nat) : Int)) ((f_X3_methodFor r5 (σ.1 11 (Int.toNat x1)) σ).bind (fun r9 => (if 0 ≤ r9 then (f_X1_isFull σ).bind (fun r13 => (if r13 = 0 then ck ((0 : Int) ≤ x2 ∧ x2 < ((300 : Nat) : Int)) ((f_X4_nodeAsked r9 x1 (σ.1 52 (Int.toNat x2)) σ).bind (fun r18 => ck ((0 : Int) ≤ x1 ∧ x1 < ((90 : Nat) : Int)) ((f_X1_varOf (σ.1 12 (Int.toNat x1)) σ).bind (fun r22 => (f_X4_enter r9 r18 x2 r22 σ).bind (fun r25 => some r25))))) else (f_X4_fail 8 x1 σ).bind (fun r28 => some r28))) else (f_X4_fail 6 x1 σ).bind (fun r31 => some r31))))))
theorem hd_X4_ask : yX4_ask.cls = RX4 ∧ yX4_ask.cls ≠ "java/lang/invoke/MethodHandle" ∧ yX4_ask.cls ≠ "java/lang/invoke/VarHandle" ∧ (parseMethodDescriptor yX4_ask.desc).map (fun d => d.parameters.length) = some 2 := by decide +kernel
set_option maxRecDepth 100000 in
set_option maxHeartbeats 4000000 in
theorem c_X4_ask {l : Launch} {D : va_G} {ca : Nat → ClassId} {ad : Nat → Nat} {x1 : Int} {x2 : Int} (hx1 : inR x1) (hx2 : inR x2) {σ : Mm} : CtV l D vcl ca ad shC NC yX4_ask (Cond.code yX4_ask cX4_ask 4 none :: tbG) { frames := 3, cells := 0, slots := 0, locals := 71 } [.ref (ad 43), .int (oi x1), .int (oi x2)] σ (f_X4_ask x1 x2 σ) := by
  refine ct_V RX4 rfl (by decide) rfl (Nat.le_of_ble_eq_true rfl) (fun p e s m below meth c res X hN hr hlk => ?_)
  show GX4_ask p l e s m _ below meth c D ca ad res 0 [(0, .ref (ad 43)), (1, .int (oi x1)), (2, .int (oi x2))] [] σ (f_X4_ask x1 x2 σ)
  unfold f_X4_ask
  refine q_iload_n X dX4_ask_0 2 rfl ?_
  refine q_bipush X dX4_ask_1 (by decide) ?_
  refine q_icmp_ne X hx2 (by decide) 13 dX4_ask_3 (by decide) (fun h1 => ?_) (fun h1 => ?_)
  · refine q_aload_n X dX4_ask_6 0 rfl ?_
    refine q_iconst X dX4_ask_7 ?_
    refine q_iload_n X dX4_ask_8 1 rfl ?_
    refine q_callV X NCok hN Aw_new (c_X4_fail (by decide) hx1) (rn_V X (cwV 2 X.2.2.2.2.1 (tbG_good _ (tbG_V mw_654 mw_656 mp_2_13 mw_6 mw_657)) rfl rfl rfl hd_X4_fail ⟨by decide, by decide⟩) hC43 rfl rfl rfl (Nat.le_of_ble_eq_true rfl) dX4_ask_9) (fun r2 _ => ?_)
    exact q_vret X hr hlk dX4_ask_12
  · refine q_aload_n X dX4_ask_13 0 rfl ?_
    refine fg_X4_34 X dX4_ask_14 ?_
    refine q_aload_n X dX4_ask_17 0 rfl ?_
    refine fg_X4_47 X dX4_ask_18 ?_
    refine q_iload_n X dX4_ask_21 2 rfl ?_
    refine q_callIp X NCok hN Aw_new (c_X2_classOf hx2) (rn_V X (cwV 1 X.2.2.2.2.1 (tbG_good _ (tbG_V mw_722 mw_723 mw_724 mw_8 mw_725)) rfl rfl rfl hd_X2_classOf ⟨by decide, by decide⟩) hC50 rfl rfl rfl (Nat.le_of_ble_eq_true rfl) dX4_ask_22) (fun r5 _ h7 => ?_)
    refine q_aload_n X dX4_ask_25 0 rfl ?_
    refine fg_X4_34 X dX4_ask_26 ?_
    refine fg_X4_103 X dX4_ask_29 ?_
    refine q_iload_n X dX4_ask_32 1 rfl ?_
    refine q_iald X hC11 (by decide) dX4_ask_33 (fun h8 => ?_)
    refine q_callIp X NCok hN Aw_new (c_X3_methodFor h7 h8) (rn_V X (cwV 2 X.2.2.2.2.1 (tbG_good _ (tbG_V mw_740 mw_490 mw_491 mw_2 mw_492)) rfl rfl rfl hd_X3_methodFor ⟨by decide, by decide⟩) hC1 rfl rfl rfl (Nat.le_of_ble_eq_true rfl) dX4_ask_34) (fun r9 _ h11 => ?_)
    refine q_istore_n X [(3, .int (oi r9)), (0, .ref (ad 43)), (1, .int (oi x1)), (2, .int (oi x2))] dX4_ask_37 (by decide) rfl ?_
    refine q_iload_n X dX4_ask_38 0 rfl ?_
    refine q_if_ge X h11 52 dX4_ask_39 (by decide) (fun h12 => ?_) (fun h12 => ?_)
    · refine q_aload_n X dX4_ask_52 1 rfl ?_
      refine fg_X4_12 X dX4_ask_53 ?_
      refine q_callIp X NCok hN Aw_new c_X1_isFull (rn_V X (cwV 0 X.2.2.2.2.1 (tbG_good _ (tbG_V mw_741 mw_742 mw_743 mw_7 mw_744)) rfl rfl rfl hd_X1_isFull ⟨by decide, by decide⟩) hC44 rfl rfl rfl (Nat.le_of_ble_eq_true rfl) dX4_ask_56) (fun r13 _ h15 => ?_)
      refine q_if_eq X h15 72 dX4_ask_59 (by decide) (fun h16 => ?_) (fun h16 => ?_)
      · refine q_aload_n X dX4_ask_72 1 rfl ?_
        refine q_iload_n X dX4_ask_73 0 rfl ?_
        refine q_aload_n X dX4_ask_74 1 rfl ?_
        refine q_iload_n X dX4_ask_75 0 rfl ?_
        refine q_iload_n X dX4_ask_76 2 rfl ?_
        refine q_aload_n X dX4_ask_77 1 rfl ?_
        refine fg_X4_47 X dX4_ask_78 ?_
        refine fg_X4_210 X dX4_ask_81 ?_
        refine q_iload_n X dX4_ask_84 3 rfl ?_
        refine q_iald X hC52 (by decide) dX4_ask_85 (fun h17 => ?_)
        refine q_callIp X NCok hN Aw_new (c_X4_nodeAsked h11 hx1 h17) (rn_V X (cwV 3 X.2.2.2.2.1 (tbG_good _ (tbG_V mw_745 mw_747 mp_3_8 mw_6 mw_748)) rfl rfl rfl hd_X4_nodeAsked ⟨by decide, by decide⟩) hC43 rfl rfl rfl (Nat.le_of_ble_eq_true rfl) dX4_ask_86) (fun r18 _ h20 => ?_)
        refine q_iload_n X dX4_ask_89 3 rfl ?_
        refine q_aload_n X dX4_ask_90 1 rfl ?_
        refine fg_X4_12 X dX4_ask_91 ?_
        refine q_aload_n X dX4_ask_94 1 rfl ?_
        refine fg_X4_34 X dX4_ask_95 ?_
        refine fg_X4_216 X dX4_ask_98 ?_
        refine q_iload_n X dX4_ask_101 2 rfl ?_
        refine q_iald X hC12 (by decide) dX4_ask_102 (fun h21 => ?_)
        refine q_callIp X NCok hN Aw_new (c_X1_varOf h21) (rn_V X (cwV 1 X.2.2.2.2.1 (tbG_good _ (tbG_V mw_675 mw_676 mw_677 mw_7 mw_678)) rfl rfl rfl hd_X1_varOf ⟨by decide, by decide⟩) hC44 rfl rfl rfl (Nat.le_of_ble_eq_true rfl) dX4_ask_103) (fun r22 _ h24 => ?_)
        refine q_callV X NCok hN Aw_new (c_X4_enter h11 h20 hx2 h24) (rn_V X (cwV 4 X.2.2.2.2.1 (tbG_good _ (tbG_V mw_609 mw_611 mp_2_8 mw_6 mw_612)) rfl rfl rfl hd_X4_enter ⟨by decide, by decide⟩) hC43 rfl rfl rfl (Nat.le_of_ble_eq_true rfl) dX4_ask_106) (fun r25 _ => ?_)
        exact q_vret X hr hlk dX4_ask_109
      · refine q_aload_n X dX4_ask_62 1 rfl ?_
        refine q_bipush X dX4_ask_63 (by decide) ?_
        refine q_iload_n X dX4_ask_65 2 rfl ?_
        refine q_callV X NCok hN Aw_new (c_X4_fail (by decide) hx1) (rn_V X (cwV 2 X.2.2.2.2.1 (tbG_good _ (tbG_V mw_654 mw_656 mp_2_13 mw_6 mw_657)) rfl rfl rfl hd_X4_fail ⟨by decide, by decide⟩) hC43 rfl rfl rfl (Nat.le_of_ble_eq_true rfl) dX4_ask_66) (fun r28 _ => ?_)
        refine q_goto X 109 dX4_ask_69 (by decide) ?_
        exact q_vret X hr hlk dX4_ask_109
    · refine q_aload_n X dX4_ask_42 1 rfl ?_
      refine q_bipush X dX4_ask_43 (by decide) ?_
      refine q_iload_n X dX4_ask_45 2 rfl ?_
      refine q_callV X NCok hN Aw_new (c_X4_fail (by decide) hx1) (rn_V X (cwV 2 X.2.2.2.2.1 (tbG_good _ (tbG_V mw_654 mw_656 mp_2_13 mw_6 mw_657)) rfl rfl rfl hd_X4_fail ⟨by decide, by decide⟩) hC43 rfl rfl rfl (Nat.le_of_ble_eq_true rfl) dX4_ask_46) (fun r31 _ => ?_)
      refine q_goto X 109 dX4_ask_49 (by decide) ?_
      exact q_vret X hr hlk dX4_ask_109

/-! SiteObjects$Runner.nodeCalled(II)I -/
abbrev GX4_nodeCalled (p : Program) (l : Launch) (e : Env) (s : State) (m : MethodId) (args : Array Value) (below : List Frame) (meth : Method) (c : Code) (D : va_G) (ca : Nat → ClassId) (ad : Nat → Nat) (σ : Mm) (res : Int) : Nat → List (Nat × Value) → List Value → Mm → Option (Int) → Prop := G p l e { frames := 2, cells := 0, slots := 0, locals := 45 } s m args below meth c (MQ below (QcI D vcl ca ad shC s.heap.size (res, σ)) args s 0 0 (Aw ad shC.length s.heap.size)) 4 D vcl ca ad shC (Aw ad shC.length s.heap.size) res
def f_X4_nodeCalled (x1 : Int) (x2 : Int) (σ : Mm) : Option (Int) :=
  (f_X1_topNode σ).bind (fun r1 => (if 0 ≤ r1 then (f_X5_contextOfCalled 15 r1 x2 σ).bind (fun r5 => (f_X5_nodeWith 15 x1 r5 σ).bind (fun r8 => some r8)) else some (-1)))
theorem hd_X4_nodeCalled : yX4_nodeCalled.cls = RX4 ∧ yX4_nodeCalled.cls ≠ "java/lang/invoke/MethodHandle" ∧ yX4_nodeCalled.cls ≠ "java/lang/invoke/VarHandle" ∧ (parseMethodDescriptor yX4_nodeCalled.desc).map (fun d => d.parameters.length) = some 2 := by decide +kernel
set_option maxRecDepth 100000 in
set_option maxHeartbeats 4000000 in
theorem c_X4_nodeCalled {l : Launch} {D : va_G} {ca : Nat → ClassId} {ad : Nat → Nat} {x1 : Int} {x2 : Int} (hx1 : inR x1) (hx2 : inR x2) {σ : Mm} : CtI l D vcl ca ad shC NC yX4_nodeCalled (Cond.code yX4_nodeCalled cX4_nodeCalled 4 (some .int) :: tbG) { frames := 2, cells := 0, slots := 0, locals := 45 } [.ref (ad 43), .int (oi x1), .int (oi x2)] σ ((f_X4_nodeCalled x1 x2 σ).map (fun r => (r, σ))) := by
  refine ct_Ip RX4 rfl (by decide) rfl (Nat.le_of_ble_eq_true rfl) (fun p e s m below meth c res X hN hr hlk => ?_)
  show GX4_nodeCalled p l e s m _ below meth c D ca ad σ res 0 [(0, .ref (ad 43)), (1, .int (oi x1)), (2, .int (oi x2))] [] σ (f_X4_nodeCalled x1 x2 σ)
  unfold f_X4_nodeCalled
  refine q_aload_n X dX4_nodeCalled_0 0 rfl ?_
  refine fg_X4_12 X dX4_nodeCalled_1 ?_
  refine q_callIp X NCok hN Aw_new c_X1_topNode (rn_V X (cwV 0 X.2.2.2.2.1 (tbG_good _ (tbG_V mw_628 mw_629 mw_630 mw_7 mw_631)) rfl rfl rfl hd_X1_topNode ⟨by decide, by decide⟩) hC44 rfl rfl rfl (Nat.le_of_ble_eq_true rfl) dX4_nodeCalled_4) (fun r1 _ h3 => ?_)
  refine q_istore_n X [(3, .int (oi r1)), (0, .ref (ad 43)), (1, .int (oi x1)), (2, .int (oi x2))] dX4_nodeCalled_7 (by decide) rfl ?_
  refine q_iload_n X dX4_nodeCalled_8 0 rfl ?_
  refine q_if_ge X h3 16 dX4_nodeCalled_9 (by decide) (fun h4 => ?_) (fun h4 => ?_)
  · refine q_aload_n X dX4_nodeCalled_16 1 rfl ?_
    refine fg_X4_38 X dX4_nodeCalled_17 ?_
    refine fg_X4_156 (o := 15) (Or.inl rfl) X dX4_nodeCalled_20 ?_
    refine q_iload_n X dX4_nodeCalled_23 2 rfl ?_
    refine q_aload_n X dX4_nodeCalled_24 1 rfl ?_
    refine fg_X4_38 X dX4_nodeCalled_25 ?_
    refine fg_X4_156 (o := 15) (Or.inl rfl) X dX4_nodeCalled_28 ?_
    refine q_iload_n X dX4_nodeCalled_31 0 rfl ?_
    refine q_iload_n X dX4_nodeCalled_32 3 rfl ?_
    refine q_callIp X NCok hN Aw_new (c_X5_contextOfCalled (Or.inl rfl) h3 hx2) (rn_V X (cwV 2 X.2.2.2.2.1 (tbG_good _ (tbG_V mw_759 mw_518 mw_519 mw_5 mw_520)) rfl rfl rfl hd_X5_contextOfCalled ⟨by decide, by decide⟩) (hO9 (Or.inl rfl)) rfl rfl rfl (Nat.le_of_ble_eq_true rfl) dX4_nodeCalled_33) (fun r5 _ h7 => ?_)
    refine q_callIp X NCok hN Aw_new (c_X5_nodeWith (Or.inl rfl) hx1 h7) (rn_V X (cwV 2 X.2.2.2.2.1 (tbG_good _ (tbG_V mw_750 mw_419 mw_420 mw_5 mw_421)) rfl rfl rfl hd_X5_nodeWith ⟨by decide, by decide⟩) (hO9 (Or.inl rfl)) rfl rfl rfl (Nat.le_of_ble_eq_true rfl) dX4_nodeCalled_36) (fun r8 _ h10 => ?_)
    exact q_iretp X h10 hr hlk dX4_nodeCalled_39
  · refine q_iconst X dX4_nodeCalled_12 ?_
    refine q_goto X 39 dX4_nodeCalled_13 (by decide) ?_
    exact q_iretp X (by decide) hr hlk dX4_nodeCalled_39

/-! SiteObjects$Runner.call(I)V -/
abbrev GX4_call (p : Program) (l : Launch) (e : Env) (s : State) (m : MethodId) (args : Array Value) (below : List Frame) (meth : Method) (c : Code) (D : va_G) (ca : Nat → ClassId) (ad : Nat → Nat) (res : Mm) : Nat → List (Nat × Value) → List Value → Mm → Option (Mm) → Prop := G p l e { frames := 3, cells := 0, slots := 0, locals := 71 } s m args below meth c (MQ below (QcV D vcl ca ad shC s.heap.size res) args s 0 0 (Aw ad shC.length s.heap.size)) 3 D vcl ca ad shC (Aw ad shC.length s.heap.size) res
def f_X4_call (x1 : Int) (σ : Mm) : Option (Mm) :=
  (f_X1_isFull σ).bind (fun r1 => (if r1 = 0 then ck ((0 : Int) ≤ x1 ∧ x1 < ((90 : Nat) : Int)) ((f_X4_nodeCalled (σ.1 11 (Int.toNat x1)) x1 σ).bind (fun r6 => ck ((0 : Int) ≤ x1 ∧ x1 < ((90 : Nat) : Int)) ((f_X1_varOf (σ.1 12 (Int.toNat x1)) σ).bind (fun r10 => (f_X4_enter (σ.1 11 (Int.toNat x1)) r6 (-9) r10 σ).bind (fun r13 => some r13))))) else (f_X4_fail 8 x1 σ).bind (fun r16 => some r16)))
theorem hd_X4_call : yX4_call.cls = RX4 ∧ yX4_call.cls ≠ "java/lang/invoke/MethodHandle" ∧ yX4_call.cls ≠ "java/lang/invoke/VarHandle" ∧ (parseMethodDescriptor yX4_call.desc).map (fun d => d.parameters.length) = some 1 := by decide +kernel
set_option maxRecDepth 100000 in
set_option maxHeartbeats 4000000 in
theorem c_X4_call {l : Launch} {D : va_G} {ca : Nat → ClassId} {ad : Nat → Nat} {x1 : Int} (hx1 : inR x1) {σ : Mm} : CtV l D vcl ca ad shC NC yX4_call (Cond.code yX4_call cX4_call 3 none :: tbG) { frames := 3, cells := 0, slots := 0, locals := 71 } [.ref (ad 43), .int (oi x1)] σ (f_X4_call x1 σ) := by
  refine ct_V RX4 rfl (by decide) rfl (Nat.le_of_ble_eq_true rfl) (fun p e s m below meth c res X hN hr hlk => ?_)
  show GX4_call p l e s m _ below meth c D ca ad res 0 [(0, .ref (ad 43)), (1, .int (oi x1))] [] σ (f_X4_call x1 σ)
  unfold f_X4_call
  refine q_aload_n X dX4_call_0 0 rfl ?_
  refine fg_X4_12 X dX4_call_1 ?_
  refine q_callIp X NCok hN Aw_new c_X1_isFull (rn_V X (cwV 0 X.2.2.2.2.1 (tbG_good _ (tbG_V mw_741 mw_742 mw_743 mw_7 mw_744)) rfl rfl rfl hd_X1_isFull ⟨by decide, by decide⟩) hC44 rfl rfl rfl (Nat.le_of_ble_eq_true rfl) dX4_call_4) (fun r1 _ h3 => ?_)
  refine q_if_eq X h3 20 dX4_call_7 (by decide) (fun h4 => ?_) (fun h4 => ?_)
  · refine q_aload_n X dX4_call_20 0 rfl ?_
    refine fg_X4_34 X dX4_call_21 ?_
    refine fg_X4_103 X dX4_call_24 ?_
    refine q_iload_n X dX4_call_27 1 rfl ?_
    refine q_iald X hC11 (by decide) dX4_call_28 (fun h5 => ?_)
    refine q_istore_n X [(2, .int (oi (σ.1 11 (Int.toNat x1)))), (0, .ref (ad 43)), (1, .int (oi x1))] dX4_call_29 (by decide) rfl ?_
    refine q_aload_n X dX4_call_30 1 rfl ?_
    refine q_iload_n X dX4_call_31 0 rfl ?_
    refine q_aload_n X dX4_call_32 1 rfl ?_
    refine q_iload_n X dX4_call_33 0 rfl ?_
    refine q_iload_n X dX4_call_34 2 rfl ?_
    refine q_callIp X NCok hN Aw_new (c_X4_nodeCalled h5 hx1) (rn_V X (cwV 2 X.2.2.2.2.1 (tbG_good _ (tbG_V mw_755 mw_757 mp_3_10 mw_6 mw_758)) rfl rfl rfl hd_X4_nodeCalled ⟨by decide, by decide⟩) hC43 rfl rfl rfl (Nat.le_of_ble_eq_true rfl) dX4_call_35) (fun r6 _ h8 => ?_)
    refine q_bipush X dX4_call_38 (by decide) ?_
    refine q_aload_n X dX4_call_40 1 rfl ?_
    refine fg_X4_12 X dX4_call_41 ?_
    refine q_aload_n X dX4_call_44 1 rfl ?_
    refine fg_X4_34 X dX4_call_45 ?_
    refine fg_X4_216 X dX4_call_48 ?_
    refine q_iload_n X dX4_call_51 2 rfl ?_
    refine q_iald X hC12 (by decide) dX4_call_52 (fun h9 => ?_)
    refine q_callIp X NCok hN Aw_new (c_X1_varOf h9) (rn_V X (cwV 1 X.2.2.2.2.1 (tbG_good _ (tbG_V mw_675 mw_676 mw_677 mw_7 mw_678)) rfl rfl rfl hd_X1_varOf ⟨by decide, by decide⟩) hC44 rfl rfl rfl (Nat.le_of_ble_eq_true rfl) dX4_call_53) (fun r10 _ h12 => ?_)
    refine q_callV X NCok hN Aw_new (c_X4_enter h5 h8 (by decide) h12) (rn_V X (cwV 4 X.2.2.2.2.1 (tbG_good _ (tbG_V mw_609 mw_611 mp_2_8 mw_6 mw_612)) rfl rfl rfl hd_X4_enter ⟨by decide, by decide⟩) hC43 rfl rfl rfl (Nat.le_of_ble_eq_true rfl) dX4_call_56) (fun r13 _ => ?_)
    exact q_vret X hr hlk dX4_call_59
  · refine q_aload_n X dX4_call_10 0 rfl ?_
    refine q_bipush X dX4_call_11 (by decide) ?_
    refine q_iload_n X dX4_call_13 1 rfl ?_
    refine q_callV X NCok hN Aw_new (c_X4_fail (by decide) hx1) (rn_V X (cwV 2 X.2.2.2.2.1 (tbG_good _ (tbG_V mw_654 mw_656 mp_2_13 mw_6 mw_657)) rfl rfl rfl hd_X4_fail ⟨by decide, by decide⟩) hC43 rfl rfl rfl (Nat.le_of_ble_eq_true rfl) dX4_call_14) (fun r16 _ => ?_)
    refine q_goto X 59 dX4_call_17 (by decide) ?_
    exact q_vret X hr hlk dX4_call_59

/-! SiteObjects$Runner.maybe(I)V -/
abbrev GX4_maybe (p : Program) (l : Launch) (e : Env) (s : State) (m : MethodId) (args : Array Value) (below : List Frame) (meth : Method) (c : Code) (D : va_G) (ca : Nat → ClassId) (ad : Nat → Nat) (res : Mm) : Nat → List (Nat × Value) → List Value → Mm → Option (Mm) → Prop := G p l e { frames := 1, cells := 0, slots := 0, locals := 21 } s m args below meth c (MQ below (QcV D vcl ca ad shC s.heap.size res) args s 0 0 (Aw ad shC.length s.heap.size)) 3 D vcl ca ad shC (Aw ad shC.length s.heap.size) res
def f_X4_maybe_36 (x1 : Int) (s0 : Int) (σ : Mm) : Option (Mm) :=
  ck ((0 : Int) ≤ 8 ∧ 8 < ((9 : Nat) : Int)) (ck (inR ((σ.1 49 8) + 1)) (ck ((0 : Int) ≤ 8 ∧ 8 < ((9 : Nat) : Int)) ((if s0 = 0 then some (stI σ 49 8 ((σ.1 49 8) + 1)) else (f_X1_topNext (stI σ 49 8 ((σ.1 49 8) + 1))).bind (fun r4 => ck (inR (r4 + x1)) ((f_X1_goOnAt (r4 + x1) (stI σ 49 8 ((σ.1 49 8) + 1))).bind (fun r8 => some r8)))))))
set_option maxRecDepth 100000 in
set_option maxHeartbeats 4000000 in
theorem t_X4_maybe_36 {p : Program} {l : Launch} {e : Env} {s : State} {m : MethodId} {args : Array Value} {below : List Frame} {meth : Method} {c : Code} {D : va_G} {ca : Nat → ClassId} {ad : Nat → Nat} {res : Mm} (X : Cx p s m args c cX4_maybe 3 RX4 (Cond.code yX4_maybe cX4_maybe 3 none :: tbG) D vcl ca) (hN : NC s) (hr : meth.sig.returnType = none) (hlk : meth.locks = false) : ∀ (x1 : Int) (s0 : Int) (σ : Mm), inR x1 → inR s0 → GX4_maybe p l e s m args below meth c D ca ad res 36 [(0, .ref (ad 43)), (1, .int (oi x1))] [.int (oi s0)] σ (f_X4_maybe_36 x1 s0 σ) := by
  intro x1 s0 σ hx1 hs0
  unfold f_X4_maybe_36
  refine q_istore_n X [(2, .int (oi s0)), (0, .ref (ad 43)), (1, .int (oi x1))] dX4_maybe_36 (by decide) rfl ?_
  refine q_aload_n X dX4_maybe_37 1 rfl ?_
  refine fg_X4_18 X dX4_maybe_38 ?_
  refine q_bipush X dX4_maybe_41 (by decide) ?_
  refine q_dup2 X dX4_maybe_43 rfl rfl ?_
  refine q_iald X hC49 (by decide) dX4_maybe_44 (fun h1 => ?_)
  refine q_iconst X dX4_maybe_45 ?_
  refine q_iadd X dX4_maybe_46 ?_
  refine q_ck (fun h2 => ?_)
  refine q_iast X hC49 (by decide) h2 dX4_maybe_47 ?_
  refine q_iload_n X dX4_maybe_48 0 rfl ?_
  refine q_if_eq X hs0 68 dX4_maybe_49 (by decide) (fun h3 => ?_) (fun h3 => ?_)
  · exact q_vret X hr hlk dX4_maybe_68
  · refine q_aload_n X dX4_maybe_52 1 rfl ?_
    refine fg_X4_12 X dX4_maybe_53 ?_
    refine q_aload_n X dX4_maybe_56 1 rfl ?_
    refine fg_X4_12 X dX4_maybe_57 ?_
    refine q_callIp X NCok hN Aw_new c_X1_topNext (rn_V X (cwV 0 X.2.2.2.2.1 (tbG_good _ (tbG_V mw_645 mw_646 mw_647 mw_7 mw_648)) rfl rfl rfl hd_X1_topNext ⟨by decide, by decide⟩) hC44 rfl rfl rfl (Nat.le_of_ble_eq_true rfl) dX4_maybe_60) (fun r4 _ h6 => ?_)
    refine q_iload_n X dX4_maybe_63 2 rfl ?_
    refine q_iadd X dX4_maybe_64 ?_
    refine q_ck (fun h7 => ?_)
    refine q_callV X NCok hN Aw_new (c_X1_goOnAt h7) (rn_V X (cwV 1 X.2.2.2.2.1 (tbG_good _ (tbG_V mw_658 mw_659 mw_660 mw_7 mw_661)) rfl rfl rfl hd_X1_goOnAt ⟨by decide, by decide⟩) hC44 rfl rfl rfl (Nat.le_of_ble_eq_true rfl) dX4_maybe_65) (fun r8 _ => ?_)
    exact q_vret X hr hlk dX4_maybe_68
def f_X4_maybe (x1 : Int) (σ : Mm) : Option (Mm) :=
  ck ((0 : Int) ≤ 8 ∧ 8 < ((9 : Nat) : Int)) ((if 64 ≤ (σ.1 49 8) then f_X4_maybe_36 x1 0 σ else ck ((0 : Int) ≤ 8 ∧ 8 < ((9 : Nat) : Int)) ((if ((lUsr (σ.2 43 5) (σ.1 49 8)) &&& 1) = 0 then f_X4_maybe_36 x1 0 σ else f_X4_maybe_36 x1 1 σ))))
theorem hd_X4_maybe : yX4_maybe.cls = RX4 ∧ yX4_maybe.cls ≠ "java/lang/invoke/MethodHandle" ∧ yX4_maybe.cls ≠ "java/lang/invoke/VarHandle" ∧ (parseMethodDescriptor yX4_maybe.desc).map (fun d => d.parameters.length) = some 1 := by decide +kernel
set_option maxRecDepth 100000 in
set_option maxHeartbeats 4000000 in
theorem c_X4_maybe {l : Launch} {D : va_G} {ca : Nat → ClassId} {ad : Nat → Nat} {x1 : Int} (hx1 : inR x1) {σ : Mm} : CtV l D vcl ca ad shC NC yX4_maybe (Cond.code yX4_maybe cX4_maybe 3 none :: tbG) { frames := 1, cells := 0, slots := 0, locals := 21 } [.ref (ad 43), .int (oi x1)] σ (f_X4_maybe x1 σ) := by
  refine ct_V RX4 rfl (by decide) rfl (Nat.le_of_ble_eq_true rfl) (fun p e s m below meth c res X hN hr hlk => ?_)
  show GX4_maybe p l e s m _ below meth c D ca ad res 0 [(0, .ref (ad 43)), (1, .int (oi x1))] [] σ (f_X4_maybe x1 σ)
  unfold f_X4_maybe
  refine q_aload_n X dX4_maybe_0 0 rfl ?_
  refine fg_X4_18 X dX4_maybe_1 ?_
  refine q_bipush X dX4_maybe_4 (by decide) ?_
  refine q_iald X hC49 (by decide) dX4_maybe_6 (fun h11 => ?_)
  refine q_bipush X dX4_maybe_7 (by decide) ?_
  refine q_icmp_ge X h11 (by decide) 35 dX4_maybe_9 (by decide) (fun h12 => ?_) (fun h12 => ?_)
  · refine q_iconst X dX4_maybe_35 ?_
    refine q_sub [(0, .ref (ad 43)), (1, .int (oi x1))] [0, 1] rfl ?_
    exact t_X4_maybe_36 X hN hr hlk x1 0 σ hx1 (by decide)
  · refine q_aload_n X dX4_maybe_12 0 rfl ?_
    refine fg_X4_22 X dX4_maybe_13 ?_
    refine q_aload_n X dX4_maybe_16 0 rfl ?_
    refine fg_X4_18 X dX4_maybe_17 ?_
    refine q_bipush X dX4_maybe_20 (by decide) ?_
    refine q_iald X hC49 (by decide) dX4_maybe_22 (fun h13 => ?_)
    refine q_lushr X dX4_maybe_23 ?_
    refine q_lconst X 1 dX4_maybe_24 rfl ?_
    refine q_land X dX4_maybe_25 ?_
    refine q_lconst X 0 dX4_maybe_26 rfl ?_
    refine q_lcmp_eq X 35 dX4_maybe_27 dX4_maybe_28 (by decide) (fun h14 => ?_) (fun h14 => ?_)
    · refine q_iconst X dX4_maybe_35 ?_
      refine q_sub [(0, .ref (ad 43)), (1, .int (oi x1))] [0, 1] rfl ?_
      exact t_X4_maybe_36 X hN hr hlk x1 0 σ hx1 (by decide)
    · refine q_iconst X dX4_maybe_31 ?_
      refine q_goto X 36 dX4_maybe_32 (by decide) ?_
      refine q_sub [(0, .ref (ad 43)), (1, .int (oi x1))] [0, 1] rfl ?_
      exact t_X4_maybe_36 X hN hr hlk x1 1 σ hx1 (by decide)

/-! SiteObjects$Runner.setGlobal(II)V -/
abbrev GX4_setGlobal (p : Program) (l : Launch) (e : Env) (s : State) (m : MethodId) (args : Array Value) (below : List Frame) (meth : Method) (c : Code) (D : va_G) (ca : Nat → ClassId) (ad : Nat → Nat) (res : Mm) : Nat → List (Nat × Value) → List Value → Mm → Option (Mm) → Prop := G p l e { frames := 1, cells := 0, slots := 0, locals := 24 } s m args below meth c (MQ below (QcV D vcl ca ad shC s.heap.size res) args s 0 0 (Aw ad shC.length s.heap.size)) 3 D vcl ca ad shC (Aw ad shC.length s.heap.size) res
def f_X4_setGlobal (x1 : Int) (x2 : Int) (σ : Mm) : Option (Mm) :=
  ck ((0 : Int) ≤ x1 ∧ x1 < ((4 : Nat) : Int)) (ck ((0 : Int) ≤ x1 ∧ x1 < ((4 : Nat) : Int)) ((f_X4_tallyHold x2 ((stI σ 55 (Int.toNat x1) x2).2 18 (Int.toNat x1)) (stI σ 55 (Int.toNat x1) x2)).bind (fun r1 => some r1)))
theorem hd_X4_setGlobal : yX4_setGlobal.cls = RX4 ∧ yX4_setGlobal.cls ≠ "java/lang/invoke/MethodHandle" ∧ yX4_setGlobal.cls ≠ "java/lang/invoke/VarHandle" ∧ (parseMethodDescriptor yX4_setGlobal.desc).map (fun d => d.parameters.length) = some 2 := by decide +kernel
set_option maxRecDepth 100000 in
set_option maxHeartbeats 4000000 in
theorem c_X4_setGlobal {l : Launch} {D : va_G} {ca : Nat → ClassId} {ad : Nat → Nat} {x1 : Int} {x2 : Int} (hx1 : inR x1) (hx2 : inR x2) {σ : Mm} : CtV l D vcl ca ad shC NC yX4_setGlobal (Cond.code yX4_setGlobal cX4_setGlobal 3 none :: tbG) { frames := 1, cells := 0, slots := 0, locals := 24 } [.ref (ad 43), .int (oi x1), .int (oi x2)] σ (f_X4_setGlobal x1 x2 σ) := by
  refine ct_V RX4 rfl (by decide) rfl (Nat.le_of_ble_eq_true rfl) (fun p e s m below meth c res X hN hr hlk => ?_)
  show GX4_setGlobal p l e s m _ below meth c D ca ad res 0 [(0, .ref (ad 43)), (1, .int (oi x1)), (2, .int (oi x2))] [] σ (f_X4_setGlobal x1 x2 σ)
  unfold f_X4_setGlobal
  refine q_aload_n X dX4_setGlobal_0 0 rfl ?_
  refine fg_X4_47 X dX4_setGlobal_1 ?_
  refine fg_X4_147 X dX4_setGlobal_4 ?_
  refine q_iload_n X dX4_setGlobal_7 1 rfl ?_
  refine q_iload_n X dX4_setGlobal_8 2 rfl ?_
  refine q_iast X hC55 (by decide) hx2 dX4_setGlobal_9 ?_
  refine q_aload_n X dX4_setGlobal_10 0 rfl ?_
  refine q_iload_n X dX4_setGlobal_11 2 rfl ?_
  refine q_aload_n X dX4_setGlobal_12 0 rfl ?_
  refine fg_X4_38 X dX4_setGlobal_13 ?_
  refine fg_X4_263 (o := 15) (Or.inl rfl) X dX4_setGlobal_16 ?_
  refine q_iload_n X dX4_setGlobal_19 1 rfl ?_
  refine q_lald X (hF3 (o := 15) (Or.inl rfl)) (by decide) dX4_setGlobal_20 ?_
  refine q_callV X NCok hN Aw_new (c_X4_tallyHold hx2) (rn_V X (cwV 2 X.2.2.2.2.1 (tbG_good _ (tbG_V mw_633 mw_635 mp_2_10 mw_6 mw_636)) rfl rfl rfl hd_X4_tallyHold ⟨by decide, by decide⟩) hC43 rfl rfl rfl (Nat.le_of_ble_eq_true rfl) dX4_setGlobal_21) (fun r1 _ => ?_)
  exact q_vret X hr hlk dX4_setGlobal_24

/-! SiteObjects$Runner.guardFor(I)I -/
abbrev GX4_guardFor (p : Program) (l : Launch) (e : Env) (s : State) (m : MethodId) (args : Array Value) (below : List Frame) (meth : Method) (c : Code) (D : va_G) (ca : Nat → ClassId) (ad : Nat → Nat) (σ : Mm) (res : Int) : Nat → List (Nat × Value) → List Value → Mm → Option (Int) → Prop := G p l e { frames := 1, cells := 0, slots := 0, locals := 22 } s m args below meth c (MQ below (QcI D vcl ca ad shC s.heap.size (res, σ)) args s 0 0 (Aw ad shC.length s.heap.size)) 5 D vcl ca ad shC (Aw ad shC.length s.heap.size) res
def f_X4_guardFor_14 : Nat → Int → Int → Int → Mm → Option (Int)
  | 0, _, _, _, _ => none
  | n + 1, x1, x2, x3, σ => (if x3 < 0 then some (-1) else (f_X1_topMethod σ).bind (fun r2 => (f_X3_stepAt r2 x3 σ).bind (fun r5 => (if r5 < 0 then ck (inR (x3 + (-1))) (f_X4_guardFor_14 n x1 x2 (x3 + (-1)) σ) else (f_X3_covers r5 x2 σ).bind (fun r10 => (if r10 = 0 then ck (inR (x3 + (-1))) (f_X4_guardFor_14 n x1 x2 (x3 + (-1)) σ) else ck ((0 : Int) ≤ r5 ∧ r5 < ((90 : Nat) : Int)) ((f_X3_liesBelow x1 (σ.1 11 (Int.toNat r5)) σ).bind (fun r16 => (if r16 = 0 then ck (inR (x3 + (-1))) (f_X4_guardFor_14 n x1 x2 (x3 + (-1)) σ) else some r5)))))))))
set_option maxRecDepth 100000 in
set_option maxHeartbeats 4000000 in
theorem t_X4_guardFor_14 {p : Program} {l : Launch} {e : Env} {s : State} {m : MethodId} {args : Array Value} {below : List Frame} {meth : Method} {c : Code} {D : va_G} {ca : Nat → ClassId} {ad : Nat → Nat} {σ : Mm} {res : Int} (X : Cx p s m args c cX4_guardFor 5 RX4 (Cond.code yX4_guardFor cX4_guardFor 5 (some .int) :: tbG) D vcl ca) (hN : NC s) (hr : meth.sig.returnType = (some .int)) (hlk : meth.locks = false) : ∀ (n : Nat) (x1 : Int) (x2 : Int) (x3 : Int), inR x1 → inR x2 → inR x3 → GX4_guardFor p l e s m args below meth c D ca ad σ res 14 [(0, .ref (ad 43)), (1, .int (oi x1)), (2, .int (oi x2)), (3, .int (oi x3))] [] σ (f_X4_guardFor_14 n x1 x2 x3 σ)
  := by
  intro n
  induction n with
  | zero => intro x1 x2 x3 hx1 hx2 hx3 h; cases h
  | succ n ih =>
    intro x1 x2 x3 hx1 hx2 hx3
    rw [f_X4_guardFor_14]
    refine q_iload_n X dX4_guardFor_14 3 rfl ?_
    refine q_if_lt X hx3 83 dX4_guardFor_15 (by decide) (fun h1 => ?_) (fun h1 => ?_)
    · refine q_iconst X dX4_guardFor_83 ?_
      exact q_iretp X (by decide) hr hlk dX4_guardFor_84
    · refine q_aload_n X dX4_guardFor_18 0 rfl ?_
      refine fg_X4_34 X dX4_guardFor_19 ?_
      refine q_aload_n X dX4_guardFor_22 0 rfl ?_
      refine fg_X4_12 X dX4_guardFor_23 ?_
      refine q_callIp X NCok hN Aw_new c_X1_topMethod (rn_V X (cwV 0 X.2.2.2.2.1 (tbG_good _ (tbG_V mw_641 mw_642 mw_643 mw_7 mw_644)) rfl rfl rfl hd_X1_topMethod ⟨by decide, by decide⟩) hC44 rfl rfl rfl (Nat.le_of_ble_eq_true rfl) dX4_guardFor_26) (fun r2 _ h4 => ?_)
      refine q_iload_n X dX4_guardFor_29 3 rfl ?_
      refine q_callIp X NCok hN Aw_new (c_X3_stepAt h4 hx3) (rn_V X (cwV 2 X.2.2.2.2.1 (tbG_good _ (tbG_V mw_649 mw_428 mw_429 mw_2 mw_430)) rfl rfl rfl hd_X3_stepAt ⟨by decide, by decide⟩) hC1 rfl rfl rfl (Nat.le_of_ble_eq_true rfl) dX4_guardFor_30) (fun r5 _ h7 => ?_)
      refine q_istore X [(4, .int (oi r5)), (0, .ref (ad 43)), (1, .int (oi x1)), (2, .int (oi x2)), (3, .int (oi x3))] dX4_guardFor_33 (by decide) rfl ?_
      refine q_iload X dX4_guardFor_35 0 rfl ?_
      refine q_if_lt X h7 77 dX4_guardFor_37 (by decide) (fun h8 => ?_) (fun h8 => ?_)
      · refine q_iinc X [(3, .int (oi (x3 + (-1)))), (4, .int (oi r5)), (0, .ref (ad 43)), (1, .int (oi x1)), (2, .int (oi x2))] dX4_guardFor_77 (by decide) 4 rfl rfl (fun h9 => ?_)
        refine q_goto X 14 dX4_guardFor_80 (by decide) ?_
        refine q_sub [(0, .ref (ad 43)), (1, .int (oi x1)), (2, .int (oi x2)), (3, .int (oi (x3 + (-1))))] [2, 3, 4, 0] rfl ?_
        exact ih x1 x2 (x3 + (-1)) hx1 hx2 h9
      · refine q_aload_n X dX4_guardFor_40 1 rfl ?_
        refine fg_X4_34 X dX4_guardFor_41 ?_
        refine q_iload X dX4_guardFor_44 0 rfl ?_
        refine q_iload_n X dX4_guardFor_46 3 rfl ?_
        refine q_callIp X NCok hN Aw_new (c_X3_covers h7 hx2) (rn_V X (cwV 2 X.2.2.2.2.1 (tbG_good _ (tbG_V mw_776 mw_510 mw_511 mw_2 mw_512)) rfl rfl rfl hd_X3_covers ⟨by decide, by decide⟩) hC1 rfl rfl rfl (Nat.le_of_ble_eq_true rfl) dX4_guardFor_47) (fun r10 _ h12 => ?_)
        refine q_if_eq X h12 77 dX4_guardFor_50 (by decide) (fun h13 => ?_) (fun h13 => ?_)
        · refine q_iinc X [(3, .int (oi (x3 + (-1)))), (4, .int (oi r5)), (0, .ref (ad 43)), (1, .int (oi x1)), (2, .int (oi x2))] dX4_guardFor_77 (by decide) 4 rfl rfl (fun h14 => ?_)
          refine q_goto X 14 dX4_guardFor_80 (by decide) ?_
          refine q_sub [(0, .ref (ad 43)), (1, .int (oi x1)), (2, .int (oi x2)), (3, .int (oi (x3 + (-1))))] [2, 3, 4, 0] rfl ?_
          exact ih x1 x2 (x3 + (-1)) hx1 hx2 h14
        · refine q_aload_n X dX4_guardFor_53 1 rfl ?_
          refine fg_X4_34 X dX4_guardFor_54 ?_
          refine q_iload_n X dX4_guardFor_57 2 rfl ?_
          refine q_aload_n X dX4_guardFor_58 1 rfl ?_
          refine fg_X4_34 X dX4_guardFor_59 ?_
          refine fg_X4_103 X dX4_guardFor_62 ?_
          refine q_iload X dX4_guardFor_65 0 rfl ?_
          refine q_iald X hC11 (by decide) dX4_guardFor_67 (fun h15 => ?_)
          refine q_callIp X NCok hN Aw_new (c_X3_liesBelow hx1 h15) (rn_V X (cwV 2 X.2.2.2.2.1 (tbG_good _ (tbG_V mw_731 mw_359 mw_360 mw_2 mw_361)) rfl rfl rfl hd_X3_liesBelow ⟨by decide, by decide⟩) hC1 rfl rfl rfl (Nat.le_of_ble_eq_true rfl) dX4_guardFor_68) (fun r16 _ h18 => ?_)
          refine q_if_eq X h18 77 dX4_guardFor_71 (by decide) (fun h19 => ?_) (fun h19 => ?_)
          · refine q_iinc X [(3, .int (oi (x3 + (-1)))), (4, .int (oi r5)), (0, .ref (ad 43)), (1, .int (oi x1)), (2, .int (oi x2))] dX4_guardFor_77 (by decide) 4 rfl rfl (fun h20 => ?_)
            refine q_goto X 14 dX4_guardFor_80 (by decide) ?_
            refine q_sub [(0, .ref (ad 43)), (1, .int (oi x1)), (2, .int (oi x2)), (3, .int (oi (x3 + (-1))))] [2, 3, 4, 0] rfl ?_
            exact ih x1 x2 (x3 + (-1)) hx1 hx2 h20
          · refine q_iload X dX4_guardFor_74 0 rfl ?_
            exact q_iretp X h7 hr hlk dX4_guardFor_76
def f_X4_guardFor (x1 : Int) (σ : Mm) : Option (Int) :=
  (f_X1_topNext σ).bind (fun r21 => ck (inR (r21 - 1)) (ck (inR ((r21 - 1) - 1)) (f_X4_guardFor_14 2000 x1 (r21 - 1) ((r21 - 1) - 1) σ)))
theorem hd_X4_guardFor : yX4_guardFor.cls = RX4 ∧ yX4_guardFor.cls ≠ "java/lang/invoke/MethodHandle" ∧ yX4_guardFor.cls ≠ "java/lang/invoke/VarHandle" ∧ (parseMethodDescriptor yX4_guardFor.desc).map (fun d => d.parameters.length) = some 1 := by decide +kernel
set_option maxRecDepth 100000 in
set_option maxHeartbeats 4000000 in
theorem c_X4_guardFor {l : Launch} {D : va_G} {ca : Nat → ClassId} {ad : Nat → Nat} {x1 : Int} (hx1 : inR x1) {σ : Mm} : CtI l D vcl ca ad shC NC yX4_guardFor (Cond.code yX4_guardFor cX4_guardFor 5 (some .int) :: tbG) { frames := 1, cells := 0, slots := 0, locals := 22 } [.ref (ad 43), .int (oi x1)] σ ((f_X4_guardFor x1 σ).map (fun r => (r, σ))) := by
  refine ct_Ip RX4 rfl (by decide) rfl (Nat.le_of_ble_eq_true rfl) (fun p e s m below meth c res X hN hr hlk => ?_)
  show GX4_guardFor p l e s m _ below meth c D ca ad σ res 0 [(0, .ref (ad 43)), (1, .int (oi x1))] [] σ (f_X4_guardFor x1 σ)
  unfold f_X4_guardFor
  refine q_aload_n X dX4_guardFor_0 0 rfl ?_
  refine fg_X4_12 X dX4_guardFor_1 ?_
  refine q_callIp X NCok hN Aw_new c_X1_topNext (rn_V X (cwV 0 X.2.2.2.2.1 (tbG_good _ (tbG_V mw_645 mw_646 mw_647 mw_7 mw_648)) rfl rfl rfl hd_X1_topNext ⟨by decide, by decide⟩) hC44 rfl rfl rfl (Nat.le_of_ble_eq_true rfl) dX4_guardFor_4) (fun r21 _ h23 => ?_)
  refine q_iconst X dX4_guardFor_7 ?_
  refine q_isub X dX4_guardFor_8 ?_
  refine q_ck (fun h24 => ?_)
  refine q_istore_n X [(2, .int (oi (r21 - 1))), (0, .ref (ad 43)), (1, .int (oi x1))] dX4_guardFor_9 (by decide) rfl ?_
  refine q_iload_n X dX4_guardFor_10 0 rfl ?_
  refine q_iconst X dX4_guardFor_11 ?_
  refine q_isub X dX4_guardFor_12 ?_
  refine q_ck (fun h25 => ?_)
  refine q_istore_n X [(3, .int (oi ((r21 - 1) - 1))), (2, .int (oi (r21 - 1))), (0, .ref (ad 43)), (1, .int (oi x1))] dX4_guardFor_13 (by decide) rfl ?_
  refine q_sub [(0, .ref (ad 43)), (1, .int (oi x1)), (2, .int (oi (r21 - 1))), (3, .int (oi ((r21 - 1) - 1)))] [2, 3, 1, 0] rfl ?_
  exact t_X4_guardFor_14 X hN hr hlk 2000 x1 (r21 - 1) ((r21 - 1) - 1) hx1 h24 h25

/-! SiteObjects$Runner.raise(II)V -/
abbrev GX4_raise (p : Program) (l : Launch) (e : Env) (s : State) (m : MethodId) (args : Array Value) (below : List Frame) (meth : Method) (c : Code) (D : va_G) (ca : Nat → ClassId) (ad : Nat → Nat) (res : Mm) : Nat → List (Nat × Value) → List Value → Mm → Option (Mm) → Prop := G p l e { frames := 2, cells := 0, slots := 0, locals := 47 } s m args below meth c (MQ below (QcV D vcl ca ad shC s.heap.size res) args s 0 0 (Aw ad shC.length s.heap.size)) 5 D vcl ca ad shC (Aw ad shC.length s.heap.size) res
def f_X4_raise_21 : Nat → Int → Int → Int → Mm → Option (Mm)
  | 0, _, _, _, _ => none
  | n + 1, x1, x2, x3, σ => (if x3 ≤ 0 then ck ((0 : Int) ≤ 7 ∧ 7 < ((9 : Nat) : Int)) ((f_X4_fail 7 x1 (stI σ 49 7 x2)).bind (fun r2 => some r2)) else (f_X2_classOf x2 σ).bind (fun r5 => (f_X4_guardFor r5 σ).bind (fun r8 => (if r8 < 0 then ck (inR ((σ.1 44 0) - 1)) (ck (inR (x3 + (-1))) (f_X4_raise_21 n x1 x2 (x3 + (-1)) (stI σ 44 0 ((σ.1 44 0) - 1)))) else ck ((0 : Int) ≤ r8 ∧ r8 < ((90 : Nat) : Int)) ((f_X4_setVar (σ.1 9 (Int.toNat r8)) x2 σ).bind (fun r16 => ck ((0 : Int) ≤ r8 ∧ r8 < ((90 : Nat) : Int)) (ck ((0 : Int) ≤ r8 ∧ r8 < ((90 : Nat) : Int)) (ck (inR (((r16.1 14 (Int.toNat r8)) + (r16.1 10 (Int.toNat r8))) + 1)) ((f_X1_goOnAt (((r16.1 14 (Int.toNat r8)) + (r16.1 10 (Int.toNat r8))) + 1) r16).bind (fun r22 => some r22))))))))))
set_option maxRecDepth 100000 in
set_option maxHeartbeats 4000000 in
theorem t_X4_raise_21 {p : Program} {l : Launch} {e : Env} {s : State} {m : MethodId} {args : Array Value} {below : List Frame} {meth : Method} {c : Code} {D : va_G} {ca : Nat → ClassId} {ad : Nat → Nat} {res : Mm} (X : Cx p s m args c cX4_raise 5 RX4 (Cond.code yX4_raise cX4_raise 5 none :: tbG) D vcl ca) (hN : NC s) (hr : meth.sig.returnType = none) (hlk : meth.locks = false) : ∀ (n : Nat) (x1 : Int) (x2 : Int) (x3 : Int) (σ : Mm), inR x1 → inR x2 → inR x3 → GX4_raise p l e s m args below meth c D ca ad res 21 [(0, .ref (ad 43)), (1, .int (oi x1)), (2, .int (oi x2)), (3, .int (oi x3))] [] σ (f_X4_raise_21 n x1 x2 x3 σ)
  := by
  intro n
  induction n with
  | zero => intro x1 x2 x3 σ hx1 hx2 hx3 h; cases h
  | succ n ih =>
    intro x1 x2 x3 σ hx1 hx2 hx3
    rw [f_X4_raise_21]
    refine q_iload_n X dX4_raise_21 3 rfl ?_
    refine q_if_le X hx3 109 dX4_raise_22 (by decide) (fun h1 => ?_) (fun h1 => ?_)
    · refine q_aload_n X dX4_raise_109 0 rfl ?_
      refine fg_X4_18 X dX4_raise_110 ?_
      refine q_bipush X dX4_raise_113 (by decide) ?_
      refine q_iload_n X dX4_raise_115 2 rfl ?_
      refine q_iast X hC49 (by decide) hx2 dX4_raise_116 ?_
      refine q_aload_n X dX4_raise_117 0 rfl ?_
      refine q_bipush X dX4_raise_118 (by decide) ?_
      refine q_iload_n X dX4_raise_120 1 rfl ?_
      refine q_callV X NCok hN Aw_new (c_X4_fail (by decide) hx1) (rn_V X (cwV 2 X.2.2.2.2.1 (tbG_good _ (tbG_V mw_654 mw_656 mp_2_13 mw_6 mw_657)) rfl rfl rfl hd_X4_fail ⟨by decide, by decide⟩) hC43 rfl rfl rfl (Nat.le_of_ble_eq_true rfl) dX4_raise_121) (fun r2 _ => ?_)
      exact q_vret X hr hlk dX4_raise_124
    · refine q_aload_n X dX4_raise_25 0 rfl ?_
      refine q_aload_n X dX4_raise_26 0 rfl ?_
      refine fg_X4_47 X dX4_raise_27 ?_
      refine q_iload_n X dX4_raise_30 2 rfl ?_
      refine q_callIp X NCok hN Aw_new (c_X2_classOf hx2) (rn_V X (cwV 1 X.2.2.2.2.1 (tbG_good _ (tbG_V mw_722 mw_723 mw_724 mw_8 mw_725)) rfl rfl rfl hd_X2_classOf ⟨by decide, by decide⟩) hC50 rfl rfl rfl (Nat.le_of_ble_eq_true rfl) dX4_raise_31) (fun r5 _ h7 => ?_)
      refine q_callIp X NCok hN Aw_new (c_X4_guardFor h7) (rn_V X (cwV 1 X.2.2.2.2.1 (tbG_good _ (tbG_V mw_772 mw_774 mp_3_14 mw_6 mw_775)) rfl rfl rfl hd_X4_guardFor ⟨by decide, by decide⟩) hC43 rfl rfl rfl (Nat.le_of_ble_eq_true rfl) dX4_raise_34) (fun r8 _ h10 => ?_)
      refine q_istore X [(4, .int (oi r8)), (0, .ref (ad 43)), (1, .int (oi x1)), (2, .int (oi x2)), (3, .int (oi x3))] dX4_raise_37 (by decide) rfl ?_
      refine q_iload X dX4_raise_39 0 rfl ?_
      refine q_if_lt X h10 90 dX4_raise_41 (by decide) (fun h11 => ?_) (fun h11 => ?_)
      · refine q_aload_n X dX4_raise_90 1 rfl ?_
        refine fg_X4_12 X dX4_raise_91 ?_
        refine q_dup X dX4_raise_94 rfl ?_
        refine fg_X4_60 X dX4_raise_95 (fun h12 => ?_)
        refine q_iconst X dX4_raise_98 ?_
        refine q_isub X dX4_raise_99 ?_
        refine q_ck (fun h13 => ?_)
        refine fp_X4_60 X h13 dX4_raise_100 ?_
        refine q_iinc X [(3, .int (oi (x3 + (-1)))), (4, .int (oi r8)), (0, .ref (ad 43)), (1, .int (oi x1)), (2, .int (oi x2))] dX4_raise_103 (by decide) 4 rfl rfl (fun h14 => ?_)
        refine q_goto X 21 dX4_raise_106 (by decide) ?_
        refine q_sub [(0, .ref (ad 43)), (1, .int (oi x1)), (2, .int (oi x2)), (3, .int (oi (x3 + (-1))))] [2, 3, 4, 0] rfl ?_
        exact ih x1 x2 (x3 + (-1)) (stI σ 44 0 ((σ.1 44 0) - 1)) hx1 hx2 h14
      · refine q_aload_n X dX4_raise_44 1 rfl ?_
        refine q_aload_n X dX4_raise_45 1 rfl ?_
        refine fg_X4_34 X dX4_raise_46 ?_
        refine fg_X4_97 X dX4_raise_49 ?_
        refine q_iload X dX4_raise_52 0 rfl ?_
        refine q_iald X hC9 (by decide) dX4_raise_54 (fun h15 => ?_)
        refine q_iload_n X dX4_raise_55 3 rfl ?_
        refine q_callV X NCok hN Aw_new (c_X4_setVar h15 hx2) (rn_V X (cwV 2 X.2.2.2.2.1 (tbG_good _ (tbG_V mw_620 mw_622 mp_2_9 mw_6 mw_623)) rfl rfl rfl hd_X4_setVar ⟨by decide, by decide⟩) hC43 rfl rfl rfl (Nat.le_of_ble_eq_true rfl) dX4_raise_56) (fun r16 _ => ?_)
        refine q_aload_n X dX4_raise_59 1 rfl ?_
        refine fg_X4_12 X dX4_raise_60 ?_
        refine q_aload_n X dX4_raise_63 1 rfl ?_
        refine fg_X4_34 X dX4_raise_64 ?_
        refine fg_X4_242 X dX4_raise_67 ?_
        refine q_iload X dX4_raise_70 0 rfl ?_
        refine q_iald X hC14 (by decide) dX4_raise_72 (fun h19 => ?_)
        refine q_aload_n X dX4_raise_73 1 rfl ?_
        refine fg_X4_34 X dX4_raise_74 ?_
        refine fg_X4_100 X dX4_raise_77 ?_
        refine q_iload X dX4_raise_80 0 rfl ?_
        refine q_iald X hC10 (by decide) dX4_raise_82 (fun h20 => ?_)
        refine q_iadd X dX4_raise_83 ?_
        refine q_iconst X dX4_raise_84 ?_
        refine q_iadd X dX4_raise_85 ?_
        refine q_ck (fun h21 => ?_)
        refine q_callV X NCok hN Aw_new (c_X1_goOnAt h21) (rn_V X (cwV 1 X.2.2.2.2.1 (tbG_good _ (tbG_V mw_658 mw_659 mw_660 mw_7 mw_661)) rfl rfl rfl hd_X1_goOnAt ⟨by decide, by decide⟩) hC44 rfl rfl rfl (Nat.le_of_ble_eq_true rfl) dX4_raise_86) (fun r22 _ => ?_)
        exact q_vret X hr hlk dX4_raise_89
def f_X4_raise (x1 : Int) (x2 : Int) (σ : Mm) : Option (Mm) :=
  (if x2 = (-9) then (f_X4_fail 1 x1 σ).bind (fun r26 => some r26) else f_X4_raise_21 2000 x1 x2 (σ.1 44 0) σ)
theorem hd_X4_raise : yX4_raise.cls = RX4 ∧ yX4_raise.cls ≠ "java/lang/invoke/MethodHandle" ∧ yX4_raise.cls ≠ "java/lang/invoke/VarHandle" ∧ (parseMethodDescriptor yX4_raise.desc).map (fun d => d.parameters.length) = some 2 := by decide +kernel
set_option maxRecDepth 100000 in
set_option maxHeartbeats 4000000 in
theorem c_X4_raise {l : Launch} {D : va_G} {ca : Nat → ClassId} {ad : Nat → Nat} {x1 : Int} {x2 : Int} (hx1 : inR x1) (hx2 : inR x2) {σ : Mm} : CtV l D vcl ca ad shC NC yX4_raise (Cond.code yX4_raise cX4_raise 5 none :: tbG) { frames := 2, cells := 0, slots := 0, locals := 47 } [.ref (ad 43), .int (oi x1), .int (oi x2)] σ (f_X4_raise x1 x2 σ) := by
  refine ct_V RX4 rfl (by decide) rfl (Nat.le_of_ble_eq_true rfl) (fun p e s m below meth c res X hN hr hlk => ?_)
  show GX4_raise p l e s m _ below meth c D ca ad res 0 [(0, .ref (ad 43)), (1, .int (oi x1)), (2, .int (oi x2))] [] σ (f_X4_raise x1 x2 σ)
  unfold f_X4_raise
  refine q_iload_n X dX4_raise_0 2 rfl ?_
  refine q_bipush X dX4_raise_1 (by decide) ?_
  refine q_icmp_ne X hx2 (by decide) 13 dX4_raise_3 (by decide) (fun h25 => ?_) (fun h25 => ?_)
  · refine q_aload_n X dX4_raise_6 0 rfl ?_
    refine q_iconst X dX4_raise_7 ?_
    refine q_iload_n X dX4_raise_8 1 rfl ?_
    refine q_callV X NCok hN Aw_new (c_X4_fail (by decide) hx1) (rn_V X (cwV 2 X.2.2.2.2.1 (tbG_good _ (tbG_V mw_654 mw_656 mp_2_13 mw_6 mw_657)) rfl rfl rfl hd_X4_fail ⟨by decide, by decide⟩) hC43 rfl rfl rfl (Nat.le_of_ble_eq_true rfl) dX4_raise_9) (fun r26 _ => ?_)
    exact q_vret X hr hlk dX4_raise_12
  · refine q_aload_n X dX4_raise_13 0 rfl ?_
    refine fg_X4_12 X dX4_raise_14 ?_
    refine fg_X4_60 X dX4_raise_17 (fun h29 => ?_)
    refine q_istore_n X [(3, .int (oi (σ.1 44 0))), (0, .ref (ad 43)), (1, .int (oi x1)), (2, .int (oi x2))] dX4_raise_20 (by decide) rfl ?_
    refine q_sub [(0, .ref (ad 43)), (1, .int (oi x1)), (2, .int (oi x2)), (3, .int (oi (σ.1 44 0)))] [1, 2, 3, 0] rfl ?_
    exact t_X4_raise_21 X hN hr hlk 2000 x1 x2 (σ.1 44 0) σ hx1 hx2 h29

/-! SiteObjects$Runner.doStep(I)V -/
abbrev GX4_doStep (p : Program) (l : Launch) (e : Env) (s : State) (m : MethodId) (args : Array Value) (below : List Frame) (meth : Method) (c : Code) (D : va_G) (ca : Nat → ClassId) (ad : Nat → Nat) (res : Mm) : Nat → List (Nat × Value) → List Value → Mm → Option (Mm) → Prop := G p l e { frames := 4, cells := 0, slots := 0, locals := 94 } s m args below meth c (MQ below (QcV D vcl ca ad shC s.heap.size res) args s 0 0 (Aw ad shC.length s.heap.size)) 5 D vcl ca ad shC (Aw ad shC.length s.heap.size) res
def f_X4_doStep (x1 : Int) (σ : Mm) : Option (Mm) :=
  ck ((0 : Int) ≤ x1 ∧ x1 < ((90 : Nat) : Int)) (ck ((0 : Int) ≤ x1 ∧ x1 < ((90 : Nat) : Int)) (ck ((0 : Int) ≤ x1 ∧ x1 < ((90 : Nat) : Int)) (ck ((0 : Int) ≤ x1 ∧ x1 < ((90 : Nat) : Int)) ((if (σ.1 8 (Int.toNat x1)) = 0 then (f_X4_make x1 σ).bind (fun r6 => some r6) else (if (σ.1 8 (Int.toNat x1)) = 1 then (f_X4_make x1 σ).bind (fun r10 => some r10) else (if (σ.1 8 (Int.toNat x1)) = 2 then (f_X1_varOf (σ.1 10 (Int.toNat x1)) σ).bind (fun r14 => (f_X4_setVar (σ.1 9 (Int.toNat x1)) r14 σ).bind (fun r17 => some r17)) else (if (σ.1 8 (Int.toNat x1)) = 3 then (f_X4_setVar (σ.1 9 (Int.toNat x1)) (-9) σ).bind (fun r21 => some r21) else (if (σ.1 8 (Int.toNat x1)) = 4 then (f_X1_varOf (σ.1 10 (Int.toNat x1)) σ).bind (fun r25 => (f_X4_load x1 r25 σ).bind (fun r28 => some r28)) else (if (σ.1 8 (Int.toNat x1)) = 5 then (f_X1_varOf (σ.1 9 (Int.toNat x1)) σ).bind (fun r32 => (f_X4_store x1 r32 σ).bind (fun r35 => some r35)) else (if (σ.1 8 (Int.toNat x1)) = 6 then (f_X1_varOf (σ.1 10 (Int.toNat x1)) σ).bind (fun r39 => (f_X4_take x1 r39 σ).bind (fun r42 => some r42)) else (if (σ.1 8 (Int.toNat x1)) = 7 then (f_X1_varOf (σ.1 9 (Int.toNat x1)) σ).bind (fun r46 => (f_X1_varOf (σ.1 10 (Int.toNat x1)) σ).bind (fun r49 => (f_X4_lay x1 r46 r49 σ).bind (fun r52 => some r52))) else (if (σ.1 8 (Int.toNat x1)) = 8 then (f_X1_varOf (σ.1 10 (Int.toNat x1)) σ).bind (fun r56 => (f_X4_cast x1 r56 σ).bind (fun r59 => some r59)) else (if (σ.1 8 (Int.toNat x1)) = 9 then (f_X1_varOf (σ.1 10 (Int.toNat x1)) σ).bind (fun r63 => (f_X4_ask x1 r63 σ).bind (fun r66 => some r66)) else (if (σ.1 8 (Int.toNat x1)) = 10 then (f_X4_call x1 σ).bind (fun r70 => some r70) else (if (σ.1 8 (Int.toNat x1)) = 11 then (f_X1_varOf (σ.1 9 (Int.toNat x1)) σ).bind (fun r74 => (f_X4_leave r74 σ).bind (fun r77 => some r77)) else (if (σ.1 8 (Int.toNat x1)) = 12 then (f_X4_maybe (σ.1 10 (Int.toNat x1)) σ).bind (fun r81 => some r81) else (if (σ.1 8 (Int.toNat x1)) = 13 then (f_X1_varOf (σ.1 9 (Int.toNat x1)) σ).bind (fun r85 => (f_X4_setGlobal (σ.1 11 (Int.toNat x1)) r85 σ).bind (fun r88 => some r88)) else (if (σ.1 8 (Int.toNat x1)) = 14 then ck ((0 : Int) ≤ (σ.1 11 (Int.toNat x1)) ∧ (σ.1 11 (Int.toNat x1)) < ((4 : Nat) : Int)) ((f_X4_setVar (σ.1 9 (Int.toNat x1)) (σ.1 55 (Int.toNat (σ.1 11 (Int.toNat x1)))) σ).bind (fun r93 => some r93)) else (if (σ.1 8 (Int.toNat x1)) = 15 then (f_X1_varOf (σ.1 9 (Int.toNat x1)) σ).bind (fun r97 => (f_X4_raise x1 r97 σ).bind (fun r100 => some r100)) else some σ))))))))))))))))))))
theorem hd_X4_doStep : yX4_doStep.cls = RX4 ∧ yX4_doStep.cls ≠ "java/lang/invoke/MethodHandle" ∧ yX4_doStep.cls ≠ "java/lang/invoke/VarHandle" ∧ (parseMethodDescriptor yX4_doStep.desc).map (fun d => d.parameters.length) = some 1 := by decide +kernel
set_option maxRecDepth 100000 in
set_option maxHeartbeats 4000000 in
theorem c_X4_doStep {l : Launch} {D : va_G} {ca : Nat → ClassId} {ad : Nat → Nat} {x1 : Int} (hx1 : inR x1) {σ : Mm} : CtV l D vcl ca ad shC NC yX4_doStep (Cond.code yX4_doStep cX4_doStep 5 none :: tbG) { frames := 4, cells := 0, slots := 0, locals := 94 } [.ref (ad 43), .int (oi x1)] σ (f_X4_doStep x1 σ) := by
  refine ct_V RX4 rfl (by decide) rfl (Nat.le_of_ble_eq_true rfl) (fun p e s m below meth c res X hN hr hlk => ?_)
  show GX4_doStep p l e s m _ below meth c D ca ad res 0 [(0, .ref (ad 43)), (1, .int (oi x1))] [] σ (f_X4_doStep x1 σ)
  unfold f_X4_doStep
  refine q_aload_n X dX4_doStep_0 0 rfl ?_
  refine fg_X4_34 X dX4_doStep_1 ?_
  refine fg_X4_97 X dX4_doStep_4 ?_
  refine q_iload_n X dX4_doStep_7 1 rfl ?_
  refine q_iald X hC9 (by decide) dX4_doStep_8 (fun h1 => ?_)
  refine q_istore_n X [(2, .int (oi (σ.1 9 (Int.toNat x1)))), (0, .ref (ad 43)), (1, .int (oi x1))] dX4_doStep_9 (by decide) rfl ?_
  refine q_aload_n X dX4_doStep_10 1 rfl ?_
  refine fg_X4_34 X dX4_doStep_11 ?_
  refine fg_X4_100 X dX4_doStep_14 ?_
  refine q_iload_n X dX4_doStep_17 2 rfl ?_
  refine q_iald X hC10 (by decide) dX4_doStep_18 (fun h2 => ?_)
  refine q_istore_n X [(3, .int (oi (σ.1 10 (Int.toNat x1)))), (2, .int (oi (σ.1 9 (Int.toNat x1)))), (0, .ref (ad 43)), (1, .int (oi x1))] dX4_doStep_19 (by decide) rfl ?_
  refine q_aload_n X dX4_doStep_20 2 rfl ?_
  refine fg_X4_34 X dX4_doStep_21 ?_
  refine fg_X4_103 X dX4_doStep_24 ?_
  refine q_iload_n X dX4_doStep_27 3 rfl ?_
  refine q_iald X hC11 (by decide) dX4_doStep_28 (fun h3 => ?_)
  refine q_istore X [(4, .int (oi (σ.1 11 (Int.toNat x1)))), (3, .int (oi (σ.1 10 (Int.toNat x1)))), (2, .int (oi (σ.1 9 (Int.toNat x1)))), (0, .ref (ad 43)), (1, .int (oi x1))] dX4_doStep_29 (by decide) rfl ?_
  refine q_aload_n X dX4_doStep_31 3 rfl ?_
  refine fg_X4_34 X dX4_doStep_32 ?_
  refine fg_X4_106 X dX4_doStep_35 ?_
  refine q_iload_n X dX4_doStep_38 4 rfl ?_
  refine q_iald X hC8 (by decide) dX4_doStep_39 (fun h4 => ?_)
  refine q_ite (fun h5 => ?_) (fun h5 => ?_)
  · refine q_tswIn X h4 0 80 120 h5 dX4_doStep_40 (by decide) rfl (by decide) ?_
    refine q_aload_n X dX4_doStep_120 3 rfl ?_
    refine q_iload_n X dX4_doStep_121 4 rfl ?_
    refine q_callV X NCok hN Aw_new (c_X4_make hx1) (rn_V X (cwV 1 X.2.2.2.2.1 (tbG_good _ (tbG_V mw_666 mw_668 mp_2_15 mw_6 mw_669)) rfl rfl rfl hd_X4_make ⟨by decide, by decide⟩) hC43 rfl rfl rfl (Nat.le_of_ble_eq_true rfl) dX4_doStep_122) (fun r6 _ => ?_)
    refine q_goto X 340 dX4_doStep_125 (by decide) ?_
    exact q_vret X hr hlk dX4_doStep_340
  · refine q_ite (fun h9 => ?_) (fun h9 => ?_)
    · refine q_tswIn X h4 1 80 120 h9 dX4_doStep_40 (by decide) rfl (by decide) ?_
      refine q_aload_n X dX4_doStep_120 3 rfl ?_
      refine q_iload_n X dX4_doStep_121 4 rfl ?_
      refine q_callV X NCok hN Aw_new (c_X4_make hx1) (rn_V X (cwV 1 X.2.2.2.2.1 (tbG_good _ (tbG_V mw_666 mw_668 mp_2_15 mw_6 mw_669)) rfl rfl rfl hd_X4_make ⟨by decide, by decide⟩) hC43 rfl rfl rfl (Nat.le_of_ble_eq_true rfl) dX4_doStep_122) (fun r10 _ => ?_)
      refine q_goto X 340 dX4_doStep_125 (by decide) ?_
      exact q_vret X hr hlk dX4_doStep_340
    · refine q_ite (fun h13 => ?_) (fun h13 => ?_)
      · refine q_tswIn X h4 2 88 128 h13 dX4_doStep_40 (by decide) rfl (by decide) ?_
        refine q_aload_n X dX4_doStep_128 3 rfl ?_
        refine q_iload_n X dX4_doStep_129 2 rfl ?_
        refine q_aload_n X dX4_doStep_130 3 rfl ?_
        refine fg_X4_12 X dX4_doStep_131 ?_
        refine q_iload_n X dX4_doStep_134 1 rfl ?_
        refine q_callIp X NCok hN Aw_new (c_X1_varOf h2) (rn_V X (cwV 1 X.2.2.2.2.1 (tbG_good _ (tbG_V mw_675 mw_676 mw_677 mw_7 mw_678)) rfl rfl rfl hd_X1_varOf ⟨by decide, by decide⟩) hC44 rfl rfl rfl (Nat.le_of_ble_eq_true rfl) dX4_doStep_135) (fun r14 _ h16 => ?_)
        refine q_callV X NCok hN Aw_new (c_X4_setVar h1 h16) (rn_V X (cwV 2 X.2.2.2.2.1 (tbG_good _ (tbG_V mw_620 mw_622 mp_2_9 mw_6 mw_623)) rfl rfl rfl hd_X4_setVar ⟨by decide, by decide⟩) hC43 rfl rfl rfl (Nat.le_of_ble_eq_true rfl) dX4_doStep_138) (fun r17 _ => ?_)
        refine q_goto X 340 dX4_doStep_141 (by decide) ?_
        exact q_vret X hr hlk dX4_doStep_340
      · refine q_ite (fun h20 => ?_) (fun h20 => ?_)
        · refine q_tswIn X h4 3 104 144 h20 dX4_doStep_40 (by decide) rfl (by decide) ?_
          refine q_aload_n X dX4_doStep_144 3 rfl ?_
          refine q_iload_n X dX4_doStep_145 2 rfl ?_
          refine q_bipush X dX4_doStep_146 (by decide) ?_
          refine q_callV X NCok hN Aw_new (c_X4_setVar h1 (by decide)) (rn_V X (cwV 2 X.2.2.2.2.1 (tbG_good _ (tbG_V mw_620 mw_622 mp_2_9 mw_6 mw_623)) rfl rfl rfl hd_X4_setVar ⟨by decide, by decide⟩) hC43 rfl rfl rfl (Nat.le_of_ble_eq_true rfl) dX4_doStep_148) (fun r21 _ => ?_)
          refine q_goto X 340 dX4_doStep_151 (by decide) ?_
          exact q_vret X hr hlk dX4_doStep_340
        · refine q_ite (fun h24 => ?_) (fun h24 => ?_)
          · refine q_tswIn X h4 4 114 154 h24 dX4_doStep_40 (by decide) rfl (by decide) ?_
            refine q_aload_n X dX4_doStep_154 3 rfl ?_
            refine q_iload_n X dX4_doStep_155 4 rfl ?_
            refine q_aload_n X dX4_doStep_156 3 rfl ?_
            refine fg_X4_12 X dX4_doStep_157 ?_
            refine q_iload_n X dX4_doStep_160 1 rfl ?_
            refine q_callIp X NCok hN Aw_new (c_X1_varOf h2) (rn_V X (cwV 1 X.2.2.2.2.1 (tbG_good _ (tbG_V mw_675 mw_676 mw_677 mw_7 mw_678)) rfl rfl rfl hd_X1_varOf ⟨by decide, by decide⟩) hC44 rfl rfl rfl (Nat.le_of_ble_eq_true rfl) dX4_doStep_161) (fun r25 _ h27 => ?_)
            refine q_callV X NCok hN Aw_new (c_X4_load hx1 h27) (rn_V X (cwV 2 X.2.2.2.2.1 (tbG_good _ (tbG_V mw_679 mw_681 mp_3_0 mw_6 mw_682)) rfl rfl rfl hd_X4_load ⟨by decide, by decide⟩) hC43 rfl rfl rfl (Nat.le_of_ble_eq_true rfl) dX4_doStep_164) (fun r28 _ => ?_)
            refine q_goto X 340 dX4_doStep_167 (by decide) ?_
            exact q_vret X hr hlk dX4_doStep_340
          · refine q_ite (fun h31 => ?_) (fun h31 => ?_)
            · refine q_tswIn X h4 5 130 170 h31 dX4_doStep_40 (by decide) rfl (by decide) ?_
              refine q_aload_n X dX4_doStep_170 3 rfl ?_
              refine q_iload_n X dX4_doStep_171 4 rfl ?_
              refine q_aload_n X dX4_doStep_172 3 rfl ?_
              refine fg_X4_12 X dX4_doStep_173 ?_
              refine q_iload_n X dX4_doStep_176 2 rfl ?_
              refine q_callIp X NCok hN Aw_new (c_X1_varOf h1) (rn_V X (cwV 1 X.2.2.2.2.1 (tbG_good _ (tbG_V mw_675 mw_676 mw_677 mw_7 mw_678)) rfl rfl rfl hd_X1_varOf ⟨by decide, by decide⟩) hC44 rfl rfl rfl (Nat.le_of_ble_eq_true rfl) dX4_doStep_177) (fun r32 _ h34 => ?_)
              refine q_callV X NCok hN Aw_new (c_X4_store hx1 h34) (rn_V X (cwV 2 X.2.2.2.2.1 (tbG_good _ (tbG_V mw_692 mw_694 mp_3_1 mw_6 mw_695)) rfl rfl rfl hd_X4_store ⟨by decide, by decide⟩) hC43 rfl rfl rfl (Nat.le_of_ble_eq_true rfl) dX4_doStep_180) (fun r35 _ => ?_)
              refine q_goto X 340 dX4_doStep_183 (by decide) ?_
              exact q_vret X hr hlk dX4_doStep_340
            · refine q_ite (fun h38 => ?_) (fun h38 => ?_)
              · refine q_tswIn X h4 6 146 186 h38 dX4_doStep_40 (by decide) rfl (by decide) ?_
                refine q_aload_n X dX4_doStep_186 3 rfl ?_
                refine q_iload_n X dX4_doStep_187 4 rfl ?_
                refine q_aload_n X dX4_doStep_188 3 rfl ?_
                refine fg_X4_12 X dX4_doStep_189 ?_
                refine q_iload_n X dX4_doStep_192 1 rfl ?_
                refine q_callIp X NCok hN Aw_new (c_X1_varOf h2) (rn_V X (cwV 1 X.2.2.2.2.1 (tbG_good _ (tbG_V mw_675 mw_676 mw_677 mw_7 mw_678)) rfl rfl rfl hd_X1_varOf ⟨by decide, by decide⟩) hC44 rfl rfl rfl (Nat.le_of_ble_eq_true rfl) dX4_doStep_193) (fun r39 _ h41 => ?_)
                refine q_callV X NCok hN Aw_new (c_X4_take hx1 h41) (rn_V X (cwV 2 X.2.2.2.2.1 (tbG_good _ (tbG_V mw_701 mw_703 mp_3_3 mw_6 mw_704)) rfl rfl rfl hd_X4_take ⟨by decide, by decide⟩) hC43 rfl rfl rfl (Nat.le_of_ble_eq_true rfl) dX4_doStep_196) (fun r42 _ => ?_)
                refine q_goto X 340 dX4_doStep_199 (by decide) ?_
                exact q_vret X hr hlk dX4_doStep_340
              · refine q_ite (fun h45 => ?_) (fun h45 => ?_)
                · refine q_tswIn X h4 7 162 202 h45 dX4_doStep_40 (by decide) rfl (by decide) ?_
                  refine q_aload_n X dX4_doStep_202 3 rfl ?_
                  refine q_iload_n X dX4_doStep_203 4 rfl ?_
                  refine q_aload_n X dX4_doStep_204 3 rfl ?_
                  refine fg_X4_12 X dX4_doStep_205 ?_
                  refine q_iload_n X dX4_doStep_208 2 rfl ?_
                  refine q_callIp X NCok hN Aw_new (c_X1_varOf h1) (rn_V X (cwV 1 X.2.2.2.2.1 (tbG_good _ (tbG_V mw_675 mw_676 mw_677 mw_7 mw_678)) rfl rfl rfl hd_X1_varOf ⟨by decide, by decide⟩) hC44 rfl rfl rfl (Nat.le_of_ble_eq_true rfl) dX4_doStep_209) (fun r46 _ h48 => ?_)
                  refine q_aload_n X dX4_doStep_212 3 rfl ?_
                  refine fg_X4_12 X dX4_doStep_213 ?_
                  refine q_iload_n X dX4_doStep_216 1 rfl ?_
                  refine q_callIp X NCok hN Aw_new (c_X1_varOf h2) (rn_V X (cwV 1 X.2.2.2.2.1 (tbG_good _ (tbG_V mw_675 mw_676 mw_677 mw_7 mw_678)) rfl rfl rfl hd_X1_varOf ⟨by decide, by decide⟩) hC44 rfl rfl rfl (Nat.le_of_ble_eq_true rfl) dX4_doStep_217) (fun r49 _ h51 => ?_)
                  refine q_callV X NCok hN Aw_new (c_X4_lay hx1 h48 h51) (rn_V X (cwV 3 X.2.2.2.2.1 (tbG_good _ (tbG_V mw_718 mw_720 mp_3_5 mw_6 mw_721)) rfl rfl rfl hd_X4_lay ⟨by decide, by decide⟩) hC43 rfl rfl rfl (Nat.le_of_ble_eq_true rfl) dX4_doStep_220) (fun r52 _ => ?_)
                  refine q_goto X 340 dX4_doStep_223 (by decide) ?_
                  exact q_vret X hr hlk dX4_doStep_340
                · refine q_ite (fun h55 => ?_) (fun h55 => ?_)
                  · refine q_tswIn X h4 8 186 226 h55 dX4_doStep_40 (by decide) rfl (by decide) ?_
                    refine q_aload_n X dX4_doStep_226 3 rfl ?_
                    refine q_iload_n X dX4_doStep_227 4 rfl ?_
                    refine q_aload_n X dX4_doStep_228 3 rfl ?_
                    refine fg_X4_12 X dX4_doStep_229 ?_
                    refine q_iload_n X dX4_doStep_232 1 rfl ?_
                    refine q_callIp X NCok hN Aw_new (c_X1_varOf h2) (rn_V X (cwV 1 X.2.2.2.2.1 (tbG_good _ (tbG_V mw_675 mw_676 mw_677 mw_7 mw_678)) rfl rfl rfl hd_X1_varOf ⟨by decide, by decide⟩) hC44 rfl rfl rfl (Nat.le_of_ble_eq_true rfl) dX4_doStep_233) (fun r56 _ h58 => ?_)
                    refine q_callV X NCok hN Aw_new (c_X4_cast hx1 h58) (rn_V X (cwV 2 X.2.2.2.2.1 (tbG_good _ (tbG_V mw_732 mw_734 mp_3_6 mw_6 mw_735)) rfl rfl rfl hd_X4_cast ⟨by decide, by decide⟩) hC43 rfl rfl rfl (Nat.le_of_ble_eq_true rfl) dX4_doStep_236) (fun r59 _ => ?_)
                    refine q_goto X 340 dX4_doStep_239 (by decide) ?_
                    exact q_vret X hr hlk dX4_doStep_340
                  · refine q_ite (fun h62 => ?_) (fun h62 => ?_)
                    · refine q_tswIn X h4 9 202 242 h62 dX4_doStep_40 (by decide) rfl (by decide) ?_
                      refine q_aload_n X dX4_doStep_242 3 rfl ?_
                      refine q_iload_n X dX4_doStep_243 4 rfl ?_
                      refine q_aload_n X dX4_doStep_244 3 rfl ?_
                      refine fg_X4_12 X dX4_doStep_245 ?_
                      refine q_iload_n X dX4_doStep_248 1 rfl ?_
                      refine q_callIp X NCok hN Aw_new (c_X1_varOf h2) (rn_V X (cwV 1 X.2.2.2.2.1 (tbG_good _ (tbG_V mw_675 mw_676 mw_677 mw_7 mw_678)) rfl rfl rfl hd_X1_varOf ⟨by decide, by decide⟩) hC44 rfl rfl rfl (Nat.le_of_ble_eq_true rfl) dX4_doStep_249) (fun r63 _ h65 => ?_)
                      refine q_callV X NCok hN Aw_new (c_X4_ask hx1 h65) (rn_V X (cwV 2 X.2.2.2.2.1 (tbG_good _ (tbG_V mw_736 mw_738 mp_3_7 mw_6 mw_739)) rfl rfl rfl hd_X4_ask ⟨by decide, by decide⟩) hC43 rfl rfl rfl (Nat.le_of_ble_eq_true rfl) dX4_doStep_252) (fun r66 _ => ?_)
                      refine q_goto X 340 dX4_doStep_255 (by decide) ?_
                      exact q_vret X hr hlk dX4_doStep_340
                    · refine q_ite (fun h69 => ?_) (fun h69 => ?_)
                      · refine q_tswIn X h4 10 218 258 h69 dX4_doStep_40 (by decide) rfl (by decide) ?_
                        refine q_aload_n X dX4_doStep_258 3 rfl ?_
                        refine q_iload_n X dX4_doStep_259 4 rfl ?_
                        refine q_callV X NCok hN Aw_new (c_X4_call hx1) (rn_V X (cwV 1 X.2.2.2.2.1 (tbG_good _ (tbG_V mw_751 mw_753 mp_3_9 mw_6 mw_754)) rfl rfl rfl hd_X4_call ⟨by decide, by decide⟩) hC43 rfl rfl rfl (Nat.le_of_ble_eq_true rfl) dX4_doStep_260) (fun r70 _ => ?_)
                        refine q_goto X 340 dX4_doStep_263 (by decide) ?_
                        exact q_vret X hr hlk dX4_doStep_340
                      · refine q_ite (fun h73 => ?_) (fun h73 => ?_)
                        · refine q_tswIn X h4 11 226 266 h73 dX4_doStep_40 (by decide) rfl (by decide) ?_
                          refine q_aload_n X dX4_doStep_266 3 rfl ?_
                          refine q_aload_n X dX4_doStep_267 3 rfl ?_
                          refine fg_X4_12 X dX4_doStep_268 ?_
                          refine q_iload_n X dX4_doStep_271 2 rfl ?_
                          refine q_callIp X NCok hN Aw_new (c_X1_varOf h1) (rn_V X (cwV 1 X.2.2.2.2.1 (tbG_good _ (tbG_V mw_675 mw_676 mw_677 mw_7 mw_678)) rfl rfl rfl hd_X1_varOf ⟨by decide, by decide⟩) hC44 rfl rfl rfl (Nat.le_of_ble_eq_true rfl) dX4_doStep_272) (fun r74 _ h76 => ?_)
                          refine q_callV X NCok hN Aw_new (c_X4_leave h76) (rn_V X (cwV 1 X.2.2.2.2.1 (tbG_good _ (tbG_V mw_650 mw_652 mp_2_12 mw_6 mw_653)) rfl rfl rfl hd_X4_leave ⟨by decide, by decide⟩) hC43 rfl rfl rfl (Nat.le_of_ble_eq_true rfl) dX4_doStep_275) (fun r77 _ => ?_)
                          refine q_goto X 340 dX4_doStep_278 (by decide) ?_
                          exact q_vret X hr hlk dX4_doStep_340
                        · refine q_ite (fun h80 => ?_) (fun h80 => ?_)
                          · refine q_tswIn X h4 12 241 281 h80 dX4_doStep_40 (by decide) rfl (by decide) ?_
                            refine q_aload_n X dX4_doStep_281 3 rfl ?_
                            refine q_iload_n X dX4_doStep_282 1 rfl ?_
                            refine q_callV X NCok hN Aw_new (c_X4_maybe h2) (rn_V X (cwV 1 X.2.2.2.2.1 (tbG_good _ (tbG_V mw_760 mw_762 mp_3_11 mw_6 mw_763)) rfl rfl rfl hd_X4_maybe ⟨by decide, by decide⟩) hC43 rfl rfl rfl (Nat.le_of_ble_eq_true rfl) dX4_doStep_283) (fun r81 _ => ?_)
                            refine q_goto X 340 dX4_doStep_286 (by decide) ?_
                            exact q_vret X hr hlk dX4_doStep_340
                          · refine q_ite (fun h84 => ?_) (fun h84 => ?_)
                            · refine q_tswIn X h4 13 249 289 h84 dX4_doStep_40 (by decide) rfl (by decide) ?_
                              refine q_aload_n X dX4_doStep_289 3 rfl ?_
                              refine q_iload X dX4_doStep_290 0 rfl ?_
                              refine q_aload_n X dX4_doStep_292 3 rfl ?_
                              refine fg_X4_12 X dX4_doStep_293 ?_
                              refine q_iload_n X dX4_doStep_296 2 rfl ?_
                              refine q_callIp X NCok hN Aw_new (c_X1_varOf h1) (rn_V X (cwV 1 X.2.2.2.2.1 (tbG_good _ (tbG_V mw_675 mw_676 mw_677 mw_7 mw_678)) rfl rfl rfl hd_X1_varOf ⟨by decide, by decide⟩) hC44 rfl rfl rfl (Nat.le_of_ble_eq_true rfl) dX4_doStep_297) (fun r85 _ h87 => ?_)
                              refine q_callV X NCok hN Aw_new (c_X4_setGlobal h3 h87) (rn_V X (cwV 2 X.2.2.2.2.1 (tbG_good _ (tbG_V mw_764 mw_766 mp_3_12 mw_6 mw_767)) rfl rfl rfl hd_X4_setGlobal ⟨by decide, by decide⟩) hC43 rfl rfl rfl (Nat.le_of_ble_eq_true rfl) dX4_doStep_300) (fun r88 _ => ?_)
                              refine q_goto X 340 dX4_doStep_303 (by decide) ?_
                              exact q_vret X hr hlk dX4_doStep_340
                            · refine q_ite (fun h91 => ?_) (fun h91 => ?_)
                              · refine q_tswIn X h4 14 266 306 h91 dX4_doStep_40 (by decide) rfl (by decide) ?_
                                refine q_aload_n X dX4_doStep_306 3 rfl ?_
                                refine q_iload_n X dX4_doStep_307 2 rfl ?_
                                refine q_aload_n X dX4_doStep_308 3 rfl ?_
                                refine fg_X4_47 X dX4_doStep_309 ?_
                                refine fg_X4_147 X dX4_doStep_312 ?_
                                refine q_iload X dX4_doStep_315 0 rfl ?_
                                refine q_iald X hC55 (by decide) dX4_doStep_317 (fun h92 => ?_)
                                refine q_callV X NCok hN Aw_new (c_X4_setVar h1 h92) (rn_V X (cwV 2 X.2.2.2.2.1 (tbG_good _ (tbG_V mw_620 mw_622 mp_2_9 mw_6 mw_623)) rfl rfl rfl hd_X4_setVar ⟨by decide, by decide⟩) hC43 rfl rfl rfl (Nat.le_of_ble_eq_true rfl) dX4_doStep_318) (fun r93 _ => ?_)
                                refine q_goto X 340 dX4_doStep_321 (by decide) ?_
                                exact q_vret X hr hlk dX4_doStep_340
                              · refine q_ite (fun h96 => ?_) (fun h96 => ?_)
                                · refine q_tswIn X h4 15 284 324 h96 dX4_doStep_40 (by decide) rfl (by decide) ?_
                                  refine q_aload_n X dX4_doStep_324 3 rfl ?_
                                  refine q_iload_n X dX4_doStep_325 4 rfl ?_
                                  refine q_aload_n X dX4_doStep_326 3 rfl ?_
                                  refine fg_X4_12 X dX4_doStep_327 ?_
                                  refine q_iload_n X dX4_doStep_330 2 rfl ?_
                                  refine q_callIp X NCok hN Aw_new (c_X1_varOf h1) (rn_V X (cwV 1 X.2.2.2.2.1 (tbG_good _ (tbG_V mw_675 mw_676 mw_677 mw_7 mw_678)) rfl rfl rfl hd_X1_varOf ⟨by decide, by decide⟩) hC44 rfl rfl rfl (Nat.le_of_ble_eq_true rfl) dX4_doStep_331) (fun r97 _ h99 => ?_)
                                  refine q_callV X NCok hN Aw_new (c_X4_raise hx1 h99) (rn_V X (cwV 2 X.2.2.2.2.1 (tbG_good _ (tbG_V mw_768 mw_770 mp_3_13 mw_6 mw_771)) rfl rfl rfl hd_X4_raise ⟨by decide, by decide⟩) hC43 rfl rfl rfl (Nat.le_of_ble_eq_true rfl) dX4_doStep_334) (fun r100 _ => ?_)
                                  refine q_goto X 340 dX4_doStep_337 (by decide) ?_
                                  exact q_vret X hr hlk dX4_doStep_340
                                · refine q_tswOut X h4 340 (by omega) dX4_doStep_40 (by decide) ?_
                                  exact q_vret X hr hlk dX4_doStep_340

/-! SiteObjects$Runner.takeTurn()V -/
abbrev GX4_takeTurn (p : Program) (l : Launch) (e : Env) (s : State) (m : MethodId) (args : Array Value) (below : List Frame) (meth : Method) (c : Code) (D : va_G) (ca : Nat → ClassId) (ad : Nat → Nat) (res : Mm) : Nat → List (Nat × Value) → List Value → Mm → Option (Mm) → Prop := G p l e { frames := 5, cells := 0, slots := 0, locals := 118 } s m args below meth c (MQ below (QcV D vcl ca ad shC s.heap.size res) args s 0 0 (Aw ad shC.length s.heap.size)) 2 D vcl ca ad shC (Aw ad shC.length s.heap.size) res
def f_X4_takeTurn (σ : Mm) : Option (Mm) :=
  (f_X1_topMethod σ).bind (fun r1 => (f_X1_topNext σ).bind (fun r4 => (f_X3_stepAt r1 r4 σ).bind (fun r7 => (if 0 ≤ r7 then ck ((0 : Int) ≤ 1 ∧ 1 < ((9 : Nat) : Int)) ((if (σ.1 49 1) < (σ.1 43 6) then ck ((0 : Int) ≤ 1 ∧ 1 < ((9 : Nat) : Int)) (ck (inR ((σ.1 49 1) + 1)) (ck ((0 : Int) ≤ 1 ∧ 1 < ((9 : Nat) : Int)) ((f_X1_topNext (stI σ 49 1 ((σ.1 49 1) + 1))).bind (fun r16 => ck (inR (r16 + 1)) ((f_X1_goOnAt (r16 + 1) (stI σ 49 1 ((σ.1 49 1) + 1))).bind (fun r20 => (f_X4_doStep r7 r20).bind (fun r23 => some r23))))))) else (f_X4_fail 9 r7 σ).bind (fun r26 => some r26))) else (f_X4_leave (-9) σ).bind (fun r29 => some r29)))))
theorem hd_X4_takeTurn : yX4_takeTurn.cls = RX4 ∧ yX4_takeTurn.cls ≠ "java/lang/invoke/MethodHandle" ∧ yX4_takeTurn.cls ≠ "java/lang/invoke/VarHandle" ∧ (parseMethodDescriptor yX4_takeTurn.desc).map (fun d => d.parameters.length) = some 0 := by decide +kernel
set_option maxRecDepth 100000 in
set_option maxHeartbeats 4000000 in
theorem c_X4_takeTurn {l : Launch} {D : va_G} {ca : Nat → ClassId} {ad : Nat → Nat} {σ : Mm} : CtV l D vcl ca ad shC NC yX4_takeTurn (Cond.code yX4_takeTurn cX4_takeTurn 2 none :: tbG) { frames := 5, cells := 0, slots := 0, locals := 118 } [.ref (ad 43)] σ (f_X4_takeTurn σ) := by
  refine ct_V RX4 rfl (by decide) rfl (Nat.le_of_ble_eq_true rfl) (fun p e s m below meth c res X hN hr hlk => ?_)
  show GX4_takeTurn p l e s m _ below meth c D ca ad res 0 [(0, .ref (ad 43))] [] σ (f_X4_takeTurn σ)
  unfold f_X4_takeTurn
  refine q_aload_n X dX4_takeTurn_0 0 rfl ?_
  refine fg_X4_34 X dX4_takeTurn_1 ?_
  refine q_aload_n X dX4_takeTurn_4 0 rfl ?_
  refine fg_X4_12 X dX4_takeTurn_5 ?_
  refine q_callIp X NCok hN Aw_new c_X1_topMethod (rn_V X (cwV 0 X.2.2.2.2.1 (tbG_good _ (tbG_V mw_641 mw_642 mw_643 mw_7 mw_644)) rfl rfl rfl hd_X1_topMethod ⟨by decide, by decide⟩) hC44 rfl rfl rfl (Nat.le_of_ble_eq_true rfl) dX4_takeTurn_8) (fun r1 _ h3 => ?_)
  refine q_aload_n X dX4_takeTurn_11 0 rfl ?_
  refine fg_X4_12 X dX4_takeTurn_12 ?_
  refine q_callIp X NCok hN Aw_new c_X1_topNext (rn_V X (cwV 0 X.2.2.2.2.1 (tbG_good _ (tbG_V mw_645 mw_646 mw_647 mw_7 mw_648)) rfl rfl rfl hd_X1_topNext ⟨by decide, by decide⟩) hC44 rfl rfl rfl (Nat.le_of_ble_eq_true rfl) dX4_takeTurn_15) (fun r4 _ h6 => ?_)
  refine q_callIp X NCok hN Aw_new (c_X3_stepAt h3 h6) (rn_V X (cwV 2 X.2.2.2.2.1 (tbG_good _ (tbG_V mw_649 mw_428 mw_429 mw_2 mw_430)) rfl rfl rfl hd_X3_stepAt ⟨by decide, by decide⟩) hC1 rfl rfl rfl (Nat.le_of_ble_eq_true rfl) dX4_takeTurn_18) (fun r7 _ h9 => ?_)
  refine q_istore_n X [(1, .int (oi r7)), (0, .ref (ad 43))] dX4_takeTurn_21 (by decide) rfl ?_
  refine q_iload_n X dX4_takeTurn_22 0 rfl ?_
  refine q_if_ge X h9 35 dX4_takeTurn_23 (by decide) (fun h10 => ?_) (fun h10 => ?_)
  · refine q_aload_n X dX4_takeTurn_35 1 rfl ?_
    refine fg_X4_18 X dX4_takeTurn_36 ?_
    refine q_iconst X dX4_takeTurn_39 ?_
    refine q_iald X hC49 (by decide) dX4_takeTurn_40 (fun h11 => ?_)
    refine q_aload_n X dX4_takeTurn_41 1 rfl ?_
    refine fg_X4_26 X dX4_takeTurn_42 (fun h12 => ?_)
    refine q_icmp_lt X h11 h12 58 dX4_takeTurn_45 (by decide) (fun h13 => ?_) (fun h13 => ?_)
    · refine q_aload_n X dX4_takeTurn_58 1 rfl ?_
      refine fg_X4_18 X dX4_takeTurn_59 ?_
      refine q_iconst X dX4_takeTurn_62 ?_
      refine q_dup2 X dX4_takeTurn_63 rfl rfl ?_
      refine q_iald X hC49 (by decide) dX4_takeTurn_64 (fun h14 => ?_)
      refine q_iconst X dX4_takeTurn_65 ?_
      refine q_iadd X dX4_takeTurn_66 ?_
      refine q_ck (fun h15 => ?_)
      refine q_iast X hC49 (by decide) h15 dX4_takeTurn_67 ?_
      refine q_aload_n X dX4_takeTurn_68 1 rfl ?_
      refine fg_X4_12 X dX4_takeTurn_69 ?_
      refine q_aload_n X dX4_takeTurn_72 1 rfl ?_
      refine fg_X4_12 X dX4_takeTurn_73 ?_
      refine q_callIp X NCok hN Aw_new c_X1_topNext (rn_V X (cwV 0 X.2.2.2.2.1 (tbG_good _ (tbG_V mw_645 mw_646 mw_647 mw_7 mw_648)) rfl rfl rfl hd_X1_topNext ⟨by decide, by decide⟩) hC44 rfl rfl rfl (Nat.le_of_ble_eq_true rfl) dX4_takeTurn_76) (fun r16 _ h18 => ?_)
      refine q_iconst X dX4_takeTurn_79 ?_
      refine q_iadd X dX4_takeTurn_80 ?_
      refine q_ck (fun h19 => ?_)
      refine q_callV X NCok hN Aw_new (c_X1_goOnAt h19) (rn_V X (cwV 1 X.2.2.2.2.1 (tbG_good _ (tbG_V mw_658 mw_659 mw_660 mw_7 mw_661)) rfl rfl rfl hd_X1_goOnAt ⟨by decide, by decide⟩) hC44 rfl rfl rfl (Nat.le_of_ble_eq_true rfl) dX4_takeTurn_81) (fun r20 _ => ?_)
      refine q_aload_n X dX4_takeTurn_84 1 rfl ?_
      refine q_iload_n X dX4_takeTurn_85 0 rfl ?_
      refine q_callV X NCok hN Aw_new (c_X4_doStep h9) (rn_V X (cwV 1 X.2.2.2.2.1 (tbG_good _ (tbG_V mw_662 mw_664 mp_2_14 mw_6 mw_665)) rfl rfl rfl hd_X4_doStep ⟨by decide, by decide⟩) hC43 rfl rfl rfl (Nat.le_of_ble_eq_true rfl) dX4_takeTurn_86) (fun r23 _ => ?_)
      exact q_vret X hr hlk dX4_takeTurn_89
    · refine q_aload_n X dX4_takeTurn_48 1 rfl ?_
      refine q_bipush X dX4_takeTurn_49 (by decide) ?_
      refine q_iload_n X dX4_takeTurn_51 0 rfl ?_
      refine q_callV X NCok hN Aw_new (c_X4_fail (by decide) h9) (rn_V X (cwV 2 X.2.2.2.2.1 (tbG_good _ (tbG_V mw_654 mw_656 mp_2_13 mw_6 mw_657)) rfl rfl rfl hd_X4_fail ⟨by decide, by decide⟩) hC43 rfl rfl rfl (Nat.le_of_ble_eq_true rfl) dX4_takeTurn_52) (fun r26 _ => ?_)
      refine q_goto X 89 dX4_takeTurn_55 (by decide) ?_
      exact q_vret X hr hlk dX4_takeTurn_89
  · refine q_aload_n X dX4_takeTurn_26 1 rfl ?_
    refine q_bipush X dX4_takeTurn_27 (by decide) ?_
    refine q_callV X NCok hN Aw_new (c_X4_leave (by decide)) (rn_V X (cwV 1 X.2.2.2.2.1 (tbG_good _ (tbG_V mw_650 mw_652 mp_2_12 mw_6 mw_653)) rfl rfl rfl hd_X4_leave ⟨by decide, by decide⟩) hC43 rfl rfl rfl (Nat.le_of_ble_eq_true rfl) dX4_takeTurn_29) (fun r29 _ => ?_)
    refine q_goto X 89 dX4_takeTurn_32 (by decide) ?_
    exact q_vret X hr hlk dX4_takeTurn_89

/-! SiteObjects$Runner.go(IJI)I -/
abbrev GX4_go (p : Program) (l : Launch) (e : Env) (s : State) (m : MethodId) (args : Array Value) (below : List Frame) (meth : Method) (c : Code) (D : va_G) (ca : Nat → ClassId) (ad : Nat → Nat) (res : Int × Mm) : Nat → List (Nat × Value) → List Value → Mm → Option (Int × Mm) → Prop := G p l e { frames := 6, cells := 0, slots := 0, locals := 139 } s m args below meth c (MQ below (QcI D vcl ca ad shC s.heap.size res) args s 0 0 (Aw ad shC.length s.heap.size)) 6 D vcl ca ad shC (Aw ad shC.length s.heap.size) res
def f_X4_go_70 : Nat → Int → Mm → Option (Int × Mm)
  | 0, _, _ => none
  | n + 1, x5, σ => (if 3000 ≤ x5 then ck ((0 : Int) ≤ 0 ∧ 0 < ((9 : Nat) : Int)) (some ((σ.1 49 0), σ)) else (if (σ.1 43 7) = 0 then ck ((0 : Int) ≤ 0 ∧ 0 < ((9 : Nat) : Int)) (some ((σ.1 49 0), σ)) else (f_X4_takeTurn σ).bind (fun r6 => ck (inR (x5 + 1)) (f_X4_go_70 n (x5 + 1) r6))))
set_option maxRecDepth 100000 in
set_option maxHeartbeats 4000000 in
theorem t_X4_go_70 {p : Program} {l : Launch} {e : Env} {s : State} {m : MethodId} {args : Array Value} {below : List Frame} {meth : Method} {c : Code} {D : va_G} {ca : Nat → ClassId} {ad : Nat → Nat} {res : Int × Mm} (X : Cx p s m args c cX4_go 6 RX4 (Cond.code yX4_go cX4_go 6 (some .int) :: tbG) D vcl ca) (hN : NC s) (hr : meth.sig.returnType = (some .int)) (hlk : meth.locks = false) : ∀ (n : Nat) (x5 : Int) (σ : Mm), inR x5 → GX4_go p l e s m args below meth c D ca ad res 70 [(0, .ref (ad 43)), (5, .int (oi x5))] [] σ (f_X4_go_70 n x5 σ)
  := by
  intro n
  induction n with
  | zero => intro x5 σ hx5 h; cases h
  | succ n ih =>
    intro x5 σ hx5
    rw [f_X4_go_70]
    refine q_iload X dX4_go_70 1 rfl ?_
    refine q_sipush X dX4_go_72 (by decide) ?_
    refine q_icmp_ge X hx5 (by decide) 95 dX4_go_75 (by decide) (fun h1 => ?_) (fun h1 => ?_)
    · refine q_aload_n X dX4_go_95 0 rfl ?_
      refine fg_X4_18 X dX4_go_96 ?_
      refine q_iconst X dX4_go_99 ?_
      refine q_iald X hC49 (by decide) dX4_go_100 (fun h2 => ?_)
      exact q_iret X h2 hr hlk dX4_go_101
    · refine q_aload_n X dX4_go_78 0 rfl ?_
      refine fg_X4_30 X dX4_go_79 (fun h3 => ?_)
      refine q_if_eq X h3 95 dX4_go_82 (by decide) (fun h4 => ?_) (fun h4 => ?_)
      · refine q_aload_n X dX4_go_95 0 rfl ?_
        refine fg_X4_18 X dX4_go_96 ?_
        refine q_iconst X dX4_go_99 ?_
        refine q_iald X hC49 (by decide) dX4_go_100 (fun h5 => ?_)
        exact q_iret X h5 hr hlk dX4_go_101
      · refine q_aload_n X dX4_go_85 0 rfl ?_
        refine q_callV X NCok hN Aw_new c_X4_takeTurn (rn_V X (cwV 0 X.2.2.2.2.1 (tbG_good _ (tbG_V mw_637 mw_639 mp_2_11 mw_6 mw_640)) rfl rfl rfl hd_X4_takeTurn ⟨by decide, by decide⟩) hC43 rfl rfl rfl (Nat.le_of_ble_eq_true rfl) dX4_go_86) (fun r6 _ => ?_)
        refine q_iinc X [(5, .int (oi (x5 + 1))), (0, .ref (ad 43))] dX4_go_89 (by decide) 1 rfl rfl (fun h9 => ?_)
        refine q_goto X 70 dX4_go_92 (by decide) ?_
        refine q_sub [(0, .ref (ad 43)), (5, .int (oi (x5 + 1)))] [1, 0] rfl ?_
        exact ih (x5 + 1) r6 h9
def f_X4_go (x1 : Int) (x2 : Int64) (x4 : Int) (σ : Mm) : Option (Int × Mm) :=
  (f_X2_clear σ).bind (fun r10 => (f_J7_fill_53178 9 49 0 r10).bind (fun r13 => ck ((0 : Int) ≤ 6 ∧ 6 < ((9 : Nat) : Int)) (ck ((0 : Int) ≤ 7 ∧ 7 < ((9 : Nat) : Int)) ((some (stI (stL (stI (stI r13 49 6 (-9)) 49 7 (-9)) 43 5 x2) 43 6 x4)).bind (fun σ16 => (f_X4_enter x1 0 (-9) (-9) (stI (stI σ16 44 0 0) 43 7 1)).bind (fun r17 => f_X4_go_70 2000 0 r17))))))
theorem hd_X4_go : yX4_go.cls = RX4 ∧ yX4_go.cls ≠ "java/lang/invoke/MethodHandle" ∧ yX4_go.cls ≠ "java/lang/invoke/VarHandle" ∧ (parseMethodDescriptor yX4_go.desc).map (fun d => d.parameters.length) = some 3 := by decide +kernel
set_option maxRecDepth 100000 in
set_option maxHeartbeats 4000000 in
theorem c_X4_go {l : Launch} {D : va_G} {ca : Nat → ClassId} {ad : Nat → Nat} {x1 : Int} {x2 : Int64} {x4 : Int} (hx1 : inR x1) (hx4 : inR x4) {σ : Mm} : CtI l D vcl ca ad shC NC yX4_go (Cond.code yX4_go cX4_go 6 (some .int) :: tbG) { frames := 6, cells := 0, slots := 0, locals := 139 } [.ref (ad 43), .int (oi x1), .long x2, .int (oi x4)] σ (f_X4_go x1 x2 x4 σ) := by
  refine ct_I RX4 rfl (by decide) rfl (Nat.le_of_ble_eq_true rfl) (fun p e s m below meth c res X hN hr hlk => ?_)
  show GX4_go p l e s m _ below meth c D ca ad res 0 [(0, .ref (ad 43)), (1, .int (oi x1)), (2, .long x2), (4, .int (oi x4))] [] σ (f_X4_go x1 x2 x4 σ)
  unfold f_X4_go
  refine q_aload_n X dX4_go_0 0 rfl ?_
  refine fg_X4_47 X dX4_go_1 ?_
  refine q_callV X NCok hN Aw_new c_X2_clear (rn_V X (cwV 0 X.2.2.2.2.1 (tbG_good _ (tbG_V mw_603 mw_604 mw_605 mw_8 mw_606)) rfl rfl rfl hd_X2_clear ⟨by decide, by decide⟩) hC50 rfl rfl rfl (Nat.le_of_ble_eq_true rfl) dX4_go_4) (fun r10 _ => ?_)
  refine q_aload_n X dX4_go_7 0 rfl ?_
  refine fg_X4_18 X dX4_go_8 ?_
  refine q_iconst X dX4_go_11 ?_
  refine q_callV X NCok hN Aw_new (c_J7_fill_53178 hC49 (by decide) (by decide)) (rn_S X (va_cwS 2 X.2.2.2.2.1 (tbG_good _ (tbG_S mw_608 mw_27 mw_3 mw_28)) rfl rfl rfl hd_J7_fill_53178 ⟨by decide, by decide⟩) rfl rfl (Nat.le_of_ble_eq_true rfl) dX4_go_12) (fun r13 _ => ?_)
  refine q_aload_n X dX4_go_15 0 rfl ?_
  refine fg_X4_18 X dX4_go_16 ?_
  refine q_bipush X dX4_go_19 (by decide) ?_
  refine q_bipush X dX4_go_21 (by decide) ?_
  refine q_iast X hC49 (by decide) (by decide) dX4_go_23 ?_
  refine q_aload_n X dX4_go_24 0 rfl ?_
  refine fg_X4_18 X dX4_go_25 ?_
  refine q_bipush X dX4_go_28 (by decide) ?_
  refine q_bipush X dX4_go_30 (by decide) ?_
  refine q_iast X hC49 (by decide) (by decide) dX4_go_32 ?_
  refine q_aload_n X dX4_go_33 0 rfl ?_
  refine q_lload_n X dX4_go_34 2 rfl ?_
  refine fp_X4_22 X dX4_go_35 ?_
  refine q_aload_n X dX4_go_38 0 rfl ?_
  refine q_iload X dX4_go_39 3 rfl ?_
  refine fp_X4_26 X hx4 dX4_go_41 ?_
  refine q_nm (fun σ16 => ?_)
  refine q_aload_n X dX4_go_44 0 rfl ?_
  refine fg_X4_12 X dX4_go_45 ?_
  refine q_iconst X dX4_go_48 ?_
  refine fp_X4_60 X (by decide) dX4_go_49 ?_
  refine q_aload_n X dX4_go_52 0 rfl ?_
  refine q_iconst X dX4_go_53 ?_
  refine fp_X4_30 X (Or.inr rfl) dX4_go_54 ?_
  refine q_aload_n X dX4_go_57 0 rfl ?_
  refine q_iload_n X dX4_go_58 1 rfl ?_
  refine q_iconst X dX4_go_59 ?_
  refine q_bipush X dX4_go_60 (by decide) ?_
  refine q_bipush X dX4_go_62 (by decide) ?_
  refine q_callV X NCok hN Aw_new (c_X4_enter hx1 (by decide) (by decide) (by decide)) (rn_V X (cwV 4 X.2.2.2.2.1 (tbG_good _ (tbG_V mw_609 mw_611 mp_2_8 mw_6 mw_612)) rfl rfl rfl hd_X4_enter ⟨by decide, by decide⟩) hC43 rfl rfl rfl (Nat.le_of_ble_eq_true rfl) dX4_go_64) (fun r17 _ => ?_)
  refine q_iconst X dX4_go_67 ?_
  refine q_istore X [(5, .int (oi 0)), (0, .ref (ad 43)), (1, .int (oi x1)), (2, .long x2), (4, .int (oi x4))] dX4_go_68 (by decide) rfl ?_
  refine q_sub [(0, .ref (ad 43)), (5, .int (oi 0))] [1, 0] rfl ?_
  exact t_X4_go_70 X hN hr hlk 2000 0 r17 (by decide)
