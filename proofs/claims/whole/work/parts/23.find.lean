/-! SiteObjects$Finding.nodeFor(II)I -/
abbrev GX0_nodeFor (p : Program) (l : Launch) (e : Env) (s : State) (m : MethodId) (args : Array Value) (below : List Frame) (meth : Method) (c : Code) (D : va_G) (ca : Nat → ClassId) (ad : Nat → Nat) (res : Int × Mm) : Nat → List (Nat × Value) → List Value → Mm → Option (Int × Mm) → Prop := G p l e { frames := 1, cells := 0, slots := 0, locals := 23 } s m args below meth c (MQ below (QcI D vcl ca ad shC s.heap.size res) args s 0 0 (Aw ad shC.length s.heap.size)) 6 D vcl ca ad shC (Aw ad shC.length s.heap.size) res
def f_X0_nodeFor_35 (o : Nat) : Nat → Int → Int → Mm → Option (Int × Mm)
  | 0, _, _, _ => none
  | n + 1, x4, x5, σ => (if 8 ≤ x5 then some (x4, (stI σ o 7 1)) else ck ((0 : Int) ≤ ((x4 * 8) + x5) ∧ ((x4 * 8) + x5) < ((640 : Nat) : Int)) (ck (inR (x5 + 1)) (f_X0_nodeFor_35 o n x4 (x5 + 1) (stL σ (o + 1) (Int.toNat ((x4 * 8) + x5)) 0))))
set_option maxRecDepth 100000 in
set_option maxHeartbeats 4000000 in
theorem t_X0_nodeFor_35 {p : Program} {l : Launch} {e : Env} {s : State} {m : MethodId} {args : Array Value} {below : List Frame} {meth : Method} {c : Code} {D : va_G} {ca : Nat → ClassId} {ad : Nat → Nat} {res : Int × Mm} {o : Nat} (X : Cx p s m args c cX0_nodeFor 6 RX0 (Cond.code yX0_nodeFor cX0_nodeFor 6 (some .int) :: tbG) D vcl ca) (hN : NC s) (hr : meth.sig.returnType = (some .int)) (hlk : meth.locks = false) (ho : o = 15 ∨ o = 29) : ∀ (n : Nat) (x4 : Int) (x5 : Int) (σ : Mm), inR x4 → inR x5 → GX0_nodeFor p l e s m args below meth c D ca ad res 35 [(0, .ref (ad o)), (4, .int (oi x4)), (5, .int (oi x5))] [] σ (f_X0_nodeFor_35 o n x4 x5 σ)
  := by
  intro n
  induction n with
  | zero => intro x4 x5 σ hx4 hx5 h; cases h
  | succ n ih =>
    intro x4 x5 σ hx4 hx5
    rw [f_X0_nodeFor_35]
    refine q_iload X dX0_nodeFor_35 2 rfl ?_
    refine q_bipush X dX0_nodeFor_37 (by decide) ?_
    refine q_icmp_ge X hx5 (by decide) 62 dX0_nodeFor_39 (by decide) (fun h1 => ?_) (fun h1 => ?_)
    · refine q_aload_n X dX0_nodeFor_62 0 rfl ?_
      refine q_iconst X dX0_nodeFor_63 ?_
      refine fp_X0_28 ho X (Or.inr rfl) dX0_nodeFor_64 ?_
      refine q_iload X dX0_nodeFor_67 1 rfl ?_
      exact q_iret X hx4 hr hlk dX0_nodeFor_69
    · refine q_aload_n X dX0_nodeFor_42 0 rfl ?_
      refine fg_X0_11 ho X dX0_nodeFor_43 ?_
      refine q_iload X dX0_nodeFor_46 1 rfl ?_
      refine q_bipush X dX0_nodeFor_48 (by decide) ?_
      refine q_imul X dX0_nodeFor_50 ?_
      refine q_iload X dX0_nodeFor_51 2 rfl ?_
      refine q_iadd X dX0_nodeFor_53 ?_
      refine q_lconst X 0 dX0_nodeFor_54 rfl ?_
      refine q_last X (hF1 ho) (by decide) dX0_nodeFor_55 ?_
      refine q_iinc X [(5, .int (oi (x5 + 1))), (0, .ref (ad o)), (4, .int (oi x4))] dX0_nodeFor_56 (by decide) 2 rfl rfl (fun h2 => ?_)
      refine q_goto X 35 dX0_nodeFor_59 (by decide) ?_
      refine q_sub [(0, .ref (ad o)), (4, .int (oi x4)), (5, .int (oi (x5 + 1)))] [1, 2, 0] rfl ?_
      exact ih x4 (x5 + 1) (stL σ (o + 1) (Int.toNat ((x4 * 8) + x5)) 0) hx4 h2
def f_X0_nodeFor (o : Nat) (x1 : Int) (x2 : Int) (σ : Mm) : Option (Int × Mm) :=
  (f_X5_nodeWith o x1 x2 σ).bind (fun r3 => (if r3 < 0 then (f_X5_addNode o x1 x2 σ).bind (fun r7 => (if r7.1 < 0 then some (r7.1, r7.2) else f_X0_nodeFor_35 o 2000 r7.1 0 r7.2)) else some (r3, σ)))
theorem hd_X0_nodeFor : yX0_nodeFor.cls = RX0 ∧ yX0_nodeFor.cls ≠ "java/lang/invoke/MethodHandle" ∧ yX0_nodeFor.cls ≠ "java/lang/invoke/VarHandle" ∧ (parseMethodDescriptor yX0_nodeFor.desc).map (fun d => d.parameters.length) = some 2 := by decide +kernel
set_option maxRecDepth 100000 in
set_option maxHeartbeats 4000000 in
theorem c_X0_nodeFor {l : Launch} {D : va_G} {ca : Nat → ClassId} {ad : Nat → Nat} {o : Nat} {x1 : Int} {x2 : Int} (ho : o = 15 ∨ o = 29) (hx1 : inR x1) (hx2 : inR x2) {σ : Mm} : CtI l D vcl ca ad shC NC yX0_nodeFor (Cond.code yX0_nodeFor cX0_nodeFor 6 (some .int) :: tbG) { frames := 1, cells := 0, slots := 0, locals := 23 } [.ref (ad o), .int (oi x1), .int (oi x2)] σ (f_X0_nodeFor o x1 x2 σ) := by
  refine ct_I RX0 rfl (by decide) rfl (Nat.le_of_ble_eq_true rfl) (fun p e s m below meth c res X hN hr hlk => ?_)
  show GX0_nodeFor p l e s m _ below meth c D ca ad res 0 [(0, .ref (ad o)), (1, .int (oi x1)), (2, .int (oi x2))] [] σ (f_X0_nodeFor o x1 x2 σ)
  unfold f_X0_nodeFor
  refine q_aload_n X dX0_nodeFor_0 0 rfl ?_
  refine fg_X0_57 ho X dX0_nodeFor_1 ?_
  refine q_iload_n X dX0_nodeFor_4 1 rfl ?_
  refine q_iload_n X dX0_nodeFor_5 2 rfl ?_
  refine q_callIp X NCok hN Aw_new (c_X5_nodeWith ho hx1 hx2) (rn_V X (cwV 2 X.2.2.2.2.1 (tbG_good _ (tbG_V mw_418 mw_419 mw_420 mw_5 mw_421)) rfl rfl rfl hd_X5_nodeWith ⟨by decide, by decide⟩) (hO9 ho) rfl rfl rfl (Nat.le_of_ble_eq_true rfl) dX0_nodeFor_6) (fun r3 _ h5 => ?_)
  refine q_istore_n X [(3, .int (oi r3)), (0, .ref (ad o)), (1, .int (oi x1)), (2, .int (oi x2))] dX0_nodeFor_9 (by decide) rfl ?_
  refine q_iload_n X dX0_nodeFor_10 0 rfl ?_
  refine q_if_lt X h5 16 dX0_nodeFor_11 (by decide) (fun h6 => ?_) (fun h6 => ?_)
  · refine q_aload_n X dX0_nodeFor_16 1 rfl ?_
    refine fg_X0_57 ho X dX0_nodeFor_17 ?_
    refine q_iload_n X dX0_nodeFor_20 2 rfl ?_
    refine q_iload_n X dX0_nodeFor_21 3 rfl ?_
    refine q_callI X NCok hN Aw_new (c_X5_addNode ho hx1 hx2) (rn_V X (cwV 2 X.2.2.2.2.1 (tbG_good _ (tbG_V mw_422 mw_423 mw_424 mw_5 mw_425)) rfl rfl rfl hd_X5_addNode ⟨by decide, by decide⟩) (hO9 ho) rfl rfl rfl (Nat.le_of_ble_eq_true rfl) dX0_nodeFor_22) (fun r7 _ h9 => ?_)
    refine q_istore X [(4, .int (oi r7.1)), (3, .int (oi r3)), (0, .ref (ad o)), (1, .int (oi x1)), (2, .int (oi x2))] dX0_nodeFor_25 (by decide) rfl ?_
    refine q_iload X dX0_nodeFor_27 0 rfl ?_
    refine q_if_lt X h9 67 dX0_nodeFor_29 (by decide) (fun h10 => ?_) (fun h10 => ?_)
    · refine q_iload X dX0_nodeFor_67 0 rfl ?_
      exact q_iret X h9 hr hlk dX0_nodeFor_69
    · refine q_iconst X dX0_nodeFor_32 ?_
      refine q_istore X [(5, .int (oi 0)), (4, .int (oi r7.1)), (3, .int (oi r3)), (0, .ref (ad o)), (1, .int (oi x1)), (2, .int (oi x2))] dX0_nodeFor_33 (by decide) rfl ?_
      refine q_sub [(0, .ref (ad o)), (4, .int (oi r7.1)), (5, .int (oi 0))] [3, 1, 0] rfl ?_
      exact t_X0_nodeFor_35 X hN hr hlk ho 2000 r7.1 0 r7.2 h9 (by decide)
  · refine q_iload_n X dX0_nodeFor_14 0 rfl ?_
    exact q_iret X h5 hr hlk dX0_nodeFor_15

/-! SiteObjects$Finding.nameFor(II)J -/
abbrev GX0_nameFor (p : Program) (l : Launch) (e : Env) (s : State) (m : MethodId) (args : Array Value) (below : List Frame) (meth : Method) (c : Code) (D : va_G) (ca : Nat → ClassId) (ad : Nat → Nat) (res : Int64 × Mm) : Nat → List (Nat × Value) → List Value → Mm → Option (Int64 × Mm) → Prop := G p l e { frames := 1, cells := 0, slots := 0, locals := 23 } s m args below meth c (MQ below (QcL D vcl ca ad shC s.heap.size res) args s 0 0 (Aw ad shC.length s.heap.size)) 8 D vcl ca ad shC (Aw ad shC.length s.heap.size) res
def f_X0_nameFor_97 (o : Nat) : Nat → Int → Int64 → Int → Mm → Option (Int64 × Mm)
  | 0, _, _, _, _ => none
  | n + 1, x2, x5, x7, σ => (if (σ.1 1 0) ≤ x7 then some (x5, σ) else (f_X3_madeClass x2 σ).bind (fun r3 => (f_X3_liesBelow r3 x7 σ).bind (fun r6 => (if r6 = 0 then ck (inR (x7 + 1)) (f_X0_nameFor_97 o n x2 x5 (x7 + 1) σ) else ck ((0 : Int) ≤ x7 ∧ x7 < ((10 : Nat) : Int)) (ck ((0 : Int) ≤ x7 ∧ x7 < ((10 : Nat) : Int)) ((some (stL σ (o + 4) (Int.toNat x7) ((σ.2 (o + 4) (Int.toNat x7)) ||| x5))).bind (fun σ11 => ck (inR (x7 + 1)) (f_X0_nameFor_97 o n x2 x5 (x7 + 1) σ11))))))))
set_option maxRecDepth 100000 in
set_option maxHeartbeats 4000000 in
theorem t_X0_nameFor_97 {p : Program} {l : Launch} {e : Env} {s : State} {m : MethodId} {args : Array Value} {below : List Frame} {meth : Method} {c : Code} {D : va_G} {ca : Nat → ClassId} {ad : Nat → Nat} {res : Int64 × Mm} {o : Nat} (X : Cx p s m args c cX0_nameFor 8 RX0 (Cond.code yX0_nameFor cX0_nameFor 8 (some .long) :: tbG) D vcl ca) (hN : NC s) (hr : meth.sig.returnType = (some .long)) (hlk : meth.locks = false) (ho : o = 15 ∨ o = 29) : ∀ (n : Nat) (x2 : Int) (x5 : Int64) (x7 : Int) (σ : Mm), inR x2 → inR x7 → GX0_nameFor p l e s m args below meth c D ca ad res 97 [(0, .ref (ad o)), (2, .int (oi x2)), (5, .long x5), (7, .int (oi x7))] [] σ (f_X0_nameFor_97 o n x2 x5 x7 σ)
  := by
  intro n
  induction n with
  | zero => intro x2 x5 x7 σ hx2 hx7 h; cases h
  | succ n ih =>
    intro x2 x5 x7 σ hx2 hx7
    rw [f_X0_nameFor_97]
    refine q_iload X dX0_nameFor_97 3 rfl ?_
    refine q_aload_n X dX0_nameFor_99 0 rfl ?_
    refine fg_X0_50 ho X dX0_nameFor_100 ?_
    refine fg_X0_205 X dX0_nameFor_103 (fun h1 => ?_)
    refine q_icmp_ge X hx7 h1 147 dX0_nameFor_106 (by decide) (fun h2 => ?_) (fun h2 => ?_)
    · refine q_lload X dX0_nameFor_147 2 rfl ?_
      exact q_lret X hr hlk dX0_nameFor_149
    · refine q_aload_n X dX0_nameFor_109 0 rfl ?_
      refine fg_X0_50 ho X dX0_nameFor_110 ?_
      refine q_aload_n X dX0_nameFor_113 0 rfl ?_
      refine fg_X0_50 ho X dX0_nameFor_114 ?_
      refine q_iload_n X dX0_nameFor_117 1 rfl ?_
      refine q_callIp X NCok hN Aw_new (c_X3_madeClass hx2) (rn_V X (cwV 1 X.2.2.2.2.1 (tbG_good _ (tbG_V mw_447 mw_448 mw_449 mw_2 mw_450)) rfl rfl rfl hd_X3_madeClass ⟨by decide, by decide⟩) hC1 rfl rfl rfl (Nat.le_of_ble_eq_true rfl) dX0_nameFor_118) (fun r3 _ h5 => ?_)
      refine q_iload X dX0_nameFor_121 3 rfl ?_
      refine q_callIp X NCok hN Aw_new (c_X3_liesBelow h5 hx7) (rn_V X (cwV 2 X.2.2.2.2.1 (tbG_good _ (tbG_V mw_451 mw_359 mw_360 mw_2 mw_361)) rfl rfl rfl hd_X3_liesBelow ⟨by decide, by decide⟩) hC1 rfl rfl rfl (Nat.le_of_ble_eq_true rfl) dX0_nameFor_123) (fun r6 _ h8 => ?_)
      refine q_if_eq X h8 141 dX0_nameFor_126 (by decide) (fun h9 => ?_) (fun h9 => ?_)
      · refine q_iinc X [(7, .int (oi (x7 + 1))), (0, .ref (ad o)), (2, .int (oi x2)), (5, .long x5)] dX0_nameFor_141 (by decide) 3 rfl rfl (fun h10 => ?_)
        refine q_goto X 97 dX0_nameFor_144 (by decide) ?_
        refine q_sub [(0, .ref (ad o)), (2, .int (oi x2)), (5, .long x5), (7, .int (oi (x7 + 1)))] [1, 2, 3, 0] rfl ?_
        exact ih x2 x5 (x7 + 1) σ hx2 h10
      · refine q_aload_n X dX0_nameFor_129 0 rfl ?_
        refine fg_X0_21 ho X dX0_nameFor_130 ?_
        refine q_iload X dX0_nameFor_133 3 rfl ?_
        refine q_dup2 X dX0_nameFor_135 rfl rfl ?_
        refine q_lald X (hF4 ho) (by decide) dX0_nameFor_136 ?_
        refine q_lload X dX0_nameFor_137 2 rfl ?_
        refine q_lor X dX0_nameFor_139 ?_
        refine q_last X (hF4 ho) (by decide) dX0_nameFor_140 ?_
        refine q_nm (fun σ11 => ?_)
        refine q_iinc X [(7, .int (oi (x7 + 1))), (0, .ref (ad o)), (2, .int (oi x2)), (5, .long x5)] dX0_nameFor_141 (by decide) 3 rfl rfl (fun h12 => ?_)
        refine q_goto X 97 dX0_nameFor_144 (by decide) ?_
        refine q_sub [(0, .ref (ad o)), (2, .int (oi x2)), (5, .long x5), (7, .int (oi (x7 + 1)))] [1, 2, 3, 0] rfl ?_
        exact ih x2 x5 (x7 + 1) σ11 hx2 h12
def f_X0_nameFor_45 (o : Nat) : Nat → Int → Int → Int64 → Int → Mm → Option (Int64 × Mm)
  | 0, _, _, _, _, _ => none
  | n + 1, x2, x4, x5, x7, σ => (if 5 ≤ x7 then ck ((0 : Int) ≤ x2 ∧ x2 < ((90 : Nat) : Int)) ((if (σ.1 8 (Int.toNat x2)) = 1 then f_X0_nameFor_97 o 2000 x2 x5 0 (stL σ o 6 ((σ.2 o 6) ||| x5)) else f_X0_nameFor_97 o 2000 x2 x5 0 σ)) else ck ((0 : Int) ≤ ((x4 * 5) + x7) ∧ ((x4 * 5) + x7) < ((300 : Nat) : Int)) (ck (inR (x7 + 1)) (f_X0_nameFor_45 o n x2 x4 x5 (x7 + 1) (stL σ (o + 2) (Int.toNat ((x4 * 5) + x7)) 0))))
set_option maxRecDepth 100000 in
set_option maxHeartbeats 4000000 in
theorem t_X0_nameFor_45 {p : Program} {l : Launch} {e : Env} {s : State} {m : MethodId} {args : Array Value} {below : List Frame} {meth : Method} {c : Code} {D : va_G} {ca : Nat → ClassId} {ad : Nat → Nat} {res : Int64 × Mm} {o : Nat} (X : Cx p s m args c cX0_nameFor 8 RX0 (Cond.code yX0_nameFor cX0_nameFor 8 (some .long) :: tbG) D vcl ca) (hN : NC s) (hr : meth.sig.returnType = (some .long)) (hlk : meth.locks = false) (ho : o = 15 ∨ o = 29) : ∀ (n : Nat) (x2 : Int) (x4 : Int) (x5 : Int64) (x7 : Int) (σ : Mm), inR x2 → inR x4 → inR x7 → GX0_nameFor p l e s m args below meth c D ca ad res 45 [(0, .ref (ad o)), (2, .int (oi x2)), (4, .int (oi x4)), (5, .long x5), (7, .int (oi x7))] [] σ (f_X0_nameFor_45 o n x2 x4 x5 x7 σ)
  := by
  intro n
  induction n with
  | zero => intro x2 x4 x5 x7 σ hx2 hx4 hx7 h; cases h
  | succ n ih =>
    intro x2 x4 x5 x7 σ hx2 hx4 hx7
    rw [f_X0_nameFor_45]
    refine q_iload X dX0_nameFor_45 4 rfl ?_
    refine q_iconst X dX0_nameFor_47 ?_
    refine q_icmp_ge X hx7 (by decide) 70 dX0_nameFor_48 (by decide) (fun h13 => ?_) (fun h13 => ?_)
    · refine q_aload_n X dX0_nameFor_70 0 rfl ?_
      refine fg_X0_50 ho X dX0_nameFor_71 ?_
      refine fg_X0_115 X dX0_nameFor_74 ?_
      refine q_iload_n X dX0_nameFor_77 1 rfl ?_
      refine q_iald X hC8 (by decide) dX0_nameFor_78 (fun h14 => ?_)
      refine q_iconst X dX0_nameFor_79 ?_
      refine q_icmp_ne X h14 (by decide) 94 dX0_nameFor_80 (by decide) (fun h15 => ?_) (fun h15 => ?_)
      · refine q_aload_n X dX0_nameFor_83 0 rfl ?_
        refine q_dup X dX0_nameFor_84 rfl ?_
        refine fg_X0_24 ho X dX0_nameFor_85 ?_
        refine q_lload X dX0_nameFor_88 3 rfl ?_
        refine q_lor X dX0_nameFor_90 ?_
        refine fp_X0_24 ho X dX0_nameFor_91 ?_
        refine q_iconst X dX0_nameFor_94 ?_
        refine q_istore X [(7, .int (oi 0)), (0, .ref (ad o)), (2, .int (oi x2)), (4, .int (oi x4)), (5, .long x5)] dX0_nameFor_95 (by decide) rfl ?_
        refine q_sub [(0, .ref (ad o)), (2, .int (oi x2)), (5, .long x5), (7, .int (oi 0))] [1, 2, 4, 0] rfl ?_
        exact t_X0_nameFor_97 X hN hr hlk ho 2000 x2 x5 0 (stL σ o 6 ((σ.2 o 6) ||| x5)) hx2 (by decide)
      · refine q_iconst X dX0_nameFor_94 ?_
        refine q_istore X [(7, .int (oi 0)), (0, .ref (ad o)), (2, .int (oi x2)), (4, .int (oi x4)), (5, .long x5)] dX0_nameFor_95 (by decide) rfl ?_
        refine q_sub [(0, .ref (ad o)), (2, .int (oi x2)), (5, .long x5), (7, .int (oi 0))] [1, 2, 4, 0] rfl ?_
        exact t_X0_nameFor_97 X hN hr hlk ho 2000 x2 x5 0 σ hx2 (by decide)
    · refine q_aload_n X dX0_nameFor_51 0 rfl ?_
      refine fg_X0_15 ho X dX0_nameFor_52 ?_
      refine q_iload X dX0_nameFor_55 2 rfl ?_
      refine q_iconst X dX0_nameFor_57 ?_
      refine q_imul X dX0_nameFor_58 ?_
      refine q_iload X dX0_nameFor_59 4 rfl ?_
      refine q_iadd X dX0_nameFor_61 ?_
      refine q_lconst X 0 dX0_nameFor_62 rfl ?_
      refine q_last X (hF2 ho) (by decide) dX0_nameFor_63 ?_
      refine q_iinc X [(7, .int (oi (x7 + 1))), (0, .ref (ad o)), (2, .int (oi x2)), (4, .int (oi x4)), (5, .long x5)] dX0_nameFor_64 (by decide) 4 rfl rfl (fun h16 => ?_)
      refine q_goto X 45 dX0_nameFor_67 (by decide) ?_
      refine q_sub [(0, .ref (ad o)), (2, .int (oi x2)), (4, .int (oi x4)), (5, .long x5), (7, .int (oi (x7 + 1)))] [1, 2, 3, 4, 0] rfl ?_
      exact ih x2 x4 x5 (x7 + 1) (stL σ (o + 2) (Int.toNat ((x4 * 5) + x7)) 0) hx2 hx4 h16
def f_X0_nameFor (o : Nat) (x1 : Int) (x2 : Int) (σ : Mm) : Option (Int64 × Mm) :=
  (f_X5_nameWith o x1 x2 σ).bind (fun r17 => (if r17 < 0 then (f_X5_addName o x1 x2 σ).bind (fun r21 => (if 0 ≤ r21.1 then f_X0_nameFor_45 o 2000 x2 r21.1 (lShl 1 r21.1) 0 r21.2 else some (0, r21.2))) else some ((lShl 1 r17), σ)))
theorem hd_X0_nameFor : yX0_nameFor.cls = RX0 ∧ yX0_nameFor.cls ≠ "java/lang/invoke/MethodHandle" ∧ yX0_nameFor.cls ≠ "java/lang/invoke/VarHandle" ∧ (parseMethodDescriptor yX0_nameFor.desc).map (fun d => d.parameters.length) = some 2 := by decide +kernel
set_option maxRecDepth 100000 in
set_option maxHeartbeats 4000000 in
theorem c_X0_nameFor {l : Launch} {D : va_G} {ca : Nat → ClassId} {ad : Nat → Nat} {o : Nat} {x1 : Int} {x2 : Int} (ho : o = 15 ∨ o = 29) (hx1 : inR x1) (hx2 : inR x2) {σ : Mm} : CtL l D vcl ca ad shC NC yX0_nameFor (Cond.code yX0_nameFor cX0_nameFor 8 (some .long) :: tbG) { frames := 1, cells := 0, slots := 0, locals := 23 } [.ref (ad o), .int (oi x1), .int (oi x2)] σ (f_X0_nameFor o x1 x2 σ) := by
  refine ct_L RX0 rfl (by decide) rfl (Nat.le_of_ble_eq_true rfl) (fun p e s m below meth c res X hN hr hlk => ?_)
  show GX0_nameFor p l e s m _ below meth c D ca ad res 0 [(0, .ref (ad o)), (1, .int (oi x1)), (2, .int (oi x2))] [] σ (f_X0_nameFor o x1 x2 σ)
  unfold f_X0_nameFor
  refine q_aload_n X dX0_nameFor_0 0 rfl ?_
  refine fg_X0_57 ho X dX0_nameFor_1 ?_
  refine q_iload_n X dX0_nameFor_4 1 rfl ?_
  refine q_iload_n X dX0_nameFor_5 2 rfl ?_
  refine q_callIp X NCok hN Aw_new (c_X5_nameWith ho hx1 hx2) (rn_V X (cwV 2 X.2.2.2.2.1 (tbG_good _ (tbG_V mw_439 mw_440 mw_441 mw_5 mw_442)) rfl rfl rfl hd_X5_nameWith ⟨by decide, by decide⟩) (hO9 ho) rfl rfl rfl (Nat.le_of_ble_eq_true rfl) dX0_nameFor_6) (fun r17 _ h19 => ?_)
  refine q_istore_n X [(3, .int (oi r17)), (0, .ref (ad o)), (1, .int (oi x1)), (2, .int (oi x2))] dX0_nameFor_9 (by decide) rfl ?_
  refine q_iload_n X dX0_nameFor_10 0 rfl ?_
  refine q_if_lt X h19 18 dX0_nameFor_11 (by decide) (fun h20 => ?_) (fun h20 => ?_)
  · refine q_aload_n X dX0_nameFor_18 1 rfl ?_
    refine fg_X0_57 ho X dX0_nameFor_19 ?_
    refine q_iload_n X dX0_nameFor_22 2 rfl ?_
    refine q_iload_n X dX0_nameFor_23 3 rfl ?_
    refine q_callI X NCok hN Aw_new (c_X5_addName ho hx1 hx2) (rn_V X (cwV 2 X.2.2.2.2.1 (tbG_good _ (tbG_V mw_443 mw_444 mw_445 mw_5 mw_446)) rfl rfl rfl hd_X5_addName ⟨by decide, by decide⟩) (hO9 ho) rfl rfl rfl (Nat.le_of_ble_eq_true rfl) dX0_nameFor_24) (fun r21 _ h23 => ?_)
    refine q_istore X [(4, .int (oi r21.1)), (3, .int (oi r17)), (0, .ref (ad o)), (1, .int (oi x1)), (2, .int (oi x2))] dX0_nameFor_27 (by decide) rfl ?_
    refine q_iload X dX0_nameFor_29 0 rfl ?_
    refine q_if_ge X h23 36 dX0_nameFor_31 (by decide) (fun h24 => ?_) (fun h24 => ?_)
    · refine q_lconst X 1 dX0_nameFor_36 rfl ?_
      refine q_iload X dX0_nameFor_37 0 rfl ?_
      refine q_lshl X dX0_nameFor_39 ?_
      refine q_lstore X [(5, .long (lShl 1 r21.1)), (4, .int (oi r21.1)), (3, .int (oi r17)), (0, .ref (ad o)), (1, .int (oi x1)), (2, .int (oi x2))] dX0_nameFor_40 (by decide) rfl ?_
      refine q_iconst X dX0_nameFor_42 ?_
      refine q_istore X [(7, .int (oi 0)), (5, .long (lShl 1 r21.1)), (4, .int (oi r21.1)), (3, .int (oi r17)), (0, .ref (ad o)), (1, .int (oi x1)), (2, .int (oi x2))] dX0_nameFor_43 (by decide) rfl ?_
      refine q_sub [(0, .ref (ad o)), (2, .int (oi x2)), (4, .int (oi r21.1)), (5, .long (lShl 1 r21.1)), (7, .int (oi 0))] [4, 6, 2, 1, 0] rfl ?_
      exact t_X0_nameFor_45 X hN hr hlk ho 2000 x2 r21.1 (lShl 1 r21.1) 0 r21.2 hx2 h23 (by decide)
    · refine q_lconst X 0 dX0_nameFor_34 rfl ?_
      exact q_lret X hr hlk dX0_nameFor_35
  · refine q_lconst X 1 dX0_nameFor_14 rfl ?_
    refine q_iload_n X dX0_nameFor_15 0 rfl ?_
    refine q_lshl X dX0_nameFor_16 ?_
    exact q_lret X hr hlk dX0_nameFor_17

/-! SiteObjects$Finding.addToVar(IIJ)V -/
abbrev GX0_addToVar (p : Program) (l : Launch) (e : Env) (s : State) (m : MethodId) (args : Array Value) (below : List Frame) (meth : Method) (c : Code) (D : va_G) (ca : Nat → ClassId) (ad : Nat → Nat) (res : Mm) : Nat → List (Nat × Value) → List Value → Mm → Option (Mm) → Prop := G p l e { frames := 0, cells := 0, slots := 0, locals := 0 } s m args below meth c (MQ below (QcV D vcl ca ad shC s.heap.size res) args s 0 0 (Aw ad shC.length s.heap.size)) 6 D vcl ca ad shC (Aw ad shC.length s.heap.size) res
def f_X0_addToVar (o : Nat) (x1 : Int) (x2 : Int) (x3 : Int64) (σ : Mm) : Option (Mm) :=
  ck (inR ((x1 * 8) + x2)) (ck ((0 : Int) ≤ ((x1 * 8) + x2) ∧ ((x1 * 8) + x2) < ((640 : Nat) : Int)) ((if (x3 &&& ((σ.2 (o + 1) (Int.toNat ((x1 * 8) + x2))) ^^^ (-1))) = 0 then some σ else ck ((0 : Int) ≤ ((x1 * 8) + x2) ∧ ((x1 * 8) + x2) < ((640 : Nat) : Int)) (ck ((0 : Int) ≤ ((x1 * 8) + x2) ∧ ((x1 * 8) + x2) < ((640 : Nat) : Int)) ((some (stL σ (o + 1) (Int.toNat ((x1 * 8) + x2)) ((σ.2 (o + 1) (Int.toNat ((x1 * 8) + x2))) ||| x3))).bind (fun σ3 => some (stI σ3 o 7 1)))))))
theorem hd_X0_addToVar : yX0_addToVar.cls = RX0 ∧ yX0_addToVar.cls ≠ "java/lang/invoke/MethodHandle" ∧ yX0_addToVar.cls ≠ "java/lang/invoke/VarHandle" ∧ (parseMethodDescriptor yX0_addToVar.desc).map (fun d => d.parameters.length) = some 3 := by decide +kernel
set_option maxRecDepth 100000 in
set_option maxHeartbeats 4000000 in
theorem c_X0_addToVar {l : Launch} {D : va_G} {ca : Nat → ClassId} {ad : Nat → Nat} {o : Nat} {x1 : Int} {x2 : Int} {x3 : Int64} (ho : o = 15 ∨ o = 29) (hx1 : inR x1) (hx2 : inR x2) {σ : Mm} : CtV l D vcl ca ad shC NC yX0_addToVar (Cond.code yX0_addToVar cX0_addToVar 6 none :: tbG) { frames := 0, cells := 0, slots := 0, locals := 0 } [.ref (ad o), .int (oi x1), .int (oi x2), .long x3] σ (f_X0_addToVar o x1 x2 x3 σ) := by
  refine ct_V RX0 rfl (by decide) rfl (Nat.le_of_ble_eq_true rfl) (fun p e s m below meth c res X hN hr hlk => ?_)
  show GX0_addToVar p l e s m _ below meth c D ca ad res 0 [(0, .ref (ad o)), (1, .int (oi x1)), (2, .int (oi x2)), (3, .long x3)] [] σ (f_X0_addToVar o x1 x2 x3 σ)
  unfold f_X0_addToVar
  refine q_iload_n X dX0_addToVar_0 1 rfl ?_
  refine q_bipush X dX0_addToVar_1 (by decide) ?_
  refine q_imul X dX0_addToVar_3 ?_
  refine q_iload_n X dX0_addToVar_4 2 rfl ?_
  refine q_iadd X dX0_addToVar_5 ?_
  refine q_ck (fun h1 => ?_)
  refine q_istore X [(5, .int (oi ((x1 * 8) + x2))), (0, .ref (ad o)), (1, .int (oi x1)), (2, .int (oi x2)), (3, .long x3)] dX0_addToVar_6 (by decide) rfl ?_
  refine q_lload_n X dX0_addToVar_8 4 rfl ?_
  refine q_aload_n X dX0_addToVar_9 1 rfl ?_
  refine fg_X0_11 ho X dX0_addToVar_10 ?_
  refine q_iload X dX0_addToVar_13 0 rfl ?_
  refine q_lald X (hF1 ho) (by decide) dX0_addToVar_15 ?_
  refine q_ldc2 X (-1) dX0_addToVar_16 (List.mem_cons_of_mem _ mw_456) ?_
  refine q_lxor X dX0_addToVar_19 ?_
  refine q_land X dX0_addToVar_20 ?_
  refine q_lconst X 0 dX0_addToVar_21 rfl ?_
  refine q_lcmp_eq X 42 dX0_addToVar_22 dX0_addToVar_23 (by decide) (fun h2 => ?_) (fun h2 => ?_)
  · exact q_vret X hr hlk dX0_addToVar_42
  · refine q_aload_n X dX0_addToVar_26 1 rfl ?_
    refine fg_X0_11 ho X dX0_addToVar_27 ?_
    refine q_iload X dX0_addToVar_30 0 rfl ?_
    refine q_dup2 X dX0_addToVar_32 rfl rfl ?_
    refine q_lald X (hF1 ho) (by decide) dX0_addToVar_33 ?_
    refine q_lload_n X dX0_addToVar_34 4 rfl ?_
    refine q_lor X dX0_addToVar_35 ?_
    refine q_last X (hF1 ho) (by decide) dX0_addToVar_36 ?_
    refine q_nm (fun σ3 => ?_)
    refine q_aload_n X dX0_addToVar_37 1 rfl ?_
    refine q_iconst X dX0_addToVar_38 ?_
    refine fp_X0_28 ho X (Or.inr rfl) dX0_addToVar_39 ?_
    exact q_vret X hr hlk dX0_addToVar_42

/-! SiteObjects$Finding.setOf(II)J -/
abbrev GX0_setOf (p : Program) (l : Launch) (e : Env) (s : State) (m : MethodId) (args : Array Value) (below : List Frame) (meth : Method) (c : Code) (D : va_G) (ca : Nat → ClassId) (ad : Nat → Nat) (σ : Mm) (res : Int64) : Nat → List (Nat × Value) → List Value → Mm → Option (Int64) → Prop := G p l e { frames := 0, cells := 0, slots := 0, locals := 0 } s m args below meth c (MQ below (QcL D vcl ca ad shC s.heap.size (res, σ)) args s 0 0 (Aw ad shC.length s.heap.size)) 3 D vcl ca ad shC (Aw ad shC.length s.heap.size) res
def f_X0_setOf (o : Nat) (x1 : Int) (x2 : Int) (σ : Mm) : Option (Int64) :=
  ck ((0 : Int) ≤ ((x1 * 8) + x2) ∧ ((x1 * 8) + x2) < ((640 : Nat) : Int)) (some (σ.2 (o + 1) (Int.toNat ((x1 * 8) + x2))))
theorem hd_X0_setOf : yX0_setOf.cls = RX0 ∧ yX0_setOf.cls ≠ "java/lang/invoke/MethodHandle" ∧ yX0_setOf.cls ≠ "java/lang/invoke/VarHandle" ∧ (parseMethodDescriptor yX0_setOf.desc).map (fun d => d.parameters.length) = some 2 := by decide +kernel
set_option maxRecDepth 100000 in
set_option maxHeartbeats 4000000 in
theorem c_X0_setOf {l : Launch} {D : va_G} {ca : Nat → ClassId} {ad : Nat → Nat} {o : Nat} {x1 : Int} {x2 : Int} (ho : o = 15 ∨ o = 29) (hx1 : inR x1) (hx2 : inR x2) {σ : Mm} : CtL l D vcl ca ad shC NC yX0_setOf (Cond.code yX0_setOf cX0_setOf 3 (some .long) :: tbG) { frames := 0, cells := 0, slots := 0, locals := 0 } [.ref (ad o), .int (oi x1), .int (oi x2)] σ ((f_X0_setOf o x1 x2 σ).map (fun r => (r, σ))) := by
  refine ct_Lp RX0 rfl (by decide) rfl (Nat.le_of_ble_eq_true rfl) (fun p e s m below meth c res X hN hr hlk => ?_)
  show GX0_setOf p l e s m _ below meth c D ca ad σ res 0 [(0, .ref (ad o)), (1, .int (oi x1)), (2, .int (oi x2))] [] σ (f_X0_setOf o x1 x2 σ)
  unfold f_X0_setOf
  refine q_aload_n X dX0_setOf_0 0 rfl ?_
  refine fg_X0_11 ho X dX0_setOf_1 ?_
  refine q_iload_n X dX0_setOf_4 1 rfl ?_
  refine q_bipush X dX0_setOf_5 (by decide) ?_
  refine q_imul X dX0_setOf_7 ?_
  refine q_iload_n X dX0_setOf_8 2 rfl ?_
  refine q_iadd X dX0_setOf_9 ?_
  refine q_lald X (hF1 ho) (by decide) dX0_setOf_10 ?_
  exact q_lretp X hr hlk dX0_setOf_11

/-! SiteObjects$Finding.insideOf(II)J -/
abbrev GX0_insideOf (p : Program) (l : Launch) (e : Env) (s : State) (m : MethodId) (args : Array Value) (below : List Frame) (meth : Method) (c : Code) (D : va_G) (ca : Nat → ClassId) (ad : Nat → Nat) (σ : Mm) (res : Int64) : Nat → List (Nat × Value) → List Value → Mm → Option (Int64) → Prop := G p l e { frames := 0, cells := 0, slots := 0, locals := 0 } s m args below meth c (MQ below (QcL D vcl ca ad shC s.heap.size (res, σ)) args s 0 0 (Aw ad shC.length s.heap.size)) 3 D vcl ca ad shC (Aw ad shC.length s.heap.size) res
def f_X0_insideOf (o : Nat) (x1 : Int) (x2 : Int) (σ : Mm) : Option (Int64) :=
  ck ((0 : Int) ≤ ((x1 * 5) + x2) ∧ ((x1 * 5) + x2) < ((300 : Nat) : Int)) (some (σ.2 (o + 2) (Int.toNat ((x1 * 5) + x2))))
theorem hd_X0_insideOf : yX0_insideOf.cls = RX0 ∧ yX0_insideOf.cls ≠ "java/lang/invoke/MethodHandle" ∧ yX0_insideOf.cls ≠ "java/lang/invoke/VarHandle" ∧ (parseMethodDescriptor yX0_insideOf.desc).map (fun d => d.parameters.length) = some 2 := by decide +kernel
set_option maxRecDepth 100000 in
set_option maxHeartbeats 4000000 in
theorem c_X0_insideOf {l : Launch} {D : va_G} {ca : Nat → ClassId} {ad : Nat → Nat} {o : Nat} {x1 : Int} {x2 : Int} (ho : o = 15 ∨ o = 29) (hx1 : inR x1) (hx2 : inR x2) {σ : Mm} : CtL l D vcl ca ad shC NC yX0_insideOf (Cond.code yX0_insideOf cX0_insideOf 3 (some .long) :: tbG) { frames := 0, cells := 0, slots := 0, locals := 0 } [.ref (ad o), .int (oi x1), .int (oi x2)] σ ((f_X0_insideOf o x1 x2 σ).map (fun r => (r, σ))) := by
  refine ct_Lp RX0 rfl (by decide) rfl (Nat.le_of_ble_eq_true rfl) (fun p e s m below meth c res X hN hr hlk => ?_)
  show GX0_insideOf p l e s m _ below meth c D ca ad σ res 0 [(0, .ref (ad o)), (1, .int (oi x1)), (2, .int (oi x2))] [] σ (f_X0_insideOf o x1 x2 σ)
  unfold f_X0_insideOf
  refine q_aload_n X dX0_insideOf_0 0 rfl ?_
  refine fg_X0_15 ho X dX0_insideOf_1 ?_
  refine q_iload_n X dX0_insideOf_4 1 rfl ?_
  refine q_iconst X dX0_insideOf_5 ?_
  refine q_imul X dX0_insideOf_6 ?_
  refine q_iload_n X dX0_insideOf_7 2 rfl ?_
  refine q_iadd X dX0_insideOf_8 ?_
  refine q_lald X (hF2 ho) (by decide) dX0_insideOf_9 ?_
  exact q_lretp X hr hlk dX0_insideOf_10

/-! SiteObjects$Finding.insideAny(JI)J -/
abbrev GX0_insideAny (p : Program) (l : Launch) (e : Env) (s : State) (m : MethodId) (args : Array Value) (below : List Frame) (meth : Method) (c : Code) (D : va_G) (ca : Nat → ClassId) (ad : Nat → Nat) (σ : Mm) (res : Int64) : Nat → List (Nat × Value) → List Value → Mm → Option (Int64) → Prop := G p l e { frames := 1, cells := 0, slots := 0, locals := 22 } s m args below meth c (MQ below (QcL D vcl ca ad shC s.heap.size (res, σ)) args s 0 0 (Aw ad shC.length s.heap.size)) 7 D vcl ca ad shC (Aw ad shC.length s.heap.size) res
def f_X0_insideAny_6 (o : Nat) : Nat → Int64 → Int → Int64 → Int → Mm → Option (Int64)
  | 0, _, _, _, _, _ => none
  | n + 1, x1, x3, x4, x6, σ => (if (σ.1 (o + 9) 3) ≤ x6 then some x4 else (if (lShr x1 x6) = 0 then some x4 else (if ((lShr x1 x6) &&& 1) = 0 then ck (inR (x6 + 1)) (f_X0_insideAny_6 o n x1 x3 x4 (x6 + 1) σ) else (f_X0_insideOf o x6 x3 σ).bind (fun r6 => ck (inR (x6 + 1)) (f_X0_insideAny_6 o n x1 x3 (x4 ||| r6) (x6 + 1) σ)))))
set_option maxRecDepth 100000 in
set_option maxHeartbeats 4000000 in
theorem t_X0_insideAny_6 {p : Program} {l : Launch} {e : Env} {s : State} {m : MethodId} {args : Array Value} {below : List Frame} {meth : Method} {c : Code} {D : va_G} {ca : Nat → ClassId} {ad : Nat → Nat} {σ : Mm} {res : Int64} {o : Nat} (X : Cx p s m args c cX0_insideAny 7 RX0 (Cond.code yX0_insideAny cX0_insideAny 7 (some .long) :: tbG) D vcl ca) (hN : NC s) (hr : meth.sig.returnType = (some .long)) (hlk : meth.locks = false) (ho : o = 15 ∨ o = 29) : ∀ (n : Nat) (x1 : Int64) (x3 : Int) (x4 : Int64) (x6 : Int), inR x3 → inR x6 → GX0_insideAny p l e s m args below meth c D ca ad σ res 6 [(0, .ref (ad o)), (1, .long x1), (3, .int (oi x3)), (4, .long x4), (6, .int (oi x6))] [] σ (f_X0_insideAny_6 o n x1 x3 x4 x6 σ)
  := by
  intro n
  induction n with
  | zero => intro x1 x3 x4 x6 hx3 hx6 h; cases h
  | succ n ih =>
    intro x1 x3 x4 x6 hx3 hx6
    rw [f_X0_insideAny_6]
    refine q_iload X dX0_insideAny_6 4 rfl ?_
    refine q_aload_n X dX0_insideAny_8 0 rfl ?_
    refine fg_X0_57 ho X dX0_insideAny_9 ?_
    refine fg_X0_156 ho X dX0_insideAny_12 (fun h1 => ?_)
    refine q_icmp_ge X hx6 h1 56 dX0_insideAny_15 (by decide) (fun h2 => ?_) (fun h2 => ?_)
    · refine q_lload X dX0_insideAny_56 3 rfl ?_
      exact q_lretp X hr hlk dX0_insideAny_58
    · refine q_lload_n X dX0_insideAny_18 1 rfl ?_
      refine q_iload X dX0_insideAny_19 4 rfl ?_
      refine q_lshr X dX0_insideAny_21 ?_
      refine q_lconst X 0 dX0_insideAny_22 rfl ?_
      refine q_lcmp_eq X 56 dX0_insideAny_23 dX0_insideAny_24 (by decide) (fun h3 => ?_) (fun h3 => ?_)
      · refine q_lload X dX0_insideAny_56 3 rfl ?_
        exact q_lretp X hr hlk dX0_insideAny_58
      · refine q_lload_n X dX0_insideAny_27 1 rfl ?_
        refine q_iload X dX0_insideAny_28 4 rfl ?_
        refine q_lshr X dX0_insideAny_30 ?_
        refine q_lconst X 1 dX0_insideAny_31 rfl ?_
        refine q_land X dX0_insideAny_32 ?_
        refine q_lconst X 0 dX0_insideAny_33 rfl ?_
        refine q_lcmp_eq X 50 dX0_insideAny_34 dX0_insideAny_35 (by decide) (fun h4 => ?_) (fun h4 => ?_)
        · refine q_iinc X [(6, .int (oi (x6 + 1))), (0, .ref (ad o)), (1, .long x1), (3, .int (oi x3)), (4, .long x4)] dX0_insideAny_50 (by decide) 4 rfl rfl (fun h5 => ?_)
          refine q_goto X 6 dX0_insideAny_53 (by decide) ?_
          refine q_sub [(0, .ref (ad o)), (1, .long x1), (3, .int (oi x3)), (4, .long x4), (6, .int (oi (x6 + 1)))] [1, 2, 3, 4, 0] rfl ?_
          exact ih x1 x3 x4 (x6 + 1) hx3 h5
        · refine q_lload X dX0_insideAny_38 3 rfl ?_
          refine q_aload_n X dX0_insideAny_40 0 rfl ?_
          refine q_iload X dX0_insideAny_41 4 rfl ?_
          refine q_iload_n X dX0_insideAny_43 2 rfl ?_
          refine q_callLp X NCok hN Aw_new (c_X0_insideOf ho hx6 hx3) (rn_V X (cwV 2 X.2.2.2.2.1 (tbG_good _ (tbG_V mw_465 mw_466 mw_467 mw_4 mw_468)) rfl rfl rfl hd_X0_insideOf ⟨by decide, by decide⟩) (hO0 ho) rfl rfl rfl (Nat.le_of_ble_eq_true rfl) dX0_insideAny_44) (fun r6 _ => ?_)
          refine q_lor X dX0_insideAny_47 ?_
          refine q_lstore X [(4, .long (x4 ||| r6)), (0, .ref (ad o)), (1, .long x1), (3, .int (oi x3)), (6, .int (oi x6))] dX0_insideAny_48 (by decide) rfl ?_
          refine q_iinc X [(6, .int (oi (x6 + 1))), (4, .long (x4 ||| r6)), (0, .ref (ad o)), (1, .long x1), (3, .int (oi x3))] dX0_insideAny_50 (by decide) 4 rfl rfl (fun h9 => ?_)
          refine q_goto X 6 dX0_insideAny_53 (by decide) ?_
          refine q_sub [(0, .ref (ad o)), (1, .long x1), (3, .int (oi x3)), (4, .long (x4 ||| r6)), (6, .int (oi (x6 + 1)))] [2, 3, 4, 1, 0] rfl ?_
          exact ih x1 x3 (x4 ||| r6) (x6 + 1) hx3 h9
def f_X0_insideAny (o : Nat) (x1 : Int64) (x3 : Int) (σ : Mm) : Option (Int64) :=
  f_X0_insideAny_6 o 2000 x1 x3 0 0 σ
theorem hd_X0_insideAny : yX0_insideAny.cls = RX0 ∧ yX0_insideAny.cls ≠ "java/lang/invoke/MethodHandle" ∧ yX0_insideAny.cls ≠ "java/lang/invoke/VarHandle" ∧ (parseMethodDescriptor yX0_insideAny.desc).map (fun d => d.parameters.length) = some 2 := by decide +kernel
set_option maxRecDepth 100000 in
set_option maxHeartbeats 4000000 in
theorem c_X0_insideAny {l : Launch} {D : va_G} {ca : Nat → ClassId} {ad : Nat → Nat} {o : Nat} {x1 : Int64} {x3 : Int} (ho : o = 15 ∨ o = 29) (hx3 : inR x3) {σ : Mm} : CtL l D vcl ca ad shC NC yX0_insideAny (Cond.code yX0_insideAny cX0_insideAny 7 (some .long) :: tbG) { frames := 1, cells := 0, slots := 0, locals := 22 } [.ref (ad o), .long x1, .int (oi x3)] σ ((f_X0_insideAny o x1 x3 σ).map (fun r => (r, σ))) := by
  refine ct_Lp RX0 rfl (by decide) rfl (Nat.le_of_ble_eq_true rfl) (fun p e s m below meth c res X hN hr hlk => ?_)
  show GX0_insideAny p l e s m _ below meth c D ca ad σ res 0 [(0, .ref (ad o)), (1, .long x1), (3, .int (oi x3))] [] σ (f_X0_insideAny o x1 x3 σ)
  unfold f_X0_insideAny
  refine q_lconst X 0 dX0_insideAny_0 rfl ?_
  refine q_lstore X [(4, .long 0), (0, .ref (ad o)), (1, .long x1), (3, .int (oi x3))] dX0_insideAny_1 (by decide) rfl ?_
  refine q_iconst X dX0_insideAny_3 ?_
  refine q_istore X [(6, .int (oi 0)), (4, .long 0), (0, .ref (ad o)), (1, .long x1), (3, .int (oi x3))] dX0_insideAny_4 (by decide) rfl ?_
  refine q_sub [(0, .ref (ad o)), (1, .long x1), (3, .int (oi x3)), (4, .long 0), (6, .int (oi 0))] [2, 3, 4, 1, 0] rfl ?_
  exact t_X0_insideAny_6 X hN hr hlk ho 2000 x1 x3 0 0 hx3 (by decide)

/-! SiteObjects$Finding.addInside(IIJ)V -/
abbrev GX0_addInside (p : Program) (l : Launch) (e : Env) (s : State) (m : MethodId) (args : Array Value) (below : List Frame) (meth : Method) (c : Code) (D : va_G) (ca : Nat → ClassId) (ad : Nat → Nat) (res : Mm) : Nat → List (Nat × Value) → List Value → Mm → Option (Mm) → Prop := G p l e { frames := 0, cells := 0, slots := 0, locals := 0 } s m args below meth c (MQ below (QcV D vcl ca ad shC s.heap.size res) args s 0 0 (Aw ad shC.length s.heap.size)) 6 D vcl ca ad shC (Aw ad shC.length s.heap.size) res
def f_X0_addInside (o : Nat) (x1 : Int) (x2 : Int) (x3 : Int64) (σ : Mm) : Option (Mm) :=
  ck (inR ((x1 * 5) + x2)) (ck ((0 : Int) ≤ ((x1 * 5) + x2) ∧ ((x1 * 5) + x2) < ((300 : Nat) : Int)) ((if (x3 &&& ((σ.2 (o + 2) (Int.toNat ((x1 * 5) + x2))) ^^^ (-1))) = 0 then some σ else ck ((0 : Int) ≤ ((x1 * 5) + x2) ∧ ((x1 * 5) + x2) < ((300 : Nat) : Int)) (ck ((0 : Int) ≤ ((x1 * 5) + x2) ∧ ((x1 * 5) + x2) < ((300 : Nat) : Int)) ((some (stL σ (o + 2) (Int.toNat ((x1 * 5) + x2)) ((σ.2 (o + 2) (Int.toNat ((x1 * 5) + x2))) ||| x3))).bind (fun σ3 => some (stI σ3 o 7 1)))))))
theorem hd_X0_addInside : yX0_addInside.cls = RX0 ∧ yX0_addInside.cls ≠ "java/lang/invoke/MethodHandle" ∧ yX0_addInside.cls ≠ "java/lang/invoke/VarHandle" ∧ (parseMethodDescriptor yX0_addInside.desc).map (fun d => d.parameters.length) = some 3 := by decide +kernel
set_option maxRecDepth 100000 in
set_option maxHeartbeats 4000000 in
theorem c_X0_addInside {l : Launch} {D : va_G} {ca : Nat → ClassId} {ad : Nat → Nat} {o : Nat} {x1 : Int} {x2 : Int} {x3 : Int64} (ho : o = 15 ∨ o = 29) (hx1 : inR x1) (hx2 : inR x2) {σ : Mm} : CtV l D vcl ca ad shC NC yX0_addInside (Cond.code yX0_addInside cX0_addInside 6 none :: tbG) { frames := 0, cells := 0, slots := 0, locals := 0 } [.ref (ad o), .int (oi x1), .int (oi x2), .long x3] σ (f_X0_addInside o x1 x2 x3 σ) := by
  refine ct_V RX0 rfl (by decide) rfl (Nat.le_of_ble_eq_true rfl) (fun p e s m below meth c res X hN hr hlk => ?_)
  show GX0_addInside p l e s m _ below meth c D ca ad res 0 [(0, .ref (ad o)), (1, .int (oi x1)), (2, .int (oi x2)), (3, .long x3)] [] σ (f_X0_addInside o x1 x2 x3 σ)
  unfold f_X0_addInside
  refine q_iload_n X dX0_addInside_0 1 rfl ?_
  refine q_iconst X dX0_addInside_1 ?_
  refine q_imul X dX0_addInside_2 ?_
  refine q_iload_n X dX0_addInside_3 2 rfl ?_
  refine q_iadd X dX0_addInside_4 ?_
  refine q_ck (fun h1 => ?_)
  refine q_istore X [(5, .int (oi ((x1 * 5) + x2))), (0, .ref (ad o)), (1, .int (oi x1)), (2, .int (oi x2)), (3, .long x3)] dX0_addInside_5 (by decide) rfl ?_
  refine q_lload_n X dX0_addInside_7 4 rfl ?_
  refine q_aload_n X dX0_addInside_8 1 rfl ?_
  refine fg_X0_15 ho X dX0_addInside_9 ?_
  refine q_iload X dX0_addInside_12 0 rfl ?_
  refine q_lald X (hF2 ho) (by decide) dX0_addInside_14 ?_
  refine q_ldc2 X (-1) dX0_addInside_15 (List.mem_cons_of_mem _ mw_456) ?_
  refine q_lxor X dX0_addInside_18 ?_
  refine q_land X dX0_addInside_19 ?_
  refine q_lconst X 0 dX0_addInside_20 rfl ?_
  refine q_lcmp_eq X 41 dX0_addInside_21 dX0_addInside_22 (by decide) (fun h2 => ?_) (fun h2 => ?_)
  · exact q_vret X hr hlk dX0_addInside_41
  · refine q_aload_n X dX0_addInside_25 1 rfl ?_
    refine fg_X0_15 ho X dX0_addInside_26 ?_
    refine q_iload X dX0_addInside_29 0 rfl ?_
    refine q_dup2 X dX0_addInside_31 rfl rfl ?_
    refine q_lald X (hF2 ho) (by decide) dX0_addInside_32 ?_
    refine q_lload_n X dX0_addInside_33 4 rfl ?_
    refine q_lor X dX0_addInside_34 ?_
    refine q_last X (hF2 ho) (by decide) dX0_addInside_35 ?_
    refine q_nm (fun σ3 => ?_)
    refine q_aload_n X dX0_addInside_36 1 rfl ?_
    refine q_iconst X dX0_addInside_37 ?_
    refine fp_X0_28 ho X (Or.inr rfl) dX0_addInside_38 ?_
    exact q_vret X hr hlk dX0_addInside_41

/-! SiteObjects$Finding.storeInAll(JIJ)V -/
abbrev GX0_storeInAll (p : Program) (l : Launch) (e : Env) (s : State) (m : MethodId) (args : Array Value) (below : List Frame) (meth : Method) (c : Code) (D : va_G) (ca : Nat → ClassId) (ad : Nat → Nat) (res : Mm) : Nat → List (Nat × Value) → List Value → Mm → Option (Mm) → Prop := G p l e { frames := 1, cells := 0, slots := 0, locals := 25 } s m args below meth c (MQ below (QcV D vcl ca ad shC s.heap.size res) args s 0 0 (Aw ad shC.length s.heap.size)) 7 D vcl ca ad shC (Aw ad shC.length s.heap.size) res
def f_X0_storeInAll_3 (o : Nat) : Nat → Int64 → Int → Int64 → Int → Mm → Option (Mm)
  | 0, _, _, _, _, _ => none
  | n + 1, x1, x3, x4, x6, σ => (if (σ.1 (o + 9) 3) ≤ x6 then some σ else (if (lShr x1 x6) = 0 then some σ else (if ((lShr x1 x6) &&& 1) = 0 then ck (inR (x6 + 1)) (f_X0_storeInAll_3 o n x1 x3 x4 (x6 + 1) σ) else (f_X0_addInside o x6 x3 x4 σ).bind (fun r6 => ck (inR (x6 + 1)) (f_X0_storeInAll_3 o n x1 x3 x4 (x6 + 1) r6)))))
set_option maxRecDepth 100000 in
set_option maxHeartbeats 4000000 in
theorem t_X0_storeInAll_3 {p : Program} {l : Launch} {e : Env} {s : State} {m : MethodId} {args : Array Value} {below : List Frame} {meth : Method} {c : Code} {D : va_G} {ca : Nat → ClassId} {ad : Nat → Nat} {res : Mm} {o : Nat} (X : Cx p s m args c cX0_storeInAll 7 RX0 (Cond.code yX0_storeInAll cX0_storeInAll 7 none :: tbG) D vcl ca) (hN : NC s) (hr : meth.sig.returnType = none) (hlk : meth.locks = false) (ho : o = 15 ∨ o = 29) : ∀ (n : Nat) (x1 : Int64) (x3 : Int) (x4 : Int64) (x6 : Int) (σ : Mm), inR x3 → inR x6 → GX0_storeInAll p l e s m args below meth c D ca ad res 3 [(0, .ref (ad o)), (1, .long x1), (3, .int (oi x3)), (4, .long x4), (6, .int (oi x6))] [] σ (f_X0_storeInAll_3 o n x1 x3 x4 x6 σ)
  := by
  intro n
  induction n with
  | zero => intro x1 x3 x4 x6 σ hx3 hx6 h; cases h
  | succ n ih =>
    intro x1 x3 x4 x6 σ hx3 hx6
    rw [f_X0_storeInAll_3]
    refine q_iload X dX0_storeInAll_3 4 rfl ?_
    refine q_aload_n X dX0_storeInAll_5 0 rfl ?_
    refine fg_X0_57 ho X dX0_storeInAll_6 ?_
    refine fg_X0_156 ho X dX0_storeInAll_9 (fun h1 => ?_)
    refine q_icmp_ge X hx6 h1 50 dX0_storeInAll_12 (by decide) (fun h2 => ?_) (fun h2 => ?_)
    · exact q_vret X hr hlk dX0_storeInAll_50
    · refine q_lload_n X dX0_storeInAll_15 1 rfl ?_
      refine q_iload X dX0_storeInAll_16 4 rfl ?_
      refine q_lshr X dX0_storeInAll_18 ?_
      refine q_lconst X 0 dX0_storeInAll_19 rfl ?_
      refine q_lcmp_eq X 50 dX0_storeInAll_20 dX0_storeInAll_21 (by decide) (fun h3 => ?_) (fun h3 => ?_)
      · exact q_vret X hr hlk dX0_storeInAll_50
      · refine q_lload_n X dX0_storeInAll_24 1 rfl ?_
        refine q_iload X dX0_storeInAll_25 4 rfl ?_
        refine q_lshr X dX0_storeInAll_27 ?_
        refine q_lconst X 1 dX0_storeInAll_28 rfl ?_
        refine q_land X dX0_storeInAll_29 ?_
        refine q_lconst X 0 dX0_storeInAll_30 rfl ?_
        refine q_lcmp_eq X 44 dX0_storeInAll_31 dX0_storeInAll_32 (by decide) (fun h4 => ?_) (fun h4 => ?_)
        · refine q_iinc X [(6, .int (oi (x6 + 1))), (0, .ref (ad o)), (1, .long x1), (3, .int (oi x3)), (4, .long x4)] dX0_storeInAll_44 (by decide) 4 rfl rfl (fun h5 => ?_)
          refine q_goto X 3 dX0_storeInAll_47 (by decide) ?_
          refine q_sub [(0, .ref (ad o)), (1, .long x1), (3, .int (oi x3)), (4, .long x4), (6, .int (oi (x6 + 1)))] [1, 2, 3, 4, 0] rfl ?_
          exact ih x1 x3 x4 (x6 + 1) σ hx3 h5
        · refine q_aload_n X dX0_storeInAll_35 0 rfl ?_
          refine q_iload X dX0_storeInAll_36 4 rfl ?_
          refine q_iload_n X dX0_storeInAll_38 2 rfl ?_
          refine q_lload X dX0_storeInAll_39 3 rfl ?_
          refine q_callV X NCok hN Aw_new (c_X0_addInside ho hx6 hx3) (rn_V X (cwV 3 X.2.2.2.2.1 (tbG_good _ (tbG_V mw_473 mw_475 mp_1_9 mw_4 mw_476)) rfl rfl rfl hd_X0_addInside ⟨by decide, by decide⟩) (hO0 ho) rfl rfl rfl (Nat.le_of_ble_eq_true rfl) dX0_storeInAll_41) (fun r6 _ => ?_)
          refine q_iinc X [(6, .int (oi (x6 + 1))), (0, .ref (ad o)), (1, .long x1), (3, .int (oi x3)), (4, .long x4)] dX0_storeInAll_44 (by decide) 4 rfl rfl (fun h9 => ?_)
          refine q_goto X 3 dX0_storeInAll_47 (by decide) ?_
          refine q_sub [(0, .ref (ad o)), (1, .long x1), (3, .int (oi x3)), (4, .long x4), (6, .int (oi (x6 + 1)))] [1, 2, 3, 4, 0] rfl ?_
          exact ih x1 x3 x4 (x6 + 1) r6 hx3 h9
def f_X0_storeInAll (o : Nat) (x1 : Int64) (x3 : Int) (x4 : Int64) (σ : Mm) : Option (Mm) :=
  f_X0_storeInAll_3 o 2000 x1 x3 x4 0 σ
theorem hd_X0_storeInAll : yX0_storeInAll.cls = RX0 ∧ yX0_storeInAll.cls ≠ "java/lang/invoke/MethodHandle" ∧ yX0_storeInAll.cls ≠ "java/lang/invoke/VarHandle" ∧ (parseMethodDescriptor yX0_storeInAll.desc).map (fun d => d.parameters.length) = some 3 := by decide +kernel
set_option maxRecDepth 100000 in
set_option maxHeartbeats 4000000 in
theorem c_X0_storeInAll {l : Launch} {D : va_G} {ca : Nat → ClassId} {ad : Nat → Nat} {o : Nat} {x1 : Int64} {x3 : Int} {x4 : Int64} (ho : o = 15 ∨ o = 29) (hx3 : inR x3) {σ : Mm} : CtV l D vcl ca ad shC NC yX0_storeInAll (Cond.code yX0_storeInAll cX0_storeInAll 7 none :: tbG) { frames := 1, cells := 0, slots := 0, locals := 25 } [.ref (ad o), .long x1, .int (oi x3), .long x4] σ (f_X0_storeInAll o x1 x3 x4 σ) := by
  refine ct_V RX0 rfl (by decide) rfl (Nat.le_of_ble_eq_true rfl) (fun p e s m below meth c res X hN hr hlk => ?_)
  show GX0_storeInAll p l e s m _ below meth c D ca ad res 0 [(0, .ref (ad o)), (1, .long x1), (3, .int (oi x3)), (4, .long x4)] [] σ (f_X0_storeInAll o x1 x3 x4 σ)
  unfold f_X0_storeInAll
  refine q_iconst X dX0_storeInAll_0 ?_
  refine q_istore X [(6, .int (oi 0)), (0, .ref (ad o)), (1, .long x1), (3, .int (oi x3)), (4, .long x4)] dX0_storeInAll_1 (by decide) rfl ?_
  refine q_sub [(0, .ref (ad o)), (1, .long x1), (3, .int (oi x3)), (4, .long x4), (6, .int (oi 0))] [1, 2, 3, 4, 0] rfl ?_
  exact t_X0_storeInAll_3 X hN hr hlk ho 2000 x1 x3 x4 0 σ hx3 (by decide)

/-! SiteObjects$Finding.layInAll(JJ)V -/
abbrev GX0_layInAll (p : Program) (l : Launch) (e : Env) (s : State) (m : MethodId) (args : Array Value) (below : List Frame) (meth : Method) (c : Code) (D : va_G) (ca : Nat → ClassId) (ad : Nat → Nat) (res : Mm) : Nat → List (Nat × Value) → List Value → Mm → Option (Mm) → Prop := G p l e { frames := 1, cells := 0, slots := 0, locals := 25 } s m args below meth c (MQ below (QcV D vcl ca ad shC s.heap.size res) args s 0 0 (Aw ad shC.length s.heap.size)) 6 D vcl ca ad shC (Aw ad shC.length s.heap.size) res
def f_X0_layInAll_3 (o : Nat) : Nat → Int64 → Int64 → Int → Mm → Option (Mm)
  | 0, _, _, _, _ => none
  | n + 1, x1, x3, x5, σ => (if (σ.1 (o + 9) 3) ≤ x5 then some σ else (if (lShr x1 x5) = 0 then some σ else (if ((lShr x1 x5) &&& 1) = 0 then ck (inR (x5 + 1)) (f_X0_layInAll_3 o n x1 x3 (x5 + 1) σ) else ck ((0 : Int) ≤ x5 ∧ x5 < ((60 : Nat) : Int)) (ck ((0 : Int) ≤ (σ.1 (o + 12) (Int.toNat x5)) ∧ (σ.1 (o + 12) (Int.toNat x5)) < ((90 : Nat) : Int)) (ck ((0 : Int) ≤ (σ.1 10 (Int.toNat (σ.1 (o + 12) (Int.toNat x5)))) ∧ (σ.1 10 (Int.toNat (σ.1 (o + 12) (Int.toNat x5)))) < ((10 : Nat) : Int)) ((f_X0_addInside o x5 4 (x3 &&& (σ.2 (o + 4) (Int.toNat (σ.1 10 (Int.toNat (σ.1 (o + 12) (Int.toNat x5))))))) σ).bind (fun r8 => ck (inR (x5 + 1)) (f_X0_layInAll_3 o n x1 x3 (x5 + 1) r8))))))))
set_option maxRecDepth 100000 in
set_option maxHeartbeats 4000000 in
theorem t_X0_layInAll_3 {p : Program} {l : Launch} {e : Env} {s : State} {m : MethodId} {args : Array Value} {below : List Frame} {meth : Method} {c : Code} {D : va_G} {ca : Nat → ClassId} {ad : Nat → Nat} {res : Mm} {o : Nat} (X : Cx p s m args c cX0_layInAll 6 RX0 (Cond.code yX0_layInAll cX0_layInAll 6 none :: tbG) D vcl ca) (hN : NC s) (hr : meth.sig.returnType = none) (hlk : meth.locks = false) (ho : o = 15 ∨ o = 29) : ∀ (n : Nat) (x1 : Int64) (x3 : Int64) (x5 : Int) (σ : Mm), inR x5 → GX0_layInAll p l e s m args below meth c D ca ad res 3 [(0, .ref (ad o)), (1, .long x1), (3, .long x3), (5, .int (oi x5))] [] σ (f_X0_layInAll_3 o n x1 x3 x5 σ)
  := by
  intro n
  induction n with
  | zero => intro x1 x3 x5 σ hx5 h; cases h
  | succ n ih =>
    intro x1 x3 x5 σ hx5
    rw [f_X0_layInAll_3]
    refine q_iload X dX0_layInAll_3 3 rfl ?_
    refine q_aload_n X dX0_layInAll_5 0 rfl ?_
    refine fg_X0_57 ho X dX0_layInAll_6 ?_
    refine fg_X0_156 ho X dX0_layInAll_9 (fun h1 => ?_)
    refine q_icmp_ge X hx5 h1 73 dX0_layInAll_12 (by decide) (fun h2 => ?_) (fun h2 => ?_)
    · exact q_vret X hr hlk dX0_layInAll_73
    · refine q_lload_n X dX0_layInAll_15 1 rfl ?_
      refine q_iload X dX0_layInAll_16 3 rfl ?_
      refine q_lshr X dX0_layInAll_18 ?_
      refine q_lconst X 0 dX0_layInAll_19 rfl ?_
      refine q_lcmp_eq X 73 dX0_layInAll_20 dX0_layInAll_21 (by decide) (fun h3 => ?_) (fun h3 => ?_)
      · exact q_vret X hr hlk dX0_layInAll_73
      · refine q_lload_n X dX0_layInAll_24 1 rfl ?_
        refine q_iload X dX0_layInAll_25 3 rfl ?_
        refine q_lshr X dX0_layInAll_27 ?_
        refine q_lconst X 1 dX0_layInAll_28 rfl ?_
        refine q_land X dX0_layInAll_29 ?_
        refine q_lconst X 0 dX0_layInAll_30 rfl ?_
        refine q_lcmp_eq X 67 dX0_layInAll_31 dX0_layInAll_32 (by decide) (fun h4 => ?_) (fun h4 => ?_)
        · refine q_iinc X [(5, .int (oi (x5 + 1))), (0, .ref (ad o)), (1, .long x1), (3, .long x3)] dX0_layInAll_67 (by decide) 3 rfl rfl (fun h5 => ?_)
          refine q_goto X 3 dX0_layInAll_70 (by decide) ?_
          refine q_sub [(0, .ref (ad o)), (1, .long x1), (3, .long x3), (5, .int (oi (x5 + 1)))] [1, 2, 3, 0] rfl ?_
          exact ih x1 x3 (x5 + 1) σ h5
        · refine q_aload_n X dX0_layInAll_35 0 rfl ?_
          refine q_iload X dX0_layInAll_36 3 rfl ?_
          refine q_iconst X dX0_layInAll_38 ?_
          refine q_lload_n X dX0_layInAll_39 2 rfl ?_
          refine q_aload_n X dX0_layInAll_40 0 rfl ?_
          refine fg_X0_21 ho X dX0_layInAll_41 ?_
          refine q_aload_n X dX0_layInAll_44 0 rfl ?_
          refine fg_X0_50 ho X dX0_layInAll_45 ?_
          refine fg_X0_109 X dX0_layInAll_48 ?_
          refine q_aload_n X dX0_layInAll_51 0 rfl ?_
          refine fg_X0_57 ho X dX0_layInAll_52 ?_
          refine fg_X0_183 ho X dX0_layInAll_55 ?_
          refine q_iload X dX0_layInAll_58 3 rfl ?_
          refine q_iald X (hF12 ho) (by decide) dX0_layInAll_60 (fun h6 => ?_)
          refine q_iald X hC10 (by decide) dX0_layInAll_61 (fun h7 => ?_)
          refine q_lald X (hF4 ho) (by decide) dX0_layInAll_62 ?_
          refine q_land X dX0_layInAll_63 ?_
          refine q_callV X NCok hN Aw_new (c_X0_addInside ho hx5 (by decide)) (rn_V X (cwV 3 X.2.2.2.2.1 (tbG_good _ (tbG_V mw_473 mw_475 mp_1_9 mw_4 mw_476)) rfl rfl rfl hd_X0_addInside ⟨by decide, by decide⟩) (hO0 ho) rfl rfl rfl (Nat.le_of_ble_eq_true rfl) dX0_layInAll_64) (fun r8 _ => ?_)
          refine q_iinc X [(5, .int (oi (x5 + 1))), (0, .ref (ad o)), (1, .long x1), (3, .long x3)] dX0_layInAll_67 (by decide) 3 rfl rfl (fun h11 => ?_)
          refine q_goto X 3 dX0_layInAll_70 (by decide) ?_
          refine q_sub [(0, .ref (ad o)), (1, .long x1), (3, .long x3), (5, .int (oi (x5 + 1)))] [1, 2, 3, 0] rfl ?_
          exact ih x1 x3 (x5 + 1) r8 h11
def f_X0_layInAll (o : Nat) (x1 : Int64) (x3 : Int64) (σ : Mm) : Option (Mm) :=
  f_X0_layInAll_3 o 2000 x1 x3 0 σ
theorem hd_X0_layInAll : yX0_layInAll.cls = RX0 ∧ yX0_layInAll.cls ≠ "java/lang/invoke/MethodHandle" ∧ yX0_layInAll.cls ≠ "java/lang/invoke/VarHandle" ∧ (parseMethodDescriptor yX0_layInAll.desc).map (fun d => d.parameters.length) = some 2 := by decide +kernel
set_option maxRecDepth 100000 in
set_option maxHeartbeats 4000000 in
theorem c_X0_layInAll {l : Launch} {D : va_G} {ca : Nat → ClassId} {ad : Nat → Nat} {o : Nat} {x1 : Int64} {x3 : Int64} (ho : o = 15 ∨ o = 29) {σ : Mm} : CtV l D vcl ca ad shC NC yX0_layInAll (Cond.code yX0_layInAll cX0_layInAll 6 none :: tbG) { frames := 1, cells := 0, slots := 0, locals := 25 } [.ref (ad o), .long x1, .long x3] σ (f_X0_layInAll o x1 x3 σ) := by
  refine ct_V RX0 rfl (by decide) rfl (Nat.le_of_ble_eq_true rfl) (fun p e s m below meth c res X hN hr hlk => ?_)
  show GX0_layInAll p l e s m _ below meth c D ca ad res 0 [(0, .ref (ad o)), (1, .long x1), (3, .long x3)] [] σ (f_X0_layInAll o x1 x3 σ)
  unfold f_X0_layInAll
  refine q_iconst X dX0_layInAll_0 ?_
  refine q_istore X [(5, .int (oi 0)), (0, .ref (ad o)), (1, .long x1), (3, .long x3)] dX0_layInAll_1 (by decide) rfl ?_
  refine q_sub [(0, .ref (ad o)), (1, .long x1), (3, .long x3), (5, .int (oi 0))] [1, 2, 3, 0] rfl ?_
  exact t_X0_layInAll_3 X hN hr hlk ho 2000 x1 x3 0 σ (by decide)

/-! SiteObjects$Finding.methodAskedOf(II)I -/
abbrev GX0_methodAskedOf (p : Program) (l : Launch) (e : Env) (s : State) (m : MethodId) (args : Array Value) (below : List Frame) (meth : Method) (c : Code) (D : va_G) (ca : Nat → ClassId) (ad : Nat → Nat) (σ : Mm) (res : Int) : Nat → List (Nat × Value) → List Value → Mm → Option (Int) → Prop := G p l e { frames := 1, cells := 0, slots := 0, locals := 22 } s m args below meth c (MQ below (QcI D vcl ca ad shC s.heap.size (res, σ)) args s 0 0 (Aw ad shC.length s.heap.size)) 3 D vcl ca ad shC (Aw ad shC.length s.heap.size) res
def f_X0_methodAskedOf (o : Nat) (x1 : Int) (x2 : Int) (σ : Mm) : Option (Int) :=
  ck ((0 : Int) ≤ x1 ∧ x1 < ((60 : Nat) : Int)) ((f_X3_madeClass (σ.1 (o + 12) (Int.toNat x1)) σ).bind (fun r2 => ck ((0 : Int) ≤ x2 ∧ x2 < ((90 : Nat) : Int)) ((f_X3_methodFor r2 (σ.1 11 (Int.toNat x2)) σ).bind (fun r6 => some r6))))
theorem hd_X0_methodAskedOf : yX0_methodAskedOf.cls = RX0 ∧ yX0_methodAskedOf.cls ≠ "java/lang/invoke/MethodHandle" ∧ yX0_methodAskedOf.cls ≠ "java/lang/invoke/VarHandle" ∧ (parseMethodDescriptor yX0_methodAskedOf.desc).map (fun d => d.parameters.length) = some 2 := by decide +kernel
set_option maxRecDepth 100000 in
set_option maxHeartbeats 4000000 in
theorem c_X0_methodAskedOf {l : Launch} {D : va_G} {ca : Nat → ClassId} {ad : Nat → Nat} {o : Nat} {x1 : Int} {x2 : Int} (ho : o = 15 ∨ o = 29) (hx1 : inR x1) (hx2 : inR x2) {σ : Mm} : CtI l D vcl ca ad shC NC yX0_methodAskedOf (Cond.code yX0_methodAskedOf cX0_methodAskedOf 3 (some .int) :: tbG) { frames := 1, cells := 0, slots := 0, locals := 22 } [.ref (ad o), .int (oi x1), .int (oi x2)] σ ((f_X0_methodAskedOf o x1 x2 σ).map (fun r => (r, σ))) := by
  refine ct_Ip RX0 rfl (by decide) rfl (Nat.le_of_ble_eq_true rfl) (fun p e s m below meth c res X hN hr hlk => ?_)
  show GX0_methodAskedOf p l e s m _ below meth c D ca ad σ res 0 [(0, .ref (ad o)), (1, .int (oi x1)), (2, .int (oi x2))] [] σ (f_X0_methodAskedOf o x1 x2 σ)
  unfold f_X0_methodAskedOf
  refine q_aload_n X dX0_methodAskedOf_0 0 rfl ?_
  refine fg_X0_50 ho X dX0_methodAskedOf_1 ?_
  refine q_aload_n X dX0_methodAskedOf_4 0 rfl ?_
  refine fg_X0_50 ho X dX0_methodAskedOf_5 ?_
  refine q_aload_n X dX0_methodAskedOf_8 0 rfl ?_
  refine fg_X0_57 ho X dX0_methodAskedOf_9 ?_
  refine fg_X0_183 ho X dX0_methodAskedOf_12 ?_
  refine q_iload_n X dX0_methodAskedOf_15 1 rfl ?_
  refine q_iald X (hF12 ho) (by decide) dX0_methodAskedOf_16 (fun h1 => ?_)
  refine q_callIp X NCok hN Aw_new (c_X3_madeClass h1) (rn_V X (cwV 1 X.2.2.2.2.1 (tbG_good _ (tbG_V mw_447 mw_448 mw_449 mw_2 mw_450)) rfl rfl rfl hd_X3_madeClass ⟨by decide, by decide⟩) hC1 rfl rfl rfl (Nat.le_of_ble_eq_true rfl) dX0_methodAskedOf_17) (fun r2 _ h4 => ?_)
  refine q_aload_n X dX0_methodAskedOf_20 0 rfl ?_
  refine fg_X0_50 ho X dX0_methodAskedOf_21 ?_
  refine fg_X0_112 X dX0_methodAskedOf_24 ?_
  refine q_iload_n X dX0_methodAskedOf_27 2 rfl ?_
  refine q_iald X hC11 (by decide) dX0_methodAskedOf_28 (fun h5 => ?_)
  refine q_callIp X NCok hN Aw_new (c_X3_methodFor h4 h5) (rn_V X (cwV 2 X.2.2.2.2.1 (tbG_good _ (tbG_V mw_489 mw_490 mw_491 mw_2 mw_492)) rfl rfl rfl hd_X3_methodFor ⟨by decide, by decide⟩) hC1 rfl rfl rfl (Nat.le_of_ble_eq_true rfl) dX0_methodAskedOf_29) (fun r6 _ h8 => ?_)
  exact q_iretp X h8 hr hlk dX0_methodAskedOf_32

/-! SiteObjects$Finding.raiseAt(IIJ)V -/
abbrev GX0_raiseAt (p : Program) (l : Launch) (e : Env) (s : State) (m : MethodId) (args : Array Value) (below : List Frame) (meth : Method) (c : Code) (D : va_G) (ca : Nat → ClassId) (ad : Nat → Nat) (res : Mm) : Nat → List (Nat × Value) → List Value → Mm → Option (Mm) → Prop := G p l e { frames := 1, cells := 0, slots := 0, locals := 25 } s m args below meth c (MQ below (QcV D vcl ca ad shC s.heap.size res) args s 0 0 (Aw ad shC.length s.heap.size)) 12 D vcl ca ad shC (Aw ad shC.length s.heap.size) res
def f_X0_raiseAt_20 (o : Nat) : Nat → Int → Int → Int64 → Int → Mm → Option (Mm)
  | 0, _, _, _, _, _ => none
  | n + 1, x1, x5, x6, x8, σ => (if x8 < 0 then (f_X0_addToVar o x1 7 x6 σ).bind (fun r2 => some r2) else (if x6 = 0 then (f_X0_addToVar o x1 7 x6 σ).bind (fun r6 => some r6) else ck ((0 : Int) ≤ x1 ∧ x1 < ((80 : Nat) : Int)) ((f_X3_stepAt (σ.1 (o + 10) (Int.toNat x1)) x8 σ).bind (fun r10 => (if r10 < 0 then ck (inR (x8 + (-1))) (f_X0_raiseAt_20 o n x1 x5 x6 (x8 + (-1)) σ) else (f_X3_covers r10 x5 σ).bind (fun r15 => (if r15 = 0 then ck (inR (x8 + (-1))) (f_X0_raiseAt_20 o n x1 x5 x6 (x8 + (-1)) σ) else ck ((0 : Int) ≤ r10 ∧ r10 < ((90 : Nat) : Int)) (ck ((0 : Int) ≤ (σ.1 11 (Int.toNat r10)) ∧ (σ.1 11 (Int.toNat r10)) < ((10 : Nat) : Int)) (ck ((0 : Int) ≤ r10 ∧ r10 < ((90 : Nat) : Int)) ((f_X0_addToVar o x1 (σ.1 9 (Int.toNat r10)) (x6 &&& (σ.2 (o + 4) (Int.toNat (σ.1 11 (Int.toNat r10))))) σ).bind (fun r22 => ck (inR (x8 + (-1))) (f_X0_raiseAt_20 o n x1 x5 (x6 &&& ((x6 &&& (σ.2 (o + 4) (Int.toNat (σ.1 11 (Int.toNat r10))))) ^^^ (-1))) (x8 + (-1)) r22))))))))))))
set_option maxRecDepth 100000 in
set_option maxHeartbeats 4000000 in
theorem t_X0_raiseAt_20 {p : Program} {l : Launch} {e : Env} {s : State} {m : MethodId} {args : Array Value} {below : List Frame} {meth : Method} {c : Code} {D : va_G} {ca : Nat → ClassId} {ad : Nat → Nat} {res : Mm} {o : Nat} (X : Cx p s m args c cX0_raiseAt 12 RX0 (Cond.code yX0_raiseAt cX0_raiseAt 12 none :: tbG) D vcl ca) (hN : NC s) (hr : meth.sig.returnType = none) (hlk : meth.locks = false) (ho : o = 15 ∨ o = 29) : ∀ (n : Nat) (x1 : Int) (x5 : Int) (x6 : Int64) (x8 : Int) (σ : Mm), inR x1 → inR x5 → inR x8 → GX0_raiseAt p l e s m args below meth c D ca ad res 20 [(0, .ref (ad o)), (1, .int (oi x1)), (5, .int (oi x5)), (6, .long x6), (8, .int (oi x8))] [] σ (f_X0_raiseAt_20 o n x1 x5 x6 x8 σ)
  := by
  intro n
  induction n with
  | zero => intro x1 x5 x6 x8 σ hx1 hx5 hx8 h; cases h
  | succ n ih =>
    intro x1 x5 x6 x8 σ hx1 hx5 hx8
    rw [f_X0_raiseAt_20]
    refine q_iload X dX0_raiseAt_20 4 rfl ?_
    refine q_if_lt X hx8 125 dX0_raiseAt_22 (by decide) (fun h1 => ?_) (fun h1 => ?_)
    · refine q_aload_n X dX0_raiseAt_125 0 rfl ?_
      refine q_iload_n X dX0_raiseAt_126 1 rfl ?_
      refine q_bipush X dX0_raiseAt_127 (by decide) ?_
      refine q_lload X dX0_raiseAt_129 3 rfl ?_
      refine q_callV X NCok hN Aw_new (c_X0_addToVar ho hx1 (by decide)) (rn_V X (cwV 3 X.2.2.2.2.1 (tbG_good _ (tbG_V mw_452 mw_454 mp_1_6 mw_4 mw_455)) rfl rfl rfl hd_X0_addToVar ⟨by decide, by decide⟩) (hO0 ho) rfl rfl rfl (Nat.le_of_ble_eq_true rfl) dX0_raiseAt_131) (fun r2 _ => ?_)
      exact q_vret X hr hlk dX0_raiseAt_134
    · refine q_lload X dX0_raiseAt_25 3 rfl ?_
      refine q_lconst X 0 dX0_raiseAt_27 rfl ?_
      refine q_lcmp_eq X 125 dX0_raiseAt_28 dX0_raiseAt_29 (by decide) (fun h5 => ?_) (fun h5 => ?_)
      · refine q_aload_n X dX0_raiseAt_125 0 rfl ?_
        refine q_iload_n X dX0_raiseAt_126 1 rfl ?_
        refine q_bipush X dX0_raiseAt_127 (by decide) ?_
        refine q_lload X dX0_raiseAt_129 3 rfl ?_
        refine q_callV X NCok hN Aw_new (c_X0_addToVar ho hx1 (by decide)) (rn_V X (cwV 3 X.2.2.2.2.1 (tbG_good _ (tbG_V mw_452 mw_454 mp_1_6 mw_4 mw_455)) rfl rfl rfl hd_X0_addToVar ⟨by decide, by decide⟩) (hO0 ho) rfl rfl rfl (Nat.le_of_ble_eq_true rfl) dX0_raiseAt_131) (fun r6 _ => ?_)
        exact q_vret X hr hlk dX0_raiseAt_134
      · refine q_aload_n X dX0_raiseAt_32 0 rfl ?_
        refine fg_X0_50 ho X dX0_raiseAt_33 ?_
        refine q_aload_n X dX0_raiseAt_36 0 rfl ?_
        refine fg_X0_57 ho X dX0_raiseAt_37 ?_
        refine fg_X0_92 ho X dX0_raiseAt_40 ?_
        refine q_iload_n X dX0_raiseAt_43 1 rfl ?_
        refine q_iald X (hF10 ho) (by decide) dX0_raiseAt_44 (fun h9 => ?_)
        refine q_iload X dX0_raiseAt_45 4 rfl ?_
        refine q_callIp X NCok hN Aw_new (c_X3_stepAt h9 hx8) (rn_V X (cwV 2 X.2.2.2.2.1 (tbG_good _ (tbG_V mw_427 mw_428 mw_429 mw_2 mw_430)) rfl rfl rfl hd_X3_stepAt ⟨by decide, by decide⟩) hC1 rfl rfl rfl (Nat.le_of_ble_eq_true rfl) dX0_raiseAt_47) (fun r10 _ h12 => ?_)
        refine q_istore X [(9, .int (oi r10)), (0, .ref (ad o)), (1, .int (oi x1)), (5, .int (oi x5)), (6, .long x6), (8, .int (oi x8))] dX0_raiseAt_50 (by decide) rfl ?_
        refine q_iload X dX0_raiseAt_52 0 rfl ?_
        refine q_if_lt X h12 119 dX0_raiseAt_54 (by decide) (fun h13 => ?_) (fun h13 => ?_)
        · refine q_iinc X [(8, .int (oi (x8 + (-1)))), (9, .int (oi r10)), (0, .ref (ad o)), (1, .int (oi x1)), (5, .int (oi x5)), (6, .long x6)] dX0_raiseAt_119 (by decide) 5 rfl rfl (fun h14 => ?_)
          refine q_goto X 20 dX0_raiseAt_122 (by decide) ?_
          refine q_sub [(0, .ref (ad o)), (1, .int (oi x1)), (5, .int (oi x5)), (6, .long x6), (8, .int (oi (x8 + (-1))))] [2, 3, 4, 5, 0] rfl ?_
          exact ih x1 x5 x6 (x8 + (-1)) σ hx1 hx5 h14
        · refine q_aload_n X dX0_raiseAt_57 1 rfl ?_
          refine fg_X0_50 ho X dX0_raiseAt_58 ?_
          refine q_iload X dX0_raiseAt_61 0 rfl ?_
          refine q_iload X dX0_raiseAt_63 3 rfl ?_
          refine q_callIp X NCok hN Aw_new (c_X3_covers h12 hx5) (rn_V X (cwV 2 X.2.2.2.2.1 (tbG_good _ (tbG_V mw_509 mw_510 mw_511 mw_2 mw_512)) rfl rfl rfl hd_X3_covers ⟨by decide, by decide⟩) hC1 rfl rfl rfl (Nat.le_of_ble_eq_true rfl) dX0_raiseAt_65) (fun r15 _ h17 => ?_)
          refine q_if_eq X h17 119 dX0_raiseAt_68 (by decide) (fun h18 => ?_) (fun h18 => ?_)
          · refine q_iinc X [(8, .int (oi (x8 + (-1)))), (9, .int (oi r10)), (0, .ref (ad o)), (1, .int (oi x1)), (5, .int (oi x5)), (6, .long x6)] dX0_raiseAt_119 (by decide) 5 rfl rfl (fun h19 => ?_)
            refine q_goto X 20 dX0_raiseAt_122 (by decide) ?_
            refine q_sub [(0, .ref (ad o)), (1, .int (oi x1)), (5, .int (oi x5)), (6, .long x6), (8, .int (oi (x8 + (-1))))] [2, 3, 4, 5, 0] rfl ?_
            exact ih x1 x5 x6 (x8 + (-1)) σ hx1 hx5 h19
          · refine q_lload X dX0_raiseAt_71 4 rfl ?_
            refine q_aload_n X dX0_raiseAt_73 1 rfl ?_
            refine fg_X0_21 ho X dX0_raiseAt_74 ?_
            refine q_aload_n X dX0_raiseAt_77 1 rfl ?_
            refine fg_X0_50 ho X dX0_raiseAt_78 ?_
            refine fg_X0_112 X dX0_raiseAt_81 ?_
            refine q_iload X dX0_raiseAt_84 0 rfl ?_
            refine q_iald X hC11 (by decide) dX0_raiseAt_86 (fun h20 => ?_)
            refine q_lald X (hF4 ho) (by decide) dX0_raiseAt_87 ?_
            refine q_land X dX0_raiseAt_88 ?_
            refine q_lstore X [(10, .long (x6 &&& (σ.2 (o + 4) (Int.toNat (σ.1 11 (Int.toNat r10)))))), (9, .int (oi r10)), (0, .ref (ad o)), (1, .int (oi x1)), (5, .int (oi x5)), (6, .long x6), (8, .int (oi x8))] dX0_raiseAt_89 (by decide) rfl ?_
            refine q_aload_n X dX0_raiseAt_91 2 rfl ?_
            refine q_iload_n X dX0_raiseAt_92 3 rfl ?_
            refine q_aload_n X dX0_raiseAt_93 2 rfl ?_
            refine fg_X0_50 ho X dX0_raiseAt_94 ?_
            refine fg_X0_106 X dX0_raiseAt_97 ?_
            refine q_iload X dX0_raiseAt_100 1 rfl ?_
            refine q_iald X hC9 (by decide) dX0_raiseAt_102 (fun h21 => ?_)
            refine q_lload X dX0_raiseAt_103 0 rfl ?_
            refine q_callV X NCok hN Aw_new (c_X0_addToVar ho hx1 h21) (rn_V X (cwV 3 X.2.2.2.2.1 (tbG_good _ (tbG_V mw_452 mw_454 mp_1_6 mw_4 mw_455)) rfl rfl rfl hd_X0_addToVar ⟨by decide, by decide⟩) (hO0 ho) rfl rfl rfl (Nat.le_of_ble_eq_true rfl) dX0_raiseAt_105) (fun r22 _ => ?_)
            refine q_lload X dX0_raiseAt_108 5 rfl ?_
            refine q_lload X dX0_raiseAt_110 0 rfl ?_
            refine q_ldc2 X (-1) dX0_raiseAt_112 (List.mem_cons_of_mem _ mw_456) ?_
            refine q_lxor X dX0_raiseAt_115 ?_
            refine q_land X dX0_raiseAt_116 ?_
            refine q_lstore X [(6, .long (x6 &&& ((x6 &&& (σ.2 (o + 4) (Int.toNat (σ.1 11 (Int.toNat r10))))) ^^^ (-1)))), (10, .long (x6 &&& (σ.2 (o + 4) (Int.toNat (σ.1 11 (Int.toNat r10)))))), (9, .int (oi r10)), (0, .ref (ad o)), (1, .int (oi x1)), (5, .int (oi x5)), (8, .int (oi x8))] dX0_raiseAt_117 (by decide) rfl ?_
            refine q_iinc X [(8, .int (oi (x8 + (-1)))), (6, .long (x6 &&& ((x6 &&& (σ.2 (o + 4) (Int.toNat (σ.1 11 (Int.toNat r10))))) ^^^ (-1)))), (10, .long (x6 &&& (σ.2 (o + 4) (Int.toNat (σ.1 11 (Int.toNat r10)))))), (9, .int (oi r10)), (0, .ref (ad o)), (1, .int (oi x1)), (5, .int (oi x5))] dX0_raiseAt_119 (by decide) 6 rfl rfl (fun h25 => ?_)
            refine q_goto X 20 dX0_raiseAt_122 (by decide) ?_
            refine q_sub [(0, .ref (ad o)), (1, .int (oi x1)), (5, .int (oi x5)), (6, .long (x6 &&& ((x6 &&& (σ.2 (o + 4) (Int.toNat (σ.1 11 (Int.toNat r10))))) ^^^ (-1)))), (8, .int (oi (x8 + (-1))))] [4, 5, 6, 1, 0] rfl ?_
            exact ih x1 x5 (x6 &&& ((x6 &&& (σ.2 (o + 4) (Int.toNat (σ.1 11 (Int.toNat r10))))) ^^^ (-1))) (x8 + (-1)) r22 hx1 hx5 h25
def f_X0_raiseAt (o : Nat) (x1 : Int) (x2 : Int) (x3 : Int64) (σ : Mm) : Option (Mm) :=
  ck ((0 : Int) ≤ x2 ∧ x2 < ((90 : Nat) : Int)) (ck (inR ((σ.1 14 (Int.toNat x2)) - 1)) (f_X0_raiseAt_20 o 2000 x1 (σ.1 14 (Int.toNat x2)) x3 ((σ.1 14 (Int.toNat x2)) - 1) σ))
theorem hd_X0_raiseAt : yX0_raiseAt.cls = RX0 ∧ yX0_raiseAt.cls ≠ "java/lang/invoke/MethodHandle" ∧ yX0_raiseAt.cls ≠ "java/lang/invoke/VarHandle" ∧ (parseMethodDescriptor yX0_raiseAt.desc).map (fun d => d.parameters.length) = some 3 := by decide +kernel
set_option maxRecDepth 100000 in
set_option maxHeartbeats 4000000 in
theorem c_X0_raiseAt {l : Launch} {D : va_G} {ca : Nat → ClassId} {ad : Nat → Nat} {o : Nat} {x1 : Int} {x2 : Int} {x3 : Int64} (ho : o = 15 ∨ o = 29) (hx1 : inR x1) (hx2 : inR x2) {σ : Mm} : CtV l D vcl ca ad shC NC yX0_raiseAt (Cond.code yX0_raiseAt cX0_raiseAt 12 none :: tbG) { frames := 1, cells := 0, slots := 0, locals := 25 } [.ref (ad o), .int (oi x1), .int (oi x2), .long x3] σ (f_X0_raiseAt o x1 x2 x3 σ) := by
  refine ct_V RX0 rfl (by decide) rfl (Nat.le_of_ble_eq_true rfl) (fun p e s m below meth c res X hN hr hlk => ?_)
  show GX0_raiseAt p l e s m _ below meth c D ca ad res 0 [(0, .ref (ad o)), (1, .int (oi x1)), (2, .int (oi x2)), (3, .long x3)] [] σ (f_X0_raiseAt o x1 x2 x3 σ)
  unfold f_X0_raiseAt
  refine q_aload_n X dX0_raiseAt_0 0 rfl ?_
  refine fg_X0_50 ho X dX0_raiseAt_1 ?_
  refine fg_X0_176 X dX0_raiseAt_4 ?_
  refine q_iload_n X dX0_raiseAt_7 2 rfl ?_
  refine q_iald X hC14 (by decide) dX0_raiseAt_8 (fun h26 => ?_)
  refine q_istore X [(5, .int (oi (σ.1 14 (Int.toNat x2)))), (0, .ref (ad o)), (1, .int (oi x1)), (2, .int (oi x2)), (3, .long x3)] dX0_raiseAt_9 (by decide) rfl ?_
  refine q_lload_n X dX0_raiseAt_11 4 rfl ?_
  refine q_lstore X [(6, .long x3), (5, .int (oi (σ.1 14 (Int.toNat x2)))), (0, .ref (ad o)), (1, .int (oi x1)), (2, .int (oi x2)), (3, .long x3)] dX0_raiseAt_12 (by decide) rfl ?_
  refine q_iload X dX0_raiseAt_14 1 rfl ?_
  refine q_iconst X dX0_raiseAt_16 ?_
  refine q_isub X dX0_raiseAt_17 ?_
  refine q_ck (fun h27 => ?_)
  refine q_istore X [(8, .int (oi ((σ.1 14 (Int.toNat x2)) - 1))), (6, .long x3), (5, .int (oi (σ.1 14 (Int.toNat x2)))), (0, .ref (ad o)), (1, .int (oi x1)), (2, .int (oi x2)), (3, .long x3)] dX0_raiseAt_18 (by decide) rfl ?_
  refine q_sub [(0, .ref (ad o)), (1, .int (oi x1)), (5, .int (oi (σ.1 14 (Int.toNat x2)))), (6, .long x3), (8, .int (oi ((σ.1 14 (Int.toNat x2)) - 1)))] [3, 4, 2, 1, 0] rfl ?_
  exact t_X0_raiseAt_20 X hN hr hlk ho 2000 x1 (σ.1 14 (Int.toNat x2)) x3 ((σ.1 14 (Int.toNat x2)) - 1) σ hx1 h26 h27

/-! SiteObjects$Finding.link(IIIJ)V -/
abbrev GX0_link (p : Program) (l : Launch) (e : Env) (s : State) (m : MethodId) (args : Array Value) (below : List Frame) (meth : Method) (c : Code) (D : va_G) (ca : Nat → ClassId) (ad : Nat → Nat) (res : Mm) : Nat → List (Nat × Value) → List Value → Mm → Option (Mm) → Prop := G p l e { frames := 2, cells := 0, slots := 0, locals := 56 } s m args below meth c (MQ below (QcV D vcl ca ad shC s.heap.size res) args s 0 0 (Aw ad shC.length s.heap.size)) 6 D vcl ca ad shC (Aw ad shC.length s.heap.size) res
def f_X0_link (o : Nat) (x1 : Int) (x2 : Int) (x3 : Int) (x4 : Int64) (σ : Mm) : Option (Mm) :=
  (if 0 ≤ x3 then (f_X0_addToVar o x3 0 x4 σ).bind (fun r2 => ck ((0 : Int) ≤ x2 ∧ x2 < ((90 : Nat) : Int)) ((f_X0_setOf o x1 (r2.1 12 (Int.toNat x2)) r2).bind (fun r6 => (f_X0_addToVar o x3 1 r6 r2).bind (fun r9 => ck ((0 : Int) ≤ x2 ∧ x2 < ((90 : Nat) : Int)) ((f_X0_setOf o x3 6 r9).bind (fun r13 => (f_X0_addToVar o x1 (r9.1 9 (Int.toNat x2)) r13 r9).bind (fun r16 => (f_X0_setOf o x3 7 r16).bind (fun r19 => (f_X0_raiseAt o x1 x2 r19 r16).bind (fun r22 => some r22))))))))) else some σ)
theorem hd_X0_link : yX0_link.cls = RX0 ∧ yX0_link.cls ≠ "java/lang/invoke/MethodHandle" ∧ yX0_link.cls ≠ "java/lang/invoke/VarHandle" ∧ (parseMethodDescriptor yX0_link.desc).map (fun d => d.parameters.length) = some 4 := by decide +kernel
set_option maxRecDepth 100000 in
set_option maxHeartbeats 4000000 in
theorem c_X0_link {l : Launch} {D : va_G} {ca : Nat → ClassId} {ad : Nat → Nat} {o : Nat} {x1 : Int} {x2 : Int} {x3 : Int} {x4 : Int64} (ho : o = 15 ∨ o = 29) (hx1 : inR x1) (hx2 : inR x2) (hx3 : inR x3) {σ : Mm} : CtV l D vcl ca ad shC NC yX0_link (Cond.code yX0_link cX0_link 6 none :: tbG) { frames := 2, cells := 0, slots := 0, locals := 56 } [.ref (ad o), .int (oi x1), .int (oi x2), .int (oi x3), .long x4] σ (f_X0_link o x1 x2 x3 x4 σ) := by
  refine ct_V RX0 rfl (by decide) rfl (Nat.le_of_ble_eq_true rfl) (fun p e s m below meth c res X hN hr hlk => ?_)
  show GX0_link p l e s m _ below meth c D ca ad res 0 [(0, .ref (ad o)), (1, .int (oi x1)), (2, .int (oi x2)), (3, .int (oi x3)), (4, .long x4)] [] σ (f_X0_link o x1 x2 x3 x4 σ)
  unfold f_X0_link
  refine q_iload_n X dX0_link_0 3 rfl ?_
  refine q_if_ge X hx3 5 dX0_link_1 (by decide) (fun h1 => ?_) (fun h1 => ?_)
  · refine q_aload_n X dX0_link_5 0 rfl ?_
    refine q_iload_n X dX0_link_6 3 rfl ?_
    refine q_iconst X dX0_link_7 ?_
    refine q_lload X dX0_link_8 4 rfl ?_
    refine q_callV X NCok hN Aw_new (c_X0_addToVar ho hx3 (by decide)) (rn_V X (cwV 3 X.2.2.2.2.1 (tbG_good _ (tbG_V mw_452 mw_454 mp_1_6 mw_4 mw_455)) rfl rfl rfl hd_X0_addToVar ⟨by decide, by decide⟩) (hO0 ho) rfl rfl rfl (Nat.le_of_ble_eq_true rfl) dX0_link_10) (fun r2 _ => ?_)
    refine q_aload_n X dX0_link_13 0 rfl ?_
    refine q_iload_n X dX0_link_14 3 rfl ?_
    refine q_iconst X dX0_link_15 ?_
    refine q_aload_n X dX0_link_16 0 rfl ?_
    refine q_iload_n X dX0_link_17 1 rfl ?_
    refine q_aload_n X dX0_link_18 0 rfl ?_
    refine fg_X0_50 ho X dX0_link_19 ?_
    refine fg_X0_173 X dX0_link_22 ?_
    refine q_iload_n X dX0_link_25 2 rfl ?_
    refine q_iald X hC12 (by decide) dX0_link_26 (fun h5 => ?_)
    refine q_callLp X NCok hN Aw_new (c_X0_setOf ho hx1 h5) (rn_V X (cwV 2 X.2.2.2.2.1 (tbG_good _ (tbG_V mw_457 mw_458 mw_459 mw_4 mw_460)) rfl rfl rfl hd_X0_setOf ⟨by decide, by decide⟩) (hO0 ho) rfl rfl rfl (Nat.le_of_ble_eq_true rfl) dX0_link_27) (fun r6 _ => ?_)
    refine q_callV X NCok hN Aw_new (c_X0_addToVar ho hx3 (by decide)) (rn_V X (cwV 3 X.2.2.2.2.1 (tbG_good _ (tbG_V mw_452 mw_454 mp_1_6 mw_4 mw_455)) rfl rfl rfl hd_X0_addToVar ⟨by decide, by decide⟩) (hO0 ho) rfl rfl rfl (Nat.le_of_ble_eq_true rfl) dX0_link_30) (fun r9 _ => ?_)
    refine q_aload_n X dX0_link_33 0 rfl ?_
    refine q_iload_n X dX0_link_34 1 rfl ?_
    refine q_aload_n X dX0_link_35 0 rfl ?_
    refine fg_X0_50 ho X dX0_link_36 ?_
    refine fg_X0_106 X dX0_link_39 ?_
    refine q_iload_n X dX0_link_42 2 rfl ?_
    refine q_iald X hC9 (by decide) dX0_link_43 (fun h12 => ?_)
    refine q_aload_n X dX0_link_44 0 rfl ?_
    refine q_iload_n X dX0_link_45 3 rfl ?_
    refine q_bipush X dX0_link_46 (by decide) ?_
    refine q_callLp X NCok hN Aw_new (c_X0_setOf ho hx3 (by decide)) (rn_V X (cwV 2 X.2.2.2.2.1 (tbG_good _ (tbG_V mw_457 mw_458 mw_459 mw_4 mw_460)) rfl rfl rfl hd_X0_setOf ⟨by decide, by decide⟩) (hO0 ho) rfl rfl rfl (Nat.le_of_ble_eq_true rfl) dX0_link_48) (fun r13 _ => ?_)
    refine q_callV X NCok hN Aw_new (c_X0_addToVar ho hx1 h12) (rn_V X (cwV 3 X.2.2.2.2.1 (tbG_good _ (tbG_V mw_452 mw_454 mp_1_6 mw_4 mw_455)) rfl rfl rfl hd_X0_addToVar ⟨by decide, by decide⟩) (hO0 ho) rfl rfl rfl (Nat.le_of_ble_eq_true rfl) dX0_link_51) (fun r16 _ => ?_)
    refine q_aload_n X dX0_link_54 0 rfl ?_
    refine q_iload_n X dX0_link_55 1 rfl ?_
    refine q_iload_n X dX0_link_56 2 rfl ?_
    refine q_aload_n X dX0_link_57 0 rfl ?_
    refine q_iload_n X dX0_link_58 3 rfl ?_
    refine q_bipush X dX0_link_59 (by decide) ?_
    refine q_callLp X NCok hN Aw_new (c_X0_setOf ho hx3 (by decide)) (rn_V X (cwV 2 X.2.2.2.2.1 (tbG_good _ (tbG_V mw_457 mw_458 mw_459 mw_4 mw_460)) rfl rfl rfl hd_X0_setOf ⟨by decide, by decide⟩) (hO0 ho) rfl rfl rfl (Nat.le_of_ble_eq_true rfl) dX0_link_61) (fun r19 _ => ?_)
    refine q_callV X NCok hN Aw_new (c_X0_raiseAt ho hx1 hx2) (rn_V X (cwV 3 X.2.2.2.2.1 (tbG_good _ (tbG_V mw_505 mw_507 mp_1_15 mw_4 mw_508)) rfl rfl rfl hd_X0_raiseAt ⟨by decide, by decide⟩) (hO0 ho) rfl rfl rfl (Nat.le_of_ble_eq_true rfl) dX0_link_64) (fun r22 _ => ?_)
    exact q_vret X hr hlk dX0_link_67
  · exact q_vret X hr hlk dX0_link_4

/-! SiteObjects$Finding.doAsk(II)V -/
abbrev GX0_doAsk (p : Program) (l : Launch) (e : Env) (s : State) (m : MethodId) (args : Array Value) (below : List Frame) (meth : Method) (c : Code) (D : va_G) (ca : Nat → ClassId) (ad : Nat → Nat) (res : Mm) : Nat → List (Nat × Value) → List Value → Mm → Option (Mm) → Prop := G p l e { frames := 3, cells := 0, slots := 0, locals := 81 } s m args below meth c (MQ below (QcV D vcl ca ad shC s.heap.size res) args s 0 0 (Aw ad shC.length s.heap.size)) 7 D vcl ca ad shC (Aw ad shC.length s.heap.size) res
def f_X0_doAsk_61 (o : Nat) (k18 : Int → Int → Int64 → Int → Mm → Option (Mm)) (x1 : Int) (x2 : Int) (x3 : Int64) (x5 : Int) (s0 : Int) (σ : Mm) : Option (Mm) :=
  (if s0 < 0 then ck (inR (x5 + 1)) (k18 x1 x2 x3 (x5 + 1) σ) else (f_X5_contextOfAsked o x1 x2 x5 σ).bind (fun r3 => (f_X0_nodeFor o s0 r3 σ).bind (fun r6 => (f_X0_link o x1 x2 r6.1 (lShl 1 x5) r6.2).bind (fun r9 => ck (inR (x5 + 1)) (k18 x1 x2 x3 (x5 + 1) r9)))))
set_option maxRecDepth 100000 in
set_option maxHeartbeats 4000000 in
theorem t_X0_doAsk_61 {p : Program} {l : Launch} {e : Env} {s : State} {m : MethodId} {args : Array Value} {below : List Frame} {meth : Method} {c : Code} {D : va_G} {ca : Nat → ClassId} {ad : Nat → Nat} {res : Mm} {o : Nat} {k18 : Int → Int → Int64 → Int → Mm → Option (Mm)} (X : Cx p s m args c cX0_doAsk 7 RX0 (Cond.code yX0_doAsk cX0_doAsk 7 none :: tbG) D vcl ca) (hN : NC s) (hr : meth.sig.returnType = none) (hlk : meth.locks = false) (ho : o = 15 ∨ o = 29) (hk18 : ∀ (x1 : Int) (x2 : Int) (x3 : Int64) (x5 : Int) (σ : Mm), inR x1 → inR x2 → inR x5 → GX0_doAsk p l e s m args below meth c D ca ad res 18 [(0, .ref (ad o)), (1, .int (oi x1)), (2, .int (oi x2)), (3, .long x3), (5, .int (oi x5))] [] σ (k18 x1 x2 x3 x5 σ)) : ∀ (x1 : Int) (x2 : Int) (x3 : Int64) (x5 : Int) (s0 : Int) (σ : Mm), inR x1 → inR x2 → inR x5 → inR s0 → GX0_doAsk p l e s m args below meth c D ca ad res 61 [(0, .ref (ad o)), (1, .int (oi x1)), (2, .int (oi x2)), (3, .long x3), (5, .int (oi x5))] [.int (oi s0)] σ (f_X0_doAsk_61 o k18 x1 x2 x3 x5 s0 σ) := by
  intro x1 x2 x3 x5 s0 σ hx1 hx2 hx5 hs0
  unfold f_X0_doAsk_61
  refine q_istore X [(6, .int (oi s0)), (0, .ref (ad o)), (1, .int (oi x1)), (2, .int (oi x2)), (3, .long x3), (5, .int (oi x5))] dX0_doAsk_61 (by decide) rfl ?_
  refine q_iload X dX0_doAsk_63 0 rfl ?_
  refine q_if_lt X hs0 95 dX0_doAsk_65 (by decide) (fun h1 => ?_) (fun h1 => ?_)
  · refine q_iinc X [(5, .int (oi (x5 + 1))), (6, .int (oi s0)), (0, .ref (ad o)), (1, .int (oi x1)), (2, .int (oi x2)), (3, .long x3)] dX0_doAsk_95 (by decide) 5 rfl rfl (fun h2 => ?_)
    refine q_goto X 18 dX0_doAsk_98 (by decide) ?_
    refine q_sub [(0, .ref (ad o)), (1, .int (oi x1)), (2, .int (oi x2)), (3, .long x3), (5, .int (oi (x5 + 1)))] [2, 3, 4, 5, 0] rfl ?_
    exact hk18 x1 x2 x3 (x5 + 1) σ hx1 hx2 h2
  · refine q_aload_n X dX0_doAsk_68 1 rfl ?_
    refine q_iload_n X dX0_doAsk_69 2 rfl ?_
    refine q_iload_n X dX0_doAsk_70 3 rfl ?_
    refine q_aload_n X dX0_doAsk_71 1 rfl ?_
    refine q_iload X dX0_doAsk_72 0 rfl ?_
    refine q_aload_n X dX0_doAsk_74 1 rfl ?_
    refine fg_X0_57 ho X dX0_doAsk_75 ?_
    refine q_iload_n X dX0_doAsk_78 2 rfl ?_
    refine q_iload_n X dX0_doAsk_79 3 rfl ?_
    refine q_iload X dX0_doAsk_80 5 rfl ?_
    refine q_callIp X NCok hN Aw_new (c_X5_contextOfAsked ho hx1 hx2 hx5) (rn_V X (cwV 3 X.2.2.2.2.1 (tbG_good _ (tbG_V mw_493 mw_494 mw_495 mw_5 mw_496)) rfl rfl rfl hd_X5_contextOfAsked ⟨by decide, by decide⟩) (hO9 ho) rfl rfl rfl (Nat.le_of_ble_eq_true rfl) dX0_doAsk_82) (fun r3 _ h5 => ?_)
    refine q_callI X NCok hN Aw_new (c_X0_nodeFor ho hs0 h5) (rn_V X (cwV 2 X.2.2.2.2.1 (tbG_good _ (tbG_V mw_414 mw_416 mp_1_3 mw_4 mw_417)) rfl rfl rfl hd_X0_nodeFor ⟨by decide, by decide⟩) (hO0 ho) rfl rfl rfl (Nat.le_of_ble_eq_true rfl) dX0_doAsk_85) (fun r6 _ h8 => ?_)
    refine q_lconst X 1 dX0_doAsk_88 rfl ?_
    refine q_iload X dX0_doAsk_89 5 rfl ?_
    refine q_lshl X dX0_doAsk_91 ?_
    refine q_callV X NCok hN Aw_new (c_X0_link ho hx1 hx2 h8) (rn_V X (cwV 4 X.2.2.2.2.1 (tbG_good _ (tbG_V mw_501 mw_503 mp_1_14 mw_4 mw_504)) rfl rfl rfl hd_X0_link ⟨by decide, by decide⟩) (hO0 ho) rfl rfl rfl (Nat.le_of_ble_eq_true rfl) dX0_doAsk_92) (fun r9 _ => ?_)
    refine q_iinc X [(5, .int (oi (x5 + 1))), (6, .int (oi s0)), (0, .ref (ad o)), (1, .int (oi x1)), (2, .int (oi x2)), (3, .long x3)] dX0_doAsk_95 (by decide) 5 rfl rfl (fun h12 => ?_)
    refine q_goto X 18 dX0_doAsk_98 (by decide) ?_
    refine q_sub [(0, .ref (ad o)), (1, .int (oi x1)), (2, .int (oi x2)), (3, .long x3), (5, .int (oi (x5 + 1)))] [2, 3, 4, 5, 0] rfl ?_
    exact hk18 x1 x2 x3 (x5 + 1) r9 hx1 hx2 h12
def f_X0_doAsk_18 (o : Nat) : Nat → Int → Int → Int64 → Int → Mm → Option (Mm)
  | 0, _, _, _, _, _ => none
  | n + 1, x1, x2, x3, x5, σ => (if (σ.1 (o + 9) 3) ≤ x5 then some σ else (if (lShr x3 x5) = 0 then some σ else (if ((lShr x3 x5) &&& 1) = 0 then f_X0_doAsk_61 o (f_X0_doAsk_18 o n) x1 x2 x3 x5 (-1) σ else (f_X0_methodAskedOf o x5 x2 σ).bind (fun r17 => f_X0_doAsk_61 o (f_X0_doAsk_18 o n) x1 x2 x3 x5 r17 σ))))
set_option maxRecDepth 100000 in
set_option maxHeartbeats 4000000 in
theorem t_X0_doAsk_18 {p : Program} {l : Launch} {e : Env} {s : State} {m : MethodId} {args : Array Value} {below : List Frame} {meth : Method} {c : Code} {D : va_G} {ca : Nat → ClassId} {ad : Nat → Nat} {res : Mm} {o : Nat} (X : Cx p s m args c cX0_doAsk 7 RX0 (Cond.code yX0_doAsk cX0_doAsk 7 none :: tbG) D vcl ca) (hN : NC s) (hr : meth.sig.returnType = none) (hlk : meth.locks = false) (ho : o = 15 ∨ o = 29) : ∀ (n : Nat) (x1 : Int) (x2 : Int) (x3 : Int64) (x5 : Int) (σ : Mm), inR x1 → inR x2 → inR x5 → GX0_doAsk p l e s m args below meth c D ca ad res 18 [(0, .ref (ad o)), (1, .int (oi x1)), (2, .int (oi x2)), (3, .long x3), (5, .int (oi x5))] [] σ (f_X0_doAsk_18 o n x1 x2 x3 x5 σ)
  := by
  intro n
  induction n with
  | zero => intro x1 x2 x3 x5 σ hx1 hx2 hx5 h; cases h
  | succ n ih =>
    intro x1 x2 x3 x5 σ hx1 hx2 hx5
    rw [f_X0_doAsk_18]
    refine q_iload X dX0_doAsk_18 4 rfl ?_
    refine q_aload_n X dX0_doAsk_20 0 rfl ?_
    refine fg_X0_57 ho X dX0_doAsk_21 ?_
    refine fg_X0_156 ho X dX0_doAsk_24 (fun h13 => ?_)
    refine q_icmp_ge X hx5 h13 101 dX0_doAsk_27 (by decide) (fun h14 => ?_) (fun h14 => ?_)
    · exact q_vret X hr hlk dX0_doAsk_101
    · refine q_lload_n X dX0_doAsk_30 3 rfl ?_
      refine q_iload X dX0_doAsk_31 4 rfl ?_
      refine q_lshr X dX0_doAsk_33 ?_
      refine q_lconst X 0 dX0_doAsk_34 rfl ?_
      refine q_lcmp_eq X 101 dX0_doAsk_35 dX0_doAsk_36 (by decide) (fun h15 => ?_) (fun h15 => ?_)
      · exact q_vret X hr hlk dX0_doAsk_101
      · refine q_lload_n X dX0_doAsk_39 3 rfl ?_
        refine q_iload X dX0_doAsk_40 4 rfl ?_
        refine q_lshr X dX0_doAsk_42 ?_
        refine q_lconst X 1 dX0_doAsk_43 rfl ?_
        refine q_land X dX0_doAsk_44 ?_
        refine q_lconst X 0 dX0_doAsk_45 rfl ?_
        refine q_lcmp_eq X 60 dX0_doAsk_46 dX0_doAsk_47 (by decide) (fun h16 => ?_) (fun h16 => ?_)
        · refine q_iconst X dX0_doAsk_60 ?_
          refine q_sub [(0, .ref (ad o)), (1, .int (oi x1)), (2, .int (oi x2)), (3, .long x3), (5, .int (oi x5))] [0, 1, 2, 3, 4] rfl ?_
          exact t_X0_doAsk_61 X hN hr hlk ho ih x1 x2 x3 x5 (-1) σ hx1 hx2 hx5 (by decide)
        · refine q_aload_n X dX0_doAsk_50 0 rfl ?_
          refine q_iload X dX0_doAsk_51 4 rfl ?_
          refine q_iload_n X dX0_doAsk_53 2 rfl ?_
          refine q_callIp X NCok hN Aw_new (c_X0_methodAskedOf ho hx5 hx2) (rn_V X (cwV 2 X.2.2.2.2.1 (tbG_good _ (tbG_V mw_485 mw_487 mp_1_12 mw_4 mw_488)) rfl rfl rfl hd_X0_methodAskedOf ⟨by decide, by decide⟩) (hO0 ho) rfl rfl rfl (Nat.le_of_ble_eq_true rfl) dX0_doAsk_54) (fun r17 _ h19 => ?_)
          refine q_goto X 61 dX0_doAsk_57 (by decide) ?_
          refine q_sub [(0, .ref (ad o)), (1, .int (oi x1)), (2, .int (oi x2)), (3, .long x3), (5, .int (oi x5))] [0, 1, 2, 3, 4] rfl ?_
          exact t_X0_doAsk_61 X hN hr hlk ho ih x1 x2 x3 x5 r17 σ hx1 hx2 hx5 h19
def f_X0_doAsk (o : Nat) (x1 : Int) (x2 : Int) (σ : Mm) : Option (Mm) :=
  ck ((0 : Int) ≤ x2 ∧ x2 < ((90 : Nat) : Int)) ((f_X0_setOf o x1 (σ.1 10 (Int.toNat x2)) σ).bind (fun r21 => f_X0_doAsk_18 o 2000 x1 x2 r21 0 σ))
theorem hd_X0_doAsk : yX0_doAsk.cls = RX0 ∧ yX0_doAsk.cls ≠ "java/lang/invoke/MethodHandle" ∧ yX0_doAsk.cls ≠ "java/lang/invoke/VarHandle" ∧ (parseMethodDescriptor yX0_doAsk.desc).map (fun d => d.parameters.length) = some 2 := by decide +kernel
set_option maxRecDepth 100000 in
set_option maxHeartbeats 4000000 in
theorem c_X0_doAsk {l : Launch} {D : va_G} {ca : Nat → ClassId} {ad : Nat → Nat} {o : Nat} {x1 : Int} {x2 : Int} (ho : o = 15 ∨ o = 29) (hx1 : inR x1) (hx2 : inR x2) {σ : Mm} : CtV l D vcl ca ad shC NC yX0_doAsk (Cond.code yX0_doAsk cX0_doAsk 7 none :: tbG) { frames := 3, cells := 0, slots := 0, locals := 81 } [.ref (ad o), .int (oi x1), .int (oi x2)] σ (f_X0_doAsk o x1 x2 σ) := by
  refine ct_V RX0 rfl (by decide) rfl (Nat.le_of_ble_eq_true rfl) (fun p e s m below meth c res X hN hr hlk => ?_)
  show GX0_doAsk p l e s m _ below meth c D ca ad res 0 [(0, .ref (ad o)), (1, .int (oi x1)), (2, .int (oi x2))] [] σ (f_X0_doAsk o x1 x2 σ)
  unfold f_X0_doAsk
  refine q_aload_n X dX0_doAsk_0 0 rfl ?_
  refine q_iload_n X dX0_doAsk_1 1 rfl ?_
  refine q_aload_n X dX0_doAsk_2 0 rfl ?_
  refine fg_X0_50 ho X dX0_doAsk_3 ?_
  refine fg_X0_109 X dX0_doAsk_6 ?_
  refine q_iload_n X dX0_doAsk_9 2 rfl ?_
  refine q_iald X hC10 (by decide) dX0_doAsk_10 (fun h20 => ?_)
  refine q_callLp X NCok hN Aw_new (c_X0_setOf ho hx1 h20) (rn_V X (cwV 2 X.2.2.2.2.1 (tbG_good _ (tbG_V mw_457 mw_458 mw_459 mw_4 mw_460)) rfl rfl rfl hd_X0_setOf ⟨by decide, by decide⟩) (hO0 ho) rfl rfl rfl (Nat.le_of_ble_eq_true rfl) dX0_doAsk_11) (fun r21 _ => ?_)
  refine q_lstore_n X [(3, .long r21), (0, .ref (ad o)), (1, .int (oi x1)), (2, .int (oi x2))] dX0_doAsk_14 (by decide) rfl ?_
  refine q_iconst X dX0_doAsk_15 ?_
  refine q_istore X [(5, .int (oi 0)), (3, .long r21), (0, .ref (ad o)), (1, .int (oi x1)), (2, .int (oi x2))] dX0_doAsk_16 (by decide) rfl ?_
  refine q_sub [(0, .ref (ad o)), (1, .int (oi x1)), (2, .int (oi x2)), (3, .long r21), (5, .int (oi 0))] [2, 3, 4, 1, 0] rfl ?_
  exact t_X0_doAsk_18 X hN hr hlk ho 2000 x1 x2 r21 0 σ hx1 hx2 (by decide)

/-! SiteObjects$Finding.doCall(II)V -/
abbrev GX0_doCall (p : Program) (l : Launch) (e : Env) (s : State) (m : MethodId) (args : Array Value) (below : List Frame) (meth : Method) (c : Code) (D : va_G) (ca : Nat → ClassId) (ad : Nat → Nat) (res : Mm) : Nat → List (Nat × Value) → List Value → Mm → Option (Mm) → Prop := G p l e { frames := 3, cells := 0, slots := 0, locals := 81 } s m args below meth c (MQ below (QcV D vcl ca ad shC s.heap.size res) args s 0 0 (Aw ad shC.length s.heap.size)) 3 D vcl ca ad shC (Aw ad shC.length s.heap.size) res
def f_X0_doCall (o : Nat) (x1 : Int) (x2 : Int) (σ : Mm) : Option (Mm) :=
  ck ((0 : Int) ≤ x2 ∧ x2 < ((90 : Nat) : Int)) ((f_X5_contextOfCalled o x1 x2 σ).bind (fun r2 => (f_X0_nodeFor o (σ.1 11 (Int.toNat x2)) r2 σ).bind (fun r5 => (f_X0_link o x1 x2 r5.1 0 r5.2).bind (fun r8 => some r8))))
theorem hd_X0_doCall : yX0_doCall.cls = RX0 ∧ yX0_doCall.cls ≠ "java/lang/invoke/MethodHandle" ∧ yX0_doCall.cls ≠ "java/lang/invoke/VarHandle" ∧ (parseMethodDescriptor yX0_doCall.desc).map (fun d => d.parameters.length) = some 2 := by decide +kernel
set_option maxRecDepth 100000 in
set_option maxHeartbeats 4000000 in
theorem c_X0_doCall {l : Launch} {D : va_G} {ca : Nat → ClassId} {ad : Nat → Nat} {o : Nat} {x1 : Int} {x2 : Int} (ho : o = 15 ∨ o = 29) (hx1 : inR x1) (hx2 : inR x2) {σ : Mm} : CtV l D vcl ca ad shC NC yX0_doCall (Cond.code yX0_doCall cX0_doCall 3 none :: tbG) { frames := 3, cells := 0, slots := 0, locals := 81 } [.ref (ad o), .int (oi x1), .int (oi x2)] σ (f_X0_doCall o x1 x2 σ) := by
  refine ct_V RX0 rfl (by decide) rfl (Nat.le_of_ble_eq_true rfl) (fun p e s m below meth c res X hN hr hlk => ?_)
  show GX0_doCall p l e s m _ below meth c D ca ad res 0 [(0, .ref (ad o)), (1, .int (oi x1)), (2, .int (oi x2))] [] σ (f_X0_doCall o x1 x2 σ)
  unfold f_X0_doCall
  refine q_aload_n X dX0_doCall_0 0 rfl ?_
  refine q_iload_n X dX0_doCall_1 1 rfl ?_
  refine q_iload_n X dX0_doCall_2 2 rfl ?_
  refine q_aload_n X dX0_doCall_3 0 rfl ?_
  refine q_aload_n X dX0_doCall_4 0 rfl ?_
  refine fg_X0_50 ho X dX0_doCall_5 ?_
  refine fg_X0_112 X dX0_doCall_8 ?_
  refine q_iload_n X dX0_doCall_11 2 rfl ?_
  refine q_iald X hC11 (by decide) dX0_doCall_12 (fun h1 => ?_)
  refine q_aload_n X dX0_doCall_13 0 rfl ?_
  refine fg_X0_57 ho X dX0_doCall_14 ?_
  refine q_iload_n X dX0_doCall_17 1 rfl ?_
  refine q_iload_n X dX0_doCall_18 2 rfl ?_
  refine q_callIp X NCok hN Aw_new (c_X5_contextOfCalled ho hx1 hx2) (rn_V X (cwV 2 X.2.2.2.2.1 (tbG_good _ (tbG_V mw_517 mw_518 mw_519 mw_5 mw_520)) rfl rfl rfl hd_X5_contextOfCalled ⟨by decide, by decide⟩) (hO9 ho) rfl rfl rfl (Nat.le_of_ble_eq_true rfl) dX0_doCall_19) (fun r2 _ h4 => ?_)
  refine q_callI X NCok hN Aw_new (c_X0_nodeFor ho h1 h4) (rn_V X (cwV 2 X.2.2.2.2.1 (tbG_good _ (tbG_V mw_414 mw_416 mp_1_3 mw_4 mw_417)) rfl rfl rfl hd_X0_nodeFor ⟨by decide, by decide⟩) (hO0 ho) rfl rfl rfl (Nat.le_of_ble_eq_true rfl) dX0_doCall_22) (fun r5 _ h7 => ?_)
  refine q_lconst X 0 dX0_doCall_25 rfl ?_
  refine q_callV X NCok hN Aw_new (c_X0_link ho hx1 hx2 h7) (rn_V X (cwV 4 X.2.2.2.2.1 (tbG_good _ (tbG_V mw_501 mw_503 mp_1_14 mw_4 mw_504)) rfl rfl rfl hd_X0_link ⟨by decide, by decide⟩) (hO0 ho) rfl rfl rfl (Nat.le_of_ble_eq_true rfl) dX0_doCall_26) (fun r8 _ => ?_)
  exact q_vret X hr hlk dX0_doCall_29

/-! SiteObjects$Finding.addToGlobal(IJ)V -/
abbrev GX0_addToGlobal (p : Program) (l : Launch) (e : Env) (s : State) (m : MethodId) (args : Array Value) (below : List Frame) (meth : Method) (c : Code) (D : va_G) (ca : Nat → ClassId) (ad : Nat → Nat) (res : Mm) : Nat → List (Nat × Value) → List Value → Mm → Option (Mm) → Prop := G p l e { frames := 0, cells := 0, slots := 0, locals := 0 } s m args below meth c (MQ below (QcV D vcl ca ad shC s.heap.size res) args s 0 0 (Aw ad shC.length s.heap.size)) 4 D vcl ca ad shC (Aw ad shC.length s.heap.size) res
def f_X0_addToGlobal (o : Nat) (x1 : Int) (x2 : Int64) (σ : Mm) : Option (Mm) :=
  ck ((0 : Int) ≤ x1 ∧ x1 < ((4 : Nat) : Int)) ((if (x2 &&& ((σ.2 (o + 3) (Int.toNat x1)) ^^^ (-1))) = 0 then some σ else ck ((0 : Int) ≤ x1 ∧ x1 < ((4 : Nat) : Int)) (ck ((0 : Int) ≤ x1 ∧ x1 < ((4 : Nat) : Int)) ((some (stL σ (o + 3) (Int.toNat x1) ((σ.2 (o + 3) (Int.toNat x1)) ||| x2))).bind (fun σ2 => some (stI σ2 o 7 1))))))
theorem hd_X0_addToGlobal : yX0_addToGlobal.cls = RX0 ∧ yX0_addToGlobal.cls ≠ "java/lang/invoke/MethodHandle" ∧ yX0_addToGlobal.cls ≠ "java/lang/invoke/VarHandle" ∧ (parseMethodDescriptor yX0_addToGlobal.desc).map (fun d => d.parameters.length) = some 2 := by decide +kernel
set_option maxRecDepth 100000 in
set_option maxHeartbeats 4000000 in
theorem c_X0_addToGlobal {l : Launch} {D : va_G} {ca : Nat → ClassId} {ad : Nat → Nat} {o : Nat} {x1 : Int} {x2 : Int64} (ho : o = 15 ∨ o = 29) (hx1 : inR x1) {σ : Mm} : CtV l D vcl ca ad shC NC yX0_addToGlobal (Cond.code yX0_addToGlobal cX0_addToGlobal 4 none :: tbG) { frames := 0, cells := 0, slots := 0, locals := 0 } [.ref (ad o), .int (oi x1), .long x2] σ (f_X0_addToGlobal o x1 x2 σ) := by
  refine ct_V RX0 rfl (by decide) rfl (Nat.le_of_ble_eq_true rfl) (fun p e s m below meth c res X hN hr hlk => ?_)
  show GX0_addToGlobal p l e s m _ below meth c D ca ad res 0 [(0, .ref (ad o)), (1, .int (oi x1)), (2, .long x2)] [] σ (f_X0_addToGlobal o x1 x2 σ)
  unfold f_X0_addToGlobal
  refine q_lload_n X dX0_addToGlobal_0 2 rfl ?_
  refine q_aload_n X dX0_addToGlobal_1 0 rfl ?_
  refine fg_X0_18 ho X dX0_addToGlobal_2 ?_
  refine q_iload_n X dX0_addToGlobal_5 1 rfl ?_
  refine q_lald X (hF3 ho) (by decide) dX0_addToGlobal_6 ?_
  refine q_ldc2 X (-1) dX0_addToGlobal_7 (List.mem_cons_of_mem _ mw_456) ?_
  refine q_lxor X dX0_addToGlobal_10 ?_
  refine q_land X dX0_addToGlobal_11 ?_
  refine q_lconst X 0 dX0_addToGlobal_12 rfl ?_
  refine q_lcmp_eq X 32 dX0_addToGlobal_13 dX0_addToGlobal_14 (by decide) (fun h1 => ?_) (fun h1 => ?_)
  · exact q_vret X hr hlk dX0_addToGlobal_32
  · refine q_aload_n X dX0_addToGlobal_17 0 rfl ?_
    refine fg_X0_18 ho X dX0_addToGlobal_18 ?_
    refine q_iload_n X dX0_addToGlobal_21 1 rfl ?_
    refine q_dup2 X dX0_addToGlobal_22 rfl rfl ?_
    refine q_lald X (hF3 ho) (by decide) dX0_addToGlobal_23 ?_
    refine q_lload_n X dX0_addToGlobal_24 2 rfl ?_
    refine q_lor X dX0_addToGlobal_25 ?_
    refine q_last X (hF3 ho) (by decide) dX0_addToGlobal_26 ?_
    refine q_nm (fun σ2 => ?_)
    refine q_aload_n X dX0_addToGlobal_27 0 rfl ?_
    refine q_iconst X dX0_addToGlobal_28 ?_
    refine fp_X0_28 ho X (Or.inr rfl) dX0_addToGlobal_29 ?_
    exact q_vret X hr hlk dX0_addToGlobal_32

/-! SiteObjects$Finding.doStep(II)V -/
abbrev GX0_doStep (p : Program) (l : Launch) (e : Env) (s : State) (m : MethodId) (args : Array Value) (below : List Frame) (meth : Method) (c : Code) (D : va_G) (ca : Nat → ClassId) (ad : Nat → Nat) (res : Mm) : Nat → List (Nat × Value) → List Value → Mm → Option (Mm) → Prop := G p l e { frames := 4, cells := 0, slots := 0, locals := 107 } s m args below meth c (MQ below (QcV D vcl ca ad shC s.heap.size res) args s 0 0 (Aw ad shC.length s.heap.size)) 6 D vcl ca ad shC (Aw ad shC.length s.heap.size) res
def f_X0_doStep (o : Nat) (x1 : Int) (x2 : Int) (σ : Mm) : Option (Mm) :=
  ck ((0 : Int) ≤ x2 ∧ x2 < ((90 : Nat) : Int)) (ck ((0 : Int) ≤ x2 ∧ x2 < ((90 : Nat) : Int)) (ck ((0 : Int) ≤ x2 ∧ x2 < ((90 : Nat) : Int)) (ck ((0 : Int) ≤ x2 ∧ x2 < ((90 : Nat) : Int)) ((if (σ.1 8 (Int.toNat x2)) = 0 then (f_X0_nameFor o x1 x2 σ).bind (fun r6 => (f_X0_addToVar o x1 (σ.1 9 (Int.toNat x2)) r6.1 r6.2).bind (fun r9 => some r9)) else (if (σ.1 8 (Int.toNat x2)) = 1 then (f_X0_nameFor o x1 x2 σ).bind (fun r13 => (f_X0_addToVar o x1 (σ.1 9 (Int.toNat x2)) r13.1 r13.2).bind (fun r16 => some r16)) else (if (σ.1 8 (Int.toNat x2)) = 2 then (f_X0_setOf o x1 (σ.1 10 (Int.toNat x2)) σ).bind (fun r20 => (f_X0_addToVar o x1 (σ.1 9 (Int.toNat x2)) r20 σ).bind (fun r23 => some r23)) else (if (σ.1 8 (Int.toNat x2)) = 3 then some σ else (if (σ.1 8 (Int.toNat x2)) = 4 then (f_X0_setOf o x1 (σ.1 10 (Int.toNat x2)) σ).bind (fun r28 => (f_X0_insideAny o (r28 &&& ((σ.2 o 6) ^^^ (-1))) (σ.1 11 (Int.toNat x2)) σ).bind (fun r31 => (f_X0_addToVar o x1 (σ.1 9 (Int.toNat x2)) r31 σ).bind (fun r34 => some r34))) else (if (σ.1 8 (Int.toNat x2)) = 5 then (f_X0_setOf o x1 (σ.1 9 (Int.toNat x2)) σ).bind (fun r38 => (f_X0_setOf o x1 (σ.1 10 (Int.toNat x2)) σ).bind (fun r41 => (f_X0_storeInAll o (r38 &&& ((σ.2 o 6) ^^^ (-1))) (σ.1 11 (Int.toNat x2)) r41 σ).bind (fun r44 => some r44))) else (if (σ.1 8 (Int.toNat x2)) = 6 then (f_X0_setOf o x1 (σ.1 10 (Int.toNat x2)) σ).bind (fun r48 => (f_X0_insideAny o (r48 &&& (σ.2 o 6)) 4 σ).bind (fun r51 => (f_X0_addToVar o x1 (σ.1 9 (Int.toNat x2)) r51 σ).bind (fun r54 => some r54))) else (if (σ.1 8 (Int.toNat x2)) = 7 then (f_X0_setOf o x1 (σ.1 9 (Int.toNat x2)) σ).bind (fun r58 => (f_X0_setOf o x1 (σ.1 10 (Int.toNat x2)) σ).bind (fun r61 => (f_X0_layInAll o (r58 &&& (σ.2 o 6)) r61 σ).bind (fun r64 => some r64))) else (if (σ.1 8 (Int.toNat x2)) = 8 then (f_X0_setOf o x1 (σ.1 10 (Int.toNat x2)) σ).bind (fun r68 => ck ((0 : Int) ≤ (σ.1 11 (Int.toNat x2)) ∧ (σ.1 11 (Int.toNat x2)) < ((10 : Nat) : Int)) ((f_X0_addToVar o x1 (σ.1 9 (Int.toNat x2)) (r68 &&& (σ.2 (o + 4) (Int.toNat (σ.1 11 (Int.toNat x2))))) σ).bind (fun r71 => some r71))) else (if (σ.1 8 (Int.toNat x2)) = 9 then (f_X0_doAsk o x1 x2 σ).bind (fun r75 => some r75) else (if (σ.1 8 (Int.toNat x2)) = 10 then (f_X0_doCall o x1 x2 σ).bind (fun r79 => some r79) else (if (σ.1 8 (Int.toNat x2)) = 11 then (f_X0_setOf o x1 (σ.1 9 (Int.toNat x2)) σ).bind (fun r83 => (f_X0_addToVar o x1 6 r83 σ).bind (fun r86 => some r86)) else (if (σ.1 8 (Int.toNat x2)) = 12 then some σ else (if (σ.1 8 (Int.toNat x2)) = 13 then (f_X0_setOf o x1 (σ.1 9 (Int.toNat x2)) σ).bind (fun r91 => (f_X0_addToGlobal o (σ.1 11 (Int.toNat x2)) r91 σ).bind (fun r94 => some r94)) else (if (σ.1 8 (Int.toNat x2)) = 14 then ck ((0 : Int) ≤ (σ.1 11 (Int.toNat x2)) ∧ (σ.1 11 (Int.toNat x2)) < ((4 : Nat) : Int)) ((f_X0_addToVar o x1 (σ.1 9 (Int.toNat x2)) (σ.2 (o + 3) (Int.toNat (σ.1 11 (Int.toNat x2)))) σ).bind (fun r98 => some r98)) else (if (σ.1 8 (Int.toNat x2)) = 15 then (f_X0_setOf o x1 (σ.1 9 (Int.toNat x2)) σ).bind (fun r102 => (f_X0_raiseAt o x1 x2 r102 σ).bind (fun r105 => some r105)) else some σ))))))))))))))))))))
theorem hd_X0_doStep : yX0_doStep.cls = RX0 ∧ yX0_doStep.cls ≠ "java/lang/invoke/MethodHandle" ∧ yX0_doStep.cls ≠ "java/lang/invoke/VarHandle" ∧ (parseMethodDescriptor yX0_doStep.desc).map (fun d => d.parameters.length) = some 2 := by decide +kernel
set_option maxRecDepth 100000 in
set_option maxHeartbeats 4000000 in
theorem c_X0_doStep {l : Launch} {D : va_G} {ca : Nat → ClassId} {ad : Nat → Nat} {o : Nat} {x1 : Int} {x2 : Int} (ho : o = 15 ∨ o = 29) (hx1 : inR x1) (hx2 : inR x2) {σ : Mm} : CtV l D vcl ca ad shC NC yX0_doStep (Cond.code yX0_doStep cX0_doStep 6 none :: tbG) { frames := 4, cells := 0, slots := 0, locals := 107 } [.ref (ad o), .int (oi x1), .int (oi x2)] σ (f_X0_doStep o x1 x2 σ) := by
  refine ct_V RX0 rfl (by decide) rfl (Nat.le_of_ble_eq_true rfl) (fun p e s m below meth c res X hN hr hlk => ?_)
  show GX0_doStep p l e s m _ below meth c D ca ad res 0 [(0, .ref (ad o)), (1, .int (oi x1)), (2, .int (oi x2))] [] σ (f_X0_doStep o x1 x2 σ)
  unfold f_X0_doStep
  refine q_aload_n X dX0_doStep_0 0 rfl ?_
  refine fg_X0_50 ho X dX0_doStep_1 ?_
  refine fg_X0_106 X dX0_doStep_4 ?_
  refine q_iload_n X dX0_doStep_7 2 rfl ?_
  refine q_iald X hC9 (by decide) dX0_doStep_8 (fun h1 => ?_)
  refine q_istore_n X [(3, .int (oi (σ.1 9 (Int.toNat x2)))), (0, .ref (ad o)), (1, .int (oi x1)), (2, .int (oi x2))] dX0_doStep_9 (by decide) rfl ?_
  refine q_aload_n X dX0_doStep_10 1 rfl ?_
  refine fg_X0_50 ho X dX0_doStep_11 ?_
  refine fg_X0_109 X dX0_doStep_14 ?_
  refine q_iload_n X dX0_doStep_17 3 rfl ?_
  refine q_iald X hC10 (by decide) dX0_doStep_18 (fun h2 => ?_)
  refine q_istore X [(4, .int (oi (σ.1 10 (Int.toNat x2)))), (3, .int (oi (σ.1 9 (Int.toNat x2)))), (0, .ref (ad o)), (1, .int (oi x1)), (2, .int (oi x2))] dX0_doStep_19 (by decide) rfl ?_
  refine q_aload_n X dX0_doStep_21 2 rfl ?_
  refine fg_X0_50 ho X dX0_doStep_22 ?_
  refine fg_X0_112 X dX0_doStep_25 ?_
  refine q_iload_n X dX0_doStep_28 4 rfl ?_
  refine q_iald X hC11 (by decide) dX0_doStep_29 (fun h3 => ?_)
  refine q_istore X [(5, .int (oi (σ.1 11 (Int.toNat x2)))), (4, .int (oi (σ.1 10 (Int.toNat x2)))), (3, .int (oi (σ.1 9 (Int.toNat x2)))), (0, .ref (ad o)), (1, .int (oi x1)), (2, .int (oi x2))] dX0_doStep_30 (by decide) rfl ?_
  refine q_aload_n X dX0_doStep_32 3 rfl ?_
  refine fg_X0_50 ho X dX0_doStep_33 ?_
  refine fg_X0_115 X dX0_doStep_36 ?_
  refine q_iload_n X dX0_doStep_39 5 rfl ?_
  refine q_iald X hC8 (by decide) dX0_doStep_40 (fun h4 => ?_)
  refine q_ite (fun h5 => ?_) (fun h5 => ?_)
  · refine q_tswIn X h4 0 79 120 h5 dX0_doStep_41 (by decide) rfl (by decide) ?_
    refine q_aload_n X dX0_doStep_120 3 rfl ?_
    refine q_iload_n X dX0_doStep_121 4 rfl ?_
    refine q_iload_n X dX0_doStep_122 2 rfl ?_
    refine q_aload_n X dX0_doStep_123 3 rfl ?_
    refine q_iload_n X dX0_doStep_124 4 rfl ?_
    refine q_iload_n X dX0_doStep_125 5 rfl ?_
    refine q_callL X NCok hN Aw_new (c_X0_nameFor ho hx1 hx2) (rn_V X (cwV 2 X.2.2.2.2.1 (tbG_good _ (tbG_V mw_435 mw_437 mp_1_5 mw_4 mw_438)) rfl rfl rfl hd_X0_nameFor ⟨by decide, by decide⟩) (hO0 ho) rfl rfl rfl (Nat.le_of_ble_eq_true rfl) dX0_doStep_126) (fun r6 _ => ?_)
    refine q_callV X NCok hN Aw_new (c_X0_addToVar ho hx1 h1) (rn_V X (cwV 3 X.2.2.2.2.1 (tbG_good _ (tbG_V mw_452 mw_454 mp_1_6 mw_4 mw_455)) rfl rfl rfl hd_X0_addToVar ⟨by decide, by decide⟩) (hO0 ho) rfl rfl rfl (Nat.le_of_ble_eq_true rfl) dX0_doStep_129) (fun r9 _ => ?_)
    refine q_goto X 368 dX0_doStep_132 (by decide) ?_
    exact q_vret X hr hlk dX0_doStep_368
  · refine q_ite (fun h12 => ?_) (fun h12 => ?_)
    · refine q_tswIn X h4 1 79 120 h12 dX0_doStep_41 (by decide) rfl (by decide) ?_
      refine q_aload_n X dX0_doStep_120 3 rfl ?_
      refine q_iload_n X dX0_doStep_121 4 rfl ?_
      refine q_iload_n X dX0_doStep_122 2 rfl ?_
      refine q_aload_n X dX0_doStep_123 3 rfl ?_
      refine q_iload_n X dX0_doStep_124 4 rfl ?_
      refine q_iload_n X dX0_doStep_125 5 rfl ?_
      refine q_callL X NCok hN Aw_new (c_X0_nameFor ho hx1 hx2) (rn_V X (cwV 2 X.2.2.2.2.1 (tbG_good _ (tbG_V mw_435 mw_437 mp_1_5 mw_4 mw_438)) rfl rfl rfl hd_X0_nameFor ⟨by decide, by decide⟩) (hO0 ho) rfl rfl rfl (Nat.le_of_ble_eq_true rfl) dX0_doStep_126) (fun r13 _ => ?_)
      refine q_callV X NCok hN Aw_new (c_X0_addToVar ho hx1 h1) (rn_V X (cwV 3 X.2.2.2.2.1 (tbG_good _ (tbG_V mw_452 mw_454 mp_1_6 mw_4 mw_455)) rfl rfl rfl hd_X0_addToVar ⟨by decide, by decide⟩) (hO0 ho) rfl rfl rfl (Nat.le_of_ble_eq_true rfl) dX0_doStep_129) (fun r16 _ => ?_)
      refine q_goto X 368 dX0_doStep_132 (by decide) ?_
      exact q_vret X hr hlk dX0_doStep_368
    · refine q_ite (fun h19 => ?_) (fun h19 => ?_)
      · refine q_tswIn X h4 2 94 135 h19 dX0_doStep_41 (by decide) rfl (by decide) ?_
        refine q_aload_n X dX0_doStep_135 3 rfl ?_
        refine q_iload_n X dX0_doStep_136 4 rfl ?_
        refine q_iload_n X dX0_doStep_137 2 rfl ?_
        refine q_aload_n X dX0_doStep_138 3 rfl ?_
        refine q_iload_n X dX0_doStep_139 4 rfl ?_
        refine q_iload X dX0_doStep_140 1 rfl ?_
        refine q_callLp X NCok hN Aw_new (c_X0_setOf ho hx1 h2) (rn_V X (cwV 2 X.2.2.2.2.1 (tbG_good _ (tbG_V mw_457 mw_458 mw_459 mw_4 mw_460)) rfl rfl rfl hd_X0_setOf ⟨by decide, by decide⟩) (hO0 ho) rfl rfl rfl (Nat.le_of_ble_eq_true rfl) dX0_doStep_142) (fun r20 _ => ?_)
        refine q_callV X NCok hN Aw_new (c_X0_addToVar ho hx1 h1) (rn_V X (cwV 3 X.2.2.2.2.1 (tbG_good _ (tbG_V mw_452 mw_454 mp_1_6 mw_4 mw_455)) rfl rfl rfl hd_X0_addToVar ⟨by decide, by decide⟩) (hO0 ho) rfl rfl rfl (Nat.le_of_ble_eq_true rfl) dX0_doStep_145) (fun r23 _ => ?_)
        refine q_goto X 368 dX0_doStep_148 (by decide) ?_
        exact q_vret X hr hlk dX0_doStep_368
      · refine q_ite (fun h26 => ?_) (fun h26 => ?_)
        · refine q_tswIn X h4 3 327 368 h26 dX0_doStep_41 (by decide) rfl (by decide) ?_
          exact q_vret X hr hlk dX0_doStep_368
        · refine q_ite (fun h27 => ?_) (fun h27 => ?_)
          · refine q_tswIn X h4 4 110 151 h27 dX0_doStep_41 (by decide) rfl (by decide) ?_
            refine q_aload_n X dX0_doStep_151 3 rfl ?_
            refine q_iload_n X dX0_doStep_152 4 rfl ?_
            refine q_iload_n X dX0_doStep_153 2 rfl ?_
            refine q_aload_n X dX0_doStep_154 3 rfl ?_
            refine q_aload_n X dX0_doStep_155 3 rfl ?_
            refine q_iload_n X dX0_doStep_156 4 rfl ?_
            refine q_iload X dX0_doStep_157 1 rfl ?_
            refine q_callLp X NCok hN Aw_new (c_X0_setOf ho hx1 h2) (rn_V X (cwV 2 X.2.2.2.2.1 (tbG_good _ (tbG_V mw_457 mw_458 mw_459 mw_4 mw_460)) rfl rfl rfl hd_X0_setOf ⟨by decide, by decide⟩) (hO0 ho) rfl rfl rfl (Nat.le_of_ble_eq_true rfl) dX0_doStep_159) (fun r28 _ => ?_)
            refine q_aload_n X dX0_doStep_162 3 rfl ?_
            refine fg_X0_24 ho X dX0_doStep_163 ?_
            refine q_ldc2 X (-1) dX0_doStep_166 (List.mem_cons_of_mem _ mw_456) ?_
            refine q_lxor X dX0_doStep_169 ?_
            refine q_land X dX0_doStep_170 ?_
            refine q_iload X dX0_doStep_171 0 rfl ?_
            refine q_callLp X NCok hN Aw_new (c_X0_insideAny ho h3) (rn_V X (cwV 2 X.2.2.2.2.1 (tbG_good _ (tbG_V mw_461 mw_463 mp_1_7 mw_4 mw_464)) rfl rfl rfl hd_X0_insideAny ⟨by decide, by decide⟩) (hO0 ho) rfl rfl rfl (Nat.le_of_ble_eq_true rfl) dX0_doStep_173) (fun r31 _ => ?_)
            refine q_callV X NCok hN Aw_new (c_X0_addToVar ho hx1 h1) (rn_V X (cwV 3 X.2.2.2.2.1 (tbG_good _ (tbG_V mw_452 mw_454 mp_1_6 mw_4 mw_455)) rfl rfl rfl hd_X0_addToVar ⟨by decide, by decide⟩) (hO0 ho) rfl rfl rfl (Nat.le_of_ble_eq_true rfl) dX0_doStep_176) (fun r34 _ => ?_)
            refine q_goto X 368 dX0_doStep_179 (by decide) ?_
            exact q_vret X hr hlk dX0_doStep_368
          · refine q_ite (fun h37 => ?_) (fun h37 => ?_)
            · refine q_tswIn X h4 5 141 182 h37 dX0_doStep_41 (by decide) rfl (by decide) ?_
              refine q_aload_n X dX0_doStep_182 3 rfl ?_
              refine q_aload_n X dX0_doStep_183 3 rfl ?_
              refine q_iload_n X dX0_doStep_184 4 rfl ?_
              refine q_iload_n X dX0_doStep_185 2 rfl ?_
              refine q_callLp X NCok hN Aw_new (c_X0_setOf ho hx1 h1) (rn_V X (cwV 2 X.2.2.2.2.1 (tbG_good _ (tbG_V mw_457 mw_458 mw_459 mw_4 mw_460)) rfl rfl rfl hd_X0_setOf ⟨by decide, by decide⟩) (hO0 ho) rfl rfl rfl (Nat.le_of_ble_eq_true rfl) dX0_doStep_186) (fun r38 _ => ?_)
              refine q_aload_n X dX0_doStep_189 3 rfl ?_
              refine fg_X0_24 ho X dX0_doStep_190 ?_
              refine q_ldc2 X (-1) dX0_doStep_193 (List.mem_cons_of_mem _ mw_456) ?_
              refine q_lxor X dX0_doStep_196 ?_
              refine q_land X dX0_doStep_197 ?_
              refine q_iload X dX0_doStep_198 0 rfl ?_
              refine q_aload_n X dX0_doStep_200 3 rfl ?_
              refine q_iload_n X dX0_doStep_201 4 rfl ?_
              refine q_iload X dX0_doStep_202 1 rfl ?_
              refine q_callLp X NCok hN Aw_new (c_X0_setOf ho hx1 h2) (rn_V X (cwV 2 X.2.2.2.2.1 (tbG_good _ (tbG_V mw_457 mw_458 mw_459 mw_4 mw_460)) rfl rfl rfl hd_X0_setOf ⟨by decide, by decide⟩) (hO0 ho) rfl rfl rfl (Nat.le_of_ble_eq_true rfl) dX0_doStep_204) (fun r41 _ => ?_)
              refine q_callV X NCok hN Aw_new (c_X0_storeInAll ho h3) (rn_V X (cwV 3 X.2.2.2.2.1 (tbG_good _ (tbG_V mw_469 mw_471 mp_1_8 mw_4 mw_472)) rfl rfl rfl hd_X0_storeInAll ⟨by decide, by decide⟩) (hO0 ho) rfl rfl rfl (Nat.le_of_ble_eq_true rfl) dX0_doStep_207) (fun r44 _ => ?_)
              refine q_goto X 368 dX0_doStep_210 (by decide) ?_
              exact q_vret X hr hlk dX0_doStep_368
            · refine q_ite (fun h47 => ?_) (fun h47 => ?_)
              · refine q_tswIn X h4 6 172 213 h47 dX0_doStep_41 (by decide) rfl (by decide) ?_
                refine q_aload_n X dX0_doStep_213 3 rfl ?_
                refine q_iload_n X dX0_doStep_214 4 rfl ?_
                refine q_iload_n X dX0_doStep_215 2 rfl ?_
                refine q_aload_n X dX0_doStep_216 3 rfl ?_
                refine q_aload_n X dX0_doStep_217 3 rfl ?_
                refine q_iload_n X dX0_doStep_218 4 rfl ?_
                refine q_iload X dX0_doStep_219 1 rfl ?_
                refine q_callLp X NCok hN Aw_new (c_X0_setOf ho hx1 h2) (rn_V X (cwV 2 X.2.2.2.2.1 (tbG_good _ (tbG_V mw_457 mw_458 mw_459 mw_4 mw_460)) rfl rfl rfl hd_X0_setOf ⟨by decide, by decide⟩) (hO0 ho) rfl rfl rfl (Nat.le_of_ble_eq_true rfl) dX0_doStep_221) (fun r48 _ => ?_)
                refine q_aload_n X dX0_doStep_224 3 rfl ?_
                refine fg_X0_24 ho X dX0_doStep_225 ?_
                refine q_land X dX0_doStep_228 ?_
                refine q_iconst X dX0_doStep_229 ?_
                refine q_callLp X NCok hN Aw_new (c_X0_insideAny ho (by decide)) (rn_V X (cwV 2 X.2.2.2.2.1 (tbG_good _ (tbG_V mw_461 mw_463 mp_1_7 mw_4 mw_464)) rfl rfl rfl hd_X0_insideAny ⟨by decide, by decide⟩) (hO0 ho) rfl rfl rfl (Nat.le_of_ble_eq_true rfl) dX0_doStep_230) (fun r51 _ => ?_)
                refine q_callV X NCok hN Aw_new (c_X0_addToVar ho hx1 h1) (rn_V X (cwV 3 X.2.2.2.2.1 (tbG_good _ (tbG_V mw_452 mw_454 mp_1_6 mw_4 mw_455)) rfl rfl rfl hd_X0_addToVar ⟨by decide, by decide⟩) (hO0 ho) rfl rfl rfl (Nat.le_of_ble_eq_true rfl) dX0_doStep_233) (fun r54 _ => ?_)
                refine q_goto X 368 dX0_doStep_236 (by decide) ?_
                exact q_vret X hr hlk dX0_doStep_368
              · refine q_ite (fun h57 => ?_) (fun h57 => ?_)
                · refine q_tswIn X h4 7 198 239 h57 dX0_doStep_41 (by decide) rfl (by decide) ?_
                  refine q_aload_n X dX0_doStep_239 3 rfl ?_
                  refine q_aload_n X dX0_doStep_240 3 rfl ?_
                  refine q_iload_n X dX0_doStep_241 4 rfl ?_
                  refine q_iload_n X dX0_doStep_242 2 rfl ?_
                  refine q_callLp X NCok hN Aw_new (c_X0_setOf ho hx1 h1) (rn_V X (cwV 2 X.2.2.2.2.1 (tbG_good _ (tbG_V mw_457 mw_458 mw_459 mw_4 mw_460)) rfl rfl rfl hd_X0_setOf ⟨by decide, by decide⟩) (hO0 ho) rfl rfl rfl (Nat.le_of_ble_eq_true rfl) dX0_doStep_243) (fun r58 _ => ?_)
                  refine q_aload_n X dX0_doStep_246 3 rfl ?_
                  refine fg_X0_24 ho X dX0_doStep_247 ?_
                  refine q_land X dX0_doStep_250 ?_
                  refine q_aload_n X dX0_doStep_251 3 rfl ?_
                  refine q_iload_n X dX0_doStep_252 4 rfl ?_
                  refine q_iload X dX0_doStep_253 1 rfl ?_
                  refine q_callLp X NCok hN Aw_new (c_X0_setOf ho hx1 h2) (rn_V X (cwV 2 X.2.2.2.2.1 (tbG_good _ (tbG_V mw_457 mw_458 mw_459 mw_4 mw_460)) rfl rfl rfl hd_X0_setOf ⟨by decide, by decide⟩) (hO0 ho) rfl rfl rfl (Nat.le_of_ble_eq_true rfl) dX0_doStep_255) (fun r61 _ => ?_)
                  refine q_callV X NCok hN Aw_new (c_X0_layInAll ho) (rn_V X (cwV 2 X.2.2.2.2.1 (tbG_good _ (tbG_V mw_477 mw_479 mp_1_10 mw_4 mw_480)) rfl rfl rfl hd_X0_layInAll ⟨by decide, by decide⟩) (hO0 ho) rfl rfl rfl (Nat.le_of_ble_eq_true rfl) dX0_doStep_258) (fun r64 _ => ?_)
                  refine q_goto X 368 dX0_doStep_261 (by decide) ?_
                  exact q_vret X hr hlk dX0_doStep_368
                · refine q_ite (fun h67 => ?_) (fun h67 => ?_)
                  · refine q_tswIn X h4 8 223 264 h67 dX0_doStep_41 (by decide) rfl (by decide) ?_
                    refine q_aload_n X dX0_doStep_264 3 rfl ?_
                    refine q_iload_n X dX0_doStep_265 4 rfl ?_
                    refine q_iload_n X dX0_doStep_266 2 rfl ?_
                    refine q_aload_n X dX0_doStep_267 3 rfl ?_
                    refine q_iload_n X dX0_doStep_268 4 rfl ?_
                    refine q_iload X dX0_doStep_269 1 rfl ?_
                    refine q_callLp X NCok hN Aw_new (c_X0_setOf ho hx1 h2) (rn_V X (cwV 2 X.2.2.2.2.1 (tbG_good _ (tbG_V mw_457 mw_458 mw_459 mw_4 mw_460)) rfl rfl rfl hd_X0_setOf ⟨by decide, by decide⟩) (hO0 ho) rfl rfl rfl (Nat.le_of_ble_eq_true rfl) dX0_doStep_271) (fun r68 _ => ?_)
                    refine q_aload_n X dX0_doStep_274 3 rfl ?_
                    refine fg_X0_21 ho X dX0_doStep_275 ?_
                    refine q_iload X dX0_doStep_278 0 rfl ?_
                    refine q_lald X (hF4 ho) (by decide) dX0_doStep_280 ?_
                    refine q_land X dX0_doStep_281 ?_
                    refine q_callV X NCok hN Aw_new (c_X0_addToVar ho hx1 h1) (rn_V X (cwV 3 X.2.2.2.2.1 (tbG_good _ (tbG_V mw_452 mw_454 mp_1_6 mw_4 mw_455)) rfl rfl rfl hd_X0_addToVar ⟨by decide, by decide⟩) (hO0 ho) rfl rfl rfl (Nat.le_of_ble_eq_true rfl) dX0_doStep_282) (fun r71 _ => ?_)
                    refine q_goto X 368 dX0_doStep_285 (by decide) ?_
                    exact q_vret X hr hlk dX0_doStep_368
                  · refine q_ite (fun h74 => ?_) (fun h74 => ?_)
                    · refine q_tswIn X h4 9 247 288 h74 dX0_doStep_41 (by decide) rfl (by decide) ?_
                      refine q_aload_n X dX0_doStep_288 3 rfl ?_
                      refine q_iload_n X dX0_doStep_289 4 rfl ?_
                      refine q_iload_n X dX0_doStep_290 5 rfl ?_
                      refine q_callV X NCok hN Aw_new (c_X0_doAsk ho hx1 hx2) (rn_V X (cwV 2 X.2.2.2.2.1 (tbG_good _ (tbG_V mw_481 mw_483 mp_1_11 mw_4 mw_484)) rfl rfl rfl hd_X0_doAsk ⟨by decide, by decide⟩) (hO0 ho) rfl rfl rfl (Nat.le_of_ble_eq_true rfl) dX0_doStep_291) (fun r75 _ => ?_)
                      refine q_goto X 368 dX0_doStep_294 (by decide) ?_
                      exact q_vret X hr hlk dX0_doStep_368
                    · refine q_ite (fun h78 => ?_) (fun h78 => ?_)
                      · refine q_tswIn X h4 10 256 297 h78 dX0_doStep_41 (by decide) rfl (by decide) ?_
                        refine q_aload_n X dX0_doStep_297 3 rfl ?_
                        refine q_iload_n X dX0_doStep_298 4 rfl ?_
                        refine q_iload_n X dX0_doStep_299 5 rfl ?_
                        refine q_callV X NCok hN Aw_new (c_X0_doCall ho hx1 hx2) (rn_V X (cwV 2 X.2.2.2.2.1 (tbG_good _ (tbG_V mw_513 mw_515 mp_2_0 mw_4 mw_516)) rfl rfl rfl hd_X0_doCall ⟨by decide, by decide⟩) (hO0 ho) rfl rfl rfl (Nat.le_of_ble_eq_true rfl) dX0_doStep_300) (fun r79 _ => ?_)
                        refine q_goto X 368 dX0_doStep_303 (by decide) ?_
                        exact q_vret X hr hlk dX0_doStep_368
                      · refine q_ite (fun h82 => ?_) (fun h82 => ?_)
                        · refine q_tswIn X h4 11 265 306 h82 dX0_doStep_41 (by decide) rfl (by decide) ?_
                          refine q_aload_n X dX0_doStep_306 3 rfl ?_
                          refine q_iload_n X dX0_doStep_307 4 rfl ?_
                          refine q_bipush X dX0_doStep_308 (by decide) ?_
                          refine q_aload_n X dX0_doStep_310 3 rfl ?_
                          refine q_iload_n X dX0_doStep_311 4 rfl ?_
                          refine q_iload_n X dX0_doStep_312 2 rfl ?_
                          refine q_callLp X NCok hN Aw_new (c_X0_setOf ho hx1 h1) (rn_V X (cwV 2 X.2.2.2.2.1 (tbG_good _ (tbG_V mw_457 mw_458 mw_459 mw_4 mw_460)) rfl rfl rfl hd_X0_setOf ⟨by decide, by decide⟩) (hO0 ho) rfl rfl rfl (Nat.le_of_ble_eq_true rfl) dX0_doStep_313) (fun r83 _ => ?_)
                          refine q_callV X NCok hN Aw_new (c_X0_addToVar ho hx1 (by decide)) (rn_V X (cwV 3 X.2.2.2.2.1 (tbG_good _ (tbG_V mw_452 mw_454 mp_1_6 mw_4 mw_455)) rfl rfl rfl hd_X0_addToVar ⟨by decide, by decide⟩) (hO0 ho) rfl rfl rfl (Nat.le_of_ble_eq_true rfl) dX0_doStep_316) (fun r86 _ => ?_)
                          refine q_goto X 368 dX0_doStep_319 (by decide) ?_
                          exact q_vret X hr hlk dX0_doStep_368
                        · refine q_ite (fun h89 => ?_) (fun h89 => ?_)
                          · refine q_tswIn X h4 12 327 368 h89 dX0_doStep_41 (by decide) rfl (by decide) ?_
                            exact q_vret X hr hlk dX0_doStep_368
                          · refine q_ite (fun h90 => ?_) (fun h90 => ?_)
                            · refine q_tswIn X h4 13 281 322 h90 dX0_doStep_41 (by decide) rfl (by decide) ?_
                              refine q_aload_n X dX0_doStep_322 3 rfl ?_
                              refine q_iload X dX0_doStep_323 0 rfl ?_
                              refine q_aload_n X dX0_doStep_325 3 rfl ?_
                              refine q_iload_n X dX0_doStep_326 4 rfl ?_
                              refine q_iload_n X dX0_doStep_327 2 rfl ?_
                              refine q_callLp X NCok hN Aw_new (c_X0_setOf ho hx1 h1) (rn_V X (cwV 2 X.2.2.2.2.1 (tbG_good _ (tbG_V mw_457 mw_458 mw_459 mw_4 mw_460)) rfl rfl rfl hd_X0_setOf ⟨by decide, by decide⟩) (hO0 ho) rfl rfl rfl (Nat.le_of_ble_eq_true rfl) dX0_doStep_328) (fun r91 _ => ?_)
                              refine q_callV X NCok hN Aw_new (c_X0_addToGlobal ho h3) (rn_V X (cwV 2 X.2.2.2.2.1 (tbG_good _ (tbG_V mw_521 mw_523 mp_2_1 mw_4 mw_524)) rfl rfl rfl hd_X0_addToGlobal ⟨by decide, by decide⟩) (hO0 ho) rfl rfl rfl (Nat.le_of_ble_eq_true rfl) dX0_doStep_331) (fun r94 _ => ?_)
                              refine q_goto X 368 dX0_doStep_334 (by decide) ?_
                              exact q_vret X hr hlk dX0_doStep_368
                            · refine q_ite (fun h97 => ?_) (fun h97 => ?_)
                              · refine q_tswIn X h4 14 296 337 h97 dX0_doStep_41 (by decide) rfl (by decide) ?_
                                refine q_aload_n X dX0_doStep_337 3 rfl ?_
                                refine q_iload_n X dX0_doStep_338 4 rfl ?_
                                refine q_iload_n X dX0_doStep_339 2 rfl ?_
                                refine q_aload_n X dX0_doStep_340 3 rfl ?_
                                refine fg_X0_18 ho X dX0_doStep_341 ?_
                                refine q_iload X dX0_doStep_344 0 rfl ?_
                                refine q_lald X (hF3 ho) (by decide) dX0_doStep_346 ?_
                                refine q_callV X NCok hN Aw_new (c_X0_addToVar ho hx1 h1) (rn_V X (cwV 3 X.2.2.2.2.1 (tbG_good _ (tbG_V mw_452 mw_454 mp_1_6 mw_4 mw_455)) rfl rfl rfl hd_X0_addToVar ⟨by decide, by decide⟩) (hO0 ho) rfl rfl rfl (Nat.le_of_ble_eq_true rfl) dX0_doStep_347) (fun r98 _ => ?_)
                                refine q_goto X 368 dX0_doStep_350 (by decide) ?_
                                exact q_vret X hr hlk dX0_doStep_368
                              · refine q_ite (fun h101 => ?_) (fun h101 => ?_)
                                · refine q_tswIn X h4 15 312 353 h101 dX0_doStep_41 (by decide) rfl (by decide) ?_
                                  refine q_aload_n X dX0_doStep_353 3 rfl ?_
                                  refine q_iload_n X dX0_doStep_354 4 rfl ?_
                                  refine q_iload_n X dX0_doStep_355 5 rfl ?_
                                  refine q_aload_n X dX0_doStep_356 3 rfl ?_
                                  refine q_iload_n X dX0_doStep_357 4 rfl ?_
                                  refine q_iload_n X dX0_doStep_358 2 rfl ?_
                                  refine q_callLp X NCok hN Aw_new (c_X0_setOf ho hx1 h1) (rn_V X (cwV 2 X.2.2.2.2.1 (tbG_good _ (tbG_V mw_457 mw_458 mw_459 mw_4 mw_460)) rfl rfl rfl hd_X0_setOf ⟨by decide, by decide⟩) (hO0 ho) rfl rfl rfl (Nat.le_of_ble_eq_true rfl) dX0_doStep_359) (fun r102 _ => ?_)
                                  refine q_callV X NCok hN Aw_new (c_X0_raiseAt ho hx1 hx2) (rn_V X (cwV 3 X.2.2.2.2.1 (tbG_good _ (tbG_V mw_505 mw_507 mp_1_15 mw_4 mw_508)) rfl rfl rfl hd_X0_raiseAt ⟨by decide, by decide⟩) (hO0 ho) rfl rfl rfl (Nat.le_of_ble_eq_true rfl) dX0_doStep_362) (fun r105 _ => ?_)
                                  refine q_goto X 368 dX0_doStep_365 (by decide) ?_
                                  exact q_vret X hr hlk dX0_doStep_368
                                · refine q_tswOut X h4 368 (by omega) dX0_doStep_41 (by decide) ?_
                                  exact q_vret X hr hlk dX0_doStep_368

/-! SiteObjects$Finding.attempt(III)V -/
abbrev GX0_attempt (p : Program) (l : Launch) (e : Env) (s : State) (m : MethodId) (args : Array Value) (below : List Frame) (meth : Method) (c : Code) (D : va_G) (ca : Nat → ClassId) (ad : Nat → Nat) (res : Mm) : Nat → List (Nat × Value) → List Value → Mm → Option (Mm) → Prop := G p l e { frames := 5, cells := 0, slots := 0, locals := 132 } s m args below meth c (MQ below (QcV D vcl ca ad shC s.heap.size res) args s 0 0 (Aw ad shC.length s.heap.size)) 7 D vcl ca ad shC (Aw ad shC.length s.heap.size) res
def f_X0_attempt_118 (o : Nat) (k91 : Int → Mm → Option (Mm)) : Nat → Int → Int → Int → Mm → Option (Mm)
  | 0, _, _, _, _ => none
  | n + 1, x4, x5, x6, σ => ck ((0 : Int) ≤ x5 ∧ x5 < ((12 : Nat) : Int)) ((if (σ.1 6 (Int.toNat x5)) ≤ x6 then ck (inR (x4 + 1)) (k91 (x4 + 1) σ) else (if (σ.1 (o + 9) 4) = 0 then (f_X3_stepAt x5 x6 σ).bind (fun r6 => (f_X0_doStep o x4 r6 σ).bind (fun r9 => ck (inR (x6 + 1)) (f_X0_attempt_118 o k91 n x4 x5 (x6 + 1) r9))) else ck (inR (x4 + 1)) (k91 (x4 + 1) σ))))
set_option maxRecDepth 100000 in
set_option maxHeartbeats 4000000 in
theorem t_X0_attempt_118 {p : Program} {l : Launch} {e : Env} {s : State} {m : MethodId} {args : Array Value} {below : List Frame} {meth : Method} {c : Code} {D : va_G} {ca : Nat → ClassId} {ad : Nat → Nat} {res : Mm} {o : Nat} {k91 : Int → Mm → Option (Mm)} (X : Cx p s m args c cX0_attempt 7 RX0 (Cond.code yX0_attempt cX0_attempt 7 none :: tbG) D vcl ca) (hN : NC s) (hr : meth.sig.returnType = none) (hlk : meth.locks = false) (ho : o = 15 ∨ o = 29) (hk91 : ∀ (x4 : Int) (σ : Mm), inR x4 → GX0_attempt p l e s m args below meth c D ca ad res 91 [(0, .ref (ad o)), (4, .int (oi x4))] [] σ (k91 x4 σ)) : ∀ (n : Nat) (x4 : Int) (x5 : Int) (x6 : Int) (σ : Mm), inR x4 → inR x5 → inR x6 → GX0_attempt p l e s m args below meth c D ca ad res 118 [(0, .ref (ad o)), (4, .int (oi x4)), (5, .int (oi x5)), (6, .int (oi x6))] [] σ (f_X0_attempt_118 o k91 n x4 x5 x6 σ)
  := by
  intro n
  induction n with
  | zero => intro x4 x5 x6 σ hx4 hx5 hx6 h; cases h
  | succ n ih =>
    intro x4 x5 x6 σ hx4 hx5 hx6
    rw [f_X0_attempt_118]
    refine q_iload X dX0_attempt_118 3 rfl ?_
    refine q_aload_n X dX0_attempt_120 0 rfl ?_
    refine fg_X0_50 ho X dX0_attempt_121 ?_
    refine fg_X0_95 X dX0_attempt_124 ?_
    refine q_iload X dX0_attempt_127 2 rfl ?_
    refine q_iald X hC6 (by decide) dX0_attempt_129 (fun h1 => ?_)
    refine q_icmp_ge X hx6 h1 166 dX0_attempt_130 (by decide) (fun h2 => ?_) (fun h2 => ?_)
    · refine q_iinc X [(4, .int (oi (x4 + 1))), (0, .ref (ad o)), (5, .int (oi x5)), (6, .int (oi x6))] dX0_attempt_166 (by decide) 1 rfl rfl (fun h3 => ?_)
      refine q_goto X 91 dX0_attempt_169 (by decide) ?_
      refine q_sub [(0, .ref (ad o)), (4, .int (oi (x4 + 1)))] [1, 0] rfl ?_
      exact hk91 (x4 + 1) σ h3
    · refine q_aload_n X dX0_attempt_133 0 rfl ?_
      refine fg_X0_57 ho X dX0_attempt_134 ?_
      refine fg_X0_65 ho X dX0_attempt_137 (fun h4 => ?_)
      refine q_if_ne X h4 166 dX0_attempt_140 (by decide) (fun h5 => ?_) (fun h5 => ?_)
      · refine q_aload_n X dX0_attempt_143 0 rfl ?_
        refine q_iload X dX0_attempt_144 1 rfl ?_
        refine q_aload_n X dX0_attempt_146 0 rfl ?_
        refine fg_X0_50 ho X dX0_attempt_147 ?_
        refine q_iload X dX0_attempt_150 2 rfl ?_
        refine q_iload X dX0_attempt_152 3 rfl ?_
        refine q_callIp X NCok hN Aw_new (c_X3_stepAt hx5 hx6) (rn_V X (cwV 2 X.2.2.2.2.1 (tbG_good _ (tbG_V mw_427 mw_428 mw_429 mw_2 mw_430)) rfl rfl rfl hd_X3_stepAt ⟨by decide, by decide⟩) hC1 rfl rfl rfl (Nat.le_of_ble_eq_true rfl) dX0_attempt_154) (fun r6 _ h8 => ?_)
        refine q_callV X NCok hN Aw_new (c_X0_doStep ho hx4 h8) (rn_V X (cwV 2 X.2.2.2.2.1 (tbG_good _ (tbG_V mw_431 mw_433 mp_1_4 mw_4 mw_434)) rfl rfl rfl hd_X0_doStep ⟨by decide, by decide⟩) (hO0 ho) rfl rfl rfl (Nat.le_of_ble_eq_true rfl) dX0_attempt_157) (fun r9 _ => ?_)
        refine q_iinc X [(6, .int (oi (x6 + 1))), (0, .ref (ad o)), (4, .int (oi x4)), (5, .int (oi x5))] dX0_attempt_160 (by decide) 3 rfl rfl (fun h12 => ?_)
        refine q_goto X 118 dX0_attempt_163 (by decide) ?_
        refine q_sub [(0, .ref (ad o)), (4, .int (oi x4)), (5, .int (oi x5)), (6, .int (oi (x6 + 1)))] [1, 2, 3, 0] rfl ?_
        exact ih x4 x5 (x6 + 1) r9 hx4 hx5 h12
      · refine q_iinc X [(4, .int (oi (x4 + 1))), (0, .ref (ad o)), (5, .int (oi x5)), (6, .int (oi x6))] dX0_attempt_166 (by decide) 1 rfl rfl (fun h13 => ?_)
        refine q_goto X 91 dX0_attempt_169 (by decide) ?_
        refine q_sub [(0, .ref (ad o)), (4, .int (oi (x4 + 1)))] [1, 0] rfl ?_
        exact hk91 (x4 + 1) σ h13
def f_X0_attempt_91 (o : Nat) (k47 : Mm → Option (Mm)) : Nat → Int → Mm → Option (Mm)
  | 0, _, _ => none
  | n + 1, x4, σ => (if (σ.1 (o + 9) 2) ≤ x4 then k47 σ else ck ((0 : Int) ≤ x4 ∧ x4 < ((80 : Nat) : Int)) (f_X0_attempt_118 o (f_X0_attempt_91 o k47 n) 2000 x4 (σ.1 (o + 10) (Int.toNat x4)) 0 σ))
set_option maxRecDepth 100000 in
set_option maxHeartbeats 4000000 in
theorem t_X0_attempt_91 {p : Program} {l : Launch} {e : Env} {s : State} {m : MethodId} {args : Array Value} {below : List Frame} {meth : Method} {c : Code} {D : va_G} {ca : Nat → ClassId} {ad : Nat → Nat} {res : Mm} {o : Nat} {k47 : Mm → Option (Mm)} (X : Cx p s m args c cX0_attempt 7 RX0 (Cond.code yX0_attempt cX0_attempt 7 none :: tbG) D vcl ca) (hN : NC s) (hr : meth.sig.returnType = none) (hlk : meth.locks = false) (ho : o = 15 ∨ o = 29) (hk47 : ∀ (σ : Mm), GX0_attempt p l e s m args below meth c D ca ad res 47 [(0, .ref (ad o))] [] σ (k47 σ)) : ∀ (n : Nat) (x4 : Int) (σ : Mm), inR x4 → GX0_attempt p l e s m args below meth c D ca ad res 91 [(0, .ref (ad o)), (4, .int (oi x4))] [] σ (f_X0_attempt_91 o k47 n x4 σ)
  := by
  intro n
  induction n with
  | zero => intro x4 σ hx4 h; cases h
  | succ n ih =>
    intro x4 σ hx4
    rw [f_X0_attempt_91]
    refine q_iload X dX0_attempt_91 1 rfl ?_
    refine q_aload_n X dX0_attempt_93 0 rfl ?_
    refine fg_X0_57 ho X dX0_attempt_94 ?_
    refine fg_X0_89 ho X dX0_attempt_97 (fun h14 => ?_)
    refine q_icmp_ge X hx4 h14 172 dX0_attempt_100 (by decide) (fun h15 => ?_) (fun h15 => ?_)
    · refine q_goto X 47 dX0_attempt_172 (by decide) ?_
      refine q_sub [(0, .ref (ad o))] [0] rfl ?_
      exact hk47 σ
    · refine q_aload_n X dX0_attempt_103 0 rfl ?_
      refine fg_X0_57 ho X dX0_attempt_104 ?_
      refine fg_X0_92 ho X dX0_attempt_107 ?_
      refine q_iload X dX0_attempt_110 1 rfl ?_
      refine q_iald X (hF10 ho) (by decide) dX0_attempt_112 (fun h16 => ?_)
      refine q_istore X [(5, .int (oi (σ.1 (o + 10) (Int.toNat x4)))), (0, .ref (ad o)), (4, .int (oi x4))] dX0_attempt_113 (by decide) rfl ?_
      refine q_iconst X dX0_attempt_115 ?_
      refine q_istore X [(6, .int (oi 0)), (5, .int (oi (σ.1 (o + 10) (Int.toNat x4)))), (0, .ref (ad o)), (4, .int (oi x4))] dX0_attempt_116 (by decide) rfl ?_
      refine q_sub [(0, .ref (ad o)), (4, .int (oi x4)), (5, .int (oi (σ.1 (o + 10) (Int.toNat x4)))), (6, .int (oi 0))] [2, 3, 1, 0] rfl ?_
      exact t_X0_attempt_118 X hN hr hlk ho ih 2000 x4 (σ.1 (o + 10) (Int.toNat x4)) 0 σ hx4 h16 (by decide)
def f_X0_attempt_47 (o : Nat) : Nat → Mm → Option (Mm)
  | 0, _ => none
  | n + 1, σ => (if (σ.1 o 7) = 0 then some σ else (if (σ.1 (o + 9) 4) = 0 then (if 1000000 ≤ (σ.1 o 8) then some σ else ck (inR (((stI σ o 7 0).1 o 8) + 1)) (f_X0_attempt_91 o (f_X0_attempt_47 o n) 2000 0 (stI (stI σ o 7 0) o 8 (((stI σ o 7 0).1 o 8) + 1)))) else some σ))
set_option maxRecDepth 100000 in
set_option maxHeartbeats 4000000 in
theorem t_X0_attempt_47 {p : Program} {l : Launch} {e : Env} {s : State} {m : MethodId} {args : Array Value} {below : List Frame} {meth : Method} {c : Code} {D : va_G} {ca : Nat → ClassId} {ad : Nat → Nat} {res : Mm} {o : Nat} (X : Cx p s m args c cX0_attempt 7 RX0 (Cond.code yX0_attempt cX0_attempt 7 none :: tbG) D vcl ca) (hN : NC s) (hr : meth.sig.returnType = none) (hlk : meth.locks = false) (ho : o = 15 ∨ o = 29) : ∀ (n : Nat) (σ : Mm), GX0_attempt p l e s m args below meth c D ca ad res 47 [(0, .ref (ad o))] [] σ (f_X0_attempt_47 o n σ)
  := by
  intro n
  induction n with
  | zero => intro σ h; cases h
  | succ n ih =>
    intro σ
    rw [f_X0_attempt_47]
    refine q_aload_n X dX0_attempt_47 0 rfl ?_
    refine fg_X0_28 ho X dX0_attempt_48 (fun h17 => ?_)
    refine q_if_eq X h17 175 dX0_attempt_51 (by decide) (fun h18 => ?_) (fun h18 => ?_)
    · exact q_vret X hr hlk dX0_attempt_175
    · refine q_aload_n X dX0_attempt_54 0 rfl ?_
      refine fg_X0_57 ho X dX0_attempt_55 ?_
      refine fg_X0_65 ho X dX0_attempt_58 (fun h19 => ?_)
      refine q_if_ne X h19 175 dX0_attempt_61 (by decide) (fun h20 => ?_) (fun h20 => ?_)
      · refine q_aload_n X dX0_attempt_64 0 rfl ?_
        refine fg_X0_32 ho X dX0_attempt_65 (fun h21 => ?_)
        refine q_ldc X 1000000 dX0_attempt_68 (List.mem_cons_of_mem _ mw_426) ?_
        refine q_icmp_ge X h21 (by decide) 175 dX0_attempt_70 (by decide) (fun h22 => ?_) (fun h22 => ?_)
        · exact q_vret X hr hlk dX0_attempt_175
        · refine q_aload_n X dX0_attempt_73 0 rfl ?_
          refine q_iconst X dX0_attempt_74 ?_
          refine fp_X0_28 ho X (Or.inl rfl) dX0_attempt_75 ?_
          refine q_aload_n X dX0_attempt_78 0 rfl ?_
          refine q_dup X dX0_attempt_79 rfl ?_
          refine fg_X0_32 ho X dX0_attempt_80 (fun h23 => ?_)
          refine q_iconst X dX0_attempt_83 ?_
          refine q_iadd X dX0_attempt_84 ?_
          refine q_ck (fun h24 => ?_)
          refine fp_X0_32 ho X h24 dX0_attempt_85 ?_
          refine q_iconst X dX0_attempt_88 ?_
          refine q_istore X [(4, .int (oi 0)), (0, .ref (ad o))] dX0_attempt_89 (by decide) rfl ?_
          refine q_sub [(0, .ref (ad o)), (4, .int (oi 0))] [1, 0] rfl ?_
          exact t_X0_attempt_91 X hN hr hlk ho ih 2000 0 (stI (stI σ o 7 0) o 8 (((stI σ o 7 0).1 o 8) + 1)) (by decide)
      · exact q_vret X hr hlk dX0_attempt_175
def f_X0_attempt (o : Nat) (x1 : Int) (x2 : Int) (x3 : Int) (σ : Mm) : Option (Mm) :=
  (f_X5_clear o x2 x3 σ).bind (fun r25 => (f_J7_fill_d0a16 4 (o + 3) 0 r25).bind (fun r28 => (f_J7_fill_d0a16 10 (o + 4) 0 r28).bind (fun r31 => (f_X0_nodeFor o x1 0 (stI (stL r31 o 6 0) o 8 0)).bind (fun r34 => f_X0_attempt_47 o 1000002 (stI r34.2 o 7 1)))))
theorem hd_X0_attempt : yX0_attempt.cls = RX0 ∧ yX0_attempt.cls ≠ "java/lang/invoke/MethodHandle" ∧ yX0_attempt.cls ≠ "java/lang/invoke/VarHandle" ∧ (parseMethodDescriptor yX0_attempt.desc).map (fun d => d.parameters.length) = some 3 := by decide +kernel
set_option maxRecDepth 100000 in
set_option maxHeartbeats 4000000 in
theorem c_X0_attempt {l : Launch} {D : va_G} {ca : Nat → ClassId} {ad : Nat → Nat} {o : Nat} {x1 : Int} {x2 : Int} {x3 : Int} (ho : o = 15 ∨ o = 29) (hx1 : inR x1) (hx2 : inR x2) (hx3 : inR x3) {σ : Mm} : CtV l D vcl ca ad shC NC yX0_attempt (Cond.code yX0_attempt cX0_attempt 7 none :: tbG) { frames := 5, cells := 0, slots := 0, locals := 132 } [.ref (ad o), .int (oi x1), .int (oi x2), .int (oi x3)] σ (f_X0_attempt o x1 x2 x3 σ) := by
  refine ct_V RX0 rfl (by decide) rfl (Nat.le_of_ble_eq_true rfl) (fun p e s m below meth c res X hN hr hlk => ?_)
  show GX0_attempt p l e s m _ below meth c D ca ad res 0 [(0, .ref (ad o)), (1, .int (oi x1)), (2, .int (oi x2)), (3, .int (oi x3))] [] σ (f_X0_attempt o x1 x2 x3 σ)
  unfold f_X0_attempt
  refine q_aload_n X dX0_attempt_0 0 rfl ?_
  refine fg_X0_57 ho X dX0_attempt_1 ?_
  refine q_iload_n X dX0_attempt_4 2 rfl ?_
  refine q_iload_n X dX0_attempt_5 3 rfl ?_
  refine q_callV X NCok hN Aw_new (c_X5_clear ho hx2 hx3) (rn_V X (cwV 2 X.2.2.2.2.1 (tbG_good _ (tbG_V mw_407 mw_408 mw_409 mw_5 mw_410)) rfl rfl rfl hd_X5_clear ⟨by decide, by decide⟩) (hO9 ho) rfl rfl rfl (Nat.le_of_ble_eq_true rfl) dX0_attempt_6) (fun r25 _ => ?_)
  refine q_aload_n X dX0_attempt_9 0 rfl ?_
  refine fg_X0_18 ho X dX0_attempt_10 ?_
  refine q_lconst X 0 dX0_attempt_13 rfl ?_
  refine q_callV X NCok hN Aw_new (c_J7_fill_d0a16 (hF3 ho) (by decide)) (rn_S X (va_cwS 2 X.2.2.2.2.1 (tbG_good _ (tbG_S mw_411 mw_412 mw_3 mw_413)) rfl rfl rfl hd_J7_fill_d0a16 ⟨by decide, by decide⟩) rfl rfl (Nat.le_of_ble_eq_true rfl) dX0_attempt_14) (fun r28 _ => ?_)
  refine q_aload_n X dX0_attempt_17 0 rfl ?_
  refine fg_X0_21 ho X dX0_attempt_18 ?_
  refine q_lconst X 0 dX0_attempt_21 rfl ?_
  refine q_callV X NCok hN Aw_new (c_J7_fill_d0a16 (hF4 ho) (by decide)) (rn_S X (va_cwS 2 X.2.2.2.2.1 (tbG_good _ (tbG_S mw_411 mw_412 mw_3 mw_413)) rfl rfl rfl hd_J7_fill_d0a16 ⟨by decide, by decide⟩) rfl rfl (Nat.le_of_ble_eq_true rfl) dX0_attempt_22) (fun r31 _ => ?_)
  refine q_aload_n X dX0_attempt_25 0 rfl ?_
  refine q_lconst X 0 dX0_attempt_26 rfl ?_
  refine fp_X0_24 ho X dX0_attempt_27 ?_
  refine q_aload_n X dX0_attempt_30 0 rfl ?_
  refine q_iconst X dX0_attempt_31 ?_
  refine fp_X0_32 ho X (by decide) dX0_attempt_32 ?_
  refine q_aload_n X dX0_attempt_35 0 rfl ?_
  refine q_iload_n X dX0_attempt_36 1 rfl ?_
  refine q_iconst X dX0_attempt_37 ?_
  refine q_callI X NCok hN Aw_new (c_X0_nodeFor ho hx1 (by decide)) (rn_V X (cwV 2 X.2.2.2.2.1 (tbG_good _ (tbG_V mw_414 mw_416 mp_1_3 mw_4 mw_417)) rfl rfl rfl hd_X0_nodeFor ⟨by decide, by decide⟩) (hO0 ho) rfl rfl rfl (Nat.le_of_ble_eq_true rfl) dX0_attempt_38) (fun r34 _ h36 => ?_)
  refine q_pop X dX0_attempt_41 rfl ?_
  refine q_aload_n X dX0_attempt_42 0 rfl ?_
  refine q_iconst X dX0_attempt_43 ?_
  refine fp_X0_28 ho X (Or.inr rfl) dX0_attempt_44 ?_
  refine q_sub [(0, .ref (ad o))] [0] rfl ?_
  exact t_X0_attempt_47 X hN hr hlk ho 1000002 (stI r34.2 o 7 1)

/-! SiteObjects$Finding.noteReached(I)V -/
abbrev GX0_noteReached (p : Program) (l : Launch) (e : Env) (s : State) (m : MethodId) (args : Array Value) (below : List Frame) (meth : Method) (c : Code) (D : va_G) (ca : Nat → ClassId) (ad : Nat → Nat) (res : Mm) : Nat → List (Nat × Value) → List Value → Mm → Option (Mm) → Prop := G p l e { frames := 0, cells := 0, slots := 0, locals := 0 } s m args below meth c (MQ below (QcV D vcl ca ad shC s.heap.size res) args s 0 0 (Aw ad shC.length s.heap.size)) 2 D vcl ca ad shC (Aw ad shC.length s.heap.size) res
def f_X0_noteReached (o : Nat) (x1 : Int) (σ : Mm) : Option (Mm) :=
  (if x1 < 0 then some σ else ck ((0 : Int) ≤ (iShr x1 6) ∧ (iShr x1 6) < ((2 : Nat) : Int)) (ck ((0 : Int) ≤ (iShr x1 6) ∧ (iShr x1 6) < ((2 : Nat) : Int)) ((some (stL σ (o + 8) (Int.toNat (iShr x1 6)) ((σ.2 (o + 8) (Int.toNat (iShr x1 6))) ||| (lShl 1 (iAnd x1 63))))).bind (fun σ2 => some σ2))))
theorem hd_X0_noteReached : yX0_noteReached.cls = RX0 ∧ yX0_noteReached.cls ≠ "java/lang/invoke/MethodHandle" ∧ yX0_noteReached.cls ≠ "java/lang/invoke/VarHandle" ∧ (parseMethodDescriptor yX0_noteReached.desc).map (fun d => d.parameters.length) = some 1 := by decide +kernel
set_option maxRecDepth 100000 in
set_option maxHeartbeats 4000000 in
theorem c_X0_noteReached {l : Launch} {D : va_G} {ca : Nat → ClassId} {ad : Nat → Nat} {o : Nat} {x1 : Int} (ho : o = 15 ∨ o = 29) (hx1 : inR x1) {σ : Mm} : CtV l D vcl ca ad shC NC yX0_noteReached (Cond.code yX0_noteReached cX0_noteReached 2 none :: tbG) { frames := 0, cells := 0, slots := 0, locals := 0 } [.ref (ad o), .int (oi x1)] σ (f_X0_noteReached o x1 σ) := by
  refine ct_V RX0 rfl (by decide) rfl (Nat.le_of_ble_eq_true rfl) (fun p e s m below meth c res X hN hr hlk => ?_)
  show GX0_noteReached p l e s m _ below meth c D ca ad res 0 [(0, .ref (ad o)), (1, .int (oi x1))] [] σ (f_X0_noteReached o x1 σ)
  unfold f_X0_noteReached
  refine q_iload_n X dX0_noteReached_0 1 rfl ?_
  refine q_if_lt X hx1 22 dX0_noteReached_1 (by decide) (fun h1 => ?_) (fun h1 => ?_)
  · exact q_vret X hr hlk dX0_noteReached_22
  · refine q_aload_n X dX0_noteReached_4 0 rfl ?_
    refine fg_X0_47 ho X dX0_noteReached_5 ?_
    refine q_iload_n X dX0_noteReached_8 1 rfl ?_
    refine q_bipush X dX0_noteReached_9 (by decide) ?_
    refine q_ishr X dX0_noteReached_11 ?_
    refine q_dup2 X dX0_noteReached_12 rfl rfl ?_
    refine q_lald X (hF8 ho) (by decide) dX0_noteReached_13 ?_
    refine q_lconst X 1 dX0_noteReached_14 rfl ?_
    refine q_iload_n X dX0_noteReached_15 1 rfl ?_
    refine q_bipush X dX0_noteReached_16 (by decide) ?_
    refine q_iand X dX0_noteReached_18 ?_
    refine q_lshl X dX0_noteReached_19 ?_
    refine q_lor X dX0_noteReached_20 ?_
    refine q_last X (hF8 ho) (by decide) dX0_noteReached_21 ?_
    refine q_nm (fun σ2 => ?_)
    exact q_vret X hr hlk dX0_noteReached_22

/-! SiteObjects$Finding.reach(II)V -/
abbrev GX0_reach (p : Program) (l : Launch) (e : Env) (s : State) (m : MethodId) (args : Array Value) (below : List Frame) (meth : Method) (c : Code) (D : va_G) (ca : Nat → ClassId) (ad : Nat → Nat) (res : Mm) : Nat → List (Nat × Value) → List Value → Mm → Option (Mm) → Prop := G p l e { frames := 2, cells := 0, slots := 0, locals := 46 } s m args below meth c (MQ below (QcV D vcl ca ad shC s.heap.size res) args s 0 0 (Aw ad shC.length s.heap.size)) 7 D vcl ca ad shC (Aw ad shC.length s.heap.size) res
def f_X0_reach_119 (o : Nat) (k76 : Int → Int → Int64 → Int → Mm → Option (Mm)) (x1 : Int) (x2 : Int) (x3 : Int64) (x5 : Int) (s0 : Int) (σ : Mm) : Option (Mm) :=
  (if s0 < 0 then ck (inR (x5 + 1)) (k76 x1 x2 x3 (x5 + 1) σ) else (f_X5_contextOfAsked o x1 x2 x5 σ).bind (fun r3 => (f_X5_nodeWith o s0 r3 σ).bind (fun r6 => (f_X0_noteReached o r6 σ).bind (fun r9 => ck (inR (x5 + 1)) (k76 x1 x2 x3 (x5 + 1) r9)))))
set_option maxRecDepth 100000 in
set_option maxHeartbeats 4000000 in
theorem t_X0_reach_119 {p : Program} {l : Launch} {e : Env} {s : State} {m : MethodId} {args : Array Value} {below : List Frame} {meth : Method} {c : Code} {D : va_G} {ca : Nat → ClassId} {ad : Nat → Nat} {res : Mm} {o : Nat} {k76 : Int → Int → Int64 → Int → Mm → Option (Mm)} (X : Cx p s m args c cX0_reach 7 RX0 (Cond.code yX0_reach cX0_reach 7 none :: tbG) D vcl ca) (hN : NC s) (hr : meth.sig.returnType = none) (hlk : meth.locks = false) (ho : o = 15 ∨ o = 29) (hk76 : ∀ (x1 : Int) (x2 : Int) (x3 : Int64) (x5 : Int) (σ : Mm), inR x1 → inR x2 → inR x5 → GX0_reach p l e s m args below meth c D ca ad res 76 [(0, .ref (ad o)), (1, .int (oi x1)), (2, .int (oi x2)), (3, .long x3), (5, .int (oi x5))] [] σ (k76 x1 x2 x3 x5 σ)) : ∀ (x1 : Int) (x2 : Int) (x3 : Int64) (x5 : Int) (s0 : Int) (σ : Mm), inR x1 → inR x2 → inR x5 → inR s0 → GX0_reach p l e s m args below meth c D ca ad res 119 [(0, .ref (ad o)), (1, .int (oi x1)), (2, .int (oi x2)), (3, .long x3), (5, .int (oi x5))] [.int (oi s0)] σ (f_X0_reach_119 o k76 x1 x2 x3 x5 s0 σ) := by
  intro x1 x2 x3 x5 s0 σ hx1 hx2 hx5 hs0
  unfold f_X0_reach_119
  refine q_istore X [(6, .int (oi s0)), (0, .ref (ad o)), (1, .int (oi x1)), (2, .int (oi x2)), (3, .long x3), (5, .int (oi x5))] dX0_reach_119 (by decide) rfl ?_
  refine q_iload X dX0_reach_121 0 rfl ?_
  refine q_if_lt X hs0 150 dX0_reach_123 (by decide) (fun h1 => ?_) (fun h1 => ?_)
  · refine q_iinc X [(5, .int (oi (x5 + 1))), (6, .int (oi s0)), (0, .ref (ad o)), (1, .int (oi x1)), (2, .int (oi x2)), (3, .long x3)] dX0_reach_150 (by decide) 5 rfl rfl (fun h2 => ?_)
    refine q_goto X 76 dX0_reach_153 (by decide) ?_
    refine q_sub [(0, .ref (ad o)), (1, .int (oi x1)), (2, .int (oi x2)), (3, .long x3), (5, .int (oi (x5 + 1)))] [2, 3, 4, 5, 0] rfl ?_
    exact hk76 x1 x2 x3 (x5 + 1) σ hx1 hx2 h2
  · refine q_aload_n X dX0_reach_126 1 rfl ?_
    refine q_aload_n X dX0_reach_127 1 rfl ?_
    refine fg_X0_57 ho X dX0_reach_128 ?_
    refine q_iload X dX0_reach_131 0 rfl ?_
    refine q_aload_n X dX0_reach_133 1 rfl ?_
    refine fg_X0_57 ho X dX0_reach_134 ?_
    refine q_iload_n X dX0_reach_137 2 rfl ?_
    refine q_iload_n X dX0_reach_138 3 rfl ?_
    refine q_iload X dX0_reach_139 5 rfl ?_
    refine q_callIp X NCok hN Aw_new (c_X5_contextOfAsked ho hx1 hx2 hx5) (rn_V X (cwV 3 X.2.2.2.2.1 (tbG_good _ (tbG_V mw_493 mw_494 mw_495 mw_5 mw_496)) rfl rfl rfl hd_X5_contextOfAsked ⟨by decide, by decide⟩) (hO9 ho) rfl rfl rfl (Nat.le_of_ble_eq_true rfl) dX0_reach_141) (fun r3 _ h5 => ?_)
    refine q_callIp X NCok hN Aw_new (c_X5_nodeWith ho hs0 h5) (rn_V X (cwV 2 X.2.2.2.2.1 (tbG_good _ (tbG_V mw_418 mw_419 mw_420 mw_5 mw_421)) rfl rfl rfl hd_X5_nodeWith ⟨by decide, by decide⟩) (hO9 ho) rfl rfl rfl (Nat.le_of_ble_eq_true rfl) dX0_reach_144) (fun r6 _ h8 => ?_)
    refine q_callV X NCok hN Aw_new (c_X0_noteReached ho h8) (rn_V X (cwV 1 X.2.2.2.2.1 (tbG_good _ (tbG_V mw_538 mw_540 mp_2_4 mw_4 mw_541)) rfl rfl rfl hd_X0_noteReached ⟨by decide, by decide⟩) (hO0 ho) rfl rfl rfl (Nat.le_of_ble_eq_true rfl) dX0_reach_147) (fun r9 _ => ?_)
    refine q_iinc X [(5, .int (oi (x5 + 1))), (6, .int (oi s0)), (0, .ref (ad o)), (1, .int (oi x1)), (2, .int (oi x2)), (3, .long x3)] dX0_reach_150 (by decide) 5 rfl rfl (fun h12 => ?_)
    refine q_goto X 76 dX0_reach_153 (by decide) ?_
    refine q_sub [(0, .ref (ad o)), (1, .int (oi x1)), (2, .int (oi x2)), (3, .long x3), (5, .int (oi (x5 + 1)))] [2, 3, 4, 5, 0] rfl ?_
    exact hk76 x1 x2 x3 (x5 + 1) r9 hx1 hx2 h12
def f_X0_reach_76 (o : Nat) : Nat → Int → Int → Int64 → Int → Mm → Option (Mm)
  | 0, _, _, _, _, _ => none
  | n + 1, x1, x2, x3, x5, σ => (if (σ.1 (o + 9) 3) ≤ x5 then some σ else (if (lShr x3 x5) = 0 then some σ else (if ((lShr x3 x5) &&& 1) = 0 then f_X0_reach_119 o (f_X0_reach_76 o n) x1 x2 x3 x5 (-1) σ else (f_X0_methodAskedOf o x5 x2 σ).bind (fun r17 => f_X0_reach_119 o (f_X0_reach_76 o n) x1 x2 x3 x5 r17 σ))))
set_option maxRecDepth 100000 in
set_option maxHeartbeats 4000000 in
theorem t_X0_reach_76 {p : Program} {l : Launch} {e : Env} {s : State} {m : MethodId} {args : Array Value} {below : List Frame} {meth : Method} {c : Code} {D : va_G} {ca : Nat → ClassId} {ad : Nat → Nat} {res : Mm} {o : Nat} (X : Cx p s m args c cX0_reach 7 RX0 (Cond.code yX0_reach cX0_reach 7 none :: tbG) D vcl ca) (hN : NC s) (hr : meth.sig.returnType = none) (hlk : meth.locks = false) (ho : o = 15 ∨ o = 29) : ∀ (n : Nat) (x1 : Int) (x2 : Int) (x3 : Int64) (x5 : Int) (σ : Mm), inR x1 → inR x2 → inR x5 → GX0_reach p l e s m args below meth c D ca ad res 76 [(0, .ref (ad o)), (1, .int (oi x1)), (2, .int (oi x2)), (3, .long x3), (5, .int (oi x5))] [] σ (f_X0_reach_76 o n x1 x2 x3 x5 σ)
  := by
  intro n
  induction n with
  | zero => intro x1 x2 x3 x5 σ hx1 hx2 hx5 h; cases h
  | succ n ih =>
    intro x1 x2 x3 x5 σ hx1 hx2 hx5
    rw [f_X0_reach_76]
    refine q_iload X dX0_reach_76 4 rfl ?_
    refine q_aload_n X dX0_reach_78 0 rfl ?_
    refine fg_X0_57 ho X dX0_reach_79 ?_
    refine fg_X0_156 ho X dX0_reach_82 (fun h13 => ?_)
    refine q_icmp_ge X hx5 h13 156 dX0_reach_85 (by decide) (fun h14 => ?_) (fun h14 => ?_)
    · exact q_vret X hr hlk dX0_reach_156
    · refine q_lload_n X dX0_reach_88 3 rfl ?_
      refine q_iload X dX0_reach_89 4 rfl ?_
      refine q_lshr X dX0_reach_91 ?_
      refine q_lconst X 0 dX0_reach_92 rfl ?_
      refine q_lcmp_eq X 156 dX0_reach_93 dX0_reach_94 (by decide) (fun h15 => ?_) (fun h15 => ?_)
      · exact q_vret X hr hlk dX0_reach_156
      · refine q_lload_n X dX0_reach_97 3 rfl ?_
        refine q_iload X dX0_reach_98 4 rfl ?_
        refine q_lshr X dX0_reach_100 ?_
        refine q_lconst X 1 dX0_reach_101 rfl ?_
        refine q_land X dX0_reach_102 ?_
        refine q_lconst X 0 dX0_reach_103 rfl ?_
        refine q_lcmp_eq X 118 dX0_reach_104 dX0_reach_105 (by decide) (fun h16 => ?_) (fun h16 => ?_)
        · refine q_iconst X dX0_reach_118 ?_
          refine q_sub [(0, .ref (ad o)), (1, .int (oi x1)), (2, .int (oi x2)), (3, .long x3), (5, .int (oi x5))] [0, 1, 2, 3, 4] rfl ?_
          exact t_X0_reach_119 X hN hr hlk ho ih x1 x2 x3 x5 (-1) σ hx1 hx2 hx5 (by decide)
        · refine q_aload_n X dX0_reach_108 0 rfl ?_
          refine q_iload X dX0_reach_109 4 rfl ?_
          refine q_iload_n X dX0_reach_111 2 rfl ?_
          refine q_callIp X NCok hN Aw_new (c_X0_methodAskedOf ho hx5 hx2) (rn_V X (cwV 2 X.2.2.2.2.1 (tbG_good _ (tbG_V mw_485 mw_487 mp_1_12 mw_4 mw_488)) rfl rfl rfl hd_X0_methodAskedOf ⟨by decide, by decide⟩) (hO0 ho) rfl rfl rfl (Nat.le_of_ble_eq_true rfl) dX0_reach_112) (fun r17 _ h19 => ?_)
          refine q_goto X 119 dX0_reach_115 (by decide) ?_
          refine q_sub [(0, .ref (ad o)), (1, .int (oi x1)), (2, .int (oi x2)), (3, .long x3), (5, .int (oi x5))] [0, 1, 2, 3, 4] rfl ?_
          exact t_X0_reach_119 X hN hr hlk ho ih x1 x2 x3 x5 r17 σ hx1 hx2 hx5 h19
def f_X0_reach (o : Nat) (x1 : Int) (x2 : Int) (σ : Mm) : Option (Mm) :=
  ck ((0 : Int) ≤ 0 ∧ 0 < ((2 : Nat) : Int)) (ck ((0 : Int) ≤ 1 ∧ 1 < ((2 : Nat) : Int)) (ck ((0 : Int) ≤ x2 ∧ x2 < ((90 : Nat) : Int)) ((if ((stL (stL σ (o + 8) 0 0) (o + 8) 1 0).1 8 (Int.toNat x2)) = 10 then ck ((0 : Int) ≤ x2 ∧ x2 < ((90 : Nat) : Int)) ((f_X5_contextOfCalled o x1 x2 (stL (stL σ (o + 8) 0 0) (o + 8) 1 0)).bind (fun r23 => (f_X5_nodeWith o ((stL (stL σ (o + 8) 0 0) (o + 8) 1 0).1 11 (Int.toNat x2)) r23 (stL (stL σ (o + 8) 0 0) (o + 8) 1 0)).bind (fun r26 => (f_X0_noteReached o r26 (stL (stL σ (o + 8) 0 0) (o + 8) 1 0)).bind (fun r29 => some r29)))) else ck ((0 : Int) ≤ x2 ∧ x2 < ((90 : Nat) : Int)) ((f_X0_setOf o x1 ((stL (stL σ (o + 8) 0 0) (o + 8) 1 0).1 10 (Int.toNat x2)) (stL (stL σ (o + 8) 0 0) (o + 8) 1 0)).bind (fun r33 => f_X0_reach_76 o 2000 x1 x2 r33 0 (stL (stL σ (o + 8) 0 0) (o + 8) 1 0)))))))
theorem hd_X0_reach : yX0_reach.cls = RX0 ∧ yX0_reach.cls ≠ "java/lang/invoke/MethodHandle" ∧ yX0_reach.cls ≠ "java/lang/invoke/VarHandle" ∧ (parseMethodDescriptor yX0_reach.desc).map (fun d => d.parameters.length) = some 2 := by decide +kernel
set_option maxRecDepth 100000 in
set_option maxHeartbeats 4000000 in
theorem c_X0_reach {l : Launch} {D : va_G} {ca : Nat → ClassId} {ad : Nat → Nat} {o : Nat} {x1 : Int} {x2 : Int} (ho : o = 15 ∨ o = 29) (hx1 : inR x1) (hx2 : inR x2) {σ : Mm} : CtV l D vcl ca ad shC NC yX0_reach (Cond.code yX0_reach cX0_reach 7 none :: tbG) { frames := 2, cells := 0, slots := 0, locals := 46 } [.ref (ad o), .int (oi x1), .int (oi x2)] σ (f_X0_reach o x1 x2 σ) := by
  refine ct_V RX0 rfl (by decide) rfl (Nat.le_of_ble_eq_true rfl) (fun p e s m below meth c res X hN hr hlk => ?_)
  show GX0_reach p l e s m _ below meth c D ca ad res 0 [(0, .ref (ad o)), (1, .int (oi x1)), (2, .int (oi x2))] [] σ (f_X0_reach o x1 x2 σ)
  unfold f_X0_reach
  refine q_aload_n X dX0_reach_0 0 rfl ?_
  refine fg_X0_47 ho X dX0_reach_1 ?_
  refine q_iconst X dX0_reach_4 ?_
  refine q_lconst X 0 dX0_reach_5 rfl ?_
  refine q_last X (hF8 ho) (by decide) dX0_reach_6 ?_
  refine q_aload_n X dX0_reach_7 0 rfl ?_
  refine fg_X0_47 ho X dX0_reach_8 ?_
  refine q_iconst X dX0_reach_11 ?_
  refine q_lconst X 0 dX0_reach_12 rfl ?_
  refine q_last X (hF8 ho) (by decide) dX0_reach_13 ?_
  refine q_aload_n X dX0_reach_14 0 rfl ?_
  refine fg_X0_50 ho X dX0_reach_15 ?_
  refine fg_X0_115 X dX0_reach_18 ?_
  refine q_iload_n X dX0_reach_21 2 rfl ?_
  refine q_iald X hC8 (by decide) dX0_reach_22 (fun h20 => ?_)
  refine q_bipush X dX0_reach_23 (by decide) ?_
  refine q_icmp_ne X h20 (by decide) 58 dX0_reach_25 (by decide) (fun h21 => ?_) (fun h21 => ?_)
  · refine q_aload_n X dX0_reach_28 0 rfl ?_
    refine q_aload_n X dX0_reach_29 0 rfl ?_
    refine fg_X0_57 ho X dX0_reach_30 ?_
    refine q_aload_n X dX0_reach_33 0 rfl ?_
    refine fg_X0_50 ho X dX0_reach_34 ?_
    refine fg_X0_112 X dX0_reach_37 ?_
    refine q_iload_n X dX0_reach_40 2 rfl ?_
    refine q_iald X hC11 (by decide) dX0_reach_41 (fun h22 => ?_)
    refine q_aload_n X dX0_reach_42 0 rfl ?_
    refine fg_X0_57 ho X dX0_reach_43 ?_
    refine q_iload_n X dX0_reach_46 1 rfl ?_
    refine q_iload_n X dX0_reach_47 2 rfl ?_
    refine q_callIp X NCok hN Aw_new (c_X5_contextOfCalled ho hx1 hx2) (rn_V X (cwV 2 X.2.2.2.2.1 (tbG_good _ (tbG_V mw_517 mw_518 mw_519 mw_5 mw_520)) rfl rfl rfl hd_X5_contextOfCalled ⟨by decide, by decide⟩) (hO9 ho) rfl rfl rfl (Nat.le_of_ble_eq_true rfl) dX0_reach_48) (fun r23 _ h25 => ?_)
    refine q_callIp X NCok hN Aw_new (c_X5_nodeWith ho h22 h25) (rn_V X (cwV 2 X.2.2.2.2.1 (tbG_good _ (tbG_V mw_418 mw_419 mw_420 mw_5 mw_421)) rfl rfl rfl hd_X5_nodeWith ⟨by decide, by decide⟩) (hO9 ho) rfl rfl rfl (Nat.le_of_ble_eq_true rfl) dX0_reach_51) (fun r26 _ h28 => ?_)
    refine q_callV X NCok hN Aw_new (c_X0_noteReached ho h28) (rn_V X (cwV 1 X.2.2.2.2.1 (tbG_good _ (tbG_V mw_538 mw_540 mp_2_4 mw_4 mw_541)) rfl rfl rfl hd_X0_noteReached ⟨by decide, by decide⟩) (hO0 ho) rfl rfl rfl (Nat.le_of_ble_eq_true rfl) dX0_reach_54) (fun r29 _ => ?_)
    exact q_vret X hr hlk dX0_reach_57
  · refine q_aload_n X dX0_reach_58 0 rfl ?_
    refine q_iload_n X dX0_reach_59 1 rfl ?_
    refine q_aload_n X dX0_reach_60 0 rfl ?_
    refine fg_X0_50 ho X dX0_reach_61 ?_
    refine fg_X0_109 X dX0_reach_64 ?_
    refine q_iload_n X dX0_reach_67 2 rfl ?_
    refine q_iald X hC10 (by decide) dX0_reach_68 (fun h32 => ?_)
    refine q_callLp X NCok hN Aw_new (c_X0_setOf ho hx1 h32) (rn_V X (cwV 2 X.2.2.2.2.1 (tbG_good _ (tbG_V mw_457 mw_458 mw_459 mw_4 mw_460)) rfl rfl rfl hd_X0_setOf ⟨by decide, by decide⟩) (hO0 ho) rfl rfl rfl (Nat.le_of_ble_eq_true rfl) dX0_reach_69) (fun r33 _ => ?_)
    refine q_lstore_n X [(3, .long r33), (0, .ref (ad o)), (1, .int (oi x1)), (2, .int (oi x2))] dX0_reach_72 (by decide) rfl ?_
    refine q_iconst X dX0_reach_73 ?_
    refine q_istore X [(5, .int (oi 0)), (3, .long r33), (0, .ref (ad o)), (1, .int (oi x1)), (2, .int (oi x2))] dX0_reach_74 (by decide) rfl ?_
    refine q_sub [(0, .ref (ad o)), (1, .int (oi x1)), (2, .int (oi x2)), (3, .long r33), (5, .int (oi 0))] [2, 3, 4, 1, 0] rfl ?_
    exact t_X0_reach_76 X hN hr hlk ho 2000 x1 x2 r33 0 (stL (stL σ (o + 8) 0 0) (o + 8) 1 0) hx1 hx2 (by decide)

/-! SiteObjects$Finding.isReached(I)Z -/
abbrev GX0_isReached (p : Program) (l : Launch) (e : Env) (s : State) (m : MethodId) (args : Array Value) (below : List Frame) (meth : Method) (c : Code) (D : va_G) (ca : Nat → ClassId) (ad : Nat → Nat) (σ : Mm) (res : Int) : Nat → List (Nat × Value) → List Value → Mm → Option (Int) → Prop := G p l e { frames := 0, cells := 0, slots := 0, locals := 0 } s m args below meth c (MQ below (QcI D vcl ca ad shC s.heap.size (res, σ)) args s 0 0 (Aw ad shC.length s.heap.size)) 2 D vcl ca ad shC (Aw ad shC.length s.heap.size) res
def f_X0_isReached (o : Nat) (x1 : Int) (σ : Mm) : Option (Int) :=
  ck ((0 : Int) ≤ (iShr x1 6) ∧ (iShr x1 6) < ((2 : Nat) : Int)) ((if ((lShr (σ.2 (o + 8) (Int.toNat (iShr x1 6))) (iAnd x1 63)) &&& 1) = 0 then some 0 else some 1))
theorem hd_X0_isReached : yX0_isReached.cls = RX0 ∧ yX0_isReached.cls ≠ "java/lang/invoke/MethodHandle" ∧ yX0_isReached.cls ≠ "java/lang/invoke/VarHandle" ∧ (parseMethodDescriptor yX0_isReached.desc).map (fun d => d.parameters.length) = some 1 := by decide +kernel
set_option maxRecDepth 100000 in
set_option maxHeartbeats 4000000 in
theorem c_X0_isReached {l : Launch} {D : va_G} {ca : Nat → ClassId} {ad : Nat → Nat} {o : Nat} {x1 : Int} (ho : o = 15 ∨ o = 29) (hx1 : inR x1) {σ : Mm} : CtI l D vcl ca ad shC NC yX0_isReached (Cond.code yX0_isReached cX0_isReached 2 (some .boolean) :: tbG) { frames := 0, cells := 0, slots := 0, locals := 0 } [.ref (ad o), .int (oi x1)] σ ((f_X0_isReached o x1 σ).map (fun r => (r, σ))) := by
  refine ct_Ip RX0 rfl (by decide) rfl (Nat.le_of_ble_eq_true rfl) (fun p e s m below meth c res X hN hr hlk => ?_)
  show GX0_isReached p l e s m _ below meth c D ca ad σ res 0 [(0, .ref (ad o)), (1, .int (oi x1))] [] σ (f_X0_isReached o x1 σ)
  unfold f_X0_isReached
  refine q_aload_n X dX0_isReached_0 0 rfl ?_
  refine fg_X0_47 ho X dX0_isReached_1 ?_
  refine q_iload_n X dX0_isReached_4 1 rfl ?_
  refine q_bipush X dX0_isReached_5 (by decide) ?_
  refine q_ishr X dX0_isReached_7 ?_
  refine q_lald X (hF8 ho) (by decide) dX0_isReached_8 ?_
  refine q_iload_n X dX0_isReached_9 1 rfl ?_
  refine q_bipush X dX0_isReached_10 (by decide) ?_
  refine q_iand X dX0_isReached_12 ?_
  refine q_lshr X dX0_isReached_13 ?_
  refine q_lconst X 1 dX0_isReached_14 rfl ?_
  refine q_land X dX0_isReached_15 ?_
  refine q_lconst X 0 dX0_isReached_16 rfl ?_
  refine q_lcmp_eq X 25 dX0_isReached_17 dX0_isReached_18 (by decide) (fun h1 => ?_) (fun h1 => ?_)
  · refine q_iconst X dX0_isReached_25 ?_
    exact q_zretp X (Or.inl rfl) hr hlk dX0_isReached_26
  · refine q_iconst X dX0_isReached_21 ?_
    refine q_goto X 26 dX0_isReached_22 (by decide) ?_
    exact q_zretp X (Or.inr rfl) hr hlk dX0_isReached_26

/-! SiteObjects$Finding.countReached(I)V -/
abbrev GX0_countReached (p : Program) (l : Launch) (e : Env) (s : State) (m : MethodId) (args : Array Value) (below : List Frame) (meth : Method) (c : Code) (D : va_G) (ca : Nat → ClassId) (ad : Nat → Nat) (res : Mm) : Nat → List (Nat × Value) → List Value → Mm → Option (Mm) → Prop := G p l e { frames := 1, cells := 0, slots := 0, locals := 21 } s m args below meth c (MQ below (QcV D vcl ca ad shC s.heap.size res) args s 0 0 (Aw ad shC.length s.heap.size)) 3 D vcl ca ad shC (Aw ad shC.length s.heap.size) res
def f_X0_countReached_2 (o : Nat) : Nat → Int → Int → Mm → Option (Mm)
  | 0, _, _, _ => none
  | n + 1, x1, x2, σ => (if (σ.1 (o + 9) 2) ≤ x2 then some σ else (f_X0_isReached o x2 σ).bind (fun r3 => (if r3 = 0 then ck (inR (x2 + 1)) (f_X0_countReached_2 o n x1 (x2 + 1) σ) else ck ((0 : Int) ≤ x2 ∧ x2 < ((80 : Nat) : Int)) (ck (inR ((σ.1 (o + 5) (Int.toNat x2)) + 1)) (ck ((0 : Int) ≤ x2 ∧ x2 < ((80 : Nat) : Int)) ((some (stI σ (o + 5) (Int.toNat x2) ((σ.1 (o + 5) (Int.toNat x2)) + 1))).bind (fun σ10 => ck ((0 : Int) ≤ x2 ∧ x2 < ((80 : Nat) : Int)) (ck (inR (x2 + 1)) (f_X0_countReached_2 o n x1 (x2 + 1) (stI σ10 (o + 6) (Int.toNat x2) x1))))))))))
set_option maxRecDepth 100000 in
set_option maxHeartbeats 4000000 in
theorem t_X0_countReached_2 {p : Program} {l : Launch} {e : Env} {s : State} {m : MethodId} {args : Array Value} {below : List Frame} {meth : Method} {c : Code} {D : va_G} {ca : Nat → ClassId} {ad : Nat → Nat} {res : Mm} {o : Nat} (X : Cx p s m args c cX0_countReached 3 RX0 (Cond.code yX0_countReached cX0_countReached 3 none :: tbG) D vcl ca) (hN : NC s) (hr : meth.sig.returnType = none) (hlk : meth.locks = false) (ho : o = 15 ∨ o = 29) : ∀ (n : Nat) (x1 : Int) (x2 : Int) (σ : Mm), inR x1 → inR x2 → GX0_countReached p l e s m args below meth c D ca ad res 2 [(0, .ref (ad o)), (1, .int (oi x1)), (2, .int (oi x2))] [] σ (f_X0_countReached_2 o n x1 x2 σ)
  := by
  intro n
  induction n with
  | zero => intro x1 x2 σ hx1 hx2 h; cases h
  | succ n ih =>
    intro x1 x2 σ hx1 hx2
    rw [f_X0_countReached_2]
    refine q_iload_n X dX0_countReached_2 2 rfl ?_
    refine q_aload_n X dX0_countReached_3 0 rfl ?_
    refine fg_X0_57 ho X dX0_countReached_4 ?_
    refine fg_X0_89 ho X dX0_countReached_7 (fun h1 => ?_)
    refine q_icmp_ge X hx2 h1 44 dX0_countReached_10 (by decide) (fun h2 => ?_) (fun h2 => ?_)
    · exact q_vret X hr hlk dX0_countReached_44
    · refine q_aload_n X dX0_countReached_13 0 rfl ?_
      refine q_iload_n X dX0_countReached_14 2 rfl ?_
      refine q_callIp X NCok hN Aw_new (c_X0_isReached ho hx2) (rn_V X (cwV 1 X.2.2.2.2.1 (tbG_good _ (tbG_V mw_546 mw_548 mp_2_6 mw_4 mw_549)) rfl rfl rfl hd_X0_isReached ⟨by decide, by decide⟩) (hO0 ho) rfl rfl rfl (Nat.le_of_ble_eq_true rfl) dX0_countReached_15) (fun r3 _ h5 => ?_)
      refine q_if_eq X h5 38 dX0_countReached_18 (by decide) (fun h6 => ?_) (fun h6 => ?_)
      · refine q_iinc X [(2, .int (oi (x2 + 1))), (0, .ref (ad o)), (1, .int (oi x1))] dX0_countReached_38 (by decide) 2 rfl rfl (fun h7 => ?_)
        refine q_goto X 2 dX0_countReached_41 (by decide) ?_
        refine q_sub [(0, .ref (ad o)), (1, .int (oi x1)), (2, .int (oi (x2 + 1)))] [1, 2, 0] rfl ?_
        exact ih x1 (x2 + 1) σ hx1 h7
      · refine q_aload_n X dX0_countReached_21 0 rfl ?_
        refine fg_X0_36 ho X dX0_countReached_22 ?_
        refine q_iload_n X dX0_countReached_25 2 rfl ?_
        refine q_dup2 X dX0_countReached_26 rfl rfl ?_
        refine q_iald X (hF5 ho) (by decide) dX0_countReached_27 (fun h8 => ?_)
        refine q_iconst X dX0_countReached_28 ?_
        refine q_iadd X dX0_countReached_29 ?_
        refine q_ck (fun h9 => ?_)
        refine q_iast X (hF5 ho) (by decide) h9 dX0_countReached_30 ?_
        refine q_nm (fun σ10 => ?_)
        refine q_aload_n X dX0_countReached_31 0 rfl ?_
        refine fg_X0_40 ho X dX0_countReached_32 ?_
        refine q_iload_n X dX0_countReached_35 2 rfl ?_
        refine q_iload_n X dX0_countReached_36 1 rfl ?_
        refine q_iast X (hF6 ho) (by decide) hx1 dX0_countReached_37 ?_
        refine q_iinc X [(2, .int (oi (x2 + 1))), (0, .ref (ad o)), (1, .int (oi x1))] dX0_countReached_38 (by decide) 2 rfl rfl (fun h11 => ?_)
        refine q_goto X 2 dX0_countReached_41 (by decide) ?_
        refine q_sub [(0, .ref (ad o)), (1, .int (oi x1)), (2, .int (oi (x2 + 1)))] [1, 2, 0] rfl ?_
        exact ih x1 (x2 + 1) (stI σ10 (o + 6) (Int.toNat x2) x1) hx1 h11
def f_X0_countReached (o : Nat) (x1 : Int) (σ : Mm) : Option (Mm) :=
  f_X0_countReached_2 o 2000 x1 0 σ
theorem hd_X0_countReached : yX0_countReached.cls = RX0 ∧ yX0_countReached.cls ≠ "java/lang/invoke/MethodHandle" ∧ yX0_countReached.cls ≠ "java/lang/invoke/VarHandle" ∧ (parseMethodDescriptor yX0_countReached.desc).map (fun d => d.parameters.length) = some 1 := by decide +kernel
set_option maxRecDepth 100000 in
set_option maxHeartbeats 4000000 in
theorem c_X0_countReached {l : Launch} {D : va_G} {ca : Nat → ClassId} {ad : Nat → Nat} {o : Nat} {x1 : Int} (ho : o = 15 ∨ o = 29) (hx1 : inR x1) {σ : Mm} : CtV l D vcl ca ad shC NC yX0_countReached (Cond.code yX0_countReached cX0_countReached 3 none :: tbG) { frames := 1, cells := 0, slots := 0, locals := 21 } [.ref (ad o), .int (oi x1)] σ (f_X0_countReached o x1 σ) := by
  refine ct_V RX0 rfl (by decide) rfl (Nat.le_of_ble_eq_true rfl) (fun p e s m below meth c res X hN hr hlk => ?_)
  show GX0_countReached p l e s m _ below meth c D ca ad res 0 [(0, .ref (ad o)), (1, .int (oi x1))] [] σ (f_X0_countReached o x1 σ)
  unfold f_X0_countReached
  refine q_iconst X dX0_countReached_0 ?_
  refine q_istore_n X [(2, .int (oi 0)), (0, .ref (ad o)), (1, .int (oi x1))] dX0_countReached_1 (by decide) rfl ?_
  refine q_sub [(0, .ref (ad o)), (1, .int (oi x1)), (2, .int (oi 0))] [1, 2, 0] rfl ?_
  exact t_X0_countReached_2 X hN hr hlk ho 2000 x1 0 σ hx1 (by decide)

/-! SiteObjects$Finding.settleOnce()V -/
abbrev GX0_settleOnce (p : Program) (l : Launch) (e : Env) (s : State) (m : MethodId) (args : Array Value) (below : List Frame) (meth : Method) (c : Code) (D : va_G) (ca : Nat → ClassId) (ad : Nat → Nat) (res : Mm) : Nat → List (Nat × Value) → List Value → Mm → Option (Mm) → Prop := G p l e { frames := 0, cells := 0, slots := 0, locals := 0 } s m args below meth c (MQ below (QcV D vcl ca ad shC s.heap.size res) args s 0 0 (Aw ad shC.length s.heap.size)) 2 D vcl ca ad shC (Aw ad shC.length s.heap.size) res
def f_X0_settleOnce_22 (o : Nat) : Nat → Int → Mm → Option (Mm)
  | 0, _, _ => none
  | n + 1, x1, σ => (if (σ.1 (o + 9) 2) ≤ x1 then some σ else ck ((0 : Int) ≤ x1 ∧ x1 < ((80 : Nat) : Int)) ((if (σ.1 (o + 5) (Int.toNat x1)) = 1 then ck ((0 : Int) ≤ x1 ∧ x1 < ((80 : Nat) : Int)) ((if x1 ≤ (σ.1 (o + 6) (Int.toNat x1)) then ck ((0 : Int) ≤ x1 ∧ x1 < ((80 : Nat) : Int)) (ck (inR (x1 + 1)) (f_X0_settleOnce_22 o n (x1 + 1) (stI σ (o + 7) (Int.toNat x1) 0))) else ck ((0 : Int) ≤ x1 ∧ x1 < ((80 : Nat) : Int)) (ck ((0 : Int) ≤ (σ.1 (o + 6) (Int.toNat x1)) ∧ (σ.1 (o + 6) (Int.toNat x1)) < ((80 : Nat) : Int)) ((if (σ.1 (o + 7) (Int.toNat (σ.1 (o + 6) (Int.toNat x1)))) = 0 then ck ((0 : Int) ≤ x1 ∧ x1 < ((80 : Nat) : Int)) (ck (inR (x1 + 1)) (f_X0_settleOnce_22 o n (x1 + 1) (stI σ (o + 7) (Int.toNat x1) 0))) else ck ((0 : Int) ≤ x1 ∧ x1 < ((80 : Nat) : Int)) (ck (inR (x1 + 1)) (f_X0_settleOnce_22 o n (x1 + 1) (stI σ (o + 7) (Int.toNat x1) 1)))))))) else ck ((0 : Int) ≤ x1 ∧ x1 < ((80 : Nat) : Int)) (ck (inR (x1 + 1)) (f_X0_settleOnce_22 o n (x1 + 1) (stI σ (o + 7) (Int.toNat x1) 0))))))
set_option maxRecDepth 100000 in
set_option maxHeartbeats 4000000 in
theorem t_X0_settleOnce_22 {p : Program} {l : Launch} {e : Env} {s : State} {m : MethodId} {args : Array Value} {below : List Frame} {meth : Method} {c : Code} {D : va_G} {ca : Nat → ClassId} {ad : Nat → Nat} {res : Mm} {o : Nat} (X : Cx p s m args c cX0_settleOnce 2 RX0 (Cond.code yX0_settleOnce cX0_settleOnce 2 none :: tbG) D vcl ca) (hN : NC s) (hr : meth.sig.returnType = none) (hlk : meth.locks = false) (ho : o = 15 ∨ o = 29) : ∀ (n : Nat) (x1 : Int) (σ : Mm), inR x1 → GX0_settleOnce p l e s m args below meth c D ca ad res 22 [(0, .ref (ad o)), (1, .int (oi x1))] [] σ (f_X0_settleOnce_22 o n x1 σ)
  := by
  intro n
  induction n with
  | zero => intro x1 σ hx1 h; cases h
  | succ n ih =>
    intro x1 σ hx1
    rw [f_X0_settleOnce_22]
    refine q_iload_n X dX0_settleOnce_22 1 rfl ?_
    refine q_aload_n X dX0_settleOnce_23 0 rfl ?_
    refine fg_X0_57 ho X dX0_settleOnce_24 ?_
    refine fg_X0_89 ho X dX0_settleOnce_27 (fun h1 => ?_)
    refine q_icmp_ge X hx1 h1 84 dX0_settleOnce_30 (by decide) (fun h2 => ?_) (fun h2 => ?_)
    · exact q_vret X hr hlk dX0_settleOnce_84
    · refine q_aload_n X dX0_settleOnce_33 0 rfl ?_
      refine fg_X0_43 ho X dX0_settleOnce_34 ?_
      refine q_iload_n X dX0_settleOnce_37 1 rfl ?_
      refine q_aload_n X dX0_settleOnce_38 0 rfl ?_
      refine fg_X0_36 ho X dX0_settleOnce_39 ?_
      refine q_iload_n X dX0_settleOnce_42 1 rfl ?_
      refine q_iald X (hF5 ho) (by decide) dX0_settleOnce_43 (fun h3 => ?_)
      refine q_iconst X dX0_settleOnce_44 ?_
      refine q_icmp_ne X h3 (by decide) 76 dX0_settleOnce_45 (by decide) (fun h4 => ?_) (fun h4 => ?_)
      · refine q_aload_n X dX0_settleOnce_48 0 rfl ?_
        refine fg_X0_40 ho X dX0_settleOnce_49 ?_
        refine q_iload_n X dX0_settleOnce_52 1 rfl ?_
        refine q_iald X (hF6 ho) (by decide) dX0_settleOnce_53 (fun h5 => ?_)
        refine q_iload_n X dX0_settleOnce_54 1 rfl ?_
        refine q_icmp_ge X h5 hx1 76 dX0_settleOnce_55 (by decide) (fun h6 => ?_) (fun h6 => ?_)
        · refine q_iconst X dX0_settleOnce_76 ?_
          refine q_zast X (hF7 ho) (by decide) (Or.inl rfl) dX0_settleOnce_77 ?_
          refine q_iinc X [(1, .int (oi (x1 + 1))), (0, .ref (ad o))] dX0_settleOnce_78 (by decide) 1 rfl rfl (fun h7 => ?_)
          refine q_goto X 22 dX0_settleOnce_81 (by decide) ?_
          refine q_sub [(0, .ref (ad o)), (1, .int (oi (x1 + 1)))] [1, 0] rfl ?_
          exact ih (x1 + 1) (stI σ (o + 7) (Int.toNat x1) 0) h7
        · refine q_aload_n X dX0_settleOnce_58 0 rfl ?_
          refine fg_X0_43 ho X dX0_settleOnce_59 ?_
          refine q_aload_n X dX0_settleOnce_62 0 rfl ?_
          refine fg_X0_40 ho X dX0_settleOnce_63 ?_
          refine q_iload_n X dX0_settleOnce_66 1 rfl ?_
          refine q_iald X (hF6 ho) (by decide) dX0_settleOnce_67 (fun h8 => ?_)
          refine q_zald X (hF7 ho) (by decide) dX0_settleOnce_68 (fun h9 => ?_)
          refine q_if_eq X h9 76 dX0_settleOnce_69 (by decide) (fun h10 => ?_) (fun h10 => ?_)
          · refine q_iconst X dX0_settleOnce_76 ?_
            refine q_zast X (hF7 ho) (by decide) (Or.inl rfl) dX0_settleOnce_77 ?_
            refine q_iinc X [(1, .int (oi (x1 + 1))), (0, .ref (ad o))] dX0_settleOnce_78 (by decide) 1 rfl rfl (fun h11 => ?_)
            refine q_goto X 22 dX0_settleOnce_81 (by decide) ?_
            refine q_sub [(0, .ref (ad o)), (1, .int (oi (x1 + 1)))] [1, 0] rfl ?_
            exact ih (x1 + 1) (stI σ (o + 7) (Int.toNat x1) 0) h11
          · refine q_iconst X dX0_settleOnce_72 ?_
            refine q_goto X 77 dX0_settleOnce_73 (by decide) ?_
            refine q_zast X (hF7 ho) (by decide) (Or.inr rfl) dX0_settleOnce_77 ?_
            refine q_iinc X [(1, .int (oi (x1 + 1))), (0, .ref (ad o))] dX0_settleOnce_78 (by decide) 1 rfl rfl (fun h12 => ?_)
            refine q_goto X 22 dX0_settleOnce_81 (by decide) ?_
            refine q_sub [(0, .ref (ad o)), (1, .int (oi (x1 + 1)))] [1, 0] rfl ?_
            exact ih (x1 + 1) (stI σ (o + 7) (Int.toNat x1) 1) h12
      · refine q_iconst X dX0_settleOnce_76 ?_
        refine q_zast X (hF7 ho) (by decide) (Or.inl rfl) dX0_settleOnce_77 ?_
        refine q_iinc X [(1, .int (oi (x1 + 1))), (0, .ref (ad o))] dX0_settleOnce_78 (by decide) 1 rfl rfl (fun h13 => ?_)
        refine q_goto X 22 dX0_settleOnce_81 (by decide) ?_
        refine q_sub [(0, .ref (ad o)), (1, .int (oi (x1 + 1)))] [1, 0] rfl ?_
        exact ih (x1 + 1) (stI σ (o + 7) (Int.toNat x1) 0) h13
def f_X0_settleOnce (o : Nat) (σ : Mm) : Option (Mm) :=
  ck ((0 : Int) ≤ 0 ∧ 0 < ((80 : Nat) : Int)) ((if (σ.1 (o + 5) 0) = 0 then ck ((0 : Int) ≤ 0 ∧ 0 < ((80 : Nat) : Int)) (f_X0_settleOnce_22 o 2000 1 (stI σ (o + 7) 0 1)) else ck ((0 : Int) ≤ 0 ∧ 0 < ((80 : Nat) : Int)) (f_X0_settleOnce_22 o 2000 1 (stI σ (o + 7) 0 0))))
theorem hd_X0_settleOnce : yX0_settleOnce.cls = RX0 ∧ yX0_settleOnce.cls ≠ "java/lang/invoke/MethodHandle" ∧ yX0_settleOnce.cls ≠ "java/lang/invoke/VarHandle" ∧ (parseMethodDescriptor yX0_settleOnce.desc).map (fun d => d.parameters.length) = some 0 := by decide +kernel
set_option maxRecDepth 100000 in
set_option maxHeartbeats 4000000 in
theorem c_X0_settleOnce {l : Launch} {D : va_G} {ca : Nat → ClassId} {ad : Nat → Nat} {o : Nat} (ho : o = 15 ∨ o = 29) {σ : Mm} : CtV l D vcl ca ad shC NC yX0_settleOnce (Cond.code yX0_settleOnce cX0_settleOnce 2 none :: tbG) { frames := 0, cells := 0, slots := 0, locals := 0 } [.ref (ad o)] σ (f_X0_settleOnce o σ) := by
  refine ct_V RX0 rfl (by decide) rfl (Nat.le_of_ble_eq_true rfl) (fun p e s m below meth c res X hN hr hlk => ?_)
  show GX0_settleOnce p l e s m _ below meth c D ca ad res 0 [(0, .ref (ad o))] [] σ (f_X0_settleOnce o σ)
  unfold f_X0_settleOnce
  refine q_aload_n X dX0_settleOnce_0 0 rfl ?_
  refine fg_X0_43 ho X dX0_settleOnce_1 ?_
  refine q_iconst X dX0_settleOnce_4 ?_
  refine q_aload_n X dX0_settleOnce_5 0 rfl ?_
  refine fg_X0_36 ho X dX0_settleOnce_6 ?_
  refine q_iconst X dX0_settleOnce_9 ?_
  refine q_iald X (hF5 ho) (by decide) dX0_settleOnce_10 (fun h14 => ?_)
  refine q_if_ne X h14 18 dX0_settleOnce_11 (by decide) (fun h15 => ?_) (fun h15 => ?_)
  · refine q_iconst X dX0_settleOnce_14 ?_
    refine q_goto X 19 dX0_settleOnce_15 (by decide) ?_
    refine q_zast X (hF7 ho) (by decide) (Or.inr rfl) dX0_settleOnce_19 ?_
    refine q_iconst X dX0_settleOnce_20 ?_
    refine q_istore_n X [(1, .int (oi 1)), (0, .ref (ad o))] dX0_settleOnce_21 (by decide) rfl ?_
    refine q_sub [(0, .ref (ad o)), (1, .int (oi 1))] [1, 0] rfl ?_
    exact t_X0_settleOnce_22 X hN hr hlk ho 2000 1 (stI σ (o + 7) 0 1) (by decide)
  · refine q_iconst X dX0_settleOnce_18 ?_
    refine q_zast X (hF7 ho) (by decide) (Or.inl rfl) dX0_settleOnce_19 ?_
    refine q_iconst X dX0_settleOnce_20 ?_
    refine q_istore_n X [(1, .int (oi 1)), (0, .ref (ad o))] dX0_settleOnce_21 (by decide) rfl ?_
    refine q_sub [(0, .ref (ad o)), (1, .int (oi 1))] [1, 0] rfl ?_
    exact t_X0_settleOnce_22 X hN hr hlk ho 2000 1 (stI σ (o + 7) 0 0) (by decide)

/-! SiteObjects$Finding.countLeaders()V -/
abbrev GX0_countLeaders (p : Program) (l : Launch) (e : Env) (s : State) (m : MethodId) (args : Array Value) (below : List Frame) (meth : Method) (c : Code) (D : va_G) (ca : Nat → ClassId) (ad : Nat → Nat) (res : Mm) : Nat → List (Nat × Value) → List Value → Mm → Option (Mm) → Prop := G p l e { frames := 3, cells := 0, slots := 0, locals := 72 } s m args below meth c (MQ below (QcV D vcl ca ad shC s.heap.size res) args s 0 0 (Aw ad shC.length s.heap.size)) 5 D vcl ca ad shC (Aw ad shC.length s.heap.size) res
def f_X0_countLeaders_33 (o : Nat) (k10 : Int → Mm → Option (Mm)) : Nat → Int → Int → Int → Mm → Option (Mm)
  | 0, _, _, _, _ => none
  | n + 1, x1, x2, x3, σ => ck ((0 : Int) ≤ x2 ∧ x2 < ((12 : Nat) : Int)) ((if (σ.1 6 (Int.toNat x2)) ≤ x3 then ck (inR (x1 + 1)) (k10 (x1 + 1) σ) else (f_X3_stepAt x2 x3 σ).bind (fun r4 => (f_X3_isLeading r4 σ).bind (fun r7 => (if r7 = 0 then ck (inR (x3 + 1)) (f_X0_countLeaders_33 o k10 n x1 x2 (x3 + 1) σ) else (f_X0_reach o x1 r4 σ).bind (fun r12 => (f_X0_countReached o x1 r12).bind (fun r15 => ck (inR (x3 + 1)) (f_X0_countLeaders_33 o k10 n x1 x2 (x3 + 1) r15))))))))
set_option maxRecDepth 100000 in
set_option maxHeartbeats 4000000 in
theorem t_X0_countLeaders_33 {p : Program} {l : Launch} {e : Env} {s : State} {m : MethodId} {args : Array Value} {below : List Frame} {meth : Method} {c : Code} {D : va_G} {ca : Nat → ClassId} {ad : Nat → Nat} {res : Mm} {o : Nat} {k10 : Int → Mm → Option (Mm)} (X : Cx p s m args c cX0_countLeaders 5 RX0 (Cond.code yX0_countLeaders cX0_countLeaders 5 none :: tbG) D vcl ca) (hN : NC s) (hr : meth.sig.returnType = none) (hlk : meth.locks = false) (ho : o = 15 ∨ o = 29) (hk10 : ∀ (x1 : Int) (σ : Mm), inR x1 → GX0_countLeaders p l e s m args below meth c D ca ad res 10 [(0, .ref (ad o)), (1, .int (oi x1))] [] σ (k10 x1 σ)) : ∀ (n : Nat) (x1 : Int) (x2 : Int) (x3 : Int) (σ : Mm), inR x1 → inR x2 → inR x3 → GX0_countLeaders p l e s m args below meth c D ca ad res 33 [(0, .ref (ad o)), (1, .int (oi x1)), (2, .int (oi x2)), (3, .int (oi x3))] [] σ (f_X0_countLeaders_33 o k10 n x1 x2 x3 σ)
  := by
  intro n
  induction n with
  | zero => intro x1 x2 x3 σ hx1 hx2 hx3 h; cases h
  | succ n ih =>
    intro x1 x2 x3 σ hx1 hx2 hx3
    rw [f_X0_countLeaders_33]
    refine q_iload_n X dX0_countLeaders_33 3 rfl ?_
    refine q_aload_n X dX0_countLeaders_34 0 rfl ?_
    refine fg_X0_50 ho X dX0_countLeaders_35 ?_
    refine fg_X0_95 X dX0_countLeaders_38 ?_
    refine q_iload_n X dX0_countLeaders_41 2 rfl ?_
    refine q_iald X hC6 (by decide) dX0_countLeaders_42 (fun h1 => ?_)
    refine q_icmp_ge X hx3 h1 87 dX0_countLeaders_43 (by decide) (fun h2 => ?_) (fun h2 => ?_)
    · refine q_iinc X [(1, .int (oi (x1 + 1))), (0, .ref (ad o)), (2, .int (oi x2)), (3, .int (oi x3))] dX0_countLeaders_87 (by decide) 1 rfl rfl (fun h3 => ?_)
      refine q_goto X 10 dX0_countLeaders_90 (by decide) ?_
      refine q_sub [(0, .ref (ad o)), (1, .int (oi (x1 + 1)))] [1, 0] rfl ?_
      exact hk10 (x1 + 1) σ h3
    · refine q_aload_n X dX0_countLeaders_46 0 rfl ?_
      refine fg_X0_50 ho X dX0_countLeaders_47 ?_
      refine q_iload_n X dX0_countLeaders_50 2 rfl ?_
      refine q_iload_n X dX0_countLeaders_51 3 rfl ?_
      refine q_callIp X NCok hN Aw_new (c_X3_stepAt hx2 hx3) (rn_V X (cwV 2 X.2.2.2.2.1 (tbG_good _ (tbG_V mw_427 mw_428 mw_429 mw_2 mw_430)) rfl rfl rfl hd_X3_stepAt ⟨by decide, by decide⟩) hC1 rfl rfl rfl (Nat.le_of_ble_eq_true rfl) dX0_countLeaders_52) (fun r4 _ h6 => ?_)
      refine q_istore X [(4, .int (oi r4)), (0, .ref (ad o)), (1, .int (oi x1)), (2, .int (oi x2)), (3, .int (oi x3))] dX0_countLeaders_55 (by decide) rfl ?_
      refine q_aload_n X dX0_countLeaders_57 1 rfl ?_
      refine fg_X0_50 ho X dX0_countLeaders_58 ?_
      refine q_iload X dX0_countLeaders_61 0 rfl ?_
      refine q_callIp X NCok hN Aw_new (c_X3_isLeading h6) (rn_V X (cwV 1 X.2.2.2.2.1 (tbG_good _ (tbG_V mw_530 mw_531 mw_532 mw_2 mw_533)) rfl rfl rfl hd_X3_isLeading ⟨by decide, by decide⟩) hC1 rfl rfl rfl (Nat.le_of_ble_eq_true rfl) dX0_countLeaders_63) (fun r7 _ h9 => ?_)
      refine q_if_eq X h9 81 dX0_countLeaders_66 (by decide) (fun h10 => ?_) (fun h10 => ?_)
      · refine q_iinc X [(3, .int (oi (x3 + 1))), (4, .int (oi r4)), (0, .ref (ad o)), (1, .int (oi x1)), (2, .int (oi x2))] dX0_countLeaders_81 (by decide) 4 rfl rfl (fun h11 => ?_)
        refine q_goto X 33 dX0_countLeaders_84 (by decide) ?_
        refine q_sub [(0, .ref (ad o)), (1, .int (oi x1)), (2, .int (oi x2)), (3, .int (oi (x3 + 1)))] [2, 3, 4, 0] rfl ?_
        exact ih x1 x2 (x3 + 1) σ hx1 hx2 h11
      · refine q_aload_n X dX0_countLeaders_69 1 rfl ?_
        refine q_iload_n X dX0_countLeaders_70 2 rfl ?_
        refine q_iload X dX0_countLeaders_71 0 rfl ?_
        refine q_callV X NCok hN Aw_new (c_X0_reach ho hx1 h6) (rn_V X (cwV 2 X.2.2.2.2.1 (tbG_good _ (tbG_V mw_534 mw_536 mp_2_3 mw_4 mw_537)) rfl rfl rfl hd_X0_reach ⟨by decide, by decide⟩) (hO0 ho) rfl rfl rfl (Nat.le_of_ble_eq_true rfl) dX0_countLeaders_73) (fun r12 _ => ?_)
        refine q_aload_n X dX0_countLeaders_76 1 rfl ?_
        refine q_iload_n X dX0_countLeaders_77 2 rfl ?_
        refine q_callV X NCok hN Aw_new (c_X0_countReached ho hx1) (rn_V X (cwV 1 X.2.2.2.2.1 (tbG_good _ (tbG_V mw_542 mw_544 mp_2_5 mw_4 mw_545)) rfl rfl rfl hd_X0_countReached ⟨by decide, by decide⟩) (hO0 ho) rfl rfl rfl (Nat.le_of_ble_eq_true rfl) dX0_countLeaders_78) (fun r15 _ => ?_)
        refine q_iinc X [(3, .int (oi (x3 + 1))), (4, .int (oi r4)), (0, .ref (ad o)), (1, .int (oi x1)), (2, .int (oi x2))] dX0_countLeaders_81 (by decide) 4 rfl rfl (fun h18 => ?_)
        refine q_goto X 33 dX0_countLeaders_84 (by decide) ?_
        refine q_sub [(0, .ref (ad o)), (1, .int (oi x1)), (2, .int (oi x2)), (3, .int (oi (x3 + 1)))] [2, 3, 4, 0] rfl ?_
        exact ih x1 x2 (x3 + 1) r15 hx1 hx2 h18
def f_X0_countLeaders_10 (o : Nat) : Nat → Int → Mm → Option (Mm)
  | 0, _, _ => none
  | n + 1, x1, σ => (if (σ.1 (o + 9) 2) ≤ x1 then (f_X0_settleOnce o σ).bind (fun r21 => some r21) else ck ((0 : Int) ≤ x1 ∧ x1 < ((80 : Nat) : Int)) (f_X0_countLeaders_33 o (f_X0_countLeaders_10 o n) 2000 x1 (σ.1 (o + 10) (Int.toNat x1)) 0 σ))
set_option maxRecDepth 100000 in
set_option maxHeartbeats 4000000 in
theorem t_X0_countLeaders_10 {p : Program} {l : Launch} {e : Env} {s : State} {m : MethodId} {args : Array Value} {below : List Frame} {meth : Method} {c : Code} {D : va_G} {ca : Nat → ClassId} {ad : Nat → Nat} {res : Mm} {o : Nat} (X : Cx p s m args c cX0_countLeaders 5 RX0 (Cond.code yX0_countLeaders cX0_countLeaders 5 none :: tbG) D vcl ca) (hN : NC s) (hr : meth.sig.returnType = none) (hlk : meth.locks = false) (ho : o = 15 ∨ o = 29) : ∀ (n : Nat) (x1 : Int) (σ : Mm), inR x1 → GX0_countLeaders p l e s m args below meth c D ca ad res 10 [(0, .ref (ad o)), (1, .int (oi x1))] [] σ (f_X0_countLeaders_10 o n x1 σ)
  := by
  intro n
  induction n with
  | zero => intro x1 σ hx1 h; cases h
  | succ n ih =>
    intro x1 σ hx1
    rw [f_X0_countLeaders_10]
    refine q_iload_n X dX0_countLeaders_10 1 rfl ?_
    refine q_aload_n X dX0_countLeaders_11 0 rfl ?_
    refine fg_X0_57 ho X dX0_countLeaders_12 ?_
    refine fg_X0_89 ho X dX0_countLeaders_15 (fun h19 => ?_)
    refine q_icmp_ge X hx1 h19 93 dX0_countLeaders_18 (by decide) (fun h20 => ?_) (fun h20 => ?_)
    · refine q_aload_n X dX0_countLeaders_93 0 rfl ?_
      refine q_callV X NCok hN Aw_new (c_X0_settleOnce ho) (rn_V X (cwV 0 X.2.2.2.2.1 (tbG_good _ (tbG_V mw_550 mw_552 mp_2_7 mw_4 mw_553)) rfl rfl rfl hd_X0_settleOnce ⟨by decide, by decide⟩) (hO0 ho) rfl rfl rfl (Nat.le_of_ble_eq_true rfl) dX0_countLeaders_94) (fun r21 _ => ?_)
      exact q_vret X hr hlk dX0_countLeaders_97
    · refine q_aload_n X dX0_countLeaders_21 0 rfl ?_
      refine fg_X0_57 ho X dX0_countLeaders_22 ?_
      refine fg_X0_92 ho X dX0_countLeaders_25 ?_
      refine q_iload_n X dX0_countLeaders_28 1 rfl ?_
      refine q_iald X (hF10 ho) (by decide) dX0_countLeaders_29 (fun h24 => ?_)
      refine q_istore_n X [(2, .int (oi (σ.1 (o + 10) (Int.toNat x1)))), (0, .ref (ad o)), (1, .int (oi x1))] dX0_countLeaders_30 (by decide) rfl ?_
      refine q_iconst X dX0_countLeaders_31 ?_
      refine q_istore_n X [(3, .int (oi 0)), (2, .int (oi (σ.1 (o + 10) (Int.toNat x1)))), (0, .ref (ad o)), (1, .int (oi x1))] dX0_countLeaders_32 (by decide) rfl ?_
      refine q_sub [(0, .ref (ad o)), (1, .int (oi x1)), (2, .int (oi (σ.1 (o + 10) (Int.toNat x1)))), (3, .int (oi 0))] [2, 3, 1, 0] rfl ?_
      exact t_X0_countLeaders_33 X hN hr hlk ho ih 2000 x1 (σ.1 (o + 10) (Int.toNat x1)) 0 σ hx1 h24 (by decide)
def f_X0_countLeaders (o : Nat) (σ : Mm) : Option (Mm) :=
  (f_J7_fill_53178 80 (o + 5) 0 σ).bind (fun r25 => f_X0_countLeaders_10 o 2000 0 r25)
theorem hd_X0_countLeaders : yX0_countLeaders.cls = RX0 ∧ yX0_countLeaders.cls ≠ "java/lang/invoke/MethodHandle" ∧ yX0_countLeaders.cls ≠ "java/lang/invoke/VarHandle" ∧ (parseMethodDescriptor yX0_countLeaders.desc).map (fun d => d.parameters.length) = some 0 := by decide +kernel
set_option maxRecDepth 100000 in
set_option maxHeartbeats 4000000 in
theorem c_X0_countLeaders {l : Launch} {D : va_G} {ca : Nat → ClassId} {ad : Nat → Nat} {o : Nat} (ho : o = 15 ∨ o = 29) {σ : Mm} : CtV l D vcl ca ad shC NC yX0_countLeaders (Cond.code yX0_countLeaders cX0_countLeaders 5 none :: tbG) { frames := 3, cells := 0, slots := 0, locals := 72 } [.ref (ad o)] σ (f_X0_countLeaders o σ) := by
  refine ct_V RX0 rfl (by decide) rfl (Nat.le_of_ble_eq_true rfl) (fun p e s m below meth c res X hN hr hlk => ?_)
  show GX0_countLeaders p l e s m _ below meth c D ca ad res 0 [(0, .ref (ad o))] [] σ (f_X0_countLeaders o σ)
  unfold f_X0_countLeaders
  refine q_aload_n X dX0_countLeaders_0 0 rfl ?_
  refine fg_X0_36 ho X dX0_countLeaders_1 ?_
  refine q_iconst X dX0_countLeaders_4 ?_
  refine q_callV X NCok hN Aw_new (c_J7_fill_53178 (hF5 ho) (by decide) (by decide)) (rn_S X (va_cwS 2 X.2.2.2.2.1 (tbG_good _ (tbG_S mw_529 mw_27 mw_3 mw_28)) rfl rfl rfl hd_J7_fill_53178 ⟨by decide, by decide⟩) rfl rfl (Nat.le_of_ble_eq_true rfl) dX0_countLeaders_5) (fun r25 _ => ?_)
  refine q_iconst X dX0_countLeaders_8 ?_
  refine q_istore_n X [(1, .int (oi 0)), (0, .ref (ad o))] dX0_countLeaders_9 (by decide) rfl ?_
  refine q_sub [(0, .ref (ad o)), (1, .int (oi 0))] [1, 0] rfl ?_
  exact t_X0_countLeaders_10 X hN hr hlk ho 2000 0 r25 (by decide)

/-! SiteObjects$Finding.find(III)I -/
abbrev GX0_find (p : Program) (l : Launch) (e : Env) (s : State) (m : MethodId) (args : Array Value) (below : List Frame) (meth : Method) (c : Code) (D : va_G) (ca : Nat → ClassId) (ad : Nat → Nat) (res : Int × Mm) : Nat → List (Nat × Value) → List Value → Mm → Option (Int × Mm) → Prop := G p l e { frames := 6, cells := 0, slots := 0, locals := 158 } s m args below meth c (MQ below (QcI D vcl ca ad shC s.heap.size res) args s 0 0 (Aw ad shC.length s.heap.size)) 5 D vcl ca ad shC (Aw ad shC.length s.heap.size) res
def f_X0_find_3 (o : Nat) : Nat → Int → Int → Int → Mm → Option (Int × Mm)
  | 0, _, _, _, _ => none
  | n + 1, x1, x2, x4, σ => (if x4 < 0 then (f_X0_countLeaders o σ).bind (fun r2 => some ((r2.1 (o + 9) 1), r2)) else (f_X0_attempt o x1 x2 x4 σ).bind (fun r6 => (if (r6.1 (o + 9) 4) = 0 then (f_X0_countLeaders o r6).bind (fun r11 => some ((r11.1 (o + 9) 1), r11)) else ck (inR (x4 + (-1))) (f_X0_find_3 o n x1 x2 (x4 + (-1)) r6))))
set_option maxRecDepth 100000 in
set_option maxHeartbeats 4000000 in
theorem t_X0_find_3 {p : Program} {l : Launch} {e : Env} {s : State} {m : MethodId} {args : Array Value} {below : List Frame} {meth : Method} {c : Code} {D : va_G} {ca : Nat → ClassId} {ad : Nat → Nat} {res : Int × Mm} {o : Nat} (X : Cx p s m args c cX0_find 5 RX0 (Cond.code yX0_find cX0_find 5 (some .int) :: tbG) D vcl ca) (hN : NC s) (hr : meth.sig.returnType = (some .int)) (hlk : meth.locks = false) (ho : o = 15 ∨ o = 29) : ∀ (n : Nat) (x1 : Int) (x2 : Int) (x4 : Int) (σ : Mm), inR x1 → inR x2 → inR x4 → GX0_find p l e s m args below meth c D ca ad res 3 [(0, .ref (ad o)), (1, .int (oi x1)), (2, .int (oi x2)), (4, .int (oi x4))] [] σ (f_X0_find_3 o n x1 x2 x4 σ)
  := by
  intro n
  induction n with
  | zero => intro x1 x2 x4 σ hx1 hx2 hx4 h; cases h
  | succ n ih =>
    intro x1 x2 x4 σ hx1 hx2 hx4
    rw [f_X0_find_3]
    refine q_iload X dX0_find_3 3 rfl ?_
    refine q_if_lt X hx4 35 dX0_find_5 (by decide) (fun h1 => ?_) (fun h1 => ?_)
    · refine q_aload_n X dX0_find_35 0 rfl ?_
      refine q_callV X NCok hN Aw_new (c_X0_countLeaders ho) (rn_V X (cwV 0 X.2.2.2.2.1 (tbG_good _ (tbG_V mw_525 mw_527 mp_2_2 mw_4 mw_528)) rfl rfl rfl hd_X0_countLeaders ⟨by decide, by decide⟩) (hO0 ho) rfl rfl rfl (Nat.le_of_ble_eq_true rfl) dX0_find_36) (fun r2 _ => ?_)
      refine q_aload_n X dX0_find_39 0 rfl ?_
      refine fg_X0_57 ho X dX0_find_40 ?_
      refine fg_X0_71 ho X dX0_find_43 (fun h5 => ?_)
      exact q_iret X h5 hr hlk dX0_find_46
    · refine q_aload_n X dX0_find_8 0 rfl ?_
      refine q_iload_n X dX0_find_9 1 rfl ?_
      refine q_iload_n X dX0_find_10 2 rfl ?_
      refine q_iload X dX0_find_11 3 rfl ?_
      refine q_callV X NCok hN Aw_new (c_X0_attempt ho hx1 hx2 hx4) (rn_V X (cwV 3 X.2.2.2.2.1 (tbG_good _ (tbG_V mw_403 mw_405 mp_1_2 mw_4 mw_406)) rfl rfl rfl hd_X0_attempt ⟨by decide, by decide⟩) (hO0 ho) rfl rfl rfl (Nat.le_of_ble_eq_true rfl) dX0_find_13) (fun r6 _ => ?_)
      refine q_aload_n X dX0_find_16 0 rfl ?_
      refine fg_X0_57 ho X dX0_find_17 ?_
      refine fg_X0_65 ho X dX0_find_20 (fun h9 => ?_)
      refine q_if_ne X h9 29 dX0_find_23 (by decide) (fun h10 => ?_) (fun h10 => ?_)
      · refine q_goto X 35 dX0_find_26 (by decide) ?_
        refine q_aload_n X dX0_find_35 0 rfl ?_
        refine q_callV X NCok hN Aw_new (c_X0_countLeaders ho) (rn_V X (cwV 0 X.2.2.2.2.1 (tbG_good _ (tbG_V mw_525 mw_527 mp_2_2 mw_4 mw_528)) rfl rfl rfl hd_X0_countLeaders ⟨by decide, by decide⟩) (hO0 ho) rfl rfl rfl (Nat.le_of_ble_eq_true rfl) dX0_find_36) (fun r11 _ => ?_)
        refine q_aload_n X dX0_find_39 0 rfl ?_
        refine fg_X0_57 ho X dX0_find_40 ?_
        refine fg_X0_71 ho X dX0_find_43 (fun h14 => ?_)
        exact q_iret X h14 hr hlk dX0_find_46
      · refine q_iinc X [(4, .int (oi (x4 + (-1)))), (0, .ref (ad o)), (1, .int (oi x1)), (2, .int (oi x2))] dX0_find_29 (by decide) 3 rfl rfl (fun h15 => ?_)
        refine q_goto X 3 dX0_find_32 (by decide) ?_
        refine q_sub [(0, .ref (ad o)), (1, .int (oi x1)), (2, .int (oi x2)), (4, .int (oi (x4 + (-1))))] [1, 2, 3, 0] rfl ?_
        exact ih x1 x2 (x4 + (-1)) r6 hx1 hx2 h15
def f_X0_find (o : Nat) (x1 : Int) (x2 : Int) (x3 : Int) (σ : Mm) : Option (Int × Mm) :=
  f_X0_find_3 o 2000 x1 x2 x3 σ
theorem hd_X0_find : yX0_find.cls = RX0 ∧ yX0_find.cls ≠ "java/lang/invoke/MethodHandle" ∧ yX0_find.cls ≠ "java/lang/invoke/VarHandle" ∧ (parseMethodDescriptor yX0_find.desc).map (fun d => d.parameters.length) = some 3 := by decide +kernel
set_option maxRecDepth 100000 in
set_option maxHeartbeats 4000000 in
theorem c_X0_find {l : Launch} {D : va_G} {ca : Nat → ClassId} {ad : Nat → Nat} {o : Nat} {x1 : Int} {x2 : Int} {x3 : Int} (ho : o = 15 ∨ o = 29) (hx1 : inR x1) (hx2 : inR x2) (hx3 : inR x3) {σ : Mm} : CtI l D vcl ca ad shC NC yX0_find (Cond.code yX0_find cX0_find 5 (some .int) :: tbG) { frames := 6, cells := 0, slots := 0, locals := 158 } [.ref (ad o), .int (oi x1), .int (oi x2), .int (oi x3)] σ (f_X0_find o x1 x2 x3 σ) := by
  refine ct_I RX0 rfl (by decide) rfl (Nat.le_of_ble_eq_true rfl) (fun p e s m below meth c res X hN hr hlk => ?_)
  show GX0_find p l e s m _ below meth c D ca ad res 0 [(0, .ref (ad o)), (1, .int (oi x1)), (2, .int (oi x2)), (3, .int (oi x3))] [] σ (f_X0_find o x1 x2 x3 σ)
  unfold f_X0_find
  refine q_iload_n X dX0_find_0 3 rfl ?_
  refine q_istore X [(4, .int (oi x3)), (0, .ref (ad o)), (1, .int (oi x1)), (2, .int (oi x2)), (3, .int (oi x3))] dX0_find_1 (by decide) rfl ?_
  refine q_sub [(0, .ref (ad o)), (1, .int (oi x1)), (2, .int (oi x2)), (4, .int (oi x3))] [1, 2, 3, 0] rfl ?_
  exact t_X0_find_3 X hN hr hlk ho 2000 x1 x2 x3 σ hx1 hx2 hx3

/-! SiteObjects$Finding.reachedAt(III)I -/
abbrev GX0_reachedAt (p : Program) (l : Launch) (e : Env) (s : State) (m : MethodId) (args : Array Value) (below : List Frame) (meth : Method) (c : Code) (D : va_G) (ca : Nat → ClassId) (ad : Nat → Nat) (res : Int × Mm) : Nat → List (Nat × Value) → List Value → Mm → Option (Int × Mm) → Prop := G p l e { frames := 3, cells := 0, slots := 0, locals := 72 } s m args below meth c (MQ below (QcI D vcl ca ad shC s.heap.size res) args s 0 0 (Aw ad shC.length s.heap.size)) 6 D vcl ca ad shC (Aw ad shC.length s.heap.size) res
def f_X0_reachedAt_19 (o : Nat) : Nat → Int → Int → Mm → Option (Int × Mm)
  | 0, _, _, _ => none
  | n + 1, x4, x5, σ => (if (σ.1 (o + 9) 2) ≤ x5 then some ((-9), σ) else (f_X0_isReached o x5 σ).bind (fun r3 => (if r3 = 0 then ck (inR (x5 + 1)) (f_X0_reachedAt_19 o n x4 (x5 + 1) σ) else (if x4 = 0 then some (x5, σ) else ck (inR (x4 + (-1))) (ck (inR (x5 + 1)) (f_X0_reachedAt_19 o n (x4 + (-1)) (x5 + 1) σ))))))
set_option maxRecDepth 100000 in
set_option maxHeartbeats 4000000 in
theorem t_X0_reachedAt_19 {p : Program} {l : Launch} {e : Env} {s : State} {m : MethodId} {args : Array Value} {below : List Frame} {meth : Method} {c : Code} {D : va_G} {ca : Nat → ClassId} {ad : Nat → Nat} {res : Int × Mm} {o : Nat} (X : Cx p s m args c cX0_reachedAt 6 RX0 (Cond.code yX0_reachedAt cX0_reachedAt 6 (some .int) :: tbG) D vcl ca) (hN : NC s) (hr : meth.sig.returnType = (some .int)) (hlk : meth.locks = false) (ho : o = 15 ∨ o = 29) : ∀ (n : Nat) (x4 : Int) (x5 : Int) (σ : Mm), inR x4 → inR x5 → GX0_reachedAt p l e s m args below meth c D ca ad res 19 [(0, .ref (ad o)), (4, .int (oi x4)), (5, .int (oi x5))] [] σ (f_X0_reachedAt_19 o n x4 x5 σ)
  := by
  intro n
  induction n with
  | zero => intro x4 x5 σ hx4 hx5 h; cases h
  | succ n ih =>
    intro x4 x5 σ hx4 hx5
    rw [f_X0_reachedAt_19]
    refine q_iload X dX0_reachedAt_19 2 rfl ?_
    refine q_aload_n X dX0_reachedAt_21 0 rfl ?_
    refine fg_X0_57 ho X dX0_reachedAt_22 ?_
    refine fg_X0_89 ho X dX0_reachedAt_25 (fun h1 => ?_)
    refine q_icmp_ge X hx5 h1 57 dX0_reachedAt_28 (by decide) (fun h2 => ?_) (fun h2 => ?_)
    · refine q_bipush X dX0_reachedAt_57 (by decide) ?_
      exact q_iret X (by decide) hr hlk dX0_reachedAt_59
    · refine q_aload_n X dX0_reachedAt_31 0 rfl ?_
      refine q_iload X dX0_reachedAt_32 2 rfl ?_
      refine q_callIp X NCok hN Aw_new (c_X0_isReached ho hx5) (rn_V X (cwV 1 X.2.2.2.2.1 (tbG_good _ (tbG_V mw_546 mw_548 mp_2_6 mw_4 mw_549)) rfl rfl rfl hd_X0_isReached ⟨by decide, by decide⟩) (hO0 ho) rfl rfl rfl (Nat.le_of_ble_eq_true rfl) dX0_reachedAt_34) (fun r3 _ h5 => ?_)
      refine q_if_eq X h5 51 dX0_reachedAt_37 (by decide) (fun h6 => ?_) (fun h6 => ?_)
      · refine q_iinc X [(5, .int (oi (x5 + 1))), (0, .ref (ad o)), (4, .int (oi x4))] dX0_reachedAt_51 (by decide) 2 rfl rfl (fun h7 => ?_)
        refine q_goto X 19 dX0_reachedAt_54 (by decide) ?_
        refine q_sub [(0, .ref (ad o)), (4, .int (oi x4)), (5, .int (oi (x5 + 1)))] [1, 2, 0] rfl ?_
        exact ih x4 (x5 + 1) σ hx4 h7
      · refine q_iload X dX0_reachedAt_40 1 rfl ?_
        refine q_if_ne X hx4 48 dX0_reachedAt_42 (by decide) (fun h8 => ?_) (fun h8 => ?_)
        · refine q_iload X dX0_reachedAt_45 2 rfl ?_
          exact q_iret X hx5 hr hlk dX0_reachedAt_47
        · refine q_iinc X [(4, .int (oi (x4 + (-1)))), (0, .ref (ad o)), (5, .int (oi x5))] dX0_reachedAt_48 (by decide) 1 rfl rfl (fun h9 => ?_)
          refine q_iinc X [(5, .int (oi (x5 + 1))), (4, .int (oi (x4 + (-1)))), (0, .ref (ad o))] dX0_reachedAt_51 (by decide) 2 rfl rfl (fun h10 => ?_)
          refine q_goto X 19 dX0_reachedAt_54 (by decide) ?_
          refine q_sub [(0, .ref (ad o)), (4, .int (oi (x4 + (-1)))), (5, .int (oi (x5 + 1)))] [2, 1, 0] rfl ?_
          exact ih (x4 + (-1)) (x5 + 1) σ h9 h10
def f_X0_reachedAt (o : Nat) (x1 : Int) (x2 : Int) (x3 : Int) (σ : Mm) : Option (Int × Mm) :=
  (if 0 ≤ x3 then (f_X0_reach o x1 x2 σ).bind (fun r12 => f_X0_reachedAt_19 o 2000 x3 0 r12) else some ((-9), σ))
theorem hd_X0_reachedAt : yX0_reachedAt.cls = RX0 ∧ yX0_reachedAt.cls ≠ "java/lang/invoke/MethodHandle" ∧ yX0_reachedAt.cls ≠ "java/lang/invoke/VarHandle" ∧ (parseMethodDescriptor yX0_reachedAt.desc).map (fun d => d.parameters.length) = some 3 := by decide +kernel
set_option maxRecDepth 100000 in
set_option maxHeartbeats 4000000 in
theorem c_X0_reachedAt {l : Launch} {D : va_G} {ca : Nat → ClassId} {ad : Nat → Nat} {o : Nat} {x1 : Int} {x2 : Int} {x3 : Int} (ho : o = 15 ∨ o = 29) (hx1 : inR x1) (hx2 : inR x2) (hx3 : inR x3) {σ : Mm} : CtI l D vcl ca ad shC NC yX0_reachedAt (Cond.code yX0_reachedAt cX0_reachedAt 6 (some .int) :: tbG) { frames := 3, cells := 0, slots := 0, locals := 72 } [.ref (ad o), .int (oi x1), .int (oi x2), .int (oi x3)] σ (f_X0_reachedAt o x1 x2 x3 σ) := by
  refine ct_I RX0 rfl (by decide) rfl (Nat.le_of_ble_eq_true rfl) (fun p e s m below meth c res X hN hr hlk => ?_)
  show GX0_reachedAt p l e s m _ below meth c D ca ad res 0 [(0, .ref (ad o)), (1, .int (oi x1)), (2, .int (oi x2)), (3, .int (oi x3))] [] σ (f_X0_reachedAt o x1 x2 x3 σ)
  unfold f_X0_reachedAt
  refine q_iload_n X dX0_reachedAt_0 3 rfl ?_
  refine q_if_ge X hx3 7 dX0_reachedAt_1 (by decide) (fun h11 => ?_) (fun h11 => ?_)
  · refine q_aload_n X dX0_reachedAt_7 0 rfl ?_
    refine q_iload_n X dX0_reachedAt_8 1 rfl ?_
    refine q_iload_n X dX0_reachedAt_9 2 rfl ?_
    refine q_callV X NCok hN Aw_new (c_X0_reach ho hx1 hx2) (rn_V X (cwV 2 X.2.2.2.2.1 (tbG_good _ (tbG_V mw_534 mw_536 mp_2_3 mw_4 mw_537)) rfl rfl rfl hd_X0_reach ⟨by decide, by decide⟩) (hO0 ho) rfl rfl rfl (Nat.le_of_ble_eq_true rfl) dX0_reachedAt_10) (fun r12 _ => ?_)
    refine q_iload_n X dX0_reachedAt_13 3 rfl ?_
    refine q_istore X [(4, .int (oi x3)), (0, .ref (ad o)), (1, .int (oi x1)), (2, .int (oi x2)), (3, .int (oi x3))] dX0_reachedAt_14 (by decide) rfl ?_
    refine q_iconst X dX0_reachedAt_16 ?_
    refine q_istore X [(5, .int (oi 0)), (4, .int (oi x3)), (0, .ref (ad o)), (1, .int (oi x1)), (2, .int (oi x2)), (3, .int (oi x3))] dX0_reachedAt_17 (by decide) rfl ?_
    refine q_sub [(0, .ref (ad o)), (4, .int (oi x3)), (5, .int (oi 0))] [2, 1, 0] rfl ?_
    exact t_X0_reachedAt_19 X hN hr hlk ho 2000 x3 0 r12 hx3 (by decide)
  · refine q_bipush X dX0_reachedAt_4 (by decide) ?_
    exact q_iret X (by decide) hr hlk dX0_reachedAt_6

/-! SiteObjects$Finding.namesIn(II)J -/
abbrev GX0_namesIn (p : Program) (l : Launch) (e : Env) (s : State) (m : MethodId) (args : Array Value) (below : List Frame) (meth : Method) (c : Code) (D : va_G) (ca : Nat → ClassId) (ad : Nat → Nat) (σ : Mm) (res : Int64) : Nat → List (Nat × Value) → List Value → Mm → Option (Int64) → Prop := G p l e { frames := 1, cells := 0, slots := 0, locals := 22 } s m args below meth c (MQ below (QcL D vcl ca ad shC s.heap.size (res, σ)) args s 0 0 (Aw ad shC.length s.heap.size)) 6 D vcl ca ad shC (Aw ad shC.length s.heap.size) res
def f_X0_namesIn_5 (o : Nat) : Nat → Int → Int → Int64 → Int → Mm → Option (Int64)
  | 0, _, _, _, _, _ => none
  | n + 1, x1, x2, x3, x5, σ => (if (σ.1 (o + 9) 2) ≤ x5 then some x3 else ck ((0 : Int) ≤ x5 ∧ x5 < ((80 : Nat) : Int)) ((if (σ.1 (o + 10) (Int.toNat x5)) = x1 then (f_X0_setOf o x5 x2 σ).bind (fun r5 => ck (inR (x5 + 1)) (f_X0_namesIn_5 o n x1 x2 (x3 ||| r5) (x5 + 1) σ)) else ck (inR (x5 + 1)) (f_X0_namesIn_5 o n x1 x2 x3 (x5 + 1) σ))))
set_option maxRecDepth 100000 in
set_option maxHeartbeats 4000000 in
theorem t_X0_namesIn_5 {p : Program} {l : Launch} {e : Env} {s : State} {m : MethodId} {args : Array Value} {below : List Frame} {meth : Method} {c : Code} {D : va_G} {ca : Nat → ClassId} {ad : Nat → Nat} {σ : Mm} {res : Int64} {o : Nat} (X : Cx p s m args c cX0_namesIn 6 RX0 (Cond.code yX0_namesIn cX0_namesIn 6 (some .long) :: tbG) D vcl ca) (hN : NC s) (hr : meth.sig.returnType = (some .long)) (hlk : meth.locks = false) (ho : o = 15 ∨ o = 29) : ∀ (n : Nat) (x1 : Int) (x2 : Int) (x3 : Int64) (x5 : Int), inR x1 → inR x2 → inR x5 → GX0_namesIn p l e s m args below meth c D ca ad σ res 5 [(0, .ref (ad o)), (1, .int (oi x1)), (2, .int (oi x2)), (3, .long x3), (5, .int (oi x5))] [] σ (f_X0_namesIn_5 o n x1 x2 x3 x5 σ)
  := by
  intro n
  induction n with
  | zero => intro x1 x2 x3 x5 hx1 hx2 hx5 h; cases h
  | succ n ih =>
    intro x1 x2 x3 x5 hx1 hx2 hx5
    rw [f_X0_namesIn_5]
    refine q_iload X dX0_namesIn_5 4 rfl ?_
    refine q_aload_n X dX0_namesIn_7 0 rfl ?_
    refine fg_X0_57 ho X dX0_namesIn_8 ?_
    refine fg_X0_89 ho X dX0_namesIn_11 (fun h1 => ?_)
    refine q_icmp_ge X hx5 h1 47 dX0_namesIn_14 (by decide) (fun h2 => ?_) (fun h2 => ?_)
    · refine q_lload_n X dX0_namesIn_47 3 rfl ?_
      exact q_lretp X hr hlk dX0_namesIn_48
    · refine q_aload_n X dX0_namesIn_17 0 rfl ?_
      refine fg_X0_57 ho X dX0_namesIn_18 ?_
      refine fg_X0_92 ho X dX0_namesIn_21 ?_
      refine q_iload X dX0_namesIn_24 4 rfl ?_
      refine q_iald X (hF10 ho) (by decide) dX0_namesIn_26 (fun h3 => ?_)
      refine q_iload_n X dX0_namesIn_27 1 rfl ?_
      refine q_icmp_ne X h3 hx1 41 dX0_namesIn_28 (by decide) (fun h4 => ?_) (fun h4 => ?_)
      · refine q_lload_n X dX0_namesIn_31 3 rfl ?_
        refine q_aload_n X dX0_namesIn_32 0 rfl ?_
        refine q_iload X dX0_namesIn_33 4 rfl ?_
        refine q_iload_n X dX0_namesIn_35 2 rfl ?_
        refine q_callLp X NCok hN Aw_new (c_X0_setOf ho hx5 hx2) (rn_V X (cwV 2 X.2.2.2.2.1 (tbG_good _ (tbG_V mw_457 mw_458 mw_459 mw_4 mw_460)) rfl rfl rfl hd_X0_setOf ⟨by decide, by decide⟩) (hO0 ho) rfl rfl rfl (Nat.le_of_ble_eq_true rfl) dX0_namesIn_36) (fun r5 _ => ?_)
        refine q_lor X dX0_namesIn_39 ?_
        refine q_lstore_n X [(3, .long (x3 ||| r5)), (0, .ref (ad o)), (1, .int (oi x1)), (2, .int (oi x2)), (5, .int (oi x5))] dX0_namesIn_40 (by decide) rfl ?_
        refine q_iinc X [(5, .int (oi (x5 + 1))), (3, .long (x3 ||| r5)), (0, .ref (ad o)), (1, .int (oi x1)), (2, .int (oi x2))] dX0_namesIn_41 (by decide) 4 rfl rfl (fun h8 => ?_)
        refine q_goto X 5 dX0_namesIn_44 (by decide) ?_
        refine q_sub [(0, .ref (ad o)), (1, .int (oi x1)), (2, .int (oi x2)), (3, .long (x3 ||| r5)), (5, .int (oi (x5 + 1)))] [2, 3, 4, 1, 0] rfl ?_
        exact ih x1 x2 (x3 ||| r5) (x5 + 1) hx1 hx2 h8
      · refine q_iinc X [(5, .int (oi (x5 + 1))), (0, .ref (ad o)), (1, .int (oi x1)), (2, .int (oi x2)), (3, .long x3)] dX0_namesIn_41 (by decide) 4 rfl rfl (fun h9 => ?_)
        refine q_goto X 5 dX0_namesIn_44 (by decide) ?_
        refine q_sub [(0, .ref (ad o)), (1, .int (oi x1)), (2, .int (oi x2)), (3, .long x3), (5, .int (oi (x5 + 1)))] [1, 2, 3, 4, 0] rfl ?_
        exact ih x1 x2 x3 (x5 + 1) hx1 hx2 h9
def f_X0_namesIn (o : Nat) (x1 : Int) (x2 : Int) (σ : Mm) : Option (Int64) :=
  f_X0_namesIn_5 o 2000 x1 x2 0 0 σ
theorem hd_X0_namesIn : yX0_namesIn.cls = RX0 ∧ yX0_namesIn.cls ≠ "java/lang/invoke/MethodHandle" ∧ yX0_namesIn.cls ≠ "java/lang/invoke/VarHandle" ∧ (parseMethodDescriptor yX0_namesIn.desc).map (fun d => d.parameters.length) = some 2 := by decide +kernel
set_option maxRecDepth 100000 in
set_option maxHeartbeats 4000000 in
theorem c_X0_namesIn {l : Launch} {D : va_G} {ca : Nat → ClassId} {ad : Nat → Nat} {o : Nat} {x1 : Int} {x2 : Int} (ho : o = 15 ∨ o = 29) (hx1 : inR x1) (hx2 : inR x2) {σ : Mm} : CtL l D vcl ca ad shC NC yX0_namesIn (Cond.code yX0_namesIn cX0_namesIn 6 (some .long) :: tbG) { frames := 1, cells := 0, slots := 0, locals := 22 } [.ref (ad o), .int (oi x1), .int (oi x2)] σ ((f_X0_namesIn o x1 x2 σ).map (fun r => (r, σ))) := by
  refine ct_Lp RX0 rfl (by decide) rfl (Nat.le_of_ble_eq_true rfl) (fun p e s m below meth c res X hN hr hlk => ?_)
  show GX0_namesIn p l e s m _ below meth c D ca ad σ res 0 [(0, .ref (ad o)), (1, .int (oi x1)), (2, .int (oi x2))] [] σ (f_X0_namesIn o x1 x2 σ)
  unfold f_X0_namesIn
  refine q_lconst X 0 dX0_namesIn_0 rfl ?_
  refine q_lstore_n X [(3, .long 0), (0, .ref (ad o)), (1, .int (oi x1)), (2, .int (oi x2))] dX0_namesIn_1 (by decide) rfl ?_
  refine q_iconst X dX0_namesIn_2 ?_
  refine q_istore X [(5, .int (oi 0)), (3, .long 0), (0, .ref (ad o)), (1, .int (oi x1)), (2, .int (oi x2))] dX0_namesIn_3 (by decide) rfl ?_
  refine q_sub [(0, .ref (ad o)), (1, .int (oi x1)), (2, .int (oi x2)), (3, .long 0), (5, .int (oi 0))] [2, 3, 4, 1, 0] rfl ?_
  exact t_X0_namesIn_5 X hN hr hlk ho 2000 x1 x2 0 0 hx1 hx2 (by decide)

/-! SiteObjects$Finding.hasStep(JI)Z -/
abbrev GX0_hasStep (p : Program) (l : Launch) (e : Env) (s : State) (m : MethodId) (args : Array Value) (below : List Frame) (meth : Method) (c : Code) (D : va_G) (ca : Nat → ClassId) (ad : Nat → Nat) (σ : Mm) (res : Int) : Nat → List (Nat × Value) → List Value → Mm → Option (Int) → Prop := G p l e { frames := 0, cells := 0, slots := 0, locals := 0 } s m args below meth c (MQ below (QcI D vcl ca ad shC s.heap.size (res, σ)) args s 0 0 (Aw ad shC.length s.heap.size)) 5 D vcl ca ad shC (Aw ad shC.length s.heap.size) res
def f_X0_hasStep_3 (o : Nat) : Nat → Int64 → Int → Int → Mm → Option (Int)
  | 0, _, _, _, _ => none
  | n + 1, x1, x3, x4, σ => (if (σ.1 (o + 9) 3) ≤ x4 then some 0 else (if (lShr x1 x4) = 0 then some 0 else (if ((lShr x1 x4) &&& 1) = 0 then ck (inR (x4 + 1)) (f_X0_hasStep_3 o n x1 x3 (x4 + 1) σ) else ck ((0 : Int) ≤ x4 ∧ x4 < ((60 : Nat) : Int)) ((if (σ.1 (o + 12) (Int.toNat x4)) = x3 then some 1 else ck (inR (x4 + 1)) (f_X0_hasStep_3 o n x1 x3 (x4 + 1) σ))))))
set_option maxRecDepth 100000 in
set_option maxHeartbeats 4000000 in
theorem t_X0_hasStep_3 {p : Program} {l : Launch} {e : Env} {s : State} {m : MethodId} {args : Array Value} {below : List Frame} {meth : Method} {c : Code} {D : va_G} {ca : Nat → ClassId} {ad : Nat → Nat} {σ : Mm} {res : Int} {o : Nat} (X : Cx p s m args c cX0_hasStep 5 RX0 (Cond.code yX0_hasStep cX0_hasStep 5 (some .boolean) :: tbG) D vcl ca) (hN : NC s) (hr : meth.sig.returnType = (some .boolean)) (hlk : meth.locks = false) (ho : o = 15 ∨ o = 29) : ∀ (n : Nat) (x1 : Int64) (x3 : Int) (x4 : Int), inR x3 → inR x4 → GX0_hasStep p l e s m args below meth c D ca ad σ res 3 [(0, .ref (ad o)), (1, .long x1), (3, .int (oi x3)), (4, .int (oi x4))] [] σ (f_X0_hasStep_3 o n x1 x3 x4 σ)
  := by
  intro n
  induction n with
  | zero => intro x1 x3 x4 hx3 hx4 h; cases h
  | succ n ih =>
    intro x1 x3 x4 hx3 hx4
    rw [f_X0_hasStep_3]
    refine q_iload X dX0_hasStep_3 3 rfl ?_
    refine q_aload_n X dX0_hasStep_5 0 rfl ?_
    refine fg_X0_57 ho X dX0_hasStep_6 ?_
    refine fg_X0_156 ho X dX0_hasStep_9 (fun h1 => ?_)
    refine q_icmp_ge X hx4 h1 57 dX0_hasStep_12 (by decide) (fun h2 => ?_) (fun h2 => ?_)
    · refine q_iconst X dX0_hasStep_57 ?_
      exact q_zretp X (Or.inl rfl) hr hlk dX0_hasStep_58
    · refine q_lload_n X dX0_hasStep_15 1 rfl ?_
      refine q_iload X dX0_hasStep_16 3 rfl ?_
      refine q_lshr X dX0_hasStep_18 ?_
      refine q_lconst X 0 dX0_hasStep_19 rfl ?_
      refine q_lcmp_eq X 57 dX0_hasStep_20 dX0_hasStep_21 (by decide) (fun h3 => ?_) (fun h3 => ?_)
      · refine q_iconst X dX0_hasStep_57 ?_
        exact q_zretp X (Or.inl rfl) hr hlk dX0_hasStep_58
      · refine q_lload_n X dX0_hasStep_24 1 rfl ?_
        refine q_iload X dX0_hasStep_25 3 rfl ?_
        refine q_lshr X dX0_hasStep_27 ?_
        refine q_lconst X 1 dX0_hasStep_28 rfl ?_
        refine q_land X dX0_hasStep_29 ?_
        refine q_lconst X 0 dX0_hasStep_30 rfl ?_
        refine q_lcmp_eq X 51 dX0_hasStep_31 dX0_hasStep_32 (by decide) (fun h4 => ?_) (fun h4 => ?_)
        · refine q_iinc X [(4, .int (oi (x4 + 1))), (0, .ref (ad o)), (1, .long x1), (3, .int (oi x3))] dX0_hasStep_51 (by decide) 3 rfl rfl (fun h5 => ?_)
          refine q_goto X 3 dX0_hasStep_54 (by decide) ?_
          refine q_sub [(0, .ref (ad o)), (1, .long x1), (3, .int (oi x3)), (4, .int (oi (x4 + 1)))] [1, 2, 3, 0] rfl ?_
          exact ih x1 x3 (x4 + 1) hx3 h5
        · refine q_aload_n X dX0_hasStep_35 0 rfl ?_
          refine fg_X0_57 ho X dX0_hasStep_36 ?_
          refine fg_X0_183 ho X dX0_hasStep_39 ?_
          refine q_iload X dX0_hasStep_42 3 rfl ?_
          refine q_iald X (hF12 ho) (by decide) dX0_hasStep_44 (fun h6 => ?_)
          refine q_iload_n X dX0_hasStep_45 2 rfl ?_
          refine q_icmp_ne X h6 hx3 51 dX0_hasStep_46 (by decide) (fun h7 => ?_) (fun h7 => ?_)
          · refine q_iconst X dX0_hasStep_49 ?_
            exact q_zretp X (Or.inr rfl) hr hlk dX0_hasStep_50
          · refine q_iinc X [(4, .int (oi (x4 + 1))), (0, .ref (ad o)), (1, .long x1), (3, .int (oi x3))] dX0_hasStep_51 (by decide) 3 rfl rfl (fun h8 => ?_)
            refine q_goto X 3 dX0_hasStep_54 (by decide) ?_
            refine q_sub [(0, .ref (ad o)), (1, .long x1), (3, .int (oi x3)), (4, .int (oi (x4 + 1)))] [1, 2, 3, 0] rfl ?_
            exact ih x1 x3 (x4 + 1) hx3 h8
def f_X0_hasStep (o : Nat) (x1 : Int64) (x3 : Int) (σ : Mm) : Option (Int) :=
  f_X0_hasStep_3 o 2000 x1 x3 0 σ
theorem hd_X0_hasStep : yX0_hasStep.cls = RX0 ∧ yX0_hasStep.cls ≠ "java/lang/invoke/MethodHandle" ∧ yX0_hasStep.cls ≠ "java/lang/invoke/VarHandle" ∧ (parseMethodDescriptor yX0_hasStep.desc).map (fun d => d.parameters.length) = some 2 := by decide +kernel
set_option maxRecDepth 100000 in
set_option maxHeartbeats 4000000 in
theorem c_X0_hasStep {l : Launch} {D : va_G} {ca : Nat → ClassId} {ad : Nat → Nat} {o : Nat} {x1 : Int64} {x3 : Int} (ho : o = 15 ∨ o = 29) (hx3 : inR x3) {σ : Mm} : CtI l D vcl ca ad shC NC yX0_hasStep (Cond.code yX0_hasStep cX0_hasStep 5 (some .boolean) :: tbG) { frames := 0, cells := 0, slots := 0, locals := 0 } [.ref (ad o), .long x1, .int (oi x3)] σ ((f_X0_hasStep o x1 x3 σ).map (fun r => (r, σ))) := by
  refine ct_Ip RX0 rfl (by decide) rfl (Nat.le_of_ble_eq_true rfl) (fun p e s m below meth c res X hN hr hlk => ?_)
  show GX0_hasStep p l e s m _ below meth c D ca ad σ res 0 [(0, .ref (ad o)), (1, .long x1), (3, .int (oi x3))] [] σ (f_X0_hasStep o x1 x3 σ)
  unfold f_X0_hasStep
  refine q_iconst X dX0_hasStep_0 ?_
  refine q_istore X [(4, .int (oi 0)), (0, .ref (ad o)), (1, .long x1), (3, .int (oi x3))] dX0_hasStep_1 (by decide) rfl ?_
  refine q_sub [(0, .ref (ad o)), (1, .long x1), (3, .int (oi x3)), (4, .int (oi 0))] [1, 2, 3, 0] rfl ?_
  exact t_X0_hasStep_3 X hN hr hlk ho 2000 x1 x3 0 hx3 (by decide)

/-! SiteObjects$Finding.isNoMoreThan(LSiteObjects$Finding;II)Z -/
abbrev GX0_isNoMoreThan (p : Program) (l : Launch) (e : Env) (s : State) (m : MethodId) (args : Array Value) (below : List Frame) (meth : Method) (c : Code) (D : va_G) (ca : Nat → ClassId) (ad : Nat → Nat) (σ : Mm) (res : Int) : Nat → List (Nat × Value) → List Value → Mm → Option (Int) → Prop := G p l e { frames := 2, cells := 0, slots := 0, locals := 47 } s m args below meth c (MQ below (QcI D vcl ca ad shC s.heap.size (res, σ)) args s 0 0 (Aw ad shC.length s.heap.size)) 9 D vcl ca ad shC (Aw ad shC.length s.heap.size) res
def f_X0_isNoMoreThan_19 (o : Nat) (o1 : Nat) : Nat → Int64 → Int64 → Int → Mm → Option (Int)
  | 0, _, _, _, _ => none
  | n + 1, x4, x6, x8, σ => (if (σ.1 (o + 9) 3) ≤ x8 then some 1 else (if (lShr x4 x8) = 0 then some 1 else (if ((lShr x4 x8) &&& 1) = 0 then ck (inR (x8 + 1)) (f_X0_isNoMoreThan_19 o o1 n x4 x6 (x8 + 1) σ) else ck ((0 : Int) ≤ x8 ∧ x8 < ((60 : Nat) : Int)) ((f_X0_hasStep o1 x6 (σ.1 (o + 12) (Int.toNat x8)) σ).bind (fun r7 => (if r7 = 0 then some 0 else ck (inR (x8 + 1)) (f_X0_isNoMoreThan_19 o o1 n x4 x6 (x8 + 1) σ)))))))
set_option maxRecDepth 100000 in
set_option maxHeartbeats 4000000 in
theorem t_X0_isNoMoreThan_19 {p : Program} {l : Launch} {e : Env} {s : State} {m : MethodId} {args : Array Value} {below : List Frame} {meth : Method} {c : Code} {D : va_G} {ca : Nat → ClassId} {ad : Nat → Nat} {σ : Mm} {res : Int} {o : Nat} {o1 : Nat} (X : Cx p s m args c cX0_isNoMoreThan 9 RX0 (Cond.code yX0_isNoMoreThan cX0_isNoMoreThan 9 (some .boolean) :: tbG) D vcl ca) (hN : NC s) (hr : meth.sig.returnType = (some .boolean)) (hlk : meth.locks = false) (ho : o = 15 ∨ o = 29) (ho1 : o1 = 15 ∨ o1 = 29) : ∀ (n : Nat) (x4 : Int64) (x6 : Int64) (x8 : Int), inR x8 → GX0_isNoMoreThan p l e s m args below meth c D ca ad σ res 19 [(0, .ref (ad o)), (1, .ref (ad o1)), (4, .long x4), (6, .long x6), (8, .int (oi x8))] [] σ (f_X0_isNoMoreThan_19 o o1 n x4 x6 x8 σ)
  := by
  intro n
  induction n with
  | zero => intro x4 x6 x8 hx8 h; cases h
  | succ n ih =>
    intro x4 x6 x8 hx8
    rw [f_X0_isNoMoreThan_19]
    refine q_iload X dX0_isNoMoreThan_19 4 rfl ?_
    refine q_aload_n X dX0_isNoMoreThan_21 0 rfl ?_
    refine fg_X0_57 ho X dX0_isNoMoreThan_22 ?_
    refine fg_X0_156 ho X dX0_isNoMoreThan_25 (fun h1 => ?_)
    refine q_icmp_ge X hx8 h1 80 dX0_isNoMoreThan_28 (by decide) (fun h2 => ?_) (fun h2 => ?_)
    · refine q_iconst X dX0_isNoMoreThan_80 ?_
      exact q_zretp X (Or.inr rfl) hr hlk dX0_isNoMoreThan_81
    · refine q_lload X dX0_isNoMoreThan_31 2 rfl ?_
      refine q_iload X dX0_isNoMoreThan_33 4 rfl ?_
      refine q_lshr X dX0_isNoMoreThan_35 ?_
      refine q_lconst X 0 dX0_isNoMoreThan_36 rfl ?_
      refine q_lcmp_eq X 80 dX0_isNoMoreThan_37 dX0_isNoMoreThan_38 (by decide) (fun h3 => ?_) (fun h3 => ?_)
      · refine q_iconst X dX0_isNoMoreThan_80 ?_
        exact q_zretp X (Or.inr rfl) hr hlk dX0_isNoMoreThan_81
      · refine q_lload X dX0_isNoMoreThan_41 2 rfl ?_
        refine q_iload X dX0_isNoMoreThan_43 4 rfl ?_
        refine q_lshr X dX0_isNoMoreThan_45 ?_
        refine q_lconst X 1 dX0_isNoMoreThan_46 rfl ?_
        refine q_land X dX0_isNoMoreThan_47 ?_
        refine q_lconst X 0 dX0_isNoMoreThan_48 rfl ?_
        refine q_lcmp_eq X 74 dX0_isNoMoreThan_49 dX0_isNoMoreThan_50 (by decide) (fun h4 => ?_) (fun h4 => ?_)
        · refine q_iinc X [(8, .int (oi (x8 + 1))), (0, .ref (ad o)), (1, .ref (ad o1)), (4, .long x4), (6, .long x6)] dX0_isNoMoreThan_74 (by decide) 4 rfl rfl (fun h5 => ?_)
          refine q_goto X 19 dX0_isNoMoreThan_77 (by decide) ?_
          refine q_sub [(0, .ref (ad o)), (1, .ref (ad o1)), (4, .long x4), (6, .long x6), (8, .int (oi (x8 + 1)))] [1, 2, 3, 4, 0] rfl ?_
          exact ih x4 x6 (x8 + 1) h5
        · refine q_aload_n X dX0_isNoMoreThan_53 1 rfl ?_
          refine q_lload X dX0_isNoMoreThan_54 3 rfl ?_
          refine q_aload_n X dX0_isNoMoreThan_56 0 rfl ?_
          refine fg_X0_57 ho X dX0_isNoMoreThan_57 ?_
          refine fg_X0_183 ho X dX0_isNoMoreThan_60 ?_
          refine q_iload X dX0_isNoMoreThan_63 4 rfl ?_
          refine q_iald X (hF12 ho) (by decide) dX0_isNoMoreThan_65 (fun h6 => ?_)
          refine q_callIp X NCok hN Aw_new (c_X0_hasStep ho1 h6) (rn_V X (cwV 2 X.2.2.2.2.1 (tbG_good _ (tbG_V mw_812 mw_814 mp_4_0 mw_4 mw_815)) rfl rfl rfl hd_X0_hasStep ⟨by decide, by decide⟩) (hO0 ho1) rfl rfl rfl (Nat.le_of_ble_eq_true rfl) dX0_isNoMoreThan_66) (fun r7 _ h9 => ?_)
          refine q_if_ne X h9 74 dX0_isNoMoreThan_69 (by decide) (fun h10 => ?_) (fun h10 => ?_)
          · refine q_iconst X dX0_isNoMoreThan_72 ?_
            exact q_zretp X (Or.inl rfl) hr hlk dX0_isNoMoreThan_73
          · refine q_iinc X [(8, .int (oi (x8 + 1))), (0, .ref (ad o)), (1, .ref (ad o1)), (4, .long x4), (6, .long x6)] dX0_isNoMoreThan_74 (by decide) 4 rfl rfl (fun h11 => ?_)
            refine q_goto X 19 dX0_isNoMoreThan_77 (by decide) ?_
            refine q_sub [(0, .ref (ad o)), (1, .ref (ad o1)), (4, .long x4), (6, .long x6), (8, .int (oi (x8 + 1)))] [1, 2, 3, 4, 0] rfl ?_
            exact ih x4 x6 (x8 + 1) h11
def f_X0_isNoMoreThan (o : Nat) (o1 : Nat) (x2 : Int) (x3 : Int) (σ : Mm) : Option (Int) :=
  (f_X0_namesIn o x2 x3 σ).bind (fun r12 => (f_X0_namesIn o1 x2 x3 σ).bind (fun r15 => f_X0_isNoMoreThan_19 o o1 2000 r12 r15 0 σ))
theorem hd_X0_isNoMoreThan : yX0_isNoMoreThan.cls = RX0 ∧ yX0_isNoMoreThan.cls ≠ "java/lang/invoke/MethodHandle" ∧ yX0_isNoMoreThan.cls ≠ "java/lang/invoke/VarHandle" ∧ (parseMethodDescriptor yX0_isNoMoreThan.desc).map (fun d => d.parameters.length) = some 3 := by decide +kernel
set_option maxRecDepth 100000 in
set_option maxHeartbeats 4000000 in
theorem c_X0_isNoMoreThan {l : Launch} {D : va_G} {ca : Nat → ClassId} {ad : Nat → Nat} {o : Nat} {o1 : Nat} {x2 : Int} {x3 : Int} (ho : o = 15 ∨ o = 29) (ho1 : o1 = 15 ∨ o1 = 29) (hx2 : inR x2) (hx3 : inR x3) {σ : Mm} : CtI l D vcl ca ad shC NC yX0_isNoMoreThan (Cond.code yX0_isNoMoreThan cX0_isNoMoreThan 9 (some .boolean) :: tbG) { frames := 2, cells := 0, slots := 0, locals := 47 } [.ref (ad o), .ref (ad o1), .int (oi x2), .int (oi x3)] σ ((f_X0_isNoMoreThan o o1 x2 x3 σ).map (fun r => (r, σ))) := by
  refine ct_Ip RX0 rfl (by decide) rfl (Nat.le_of_ble_eq_true rfl) (fun p e s m below meth c res X hN hr hlk => ?_)
  show GX0_isNoMoreThan p l e s m _ below meth c D ca ad σ res 0 [(0, .ref (ad o)), (1, .ref (ad o1)), (2, .int (oi x2)), (3, .int (oi x3))] [] σ (f_X0_isNoMoreThan o o1 x2 x3 σ)
  unfold f_X0_isNoMoreThan
  refine q_aload_n X dX0_isNoMoreThan_0 0 rfl ?_
  refine q_iload_n X dX0_isNoMoreThan_1 2 rfl ?_
  refine q_iload_n X dX0_isNoMoreThan_2 3 rfl ?_
  refine q_callLp X NCok hN Aw_new (c_X0_namesIn ho hx2 hx3) (rn_V X (cwV 2 X.2.2.2.2.1 (tbG_good _ (tbG_V mw_808 mw_810 mp_3_15 mw_4 mw_811)) rfl rfl rfl hd_X0_namesIn ⟨by decide, by decide⟩) (hO0 ho) rfl rfl rfl (Nat.le_of_ble_eq_true rfl) dX0_isNoMoreThan_3) (fun r12 _ => ?_)
  refine q_lstore X [(4, .long r12), (0, .ref (ad o)), (1, .ref (ad o1)), (2, .int (oi x2)), (3, .int (oi x3))] dX0_isNoMoreThan_6 (by decide) rfl ?_
  refine q_aload_n X dX0_isNoMoreThan_8 2 rfl ?_
  refine q_iload_n X dX0_isNoMoreThan_9 3 rfl ?_
  refine q_iload_n X dX0_isNoMoreThan_10 4 rfl ?_
  refine q_callLp X NCok hN Aw_new (c_X0_namesIn ho1 hx2 hx3) (rn_V X (cwV 2 X.2.2.2.2.1 (tbG_good _ (tbG_V mw_808 mw_810 mp_3_15 mw_4 mw_811)) rfl rfl rfl hd_X0_namesIn ⟨by decide, by decide⟩) (hO0 ho1) rfl rfl rfl (Nat.le_of_ble_eq_true rfl) dX0_isNoMoreThan_11) (fun r15 _ => ?_)
  refine q_lstore X [(6, .long r15), (4, .long r12), (0, .ref (ad o)), (1, .ref (ad o1)), (2, .int (oi x2)), (3, .int (oi x3))] dX0_isNoMoreThan_14 (by decide) rfl ?_
  refine q_iconst X dX0_isNoMoreThan_16 ?_
  refine q_istore X [(8, .int (oi 0)), (6, .long r15), (4, .long r12), (0, .ref (ad o)), (1, .ref (ad o1)), (2, .int (oi x2)), (3, .int (oi x3))] dX0_isNoMoreThan_17 (by decide) rfl ?_
  refine q_sub [(0, .ref (ad o)), (1, .ref (ad o1)), (4, .long r12), (6, .long r15), (8, .int (oi 0))] [3, 4, 2, 1, 0] rfl ?_
  exact t_X0_isNoMoreThan_19 X hN hr hlk ho ho1 2000 r12 r15 0 (by decide)
