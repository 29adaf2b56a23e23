/-! SiteObjectsModel.in(III)Z -/
abbrev GX7_in (p : Program) (l : Launch) (e : Env) (s : State) (m : MethodId) (args : Array Value) (below : List Frame) (meth : Method) (c : Code) (D : va_G) (ca : Nat → ClassId) (ad : Nat → Nat) (σ : Mm) (res : Int) : Nat → List (Nat × Value) → List Value → Mm → Option (Int) → Prop := G p l e { frames := 0, cells := 0, slots := 0, locals := 0 } s m args below meth c (MQ below (QcI D vcl ca ad shM s.heap.size (res, σ)) args s 0 0 (Aw ad shM.length s.heap.size)) 3 D vcl ca ad shM (Aw ad shM.length s.heap.size) res
def f_X7_in (x0 : Int) (x1 : Int) (x2 : Int) (σ : Mm) : Option (Int) :=
  (if x0 < x1 then some 0 else (if x2 < x0 then some 0 else some 1))
theorem hd_X7_in : yX7_in.cls ≠ "java/lang/invoke/MethodHandle" ∧ yX7_in.cls ≠ "java/lang/invoke/VarHandle" ∧ (parseMethodDescriptor yX7_in.desc).map (fun d => d.parameters.length) = some 3 := by decide +kernel
set_option maxRecDepth 100000 in
set_option maxHeartbeats 4000000 in
theorem c_X7_in {l : Launch} {D : va_G} {ca : Nat → ClassId} {ad : Nat → Nat} {x0 : Int} {x1 : Int} {x2 : Int} (hx0 : inR x0) (hx1 : inR x1) (hx2 : inR x2) {σ : Mm} : CtI l D vcl ca ad shM NM yX7_in (Cond.code yX7_in cX7_in 3 (some .boolean) :: tbG) { frames := 0, cells := 0, slots := 0, locals := 0 } [.int (oi x0), .int (oi x1), .int (oi x2)] σ ((f_X7_in x0 x1 x2 σ).map (fun r => (r, σ))) := by
  refine ct_Ip RX7 rfl (by decide) rfl (Nat.le_of_ble_eq_true rfl) (fun p e s m below meth c res X hN hr hlk => ?_)
  show GX7_in p l e s m _ below meth c D ca ad σ res 0 [(0, .int (oi x0)), (1, .int (oi x1)), (2, .int (oi x2))] [] σ (f_X7_in x0 x1 x2 σ)
  unfold f_X7_in
  refine q_iload_n X dX7_in_0 0 rfl ?_
  refine q_iload_n X dX7_in_1 1 rfl ?_
  refine q_icmp_lt X hx0 hx1 14 dX7_in_2 (by decide) (fun h1 => ?_) (fun h1 => ?_)
  · refine q_iconst X dX7_in_14 ?_
    exact q_zretp X (Or.inl rfl) hr hlk dX7_in_15
  · refine q_iload_n X dX7_in_5 0 rfl ?_
    refine q_iload_n X dX7_in_6 2 rfl ?_
    refine q_icmp_gt X hx0 hx2 14 dX7_in_7 (by decide) (fun h2 => ?_) (fun h2 => ?_)
    · refine q_iconst X dX7_in_14 ?_
      exact q_zretp X (Or.inl rfl) hr hlk dX7_in_15
    · refine q_iconst X dX7_in_10 ?_
      refine q_goto X 15 dX7_in_11 (by decide) ?_
      exact q_zretp X (Or.inr rfl) hr hlk dX7_in_15

/-! SiteObjectsModel.isClass(I)Z -/
abbrev GX7_isClass (p : Program) (l : Launch) (e : Env) (s : State) (m : MethodId) (args : Array Value) (below : List Frame) (meth : Method) (c : Code) (D : va_G) (ca : Nat → ClassId) (ad : Nat → Nat) (σ : Mm) (res : Int) : Nat → List (Nat × Value) → List Value → Mm → Option (Int) → Prop := G p l e { frames := 1, cells := 0, slots := 0, locals := 22 } s m args below meth c (MQ below (QcI D vcl ca ad shM s.heap.size (res, σ)) args s 0 0 (Aw ad shM.length s.heap.size)) 2 D vcl ca ad shM (Aw ad shM.length s.heap.size) res
def f_X7_isClass (x1 : Int) (σ : Mm) : Option (Int) :=
  ck (inR ((σ.1 0 0) - 1)) ((f_X7_in x1 0 ((σ.1 0 0) - 1) σ).bind (fun r3 => ck (r3 = 0 ∨ r3 = 1) (some r3)))
theorem hd_X7_isClass : yX7_isClass.cls = RX7 ∧ yX7_isClass.cls ≠ "java/lang/invoke/MethodHandle" ∧ yX7_isClass.cls ≠ "java/lang/invoke/VarHandle" ∧ (parseMethodDescriptor yX7_isClass.desc).map (fun d => d.parameters.length) = some 1 := by decide +kernel
set_option maxRecDepth 100000 in
set_option maxHeartbeats 4000000 in
theorem c_X7_isClass {l : Launch} {D : va_G} {ca : Nat → ClassId} {ad : Nat → Nat} {x1 : Int} (hx1 : inR x1) {σ : Mm} : CtI l D vcl ca ad shM NM yX7_isClass (Cond.code yX7_isClass cX7_isClass 2 (some .boolean) :: tbG) { frames := 1, cells := 0, slots := 0, locals := 22 } [.ref (ad 0), .int (oi x1)] σ ((f_X7_isClass x1 σ).map (fun r => (r, σ))) := by
  refine ct_Ip RX7 rfl (by decide) rfl (Nat.le_of_ble_eq_true rfl) (fun p e s m below meth c res X hN hr hlk => ?_)
  show GX7_isClass p l e s m _ below meth c D ca ad σ res 0 [(0, .ref (ad 0)), (1, .int (oi x1))] [] σ (f_X7_isClass x1 σ)
  unfold f_X7_isClass
  refine q_iload_n X dX7_isClass_0 1 rfl ?_
  refine q_iconst X dX7_isClass_1 ?_
  refine q_aload_n X dX7_isClass_2 0 rfl ?_
  refine fg_X7_7 X dX7_isClass_3 (fun h1 => ?_)
  refine q_iconst X dX7_isClass_6 ?_
  refine q_isub X dX7_isClass_7 ?_
  refine q_ck (fun h2 => ?_)
  refine q_callIp X NMok hN Aw_new (c_X7_in hx1 (by decide) h2) (rn_S X (va_cwS 3 X.2.2.2.2.1 (tbG_good _ (tbG_S mw_1008 mw_1009 mw_9 mw_1010)) rfl rfl rfl hd_X7_in ⟨by decide, by decide⟩) rfl rfl (Nat.le_of_ble_eq_true rfl) dX7_isClass_8) (fun r3 _ h5 => ?_)
  refine q_ck (fun h6 => ?_)
  exact q_zretp X h6 hr hlk dX7_isClass_11

/-! SiteObjectsModel.isStatic(I)Z -/
abbrev GX7_isStatic (p : Program) (l : Launch) (e : Env) (s : State) (m : MethodId) (args : Array Value) (below : List Frame) (meth : Method) (c : Code) (D : va_G) (ca : Nat → ClassId) (ad : Nat → Nat) (σ : Mm) (res : Int) : Nat → List (Nat × Value) → List Value → Mm → Option (Int) → Prop := G p l e { frames := 1, cells := 0, slots := 0, locals := 22 } s m args below meth c (MQ below (QcI D vcl ca ad shM s.heap.size (res, σ)) args s 0 0 (Aw ad shM.length s.heap.size)) 2 D vcl ca ad shM (Aw ad shM.length s.heap.size) res
def f_X7_isStatic (x1 : Int) (σ : Mm) : Option (Int) :=
  ck (inR ((σ.1 0 2) - 1)) ((f_X7_in x1 0 ((σ.1 0 2) - 1) σ).bind (fun r3 => (if r3 = 0 then some 0 else ck ((0 : Int) ≤ x1 ∧ x1 < ((12 : Nat) : Int)) ((if 0 ≤ (σ.1 2 (Int.toNat x1)) then some 0 else some 1)))))
theorem hd_X7_isStatic : yX7_isStatic.cls = RX7 ∧ yX7_isStatic.cls ≠ "java/lang/invoke/MethodHandle" ∧ yX7_isStatic.cls ≠ "java/lang/invoke/VarHandle" ∧ (parseMethodDescriptor yX7_isStatic.desc).map (fun d => d.parameters.length) = some 1 := by decide +kernel
set_option maxRecDepth 100000 in
set_option maxHeartbeats 4000000 in
theorem c_X7_isStatic {l : Launch} {D : va_G} {ca : Nat → ClassId} {ad : Nat → Nat} {x1 : Int} (hx1 : inR x1) {σ : Mm} : CtI l D vcl ca ad shM NM yX7_isStatic (Cond.code yX7_isStatic cX7_isStatic 2 (some .boolean) :: tbG) { frames := 1, cells := 0, slots := 0, locals := 22 } [.ref (ad 0), .int (oi x1)] σ ((f_X7_isStatic x1 σ).map (fun r => (r, σ))) := by
  refine ct_Ip RX7 rfl (by decide) rfl (Nat.le_of_ble_eq_true rfl) (fun p e s m below meth c res X hN hr hlk => ?_)
  show GX7_isStatic p l e s m _ below meth c D ca ad σ res 0 [(0, .ref (ad 0)), (1, .int (oi x1))] [] σ (f_X7_isStatic x1 σ)
  unfold f_X7_isStatic
  refine q_iload_n X dX7_isStatic_0 1 rfl ?_
  refine q_iconst X dX7_isStatic_1 ?_
  refine q_aload_n X dX7_isStatic_2 0 rfl ?_
  refine fg_X7_115 X dX7_isStatic_3 (fun h1 => ?_)
  refine q_iconst X dX7_isStatic_6 ?_
  refine q_isub X dX7_isStatic_7 ?_
  refine q_ck (fun h2 => ?_)
  refine q_callIp X NMok hN Aw_new (c_X7_in hx1 (by decide) h2) (rn_S X (va_cwS 3 X.2.2.2.2.1 (tbG_good _ (tbG_S mw_1008 mw_1009 mw_9 mw_1010)) rfl rfl rfl hd_X7_in ⟨by decide, by decide⟩) rfl rfl (Nat.le_of_ble_eq_true rfl) dX7_isStatic_8) (fun r3 _ h5 => ?_)
  refine q_if_eq X h5 27 dX7_isStatic_11 (by decide) (fun h6 => ?_) (fun h6 => ?_)
  · refine q_iconst X dX7_isStatic_27 ?_
    exact q_zretp X (Or.inl rfl) hr hlk dX7_isStatic_28
  · refine q_aload_n X dX7_isStatic_14 0 rfl ?_
    refine fg_X7_17 X dX7_isStatic_15 ?_
    refine q_iload_n X dX7_isStatic_18 1 rfl ?_
    refine q_iald X hM2 (by decide) dX7_isStatic_19 (fun h7 => ?_)
    refine q_if_ge X h7 27 dX7_isStatic_20 (by decide) (fun h8 => ?_) (fun h8 => ?_)
    · refine q_iconst X dX7_isStatic_27 ?_
      exact q_zretp X (Or.inl rfl) hr hlk dX7_isStatic_28
    · refine q_iconst X dX7_isStatic_23 ?_
      refine q_goto X 28 dX7_isStatic_24 (by decide) ?_
      exact q_zretp X (Or.inr rfl) hr hlk dX7_isStatic_28

/-! SiteObjectsModel.isBelow(II)Z -/
abbrev GX7_isBelow (p : Program) (l : Launch) (e : Env) (s : State) (m : MethodId) (args : Array Value) (below : List Frame) (meth : Method) (c : Code) (D : va_G) (ca : Nat → ClassId) (ad : Nat → Nat) (σ : Mm) (res : Int) : Nat → List (Nat × Value) → List Value → Mm → Option (Int) → Prop := G p l e { frames := 0, cells := 0, slots := 0, locals := 0 } s m args below meth c (MQ below (QcI D vcl ca ad shM s.heap.size (res, σ)) args s 0 0 (Aw ad shM.length s.heap.size)) 4 D vcl ca ad shM (Aw ad shM.length s.heap.size) res
def f_X7_isBelow_2 : Nat → Int → Int → Mm → Option (Int)
  | 0, _, _, _ => none
  | n + 1, x2, x3, σ => (if x3 < 0 then (if x3 < 0 then some 0 else some 1) else (if x3 = x2 then (if x3 < 0 then some 0 else some 1) else ck ((0 : Int) ≤ x3 ∧ x3 < ((10 : Nat) : Int)) (f_X7_isBelow_2 n x2 (σ.1 1 (Int.toNat x3)) σ)))
set_option maxRecDepth 100000 in
set_option maxHeartbeats 4000000 in
theorem t_X7_isBelow_2 {p : Program} {l : Launch} {e : Env} {s : State} {m : MethodId} {args : Array Value} {below : List Frame} {meth : Method} {c : Code} {D : va_G} {ca : Nat → ClassId} {ad : Nat → Nat} {σ : Mm} {res : Int} (X : Cx p s m args c cX7_isBelow 4 RX7 (Cond.code yX7_isBelow cX7_isBelow 4 (some .boolean) :: tbG) D vcl ca) (hN : NM s) (hr : meth.sig.returnType = (some .boolean)) (hlk : meth.locks = false) : ∀ (n : Nat) (x2 : Int) (x3 : Int), inR x2 → inR x3 → GX7_isBelow p l e s m args below meth c D ca ad σ res 2 [(0, .ref (ad 0)), (2, .int (oi x2)), (3, .int (oi x3))] [] σ (f_X7_isBelow_2 n x2 x3 σ)
  := by
  intro n
  induction n with
  | zero => intro x2 x3 hx2 hx3 h; cases h
  | succ n ih =>
    intro x2 x3 hx2 hx3
    rw [f_X7_isBelow_2]
    refine q_iload_n X dX7_isBelow_2 2 rfl ?_
    refine q_if_lt X hx3 21 dX7_isBelow_3 (by decide) (fun h1 => ?_) (fun h1 => ?_)
    · refine q_iload_n X dX7_isBelow_21 2 rfl ?_
      refine q_if_lt X hx3 29 dX7_isBelow_22 (by decide) (fun h2 => ?_) (fun h2 => ?_)
      · refine q_iconst X dX7_isBelow_29 ?_
        exact q_zretp X (Or.inl rfl) hr hlk dX7_isBelow_30
      · refine q_iconst X dX7_isBelow_25 ?_
        refine q_goto X 30 dX7_isBelow_26 (by decide) ?_
        exact q_zretp X (Or.inr rfl) hr hlk dX7_isBelow_30
    · refine q_iload_n X dX7_isBelow_6 2 rfl ?_
      refine q_iload_n X dX7_isBelow_7 1 rfl ?_
      refine q_icmp_eq X hx3 hx2 21 dX7_isBelow_8 (by decide) (fun h3 => ?_) (fun h3 => ?_)
      · refine q_iload_n X dX7_isBelow_21 2 rfl ?_
        refine q_if_lt X hx3 29 dX7_isBelow_22 (by decide) (fun h4 => ?_) (fun h4 => ?_)
        · refine q_iconst X dX7_isBelow_29 ?_
          exact q_zretp X (Or.inl rfl) hr hlk dX7_isBelow_30
        · refine q_iconst X dX7_isBelow_25 ?_
          refine q_goto X 30 dX7_isBelow_26 (by decide) ?_
          exact q_zretp X (Or.inr rfl) hr hlk dX7_isBelow_30
      · refine q_aload_n X dX7_isBelow_11 0 rfl ?_
        refine fg_X7_13 X dX7_isBelow_12 ?_
        refine q_iload_n X dX7_isBelow_15 2 rfl ?_
        refine q_iald X hM1 (by decide) dX7_isBelow_16 (fun h5 => ?_)
        refine q_istore_n X [(3, .int (oi (σ.1 1 (Int.toNat x3)))), (0, .ref (ad 0)), (2, .int (oi x2))] dX7_isBelow_17 (by decide) rfl ?_
        refine q_goto X 2 dX7_isBelow_18 (by decide) ?_
        refine q_sub [(0, .ref (ad 0)), (2, .int (oi x2)), (3, .int (oi (σ.1 1 (Int.toNat x3))))] [1, 2, 0] rfl ?_
        exact ih x2 (σ.1 1 (Int.toNat x3)) hx2 h5
def f_X7_isBelow (x1 : Int) (x2 : Int) (σ : Mm) : Option (Int) :=
  f_X7_isBelow_2 2000 x2 x1 σ
theorem hd_X7_isBelow : yX7_isBelow.cls = RX7 ∧ yX7_isBelow.cls ≠ "java/lang/invoke/MethodHandle" ∧ yX7_isBelow.cls ≠ "java/lang/invoke/VarHandle" ∧ (parseMethodDescriptor yX7_isBelow.desc).map (fun d => d.parameters.length) = some 2 := by decide +kernel
set_option maxRecDepth 100000 in
set_option maxHeartbeats 4000000 in
theorem c_X7_isBelow {l : Launch} {D : va_G} {ca : Nat → ClassId} {ad : Nat → Nat} {x1 : Int} {x2 : Int} (hx1 : inR x1) (hx2 : inR x2) {σ : Mm} : CtI l D vcl ca ad shM NM yX7_isBelow (Cond.code yX7_isBelow cX7_isBelow 4 (some .boolean) :: tbG) { frames := 0, cells := 0, slots := 0, locals := 0 } [.ref (ad 0), .int (oi x1), .int (oi x2)] σ ((f_X7_isBelow x1 x2 σ).map (fun r => (r, σ))) := by
  refine ct_Ip RX7 rfl (by decide) rfl (Nat.le_of_ble_eq_true rfl) (fun p e s m below meth c res X hN hr hlk => ?_)
  show GX7_isBelow p l e s m _ below meth c D ca ad σ res 0 [(0, .ref (ad 0)), (1, .int (oi x1)), (2, .int (oi x2))] [] σ (f_X7_isBelow x1 x2 σ)
  unfold f_X7_isBelow
  refine q_iload_n X dX7_isBelow_0 1 rfl ?_
  refine q_istore_n X [(3, .int (oi x1)), (0, .ref (ad 0)), (1, .int (oi x1)), (2, .int (oi x2))] dX7_isBelow_1 (by decide) rfl ?_
  refine q_sub [(0, .ref (ad 0)), (2, .int (oi x2)), (3, .int (oi x1))] [1, 3, 0] rfl ?_
  exact t_X7_isBelow_2 X hN hr hlk 2000 x2 x1 hx2 hx1

/-! SiteObjectsModel.cls(I)I -/
abbrev GX7_cls (p : Program) (l : Launch) (e : Env) (s : State) (m : MethodId) (args : Array Value) (below : List Frame) (meth : Method) (c : Code) (D : va_G) (ca : Nat → ClassId) (ad : Nat → Nat) (res : Int × Mm) : Nat → List (Nat × Value) → List Value → Mm → Option (Int × Mm) → Prop := G p l e { frames := 2, cells := 0, slots := 0, locals := 43 } s m args below meth c (MQ below (QcI D vcl ca ad shM s.heap.size res) args s 0 0 (Aw ad shM.length s.heap.size)) 2 D vcl ca ad shM (Aw ad shM.length s.heap.size) res
def f_X7_cls (x1 : Int) (σ : Mm) : Option (Int × Mm) :=
  (f_X7_isClass x1 σ).bind (fun r1 => (if r1 = 0 then some ((-1), σ) else (if (σ.1 0 0) = 10 then some ((-3), σ) else ck ((0 : Int) ≤ (σ.1 0 0) ∧ (σ.1 0 0) < ((10 : Nat) : Int)) (ck (inR (((stI σ 1 (Int.toNat (σ.1 0 0)) x1).1 0 0) + 1)) ((some (stI (stI σ 1 (Int.toNat (σ.1 0 0)) x1) 0 0 (((stI σ 1 (Int.toNat (σ.1 0 0)) x1).1 0 0) + 1))).bind (fun σ10 => ck (inR (((stI (stI σ10 0 16 0) 0 37 0).1 0 0) - 1)) (some ((((stI (stI σ10 0 16 0) 0 37 0).1 0 0) - 1), (stI (stI σ10 0 16 0) 0 37 0)))))))))
theorem hd_X7_cls : yX7_cls.cls = RX7 ∧ yX7_cls.cls ≠ "java/lang/invoke/MethodHandle" ∧ yX7_cls.cls ≠ "java/lang/invoke/VarHandle" ∧ (parseMethodDescriptor yX7_cls.desc).map (fun d => d.parameters.length) = some 1 := by decide +kernel
set_option maxRecDepth 100000 in
set_option maxHeartbeats 4000000 in
theorem c_X7_cls {l : Launch} {D : va_G} {ca : Nat → ClassId} {ad : Nat → Nat} {x1 : Int} (hx1 : inR x1) {σ : Mm} : CtI l D vcl ca ad shM NM yX7_cls (Cond.code yX7_cls cX7_cls 2 (some .int) :: tbG) { frames := 2, cells := 0, slots := 0, locals := 43 } [.ref (ad 0), .int (oi x1)] σ (f_X7_cls x1 σ) := by
  refine ct_I RX7 rfl (by decide) rfl (Nat.le_of_ble_eq_true rfl) (fun p e s m below meth c res X hN hr hlk => ?_)
  show GX7_cls p l e s m _ below meth c D ca ad res 0 [(0, .ref (ad 0)), (1, .int (oi x1))] [] σ (f_X7_cls x1 σ)
  unfold f_X7_cls
  refine q_aload_n X dX7_cls_0 0 rfl ?_
  refine q_iload_n X dX7_cls_1 1 rfl ?_
  refine q_callIp X NMok hN Aw_new (c_X7_isClass hx1) (rn_V X (cwV 1 X.2.2.2.2.1 (tbG_good _ (tbG_V mw_1004 mw_1006 mp_4_1 mw_9 mw_1007)) rfl rfl rfl hd_X7_isClass ⟨by decide, by decide⟩) hM0 rfl rfl rfl (Nat.le_of_ble_eq_true rfl) dX7_cls_2) (fun r1 _ h3 => ?_)
  refine q_if_ne X h3 10 dX7_cls_5 (by decide) (fun h4 => ?_) (fun h4 => ?_)
  · refine q_iconst X dX7_cls_8 ?_
    exact q_iret X (by decide) hr hlk dX7_cls_9
  · refine q_aload_n X dX7_cls_10 0 rfl ?_
    refine fg_X7_7 X dX7_cls_11 (fun h5 => ?_)
    refine q_bipush X dX7_cls_14 (by decide) ?_
    refine q_icmp_ne X h5 (by decide) 22 dX7_cls_16 (by decide) (fun h6 => ?_) (fun h6 => ?_)
    · refine q_bipush X dX7_cls_19 (by decide) ?_
      exact q_iret X (by decide) hr hlk dX7_cls_21
    · refine q_aload_n X dX7_cls_22 0 rfl ?_
      refine fg_X7_13 X dX7_cls_23 ?_
      refine q_aload_n X dX7_cls_26 0 rfl ?_
      refine fg_X7_7 X dX7_cls_27 (fun h7 => ?_)
      refine q_iload_n X dX7_cls_30 1 rfl ?_
      refine q_iast X hM1 (by decide) hx1 dX7_cls_31 ?_
      refine q_aload_n X dX7_cls_32 0 rfl ?_
      refine q_dup X dX7_cls_33 rfl ?_
      refine fg_X7_7 X dX7_cls_34 (fun h8 => ?_)
      refine q_iconst X dX7_cls_37 ?_
      refine q_iadd X dX7_cls_38 ?_
      refine q_ck (fun h9 => ?_)
      refine fp_X7_7 X h9 dX7_cls_39 ?_
      refine q_nm (fun σ10 => ?_)
      refine q_aload_n X dX7_cls_42 0 rfl ?_
      refine q_iconst X dX7_cls_43 ?_
      refine fp_X7_122 X (Or.inl rfl) dX7_cls_44 ?_
      refine q_aload_n X dX7_cls_47 0 rfl ?_
      refine q_iconst X dX7_cls_48 ?_
      refine fp_X7_126 X (Or.inl rfl) dX7_cls_49 ?_
      refine q_aload_n X dX7_cls_52 0 rfl ?_
      refine fg_X7_7 X dX7_cls_53 (fun h11 => ?_)
      refine q_iconst X dX7_cls_56 ?_
      refine q_isub X dX7_cls_57 ?_
      refine q_ck (fun h12 => ?_)
      exact q_iret X h12 hr hlk dX7_cls_58

/-! SiteObjectsModel.method(II)I -/
abbrev GX7_method (p : Program) (l : Launch) (e : Env) (s : State) (m : MethodId) (args : Array Value) (below : List Frame) (meth : Method) (c : Code) (D : va_G) (ca : Nat → ClassId) (ad : Nat → Nat) (res : Int × Mm) : Nat → List (Nat × Value) → List Value → Mm → Option (Int × Mm) → Prop := G p l e { frames := 2, cells := 0, slots := 0, locals := 43 } s m args below meth c (MQ below (QcI D vcl ca ad shM s.heap.size res) args s 0 0 (Aw ad shM.length s.heap.size)) 4 D vcl ca ad shM (Aw ad shM.length s.heap.size) res
def f_X7_method_107 (s0 : Int) (s1 : Int) (σ : Mm) : Option (Int × Mm) :=
  ck ((0 : Int) ≤ s1 ∧ s1 < ((12 : Nat) : Int)) (ck ((0 : Int) ≤ ((stI σ 3 (Int.toNat s1) s0).1 0 2) ∧ ((stI σ 3 (Int.toNat s1) s0).1 0 2) < ((12 : Nat) : Int)) ((some (stI (stI σ 3 (Int.toNat s1) s0) 4 (Int.toNat ((stI σ 3 (Int.toNat s1) s0).1 0 2)) 0)).bind (fun σ2 => ck (inR ((σ2.1 0 2) + 1)) (ck (inR (((stI (stI (stI σ2 0 2 ((σ2.1 0 2) + 1)) 0 16 0) 0 37 0).1 0 2) - 1)) (some ((((stI (stI (stI σ2 0 2 ((σ2.1 0 2) + 1)) 0 16 0) 0 37 0).1 0 2) - 1), (stI (stI (stI σ2 0 2 ((σ2.1 0 2) + 1)) 0 16 0) 0 37 0)))))))
set_option maxRecDepth 100000 in
set_option maxHeartbeats 4000000 in
theorem t_X7_method_107 {p : Program} {l : Launch} {e : Env} {s : State} {m : MethodId} {args : Array Value} {below : List Frame} {meth : Method} {c : Code} {D : va_G} {ca : Nat → ClassId} {ad : Nat → Nat} {res : Int × Mm} (X : Cx p s m args c cX7_method 4 RX7 (Cond.code yX7_method cX7_method 4 (some .int) :: tbG) D vcl ca) (hN : NM s) (hr : meth.sig.returnType = (some .int)) (hlk : meth.locks = false) : ∀ (s0 : Int) (s1 : Int) (σ : Mm), inR s0 → inR s1 → GX7_method p l e s m args below meth c D ca ad res 107 [(0, .ref (ad 0))] [.int (oi s0), .int (oi s1), .ref (ad 3)] σ (f_X7_method_107 s0 s1 σ) := by
  intro s0 s1 σ hs0 hs1
  unfold f_X7_method_107
  refine q_iast X hM3 (by decide) hs0 dX7_method_107 ?_
  refine q_aload_n X dX7_method_108 0 rfl ?_
  refine fg_X7_23 X dX7_method_109 ?_
  refine q_aload_n X dX7_method_112 0 rfl ?_
  refine fg_X7_115 X dX7_method_113 (fun h1 => ?_)
  refine q_iconst X dX7_method_116 ?_
  refine q_iast X hM4 (by decide) (by decide) dX7_method_117 ?_
  refine q_nm (fun σ2 => ?_)
  refine q_aload_n X dX7_method_118 0 rfl ?_
  refine q_dup X dX7_method_119 rfl ?_
  refine fg_X7_115 X dX7_method_120 (fun h3 => ?_)
  refine q_iconst X dX7_method_123 ?_
  refine q_iadd X dX7_method_124 ?_
  refine q_ck (fun h4 => ?_)
  refine fp_X7_115 X h4 dX7_method_125 ?_
  refine q_aload_n X dX7_method_128 0 rfl ?_
  refine q_iconst X dX7_method_129 ?_
  refine fp_X7_122 X (Or.inl rfl) dX7_method_130 ?_
  refine q_aload_n X dX7_method_133 0 rfl ?_
  refine q_iconst X dX7_method_134 ?_
  refine fp_X7_126 X (Or.inl rfl) dX7_method_135 ?_
  refine q_aload_n X dX7_method_138 0 rfl ?_
  refine fg_X7_115 X dX7_method_139 (fun h5 => ?_)
  refine q_iconst X dX7_method_142 ?_
  refine q_isub X dX7_method_143 ?_
  refine q_ck (fun h6 => ?_)
  exact q_iret X h6 hr hlk dX7_method_144
def f_X7_method_68 (x1 : Int) (x2 : Int) (σ : Mm) : Option (Int × Mm) :=
  (if (σ.1 0 2) = 12 then some ((-3), σ) else ck ((0 : Int) ≤ (σ.1 0 2) ∧ (σ.1 0 2) < ((12 : Nat) : Int)) ((if 0 ≤ x1 then f_X7_method_107 x2 ((stI σ 2 (Int.toNat (σ.1 0 2)) x1).1 0 2) (stI σ 2 (Int.toNat (σ.1 0 2)) x1) else f_X7_method_107 (-1) ((stI σ 2 (Int.toNat (σ.1 0 2)) x1).1 0 2) (stI σ 2 (Int.toNat (σ.1 0 2)) x1))))
set_option maxRecDepth 100000 in
set_option maxHeartbeats 4000000 in
theorem t_X7_method_68 {p : Program} {l : Launch} {e : Env} {s : State} {m : MethodId} {args : Array Value} {below : List Frame} {meth : Method} {c : Code} {D : va_G} {ca : Nat → ClassId} {ad : Nat → Nat} {res : Int × Mm} (X : Cx p s m args c cX7_method 4 RX7 (Cond.code yX7_method cX7_method 4 (some .int) :: tbG) D vcl ca) (hN : NM s) (hr : meth.sig.returnType = (some .int)) (hlk : meth.locks = false) : ∀ (x1 : Int) (x2 : Int) (σ : Mm), inR x1 → inR x2 → GX7_method p l e s m args below meth c D ca ad res 68 [(0, .ref (ad 0)), (1, .int (oi x1)), (2, .int (oi x2))] [] σ (f_X7_method_68 x1 x2 σ) := by
  intro x1 x2 σ hx1 hx2
  unfold f_X7_method_68
  refine q_aload_n X dX7_method_68 0 rfl ?_
  refine fg_X7_115 X dX7_method_69 (fun h7 => ?_)
  refine q_bipush X dX7_method_72 (by decide) ?_
  refine q_icmp_ne X h7 (by decide) 80 dX7_method_74 (by decide) (fun h8 => ?_) (fun h8 => ?_)
  · refine q_bipush X dX7_method_77 (by decide) ?_
    exact q_iret X (by decide) hr hlk dX7_method_79
  · refine q_aload_n X dX7_method_80 0 rfl ?_
    refine fg_X7_17 X dX7_method_81 ?_
    refine q_aload_n X dX7_method_84 0 rfl ?_
    refine fg_X7_115 X dX7_method_85 (fun h9 => ?_)
    refine q_iload_n X dX7_method_88 1 rfl ?_
    refine q_iast X hM2 (by decide) hx1 dX7_method_89 ?_
    refine q_aload_n X dX7_method_90 0 rfl ?_
    refine fg_X7_20 X dX7_method_91 ?_
    refine q_aload_n X dX7_method_94 0 rfl ?_
    refine fg_X7_115 X dX7_method_95 (fun h10 => ?_)
    refine q_iload_n X dX7_method_98 1 rfl ?_
    refine q_if_ge X hx1 106 dX7_method_99 (by decide) (fun h11 => ?_) (fun h11 => ?_)
    · refine q_iload_n X dX7_method_106 2 rfl ?_
      refine q_sub [(0, .ref (ad 0))] [0] rfl ?_
      exact t_X7_method_107 X hN hr hlk x2 ((stI σ 2 (Int.toNat (σ.1 0 2)) x1).1 0 2) (stI σ 2 (Int.toNat (σ.1 0 2)) x1) hx2 h10
    · refine q_iconst X dX7_method_102 ?_
      refine q_goto X 107 dX7_method_103 (by decide) ?_
      refine q_sub [(0, .ref (ad 0))] [0] rfl ?_
      exact t_X7_method_107 X hN hr hlk (-1) ((stI σ 2 (Int.toNat (σ.1 0 2)) x1).1 0 2) (stI σ 2 (Int.toNat (σ.1 0 2)) x1) (by decide) h10
def f_X7_method_27 : Nat → Int → Int → Int → Mm → Option (Int × Mm)
  | 0, _, _, _, _ => none
  | n + 1, x1, x2, x3, σ => (if (σ.1 0 2) ≤ x3 then f_X7_method_68 x1 x2 σ else (if x1 = (-1) then f_X7_method_68 x1 x2 σ else ck ((0 : Int) ≤ x3 ∧ x3 < ((12 : Nat) : Int)) ((if (σ.1 2 (Int.toNat x3)) = x1 then ck ((0 : Int) ≤ x3 ∧ x3 < ((12 : Nat) : Int)) ((if (σ.1 3 (Int.toNat x3)) = x2 then some ((-1), σ) else ck (inR (x3 + 1)) (f_X7_method_27 n x1 x2 (x3 + 1) σ))) else ck (inR (x3 + 1)) (f_X7_method_27 n x1 x2 (x3 + 1) σ)))))
set_option maxRecDepth 100000 in
set_option maxHeartbeats 4000000 in
theorem t_X7_method_27 {p : Program} {l : Launch} {e : Env} {s : State} {m : MethodId} {args : Array Value} {below : List Frame} {meth : Method} {c : Code} {D : va_G} {ca : Nat → ClassId} {ad : Nat → Nat} {res : Int × Mm} (X : Cx p s m args c cX7_method 4 RX7 (Cond.code yX7_method cX7_method 4 (some .int) :: tbG) D vcl ca) (hN : NM s) (hr : meth.sig.returnType = (some .int)) (hlk : meth.locks = false) : ∀ (n : Nat) (x1 : Int) (x2 : Int) (x3 : Int) (σ : Mm), inR x1 → inR x2 → inR x3 → GX7_method p l e s m args below meth c D ca ad res 27 [(0, .ref (ad 0)), (1, .int (oi x1)), (2, .int (oi x2)), (3, .int (oi x3))] [] σ (f_X7_method_27 n x1 x2 x3 σ)
  := by
  intro n
  induction n with
  | zero => intro x1 x2 x3 σ hx1 hx2 hx3 h; cases h
  | succ n ih =>
    intro x1 x2 x3 σ hx1 hx2 hx3
    rw [f_X7_method_27]
    refine q_iload_n X dX7_method_27 3 rfl ?_
    refine q_aload_n X dX7_method_28 0 rfl ?_
    refine fg_X7_115 X dX7_method_29 (fun h12 => ?_)
    refine q_icmp_ge X hx3 h12 68 dX7_method_32 (by decide) (fun h13 => ?_) (fun h13 => ?_)
    · refine q_sub [(0, .ref (ad 0)), (1, .int (oi x1)), (2, .int (oi x2))] [0, 1, 2] rfl ?_
      exact t_X7_method_68 X hN hr hlk x1 x2 σ hx1 hx2
    · refine q_iload_n X dX7_method_35 1 rfl ?_
      refine q_iconst X dX7_method_36 ?_
      refine q_icmp_eq X hx1 (by decide) 68 dX7_method_37 (by decide) (fun h14 => ?_) (fun h14 => ?_)
      · refine q_sub [(0, .ref (ad 0)), (1, .int (oi x1)), (2, .int (oi x2))] [0, 1, 2] rfl ?_
        exact t_X7_method_68 X hN hr hlk x1 x2 σ hx1 hx2
      · refine q_aload_n X dX7_method_40 0 rfl ?_
        refine fg_X7_17 X dX7_method_41 ?_
        refine q_iload_n X dX7_method_44 3 rfl ?_
        refine q_iald X hM2 (by decide) dX7_method_45 (fun h15 => ?_)
        refine q_iload_n X dX7_method_46 1 rfl ?_
        refine q_icmp_ne X h15 hx1 62 dX7_method_47 (by decide) (fun h16 => ?_) (fun h16 => ?_)
        · refine q_aload_n X dX7_method_50 0 rfl ?_
          refine fg_X7_20 X dX7_method_51 ?_
          refine q_iload_n X dX7_method_54 3 rfl ?_
          refine q_iald X hM3 (by decide) dX7_method_55 (fun h17 => ?_)
          refine q_iload_n X dX7_method_56 2 rfl ?_
          refine q_icmp_ne X h17 hx2 62 dX7_method_57 (by decide) (fun h18 => ?_) (fun h18 => ?_)
          · refine q_iconst X dX7_method_60 ?_
            exact q_iret X (by decide) hr hlk dX7_method_61
          · refine q_iinc X [(3, .int (oi (x3 + 1))), (0, .ref (ad 0)), (1, .int (oi x1)), (2, .int (oi x2))] dX7_method_62 (by decide) 3 rfl rfl (fun h19 => ?_)
            refine q_goto X 27 dX7_method_65 (by decide) ?_
            refine q_sub [(0, .ref (ad 0)), (1, .int (oi x1)), (2, .int (oi x2)), (3, .int (oi (x3 + 1)))] [1, 2, 3, 0] rfl ?_
            exact ih x1 x2 (x3 + 1) σ hx1 hx2 h19
        · refine q_iinc X [(3, .int (oi (x3 + 1))), (0, .ref (ad 0)), (1, .int (oi x1)), (2, .int (oi x2))] dX7_method_62 (by decide) 3 rfl rfl (fun h20 => ?_)
          refine q_goto X 27 dX7_method_65 (by decide) ?_
          refine q_sub [(0, .ref (ad 0)), (1, .int (oi x1)), (2, .int (oi x2)), (3, .int (oi (x3 + 1)))] [1, 2, 3, 0] rfl ?_
          exact ih x1 x2 (x3 + 1) σ hx1 hx2 h20
def f_X7_method (x1 : Int) (x2 : Int) (σ : Mm) : Option (Int × Mm) :=
  (if x1 = (-1) then f_X7_method_27 2000 x1 x2 0 σ else (f_X7_isClass x1 σ).bind (fun r22 => (if r22 = 0 then some ((-1), σ) else (f_X7_in x2 0 7 σ).bind (fun r26 => (if r26 = 0 then some ((-1), σ) else f_X7_method_27 2000 x1 x2 0 σ)))))
theorem hd_X7_method : yX7_method.cls = RX7 ∧ yX7_method.cls ≠ "java/lang/invoke/MethodHandle" ∧ yX7_method.cls ≠ "java/lang/invoke/VarHandle" ∧ (parseMethodDescriptor yX7_method.desc).map (fun d => d.parameters.length) = some 2 := by decide +kernel
set_option maxRecDepth 100000 in
set_option maxHeartbeats 4000000 in
theorem c_X7_method {l : Launch} {D : va_G} {ca : Nat → ClassId} {ad : Nat → Nat} {x1 : Int} {x2 : Int} (hx1 : inR x1) (hx2 : inR x2) {σ : Mm} : CtI l D vcl ca ad shM NM yX7_method (Cond.code yX7_method cX7_method 4 (some .int) :: tbG) { frames := 2, cells := 0, slots := 0, locals := 43 } [.ref (ad 0), .int (oi x1), .int (oi x2)] σ (f_X7_method x1 x2 σ) := by
  refine ct_I RX7 rfl (by decide) rfl (Nat.le_of_ble_eq_true rfl) (fun p e s m below meth c res X hN hr hlk => ?_)
  show GX7_method p l e s m _ below meth c D ca ad res 0 [(0, .ref (ad 0)), (1, .int (oi x1)), (2, .int (oi x2))] [] σ (f_X7_method x1 x2 σ)
  unfold f_X7_method
  refine q_iload_n X dX7_method_0 1 rfl ?_
  refine q_iconst X dX7_method_1 ?_
  refine q_icmp_eq X hx1 (by decide) 25 dX7_method_2 (by decide) (fun h21 => ?_) (fun h21 => ?_)
  · refine q_iconst X dX7_method_25 ?_
    refine q_istore_n X [(3, .int (oi 0)), (0, .ref (ad 0)), (1, .int (oi x1)), (2, .int (oi x2))] dX7_method_26 (by decide) rfl ?_
    refine q_sub [(0, .ref (ad 0)), (1, .int (oi x1)), (2, .int (oi x2)), (3, .int (oi 0))] [1, 2, 3, 0] rfl ?_
    exact t_X7_method_27 X hN hr hlk 2000 x1 x2 0 σ hx1 hx2 (by decide)
  · refine q_aload_n X dX7_method_5 0 rfl ?_
    refine q_iload_n X dX7_method_6 1 rfl ?_
    refine q_callIp X NMok hN Aw_new (c_X7_isClass hx1) (rn_V X (cwV 1 X.2.2.2.2.1 (tbG_good _ (tbG_V mw_1004 mw_1006 mp_4_1 mw_9 mw_1007)) rfl rfl rfl hd_X7_isClass ⟨by decide, by decide⟩) hM0 rfl rfl rfl (Nat.le_of_ble_eq_true rfl) dX7_method_7) (fun r22 _ h24 => ?_)
    refine q_if_eq X h24 23 dX7_method_10 (by decide) (fun h25 => ?_) (fun h25 => ?_)
    · refine q_iconst X dX7_method_23 ?_
      exact q_iret X (by decide) hr hlk dX7_method_24
    · refine q_iload_n X dX7_method_13 2 rfl ?_
      refine q_iconst X dX7_method_14 ?_
      refine q_bipush X dX7_method_15 (by decide) ?_
      refine q_callIp X NMok hN Aw_new (c_X7_in hx2 (by decide) (by decide)) (rn_S X (va_cwS 3 X.2.2.2.2.1 (tbG_good _ (tbG_S mw_1008 mw_1009 mw_9 mw_1010)) rfl rfl rfl hd_X7_in ⟨by decide, by decide⟩) rfl rfl (Nat.le_of_ble_eq_true rfl) dX7_method_17) (fun r26 _ h28 => ?_)
      refine q_if_ne X h28 25 dX7_method_20 (by decide) (fun h29 => ?_) (fun h29 => ?_)
      · refine q_iconst X dX7_method_23 ?_
        exact q_iret X (by decide) hr hlk dX7_method_24
      · refine q_iconst X dX7_method_25 ?_
        refine q_istore_n X [(3, .int (oi 0)), (0, .ref (ad 0)), (1, .int (oi x1)), (2, .int (oi x2))] dX7_method_26 (by decide) rfl ?_
        refine q_sub [(0, .ref (ad 0)), (1, .int (oi x1)), (2, .int (oi x2)), (3, .int (oi 0))] [1, 2, 3, 0] rfl ?_
        exact t_X7_method_27 X hN hr hlk 2000 x1 x2 0 σ hx1 hx2 (by decide)

/-! SiteObjectsModel.isVar(I)Z -/
abbrev GX7_isVar (p : Program) (l : Launch) (e : Env) (s : State) (m : MethodId) (args : Array Value) (below : List Frame) (meth : Method) (c : Code) (D : va_G) (ca : Nat → ClassId) (ad : Nat → Nat) (σ : Mm) (res : Int) : Nat → List (Nat × Value) → List Value → Mm → Option (Int) → Prop := G p l e { frames := 1, cells := 0, slots := 0, locals := 22 } s m args below meth c (MQ below (QcI D vcl ca ad shM s.heap.size (res, σ)) args s 0 0 (Aw ad shM.length s.heap.size)) 1 D vcl ca ad shM (Aw ad shM.length s.heap.size) res
def f_X7_isVar (x0 : Int) (σ : Mm) : Option (Int) :=
  (f_X7_in x0 0 5 σ).bind (fun r1 => ck (r1 = 0 ∨ r1 = 1) (some r1))
theorem hd_X7_isVar : yX7_isVar.cls ≠ "java/lang/invoke/MethodHandle" ∧ yX7_isVar.cls ≠ "java/lang/invoke/VarHandle" ∧ (parseMethodDescriptor yX7_isVar.desc).map (fun d => d.parameters.length) = some 1 := by decide +kernel
set_option maxRecDepth 100000 in
set_option maxHeartbeats 4000000 in
theorem c_X7_isVar {l : Launch} {D : va_G} {ca : Nat → ClassId} {ad : Nat → Nat} {x0 : Int} (hx0 : inR x0) {σ : Mm} : CtI l D vcl ca ad shM NM yX7_isVar (Cond.code yX7_isVar cX7_isVar 1 (some .boolean) :: tbG) { frames := 1, cells := 0, slots := 0, locals := 22 } [.int (oi x0)] σ ((f_X7_isVar x0 σ).map (fun r => (r, σ))) := by
  refine ct_Ip RX7 rfl (by decide) rfl (Nat.le_of_ble_eq_true rfl) (fun p e s m below meth c res X hN hr hlk => ?_)
  show GX7_isVar p l e s m _ below meth c D ca ad σ res 0 [(0, .int (oi x0))] [] σ (f_X7_isVar x0 σ)
  unfold f_X7_isVar
  refine q_iload_n X dX7_isVar_0 0 rfl ?_
  refine q_iconst X dX7_isVar_1 ?_
  refine q_iconst X dX7_isVar_2 ?_
  refine q_callIp X NMok hN Aw_new (c_X7_in hx0 (by decide) (by decide)) (rn_S X (va_cwS 3 X.2.2.2.2.1 (tbG_good _ (tbG_S mw_1008 mw_1009 mw_9 mw_1010)) rfl rfl rfl hd_X7_in ⟨by decide, by decide⟩) rfl rfl (Nat.le_of_ble_eq_true rfl) dX7_isVar_3) (fun r1 _ h3 => ?_)
  refine q_ck (fun h4 => ?_)
  exact q_zretp X h4 hr hlk dX7_isVar_6

/-! SiteObjectsModel.areRight(IIIII)Z -/
abbrev GX7_areRight (p : Program) (l : Launch) (e : Env) (s : State) (m : MethodId) (args : Array Value) (below : List Frame) (meth : Method) (c : Code) (D : va_G) (ca : Nat → ClassId) (ad : Nat → Nat) (σ : Mm) (res : Int) : Nat → List (Nat × Value) → List Value → Mm → Option (Int) → Prop := G p l e { frames := 2, cells := 0, slots := 0, locals := 43 } s m args below meth c (MQ below (QcI D vcl ca ad shM s.heap.size (res, σ)) args s 0 0 (Aw ad shM.length s.heap.size)) 6 D vcl ca ad shM (Aw ad shM.length s.heap.size) res
def f_X7_areRight (x1 : Int) (x2 : Int) (x3 : Int) (x4 : Int) (x5 : Int) (σ : Mm) : Option (Int) :=
  (if x1 = 0 then (f_X7_isVar x2 σ).bind (fun r2 => (if r2 = 0 then some 0 else (f_X7_isClass x3 σ).bind (fun r6 => (if r6 = 0 then some 0 else some 1)))) else (if x1 = 1 then (f_X7_isVar x2 σ).bind (fun r11 => (if r11 = 0 then some 0 else (f_X7_isClass x3 σ).bind (fun r15 => (if r15 = 0 then some 0 else (f_X7_in x4 0 5 σ).bind (fun r19 => (if r19 = 0 then some 0 else some 1)))))) else (if x1 = 2 then (f_X7_isVar x2 σ).bind (fun r24 => (if r24 = 0 then some 0 else (f_X7_isVar x3 σ).bind (fun r28 => (if r28 = 0 then some 0 else some 1)))) else (if x1 = 3 then (f_X7_isVar x2 σ).bind (fun r33 => ck (r33 = 0 ∨ r33 = 1) (some r33)) else (if x1 = 4 then (f_X7_isVar x2 σ).bind (fun r38 => (if r38 = 0 then some 0 else (f_X7_isVar x3 σ).bind (fun r42 => (if r42 = 0 then some 0 else (f_X7_in x4 0 3 σ).bind (fun r46 => (if r46 = 0 then some 0 else some 1)))))) else (if x1 = 5 then (f_X7_isVar x2 σ).bind (fun r51 => (if r51 = 0 then some 0 else (f_X7_isVar x3 σ).bind (fun r55 => (if r55 = 0 then some 0 else (f_X7_in x4 0 3 σ).bind (fun r59 => (if r59 = 0 then some 0 else some 1)))))) else (if x1 = 6 then (f_X7_isVar x2 σ).bind (fun r64 => (if r64 = 0 then some 0 else (f_X7_isVar x3 σ).bind (fun r68 => (if r68 = 0 then some 0 else (f_X7_in x4 0 7 σ).bind (fun r72 => (if r72 = 0 then some 0 else some 1)))))) else (if x1 = 7 then (f_X7_isVar x2 σ).bind (fun r77 => (if r77 = 0 then some 0 else (f_X7_isVar x3 σ).bind (fun r81 => (if r81 = 0 then some 0 else (f_X7_in x4 0 7 σ).bind (fun r85 => (if r85 = 0 then some 0 else some 1)))))) else (if x1 = 8 then (f_X7_isVar x2 σ).bind (fun r90 => (if r90 = 0 then some 0 else (f_X7_isVar x3 σ).bind (fun r94 => (if r94 = 0 then some 0 else (f_X7_isClass x4 σ).bind (fun r98 => (if r98 = 0 then some 0 else some 1)))))) else (if x1 = 9 then (f_X7_isVar x2 σ).bind (fun r103 => (if r103 = 0 then some 0 else (f_X7_isVar x3 σ).bind (fun r107 => (if r107 = 0 then some 0 else (f_X7_in x4 0 7 σ).bind (fun r111 => (if r111 = 0 then some 0 else (f_X7_isVar x5 σ).bind (fun r115 => (if r115 = 0 then some 0 else some 1)))))))) else (if x1 = 10 then (f_X7_isVar x2 σ).bind (fun r120 => (if r120 = 0 then some 0 else (f_X7_isStatic x4 σ).bind (fun r124 => (if r124 = 0 then some 0 else (f_X7_isVar x5 σ).bind (fun r128 => (if r128 = 0 then some 0 else some 1)))))) else (if x1 = 11 then (f_X7_isVar x2 σ).bind (fun r133 => ck (r133 = 0 ∨ r133 = 1) (some r133)) else (if x1 = 12 then (f_X7_in x3 1 30 σ).bind (fun r138 => ck (r138 = 0 ∨ r138 = 1) (some r138)) else (if x1 = 13 then (f_X7_isVar x2 σ).bind (fun r143 => (if r143 = 0 then some 0 else (f_X7_in x4 0 3 σ).bind (fun r147 => (if r147 = 0 then some 0 else some 1)))) else (if x1 = 14 then (f_X7_isVar x2 σ).bind (fun r152 => (if r152 = 0 then some 0 else (f_X7_in x4 0 3 σ).bind (fun r156 => (if r156 = 0 then some 0 else some 1)))) else (if x1 = 15 then (f_X7_isVar x2 σ).bind (fun r161 => ck (r161 = 0 ∨ r161 = 1) (some r161)) else (if x1 = 16 then (f_X7_isVar x2 σ).bind (fun r166 => (if r166 = 0 then some 0 else (f_X7_in x3 1 30 σ).bind (fun r170 => (if r170 = 0 then some 0 else (f_X7_isClass x4 σ).bind (fun r174 => (if r174 = 0 then some 0 else some 1)))))) else (f_X7_isVar x2 σ).bind (fun r178 => ck (r178 = 0 ∨ r178 = 1) (some r178)))))))))))))))))))
theorem hd_X7_areRight : yX7_areRight.cls = RX7 ∧ yX7_areRight.cls ≠ "java/lang/invoke/MethodHandle" ∧ yX7_areRight.cls ≠ "java/lang/invoke/VarHandle" ∧ (parseMethodDescriptor yX7_areRight.desc).map (fun d => d.parameters.length) = some 5 := by decide +kernel
set_option maxRecDepth 100000 in
set_option maxHeartbeats 4000000 in
theorem c_X7_areRight {l : Launch} {D : va_G} {ca : Nat → ClassId} {ad : Nat → Nat} {x1 : Int} {x2 : Int} {x3 : Int} {x4 : Int} {x5 : Int} (hx1 : inR x1) (hx2 : inR x2) (hx3 : inR x3) (hx4 : inR x4) (hx5 : inR x5) {σ : Mm} : CtI l D vcl ca ad shM NM yX7_areRight (Cond.code yX7_areRight cX7_areRight 6 (some .boolean) :: tbG) { frames := 2, cells := 0, slots := 0, locals := 43 } [.ref (ad 0), .int (oi x1), .int (oi x2), .int (oi x3), .int (oi x4), .int (oi x5)] σ ((f_X7_areRight x1 x2 x3 x4 x5 σ).map (fun r => (r, σ))) := by
  refine ct_Ip RX7 rfl (by decide) rfl (Nat.le_of_ble_eq_true rfl) (fun p e s m below meth c res X hN hr hlk => ?_)
  show GX7_areRight p l e s m _ below meth c D ca ad σ res 0 [(0, .ref (ad 0)), (1, .int (oi x1)), (2, .int (oi x2)), (3, .int (oi x3)), (4, .int (oi x4)), (5, .int (oi x5))] [] σ (f_X7_areRight x1 x2 x3 x4 x5 σ)
  unfold f_X7_areRight
  refine q_iload_n X dX7_areRight_0 1 rfl ?_
  refine q_ite (fun h1 => ?_) (fun h1 => ?_)
  · refine q_tswIn X hx1 0 83 84 h1 dX7_areRight_1 (by decide) rfl (by decide) ?_
    refine q_iload_n X dX7_areRight_84 2 rfl ?_
    refine q_callIp X NMok hN Aw_new (c_X7_isVar hx2) (rn_S X (va_cwS 1 X.2.2.2.2.1 (tbG_good _ (tbG_S mw_1023 mw_1024 mw_9 mw_1025)) rfl rfl rfl hd_X7_isVar ⟨by decide, by decide⟩) rfl rfl (Nat.le_of_ble_eq_true rfl) dX7_areRight_85) (fun r2 _ h4 => ?_)
    refine q_if_eq X h4 103 dX7_areRight_88 (by decide) (fun h5 => ?_) (fun h5 => ?_)
    · refine q_iconst X dX7_areRight_103 ?_
      exact q_zretp X (Or.inl rfl) hr hlk dX7_areRight_104
    · refine q_aload_n X dX7_areRight_91 0 rfl ?_
      refine q_iload_n X dX7_areRight_92 3 rfl ?_
      refine q_callIp X NMok hN Aw_new (c_X7_isClass hx3) (rn_V X (cwV 1 X.2.2.2.2.1 (tbG_good _ (tbG_V mw_1004 mw_1006 mp_4_1 mw_9 mw_1007)) rfl rfl rfl hd_X7_isClass ⟨by decide, by decide⟩) hM0 rfl rfl rfl (Nat.le_of_ble_eq_true rfl) dX7_areRight_93) (fun r6 _ h8 => ?_)
      refine q_if_eq X h8 103 dX7_areRight_96 (by decide) (fun h9 => ?_) (fun h9 => ?_)
      · refine q_iconst X dX7_areRight_103 ?_
        exact q_zretp X (Or.inl rfl) hr hlk dX7_areRight_104
      · refine q_iconst X dX7_areRight_99 ?_
        refine q_goto X 104 dX7_areRight_100 (by decide) ?_
        exact q_zretp X (Or.inr rfl) hr hlk dX7_areRight_104
  · refine q_ite (fun h10 => ?_) (fun h10 => ?_)
    · refine q_tswIn X hx1 1 104 105 h10 dX7_areRight_1 (by decide) rfl (by decide) ?_
      refine q_iload_n X dX7_areRight_105 2 rfl ?_
      refine q_callIp X NMok hN Aw_new (c_X7_isVar hx2) (rn_S X (va_cwS 1 X.2.2.2.2.1 (tbG_good _ (tbG_S mw_1023 mw_1024 mw_9 mw_1025)) rfl rfl rfl hd_X7_isVar ⟨by decide, by decide⟩) rfl rfl (Nat.le_of_ble_eq_true rfl) dX7_areRight_106) (fun r11 _ h13 => ?_)
      refine q_if_eq X h13 134 dX7_areRight_109 (by decide) (fun h14 => ?_) (fun h14 => ?_)
      · refine q_iconst X dX7_areRight_134 ?_
        exact q_zretp X (Or.inl rfl) hr hlk dX7_areRight_135
      · refine q_aload_n X dX7_areRight_112 0 rfl ?_
        refine q_iload_n X dX7_areRight_113 3 rfl ?_
        refine q_callIp X NMok hN Aw_new (c_X7_isClass hx3) (rn_V X (cwV 1 X.2.2.2.2.1 (tbG_good _ (tbG_V mw_1004 mw_1006 mp_4_1 mw_9 mw_1007)) rfl rfl rfl hd_X7_isClass ⟨by decide, by decide⟩) hM0 rfl rfl rfl (Nat.le_of_ble_eq_true rfl) dX7_areRight_114) (fun r15 _ h17 => ?_)
        refine q_if_eq X h17 134 dX7_areRight_117 (by decide) (fun h18 => ?_) (fun h18 => ?_)
        · refine q_iconst X dX7_areRight_134 ?_
          exact q_zretp X (Or.inl rfl) hr hlk dX7_areRight_135
        · refine q_iload X dX7_areRight_120 4 rfl ?_
          refine q_iconst X dX7_areRight_122 ?_
          refine q_iconst X dX7_areRight_123 ?_
          refine q_callIp X NMok hN Aw_new (c_X7_in hx4 (by decide) (by decide)) (rn_S X (va_cwS 3 X.2.2.2.2.1 (tbG_good _ (tbG_S mw_1008 mw_1009 mw_9 mw_1010)) rfl rfl rfl hd_X7_in ⟨by decide, by decide⟩) rfl rfl (Nat.le_of_ble_eq_true rfl) dX7_areRight_124) (fun r19 _ h21 => ?_)
          refine q_if_eq X h21 134 dX7_areRight_127 (by decide) (fun h22 => ?_) (fun h22 => ?_)
          · refine q_iconst X dX7_areRight_134 ?_
            exact q_zretp X (Or.inl rfl) hr hlk dX7_areRight_135
          · refine q_iconst X dX7_areRight_130 ?_
            refine q_goto X 135 dX7_areRight_131 (by decide) ?_
            exact q_zretp X (Or.inr rfl) hr hlk dX7_areRight_135
    · refine q_ite (fun h23 => ?_) (fun h23 => ?_)
      · refine q_tswIn X hx1 2 135 136 h23 dX7_areRight_1 (by decide) rfl (by decide) ?_
        refine q_iload_n X dX7_areRight_136 2 rfl ?_
        refine q_callIp X NMok hN Aw_new (c_X7_isVar hx2) (rn_S X (va_cwS 1 X.2.2.2.2.1 (tbG_good _ (tbG_S mw_1023 mw_1024 mw_9 mw_1025)) rfl rfl rfl hd_X7_isVar ⟨by decide, by decide⟩) rfl rfl (Nat.le_of_ble_eq_true rfl) dX7_areRight_137) (fun r24 _ h26 => ?_)
        refine q_if_eq X h26 154 dX7_areRight_140 (by decide) (fun h27 => ?_) (fun h27 => ?_)
        · refine q_iconst X dX7_areRight_154 ?_
          exact q_zretp X (Or.inl rfl) hr hlk dX7_areRight_155
        · refine q_iload_n X dX7_areRight_143 3 rfl ?_
          refine q_callIp X NMok hN Aw_new (c_X7_isVar hx3) (rn_S X (va_cwS 1 X.2.2.2.2.1 (tbG_good _ (tbG_S mw_1023 mw_1024 mw_9 mw_1025)) rfl rfl rfl hd_X7_isVar ⟨by decide, by decide⟩) rfl rfl (Nat.le_of_ble_eq_true rfl) dX7_areRight_144) (fun r28 _ h30 => ?_)
          refine q_if_eq X h30 154 dX7_areRight_147 (by decide) (fun h31 => ?_) (fun h31 => ?_)
          · refine q_iconst X dX7_areRight_154 ?_
            exact q_zretp X (Or.inl rfl) hr hlk dX7_areRight_155
          · refine q_iconst X dX7_areRight_150 ?_
            refine q_goto X 155 dX7_areRight_151 (by decide) ?_
            exact q_zretp X (Or.inr rfl) hr hlk dX7_areRight_155
      · refine q_ite (fun h32 => ?_) (fun h32 => ?_)
        · refine q_tswIn X hx1 3 377 378 h32 dX7_areRight_1 (by decide) rfl (by decide) ?_
          refine q_iload_n X dX7_areRight_378 2 rfl ?_
          refine q_callIp X NMok hN Aw_new (c_X7_isVar hx2) (rn_S X (va_cwS 1 X.2.2.2.2.1 (tbG_good _ (tbG_S mw_1023 mw_1024 mw_9 mw_1025)) rfl rfl rfl hd_X7_isVar ⟨by decide, by decide⟩) rfl rfl (Nat.le_of_ble_eq_true rfl) dX7_areRight_379) (fun r33 _ h35 => ?_)
          refine q_ck (fun h36 => ?_)
          exact q_zretp X h36 hr hlk dX7_areRight_382
        · refine q_ite (fun h37 => ?_) (fun h37 => ?_)
          · refine q_tswIn X hx1 4 155 156 h37 dX7_areRight_1 (by decide) rfl (by decide) ?_
            refine q_iload_n X dX7_areRight_156 2 rfl ?_
            refine q_callIp X NMok hN Aw_new (c_X7_isVar hx2) (rn_S X (va_cwS 1 X.2.2.2.2.1 (tbG_good _ (tbG_S mw_1023 mw_1024 mw_9 mw_1025)) rfl rfl rfl hd_X7_isVar ⟨by decide, by decide⟩) rfl rfl (Nat.le_of_ble_eq_true rfl) dX7_areRight_157) (fun r38 _ h40 => ?_)
            refine q_if_eq X h40 184 dX7_areRight_160 (by decide) (fun h41 => ?_) (fun h41 => ?_)
            · refine q_iconst X dX7_areRight_184 ?_
              exact q_zretp X (Or.inl rfl) hr hlk dX7_areRight_185
            · refine q_iload_n X dX7_areRight_163 3 rfl ?_
              refine q_callIp X NMok hN Aw_new (c_X7_isVar hx3) (rn_S X (va_cwS 1 X.2.2.2.2.1 (tbG_good _ (tbG_S mw_1023 mw_1024 mw_9 mw_1025)) rfl rfl rfl hd_X7_isVar ⟨by decide, by decide⟩) rfl rfl (Nat.le_of_ble_eq_true rfl) dX7_areRight_164) (fun r42 _ h44 => ?_)
              refine q_if_eq X h44 184 dX7_areRight_167 (by decide) (fun h45 => ?_) (fun h45 => ?_)
              · refine q_iconst X dX7_areRight_184 ?_
                exact q_zretp X (Or.inl rfl) hr hlk dX7_areRight_185
              · refine q_iload X dX7_areRight_170 4 rfl ?_
                refine q_iconst X dX7_areRight_172 ?_
                refine q_iconst X dX7_areRight_173 ?_
                refine q_callIp X NMok hN Aw_new (c_X7_in hx4 (by decide) (by decide)) (rn_S X (va_cwS 3 X.2.2.2.2.1 (tbG_good _ (tbG_S mw_1008 mw_1009 mw_9 mw_1010)) rfl rfl rfl hd_X7_in ⟨by decide, by decide⟩) rfl rfl (Nat.le_of_ble_eq_true rfl) dX7_areRight_174) (fun r46 _ h48 => ?_)
                refine q_if_eq X h48 184 dX7_areRight_177 (by decide) (fun h49 => ?_) (fun h49 => ?_)
                · refine q_iconst X dX7_areRight_184 ?_
                  exact q_zretp X (Or.inl rfl) hr hlk dX7_areRight_185
                · refine q_iconst X dX7_areRight_180 ?_
                  refine q_goto X 185 dX7_areRight_181 (by decide) ?_
                  exact q_zretp X (Or.inr rfl) hr hlk dX7_areRight_185
          · refine q_ite (fun h50 => ?_) (fun h50 => ?_)
            · refine q_tswIn X hx1 5 155 156 h50 dX7_areRight_1 (by decide) rfl (by decide) ?_
              refine q_iload_n X dX7_areRight_156 2 rfl ?_
              refine q_callIp X NMok hN Aw_new (c_X7_isVar hx2) (rn_S X (va_cwS 1 X.2.2.2.2.1 (tbG_good _ (tbG_S mw_1023 mw_1024 mw_9 mw_1025)) rfl rfl rfl hd_X7_isVar ⟨by decide, by decide⟩) rfl rfl (Nat.le_of_ble_eq_true rfl) dX7_areRight_157) (fun r51 _ h53 => ?_)
              refine q_if_eq X h53 184 dX7_areRight_160 (by decide) (fun h54 => ?_) (fun h54 => ?_)
              · refine q_iconst X dX7_areRight_184 ?_
                exact q_zretp X (Or.inl rfl) hr hlk dX7_areRight_185
              · refine q_iload_n X dX7_areRight_163 3 rfl ?_
                refine q_callIp X NMok hN Aw_new (c_X7_isVar hx3) (rn_S X (va_cwS 1 X.2.2.2.2.1 (tbG_good _ (tbG_S mw_1023 mw_1024 mw_9 mw_1025)) rfl rfl rfl hd_X7_isVar ⟨by decide, by decide⟩) rfl rfl (Nat.le_of_ble_eq_true rfl) dX7_areRight_164) (fun r55 _ h57 => ?_)
                refine q_if_eq X h57 184 dX7_areRight_167 (by decide) (fun h58 => ?_) (fun h58 => ?_)
                · refine q_iconst X dX7_areRight_184 ?_
                  exact q_zretp X (Or.inl rfl) hr hlk dX7_areRight_185
                · refine q_iload X dX7_areRight_170 4 rfl ?_
                  refine q_iconst X dX7_areRight_172 ?_
                  refine q_iconst X dX7_areRight_173 ?_
                  refine q_callIp X NMok hN Aw_new (c_X7_in hx4 (by decide) (by decide)) (rn_S X (va_cwS 3 X.2.2.2.2.1 (tbG_good _ (tbG_S mw_1008 mw_1009 mw_9 mw_1010)) rfl rfl rfl hd_X7_in ⟨by decide, by decide⟩) rfl rfl (Nat.le_of_ble_eq_true rfl) dX7_areRight_174) (fun r59 _ h61 => ?_)
                  refine q_if_eq X h61 184 dX7_areRight_177 (by decide) (fun h62 => ?_) (fun h62 => ?_)
                  · refine q_iconst X dX7_areRight_184 ?_
                    exact q_zretp X (Or.inl rfl) hr hlk dX7_areRight_185
                  · refine q_iconst X dX7_areRight_180 ?_
                    refine q_goto X 185 dX7_areRight_181 (by decide) ?_
                    exact q_zretp X (Or.inr rfl) hr hlk dX7_areRight_185
            · refine q_ite (fun h63 => ?_) (fun h63 => ?_)
              · refine q_tswIn X hx1 6 185 186 h63 dX7_areRight_1 (by decide) rfl (by decide) ?_
                refine q_iload_n X dX7_areRight_186 2 rfl ?_
                refine q_callIp X NMok hN Aw_new (c_X7_isVar hx2) (rn_S X (va_cwS 1 X.2.2.2.2.1 (tbG_good _ (tbG_S mw_1023 mw_1024 mw_9 mw_1025)) rfl rfl rfl hd_X7_isVar ⟨by decide, by decide⟩) rfl rfl (Nat.le_of_ble_eq_true rfl) dX7_areRight_187) (fun r64 _ h66 => ?_)
                refine q_if_eq X h66 215 dX7_areRight_190 (by decide) (fun h67 => ?_) (fun h67 => ?_)
                · refine q_iconst X dX7_areRight_215 ?_
                  exact q_zretp X (Or.inl rfl) hr hlk dX7_areRight_216
                · refine q_iload_n X dX7_areRight_193 3 rfl ?_
                  refine q_callIp X NMok hN Aw_new (c_X7_isVar hx3) (rn_S X (va_cwS 1 X.2.2.2.2.1 (tbG_good _ (tbG_S mw_1023 mw_1024 mw_9 mw_1025)) rfl rfl rfl hd_X7_isVar ⟨by decide, by decide⟩) rfl rfl (Nat.le_of_ble_eq_true rfl) dX7_areRight_194) (fun r68 _ h70 => ?_)
                  refine q_if_eq X h70 215 dX7_areRight_197 (by decide) (fun h71 => ?_) (fun h71 => ?_)
                  · refine q_iconst X dX7_areRight_215 ?_
                    exact q_zretp X (Or.inl rfl) hr hlk dX7_areRight_216
                  · refine q_iload X dX7_areRight_200 4 rfl ?_
                    refine q_iconst X dX7_areRight_202 ?_
                    refine q_bipush X dX7_areRight_203 (by decide) ?_
                    refine q_callIp X NMok hN Aw_new (c_X7_in hx4 (by decide) (by decide)) (rn_S X (va_cwS 3 X.2.2.2.2.1 (tbG_good _ (tbG_S mw_1008 mw_1009 mw_9 mw_1010)) rfl rfl rfl hd_X7_in ⟨by decide, by decide⟩) rfl rfl (Nat.le_of_ble_eq_true rfl) dX7_areRight_205) (fun r72 _ h74 => ?_)
                    refine q_if_eq X h74 215 dX7_areRight_208 (by decide) (fun h75 => ?_) (fun h75 => ?_)
                    · refine q_iconst X dX7_areRight_215 ?_
                      exact q_zretp X (Or.inl rfl) hr hlk dX7_areRight_216
                    · refine q_iconst X dX7_areRight_211 ?_
                      refine q_goto X 216 dX7_areRight_212 (by decide) ?_
                      exact q_zretp X (Or.inr rfl) hr hlk dX7_areRight_216
              · refine q_ite (fun h76 => ?_) (fun h76 => ?_)
                · refine q_tswIn X hx1 7 185 186 h76 dX7_areRight_1 (by decide) rfl (by decide) ?_
                  refine q_iload_n X dX7_areRight_186 2 rfl ?_
                  refine q_callIp X NMok hN Aw_new (c_X7_isVar hx2) (rn_S X (va_cwS 1 X.2.2.2.2.1 (tbG_good _ (tbG_S mw_1023 mw_1024 mw_9 mw_1025)) rfl rfl rfl hd_X7_isVar ⟨by decide, by decide⟩) rfl rfl (Nat.le_of_ble_eq_true rfl) dX7_areRight_187) (fun r77 _ h79 => ?_)
                  refine q_if_eq X h79 215 dX7_areRight_190 (by decide) (fun h80 => ?_) (fun h80 => ?_)
                  · refine q_iconst X dX7_areRight_215 ?_
                    exact q_zretp X (Or.inl rfl) hr hlk dX7_areRight_216
                  · refine q_iload_n X dX7_areRight_193 3 rfl ?_
                    refine q_callIp X NMok hN Aw_new (c_X7_isVar hx3) (rn_S X (va_cwS 1 X.2.2.2.2.1 (tbG_good _ (tbG_S mw_1023 mw_1024 mw_9 mw_1025)) rfl rfl rfl hd_X7_isVar ⟨by decide, by decide⟩) rfl rfl (Nat.le_of_ble_eq_true rfl) dX7_areRight_194) (fun r81 _ h83 => ?_)
                    refine q_if_eq X h83 215 dX7_areRight_197 (by decide) (fun h84 => ?_) (fun h84 => ?_)
                    · refine q_iconst X dX7_areRight_215 ?_
                      exact q_zretp X (Or.inl rfl) hr hlk dX7_areRight_216
                    · refine q_iload X dX7_areRight_200 4 rfl ?_
                      refine q_iconst X dX7_areRight_202 ?_
                      refine q_bipush X dX7_areRight_203 (by decide) ?_
                      refine q_callIp X NMok hN Aw_new (c_X7_in hx4 (by decide) (by decide)) (rn_S X (va_cwS 3 X.2.2.2.2.1 (tbG_good _ (tbG_S mw_1008 mw_1009 mw_9 mw_1010)) rfl rfl rfl hd_X7_in ⟨by decide, by decide⟩) rfl rfl (Nat.le_of_ble_eq_true rfl) dX7_areRight_205) (fun r85 _ h87 => ?_)
                      refine q_if_eq X h87 215 dX7_areRight_208 (by decide) (fun h88 => ?_) (fun h88 => ?_)
                      · refine q_iconst X dX7_areRight_215 ?_
                        exact q_zretp X (Or.inl rfl) hr hlk dX7_areRight_216
                      · refine q_iconst X dX7_areRight_211 ?_
                        refine q_goto X 216 dX7_areRight_212 (by decide) ?_
                        exact q_zretp X (Or.inr rfl) hr hlk dX7_areRight_216
                · refine q_ite (fun h89 => ?_) (fun h89 => ?_)
                  · refine q_tswIn X hx1 8 216 217 h89 dX7_areRight_1 (by decide) rfl (by decide) ?_
                    refine q_iload_n X dX7_areRight_217 2 rfl ?_
                    refine q_callIp X NMok hN Aw_new (c_X7_isVar hx2) (rn_S X (va_cwS 1 X.2.2.2.2.1 (tbG_good _ (tbG_S mw_1023 mw_1024 mw_9 mw_1025)) rfl rfl rfl hd_X7_isVar ⟨by decide, by decide⟩) rfl rfl (Nat.le_of_ble_eq_true rfl) dX7_areRight_218) (fun r90 _ h92 => ?_)
                    refine q_if_eq X h92 244 dX7_areRight_221 (by decide) (fun h93 => ?_) (fun h93 => ?_)
                    · refine q_iconst X dX7_areRight_244 ?_
                      exact q_zretp X (Or.inl rfl) hr hlk dX7_areRight_245
                    · refine q_iload_n X dX7_areRight_224 3 rfl ?_
                      refine q_callIp X NMok hN Aw_new (c_X7_isVar hx3) (rn_S X (va_cwS 1 X.2.2.2.2.1 (tbG_good _ (tbG_S mw_1023 mw_1024 mw_9 mw_1025)) rfl rfl rfl hd_X7_isVar ⟨by decide, by decide⟩) rfl rfl (Nat.le_of_ble_eq_true rfl) dX7_areRight_225) (fun r94 _ h96 => ?_)
                      refine q_if_eq X h96 244 dX7_areRight_228 (by decide) (fun h97 => ?_) (fun h97 => ?_)
                      · refine q_iconst X dX7_areRight_244 ?_
                        exact q_zretp X (Or.inl rfl) hr hlk dX7_areRight_245
                      · refine q_aload_n X dX7_areRight_231 0 rfl ?_
                        refine q_iload X dX7_areRight_232 4 rfl ?_
                        refine q_callIp X NMok hN Aw_new (c_X7_isClass hx4) (rn_V X (cwV 1 X.2.2.2.2.1 (tbG_good _ (tbG_V mw_1004 mw_1006 mp_4_1 mw_9 mw_1007)) rfl rfl rfl hd_X7_isClass ⟨by decide, by decide⟩) hM0 rfl rfl rfl (Nat.le_of_ble_eq_true rfl) dX7_areRight_234) (fun r98 _ h100 => ?_)
                        refine q_if_eq X h100 244 dX7_areRight_237 (by decide) (fun h101 => ?_) (fun h101 => ?_)
                        · refine q_iconst X dX7_areRight_244 ?_
                          exact q_zretp X (Or.inl rfl) hr hlk dX7_areRight_245
                        · refine q_iconst X dX7_areRight_240 ?_
                          refine q_goto X 245 dX7_areRight_241 (by decide) ?_
                          exact q_zretp X (Or.inr rfl) hr hlk dX7_areRight_245
                  · refine q_ite (fun h102 => ?_) (fun h102 => ?_)
                    · refine q_tswIn X hx1 9 245 246 h102 dX7_areRight_1 (by decide) rfl (by decide) ?_
                      refine q_iload_n X dX7_areRight_246 2 rfl ?_
                      refine q_callIp X NMok hN Aw_new (c_X7_isVar hx2) (rn_S X (va_cwS 1 X.2.2.2.2.1 (tbG_good _ (tbG_S mw_1023 mw_1024 mw_9 mw_1025)) rfl rfl rfl hd_X7_isVar ⟨by decide, by decide⟩) rfl rfl (Nat.le_of_ble_eq_true rfl) dX7_areRight_247) (fun r103 _ h105 => ?_)
                      refine q_if_eq X h105 283 dX7_areRight_250 (by decide) (fun h106 => ?_) (fun h106 => ?_)
                      · refine q_iconst X dX7_areRight_283 ?_
                        exact q_zretp X (Or.inl rfl) hr hlk dX7_areRight_284
                      · refine q_iload_n X dX7_areRight_253 3 rfl ?_
                        refine q_callIp X NMok hN Aw_new (c_X7_isVar hx3) (rn_S X (va_cwS 1 X.2.2.2.2.1 (tbG_good _ (tbG_S mw_1023 mw_1024 mw_9 mw_1025)) rfl rfl rfl hd_X7_isVar ⟨by decide, by decide⟩) rfl rfl (Nat.le_of_ble_eq_true rfl) dX7_areRight_254) (fun r107 _ h109 => ?_)
                        refine q_if_eq X h109 283 dX7_areRight_257 (by decide) (fun h110 => ?_) (fun h110 => ?_)
                        · refine q_iconst X dX7_areRight_283 ?_
                          exact q_zretp X (Or.inl rfl) hr hlk dX7_areRight_284
                        · refine q_iload X dX7_areRight_260 4 rfl ?_
                          refine q_iconst X dX7_areRight_262 ?_
                          refine q_bipush X dX7_areRight_263 (by decide) ?_
                          refine q_callIp X NMok hN Aw_new (c_X7_in hx4 (by decide) (by decide)) (rn_S X (va_cwS 3 X.2.2.2.2.1 (tbG_good _ (tbG_S mw_1008 mw_1009 mw_9 mw_1010)) rfl rfl rfl hd_X7_in ⟨by decide, by decide⟩) rfl rfl (Nat.le_of_ble_eq_true rfl) dX7_areRight_265) (fun r111 _ h113 => ?_)
                          refine q_if_eq X h113 283 dX7_areRight_268 (by decide) (fun h114 => ?_) (fun h114 => ?_)
                          · refine q_iconst X dX7_areRight_283 ?_
                            exact q_zretp X (Or.inl rfl) hr hlk dX7_areRight_284
                          · refine q_iload X dX7_areRight_271 5 rfl ?_
                            refine q_callIp X NMok hN Aw_new (c_X7_isVar hx5) (rn_S X (va_cwS 1 X.2.2.2.2.1 (tbG_good _ (tbG_S mw_1023 mw_1024 mw_9 mw_1025)) rfl rfl rfl hd_X7_isVar ⟨by decide, by decide⟩) rfl rfl (Nat.le_of_ble_eq_true rfl) dX7_areRight_273) (fun r115 _ h117 => ?_)
                            refine q_if_eq X h117 283 dX7_areRight_276 (by decide) (fun h118 => ?_) (fun h118 => ?_)
                            · refine q_iconst X dX7_areRight_283 ?_
                              exact q_zretp X (Or.inl rfl) hr hlk dX7_areRight_284
                            · refine q_iconst X dX7_areRight_279 ?_
                              refine q_goto X 284 dX7_areRight_280 (by decide) ?_
                              exact q_zretp X (Or.inr rfl) hr hlk dX7_areRight_284
                    · refine q_ite (fun h119 => ?_) (fun h119 => ?_)
                      · refine q_tswIn X hx1 10 284 285 h119 dX7_areRight_1 (by decide) rfl (by decide) ?_
                        refine q_iload_n X dX7_areRight_285 2 rfl ?_
                        refine q_callIp X NMok hN Aw_new (c_X7_isVar hx2) (rn_S X (va_cwS 1 X.2.2.2.2.1 (tbG_good _ (tbG_S mw_1023 mw_1024 mw_9 mw_1025)) rfl rfl rfl hd_X7_isVar ⟨by decide, by decide⟩) rfl rfl (Nat.le_of_ble_eq_true rfl) dX7_areRight_286) (fun r120 _ h122 => ?_)
                        refine q_if_eq X h122 313 dX7_areRight_289 (by decide) (fun h123 => ?_) (fun h123 => ?_)
                        · refine q_iconst X dX7_areRight_313 ?_
                          exact q_zretp X (Or.inl rfl) hr hlk dX7_areRight_314
                        · refine q_aload_n X dX7_areRight_292 0 rfl ?_
                          refine q_iload X dX7_areRight_293 4 rfl ?_
                          refine q_callIp X NMok hN Aw_new (c_X7_isStatic hx4) (rn_V X (cwV 1 X.2.2.2.2.1 (tbG_good _ (tbG_V mw_1026 mw_1028 mp_4_3 mw_9 mw_1029)) rfl rfl rfl hd_X7_isStatic ⟨by decide, by decide⟩) hM0 rfl rfl rfl (Nat.le_of_ble_eq_true rfl) dX7_areRight_295) (fun r124 _ h126 => ?_)
                          refine q_if_eq X h126 313 dX7_areRight_298 (by decide) (fun h127 => ?_) (fun h127 => ?_)
                          · refine q_iconst X dX7_areRight_313 ?_
                            exact q_zretp X (Or.inl rfl) hr hlk dX7_areRight_314
                          · refine q_iload X dX7_areRight_301 5 rfl ?_
                            refine q_callIp X NMok hN Aw_new (c_X7_isVar hx5) (rn_S X (va_cwS 1 X.2.2.2.2.1 (tbG_good _ (tbG_S mw_1023 mw_1024 mw_9 mw_1025)) rfl rfl rfl hd_X7_isVar ⟨by decide, by decide⟩) rfl rfl (Nat.le_of_ble_eq_true rfl) dX7_areRight_303) (fun r128 _ h130 => ?_)
                            refine q_if_eq X h130 313 dX7_areRight_306 (by decide) (fun h131 => ?_) (fun h131 => ?_)
                            · refine q_iconst X dX7_areRight_313 ?_
                              exact q_zretp X (Or.inl rfl) hr hlk dX7_areRight_314
                            · refine q_iconst X dX7_areRight_309 ?_
                              refine q_goto X 314 dX7_areRight_310 (by decide) ?_
                              exact q_zretp X (Or.inr rfl) hr hlk dX7_areRight_314
                      · refine q_ite (fun h132 => ?_) (fun h132 => ?_)
                        · refine q_tswIn X hx1 11 377 378 h132 dX7_areRight_1 (by decide) rfl (by decide) ?_
                          refine q_iload_n X dX7_areRight_378 2 rfl ?_
                          refine q_callIp X NMok hN Aw_new (c_X7_isVar hx2) (rn_S X (va_cwS 1 X.2.2.2.2.1 (tbG_good _ (tbG_S mw_1023 mw_1024 mw_9 mw_1025)) rfl rfl rfl hd_X7_isVar ⟨by decide, by decide⟩) rfl rfl (Nat.le_of_ble_eq_true rfl) dX7_areRight_379) (fun r133 _ h135 => ?_)
                          refine q_ck (fun h136 => ?_)
                          exact q_zretp X h136 hr hlk dX7_areRight_382
                        · refine q_ite (fun h137 => ?_) (fun h137 => ?_)
                          · refine q_tswIn X hx1 12 314 315 h137 dX7_areRight_1 (by decide) rfl (by decide) ?_
                            refine q_iload_n X dX7_areRight_315 3 rfl ?_
                            refine q_iconst X dX7_areRight_316 ?_
                            refine q_bipush X dX7_areRight_317 (by decide) ?_
                            refine q_callIp X NMok hN Aw_new (c_X7_in hx3 (by decide) (by decide)) (rn_S X (va_cwS 3 X.2.2.2.2.1 (tbG_good _ (tbG_S mw_1008 mw_1009 mw_9 mw_1010)) rfl rfl rfl hd_X7_in ⟨by decide, by decide⟩) rfl rfl (Nat.le_of_ble_eq_true rfl) dX7_areRight_319) (fun r138 _ h140 => ?_)
                            refine q_ck (fun h141 => ?_)
                            exact q_zretp X h141 hr hlk dX7_areRight_322
                          · refine q_ite (fun h142 => ?_) (fun h142 => ?_)
                            · refine q_tswIn X hx1 13 322 323 h142 dX7_areRight_1 (by decide) rfl (by decide) ?_
                              refine q_iload_n X dX7_areRight_323 2 rfl ?_
                              refine q_callIp X NMok hN Aw_new (c_X7_isVar hx2) (rn_S X (va_cwS 1 X.2.2.2.2.1 (tbG_good _ (tbG_S mw_1023 mw_1024 mw_9 mw_1025)) rfl rfl rfl hd_X7_isVar ⟨by decide, by decide⟩) rfl rfl (Nat.le_of_ble_eq_true rfl) dX7_areRight_324) (fun r143 _ h145 => ?_)
                              refine q_if_eq X h145 344 dX7_areRight_327 (by decide) (fun h146 => ?_) (fun h146 => ?_)
                              · refine q_iconst X dX7_areRight_344 ?_
                                exact q_zretp X (Or.inl rfl) hr hlk dX7_areRight_345
                              · refine q_iload X dX7_areRight_330 4 rfl ?_
                                refine q_iconst X dX7_areRight_332 ?_
                                refine q_iconst X dX7_areRight_333 ?_
                                refine q_callIp X NMok hN Aw_new (c_X7_in hx4 (by decide) (by decide)) (rn_S X (va_cwS 3 X.2.2.2.2.1 (tbG_good _ (tbG_S mw_1008 mw_1009 mw_9 mw_1010)) rfl rfl rfl hd_X7_in ⟨by decide, by decide⟩) rfl rfl (Nat.le_of_ble_eq_true rfl) dX7_areRight_334) (fun r147 _ h149 => ?_)
                                refine q_if_eq X h149 344 dX7_areRight_337 (by decide) (fun h150 => ?_) (fun h150 => ?_)
                                · refine q_iconst X dX7_areRight_344 ?_
                                  exact q_zretp X (Or.inl rfl) hr hlk dX7_areRight_345
                                · refine q_iconst X dX7_areRight_340 ?_
                                  refine q_goto X 345 dX7_areRight_341 (by decide) ?_
                                  exact q_zretp X (Or.inr rfl) hr hlk dX7_areRight_345
                            · refine q_ite (fun h151 => ?_) (fun h151 => ?_)
                              · refine q_tswIn X hx1 14 322 323 h151 dX7_areRight_1 (by decide) rfl (by decide) ?_
                                refine q_iload_n X dX7_areRight_323 2 rfl ?_
                                refine q_callIp X NMok hN Aw_new (c_X7_isVar hx2) (rn_S X (va_cwS 1 X.2.2.2.2.1 (tbG_good _ (tbG_S mw_1023 mw_1024 mw_9 mw_1025)) rfl rfl rfl hd_X7_isVar ⟨by decide, by decide⟩) rfl rfl (Nat.le_of_ble_eq_true rfl) dX7_areRight_324) (fun r152 _ h154 => ?_)
                                refine q_if_eq X h154 344 dX7_areRight_327 (by decide) (fun h155 => ?_) (fun h155 => ?_)
                                · refine q_iconst X dX7_areRight_344 ?_
                                  exact q_zretp X (Or.inl rfl) hr hlk dX7_areRight_345
                                · refine q_iload X dX7_areRight_330 4 rfl ?_
                                  refine q_iconst X dX7_areRight_332 ?_
                                  refine q_iconst X dX7_areRight_333 ?_
                                  refine q_callIp X NMok hN Aw_new (c_X7_in hx4 (by decide) (by decide)) (rn_S X (va_cwS 3 X.2.2.2.2.1 (tbG_good _ (tbG_S mw_1008 mw_1009 mw_9 mw_1010)) rfl rfl rfl hd_X7_in ⟨by decide, by decide⟩) rfl rfl (Nat.le_of_ble_eq_true rfl) dX7_areRight_334) (fun r156 _ h158 => ?_)
                                  refine q_if_eq X h158 344 dX7_areRight_337 (by decide) (fun h159 => ?_) (fun h159 => ?_)
                                  · refine q_iconst X dX7_areRight_344 ?_
                                    exact q_zretp X (Or.inl rfl) hr hlk dX7_areRight_345
                                  · refine q_iconst X dX7_areRight_340 ?_
                                    refine q_goto X 345 dX7_areRight_341 (by decide) ?_
                                    exact q_zretp X (Or.inr rfl) hr hlk dX7_areRight_345
                              · refine q_ite (fun h160 => ?_) (fun h160 => ?_)
                                · refine q_tswIn X hx1 15 377 378 h160 dX7_areRight_1 (by decide) rfl (by decide) ?_
                                  refine q_iload_n X dX7_areRight_378 2 rfl ?_
                                  refine q_callIp X NMok hN Aw_new (c_X7_isVar hx2) (rn_S X (va_cwS 1 X.2.2.2.2.1 (tbG_good _ (tbG_S mw_1023 mw_1024 mw_9 mw_1025)) rfl rfl rfl hd_X7_isVar ⟨by decide, by decide⟩) rfl rfl (Nat.le_of_ble_eq_true rfl) dX7_areRight_379) (fun r161 _ h163 => ?_)
                                  refine q_ck (fun h164 => ?_)
                                  exact q_zretp X h164 hr hlk dX7_areRight_382
                                · refine q_ite (fun h165 => ?_) (fun h165 => ?_)
                                  · refine q_tswIn X hx1 16 345 346 h165 dX7_areRight_1 (by decide) rfl (by decide) ?_
                                    refine q_iload_n X dX7_areRight_346 2 rfl ?_
                                    refine q_callIp X NMok hN Aw_new (c_X7_isVar hx2) (rn_S X (va_cwS 1 X.2.2.2.2.1 (tbG_good _ (tbG_S mw_1023 mw_1024 mw_9 mw_1025)) rfl rfl rfl hd_X7_isVar ⟨by decide, by decide⟩) rfl rfl (Nat.le_of_ble_eq_true rfl) dX7_areRight_347) (fun r166 _ h168 => ?_)
                                    refine q_if_eq X h168 376 dX7_areRight_350 (by decide) (fun h169 => ?_) (fun h169 => ?_)
                                    · refine q_iconst X dX7_areRight_376 ?_
                                      exact q_zretp X (Or.inl rfl) hr hlk dX7_areRight_377
                                    · refine q_iload_n X dX7_areRight_353 3 rfl ?_
                                      refine q_iconst X dX7_areRight_354 ?_
                                      refine q_bipush X dX7_areRight_355 (by decide) ?_
                                      refine q_callIp X NMok hN Aw_new (c_X7_in hx3 (by decide) (by decide)) (rn_S X (va_cwS 3 X.2.2.2.2.1 (tbG_good _ (tbG_S mw_1008 mw_1009 mw_9 mw_1010)) rfl rfl rfl hd_X7_in ⟨by decide, by decide⟩) rfl rfl (Nat.le_of_ble_eq_true rfl) dX7_areRight_357) (fun r170 _ h172 => ?_)
                                      refine q_if_eq X h172 376 dX7_areRight_360 (by decide) (fun h173 => ?_) (fun h173 => ?_)
                                      · refine q_iconst X dX7_areRight_376 ?_
                                        exact q_zretp X (Or.inl rfl) hr hlk dX7_areRight_377
                                      · refine q_aload_n X dX7_areRight_363 0 rfl ?_
                                        refine q_iload X dX7_areRight_364 4 rfl ?_
                                        refine q_callIp X NMok hN Aw_new (c_X7_isClass hx4) (rn_V X (cwV 1 X.2.2.2.2.1 (tbG_good _ (tbG_V mw_1004 mw_1006 mp_4_1 mw_9 mw_1007)) rfl rfl rfl hd_X7_isClass ⟨by decide, by decide⟩) hM0 rfl rfl rfl (Nat.le_of_ble_eq_true rfl) dX7_areRight_366) (fun r174 _ h176 => ?_)
                                        refine q_if_eq X h176 376 dX7_areRight_369 (by decide) (fun h177 => ?_) (fun h177 => ?_)
                                        · refine q_iconst X dX7_areRight_376 ?_
                                          exact q_zretp X (Or.inl rfl) hr hlk dX7_areRight_377
                                        · refine q_iconst X dX7_areRight_372 ?_
                                          refine q_goto X 377 dX7_areRight_373 (by decide) ?_
                                          exact q_zretp X (Or.inr rfl) hr hlk dX7_areRight_377
                                  · refine q_tswOut X hx1 378 (by omega) dX7_areRight_1 (by decide) ?_
                                    refine q_iload_n X dX7_areRight_378 2 rfl ?_
                                    refine q_callIp X NMok hN Aw_new (c_X7_isVar hx2) (rn_S X (va_cwS 1 X.2.2.2.2.1 (tbG_good _ (tbG_S mw_1023 mw_1024 mw_9 mw_1025)) rfl rfl rfl hd_X7_isVar ⟨by decide, by decide⟩) rfl rfl (Nat.le_of_ble_eq_true rfl) dX7_areRight_379) (fun r178 _ h180 => ?_)
                                    refine q_ck (fun h181 => ?_)
                                    exact q_zretp X h181 hr hlk dX7_areRight_382

/-! SiteObjectsModel.step(IIIIII)I -/
abbrev GX7_step (p : Program) (l : Launch) (e : Env) (s : State) (m : MethodId) (args : Array Value) (below : List Frame) (meth : Method) (c : Code) (D : va_G) (ca : Nat → ClassId) (ad : Nat → Nat) (res : Int × Mm) : Nat → List (Nat × Value) → List Value → Mm → Option (Int × Mm) → Prop := G p l e { frames := 3, cells := 0, slots := 0, locals := 68 } s m args below meth c (MQ below (QcI D vcl ca ad shM s.heap.size res) args s 0 0 (Aw ad shM.length s.heap.size)) 7 D vcl ca ad shM (Aw ad shM.length s.heap.size) res
def f_X7_step_67 (x1 : Int) (x2 : Int) (x3 : Int) (x4 : Int) (x5 : Int) (x6 : Int) (σ : Mm) : Option (Int × Mm) :=
  ck ((0 : Int) ≤ (σ.1 0 7) ∧ (σ.1 0 7) < ((90 : Nat) : Int)) (ck ((0 : Int) ≤ x1 ∧ x1 < ((12 : Nat) : Int)) (ck ((0 : Int) ≤ ((stI σ 6 (Int.toNat (σ.1 0 7)) x1).1 0 7) ∧ ((stI σ 6 (Int.toNat (σ.1 0 7)) x1).1 0 7) < ((90 : Nat) : Int)) ((some (stI (stI σ 6 (Int.toNat (σ.1 0 7)) x1) 7 (Int.toNat ((stI σ 6 (Int.toNat (σ.1 0 7)) x1).1 0 7)) ((stI σ 6 (Int.toNat (σ.1 0 7)) x1).1 4 (Int.toNat x1)))).bind (fun σ4 => ck ((0 : Int) ≤ (σ4.1 0 7) ∧ (σ4.1 0 7) < ((90 : Nat) : Int)) (ck ((0 : Int) ≤ ((stI σ4 8 (Int.toNat (σ4.1 0 7)) x2).1 0 7) ∧ ((stI σ4 8 (Int.toNat (σ4.1 0 7)) x2).1 0 7) < ((90 : Nat) : Int)) ((some (stI (stI σ4 8 (Int.toNat (σ4.1 0 7)) x2) 9 (Int.toNat ((stI σ4 8 (Int.toNat (σ4.1 0 7)) x2).1 0 7)) x3)).bind (fun σ7 => ck ((0 : Int) ≤ (σ7.1 0 7) ∧ (σ7.1 0 7) < ((90 : Nat) : Int)) (ck ((0 : Int) ≤ ((stI σ7 10 (Int.toNat (σ7.1 0 7)) x4).1 0 7) ∧ ((stI σ7 10 (Int.toNat (σ7.1 0 7)) x4).1 0 7) < ((90 : Nat) : Int)) ((some (stI (stI σ7 10 (Int.toNat (σ7.1 0 7)) x4) 11 (Int.toNat ((stI σ7 10 (Int.toNat (σ7.1 0 7)) x4).1 0 7)) x5)).bind (fun σ10 => ck ((0 : Int) ≤ (σ10.1 0 7) ∧ (σ10.1 0 7) < ((90 : Nat) : Int)) (ck ((0 : Int) ≤ x1 ∧ x1 < ((12 : Nat) : Int)) (ck ((0 : Int) ≤ ((90 * x1) + ((stI σ10 12 (Int.toNat (σ10.1 0 7)) x6).1 4 (Int.toNat x1))) ∧ ((90 * x1) + ((stI σ10 12 (Int.toNat (σ10.1 0 7)) x6).1 4 (Int.toNat x1))) < ((1080 : Nat) : Int)) ((some (stI (stI σ10 12 (Int.toNat (σ10.1 0 7)) x6) 5 (Int.toNat ((90 * x1) + ((stI σ10 12 (Int.toNat (σ10.1 0 7)) x6).1 4 (Int.toNat x1)))) ((stI σ10 12 (Int.toNat (σ10.1 0 7)) x6).1 0 7))).bind (fun σ14 => ck ((0 : Int) ≤ x1 ∧ x1 < ((12 : Nat) : Int)) (ck (inR ((σ14.1 4 (Int.toNat x1)) + 1)) (ck ((0 : Int) ≤ x1 ∧ x1 < ((12 : Nat) : Int)) (ck (inR (((stI σ14 4 (Int.toNat x1) ((σ14.1 4 (Int.toNat x1)) + 1)).1 0 7) + 1)) ((some (stI (stI σ14 4 (Int.toNat x1) ((σ14.1 4 (Int.toNat x1)) + 1)) 0 7 (((stI σ14 4 (Int.toNat x1) ((σ14.1 4 (Int.toNat x1)) + 1)).1 0 7) + 1))).bind (fun σ19 => (if 2 ≤ x2 then ck (inR ((σ19.1 0 8) + 0)) (ck (inR (((stI (stI (stI σ19 0 8 ((σ19.1 0 8) + 0)) 0 16 0) 0 37 0).1 0 7) - 1)) (some ((((stI (stI (stI σ19 0 8 ((σ19.1 0 8) + 0)) 0 16 0) 0 37 0).1 0 7) - 1), (stI (stI (stI σ19 0 8 ((σ19.1 0 8) + 0)) 0 16 0) 0 37 0)))) else ck (inR ((σ19.1 0 8) + 1)) (ck (inR (((stI (stI (stI σ19 0 8 ((σ19.1 0 8) + 1)) 0 16 0) 0 37 0).1 0 7) - 1)) (some ((((stI (stI (stI σ19 0 8 ((σ19.1 0 8) + 1)) 0 16 0) 0 37 0).1 0 7) - 1), (stI (stI (stI σ19 0 8 ((σ19.1 0 8) + 1)) 0 16 0) 0 37 0))))))))))))))))))))))))
set_option maxRecDepth 100000 in
set_option maxHeartbeats 4000000 in
theorem t_X7_step_67 {p : Program} {l : Launch} {e : Env} {s : State} {m : MethodId} {args : Array Value} {below : List Frame} {meth : Method} {c : Code} {D : va_G} {ca : Nat → ClassId} {ad : Nat → Nat} {res : Int × Mm} (X : Cx p s m args c cX7_step 7 RX7 (Cond.code yX7_step cX7_step 7 (some .int) :: tbG) D vcl ca) (hN : NM s) (hr : meth.sig.returnType = (some .int)) (hlk : meth.locks = false) : ∀ (x1 : Int) (x2 : Int) (x3 : Int) (x4 : Int) (x5 : Int) (x6 : Int) (σ : Mm), inR x1 → inR x2 → inR x3 → inR x4 → inR x5 → inR x6 → GX7_step p l e s m args below meth c D ca ad res 67 [(0, .ref (ad 0)), (1, .int (oi x1)), (2, .int (oi x2)), (3, .int (oi x3)), (4, .int (oi x4)), (5, .int (oi x5)), (6, .int (oi x6))] [] σ (f_X7_step_67 x1 x2 x3 x4 x5 x6 σ) := by
  intro x1 x2 x3 x4 x5 x6 σ hx1 hx2 hx3 hx4 hx5 hx6
  unfold f_X7_step_67
  refine q_aload_n X dX7_step_67 0 rfl ?_
  refine fg_X7_29 X dX7_step_68 ?_
  refine q_aload_n X dX7_step_71 0 rfl ?_
  refine fg_X7_139 X dX7_step_72 (fun h1 => ?_)
  refine q_iload_n X dX7_step_75 1 rfl ?_
  refine q_iast X hM6 (by decide) hx1 dX7_step_76 ?_
  refine q_aload_n X dX7_step_77 0 rfl ?_
  refine fg_X7_32 X dX7_step_78 ?_
  refine q_aload_n X dX7_step_81 0 rfl ?_
  refine fg_X7_139 X dX7_step_82 (fun h2 => ?_)
  refine q_aload_n X dX7_step_85 0 rfl ?_
  refine fg_X7_23 X dX7_step_86 ?_
  refine q_iload_n X dX7_step_89 1 rfl ?_
  refine q_iald X hM4 (by decide) dX7_step_90 (fun h3 => ?_)
  refine q_iast X hM7 (by decide) h3 dX7_step_91 ?_
  refine q_nm (fun σ4 => ?_)
  refine q_aload_n X dX7_step_92 0 rfl ?_
  refine fg_X7_35 X dX7_step_93 ?_
  refine q_aload_n X dX7_step_96 0 rfl ?_
  refine fg_X7_139 X dX7_step_97 (fun h5 => ?_)
  refine q_iload_n X dX7_step_100 2 rfl ?_
  refine q_iast X hM8 (by decide) hx2 dX7_step_101 ?_
  refine q_aload_n X dX7_step_102 0 rfl ?_
  refine fg_X7_38 X dX7_step_103 ?_
  refine q_aload_n X dX7_step_106 0 rfl ?_
  refine fg_X7_139 X dX7_step_107 (fun h6 => ?_)
  refine q_iload_n X dX7_step_110 3 rfl ?_
  refine q_iast X hM9 (by decide) hx3 dX7_step_111 ?_
  refine q_nm (fun σ7 => ?_)
  refine q_aload_n X dX7_step_112 0 rfl ?_
  refine fg_X7_41 X dX7_step_113 ?_
  refine q_aload_n X dX7_step_116 0 rfl ?_
  refine fg_X7_139 X dX7_step_117 (fun h8 => ?_)
  refine q_iload X dX7_step_120 4 rfl ?_
  refine q_iast X hM10 (by decide) hx4 dX7_step_122 ?_
  refine q_aload_n X dX7_step_123 0 rfl ?_
  refine fg_X7_44 X dX7_step_124 ?_
  refine q_aload_n X dX7_step_127 0 rfl ?_
  refine fg_X7_139 X dX7_step_128 (fun h9 => ?_)
  refine q_iload X dX7_step_131 5 rfl ?_
  refine q_iast X hM11 (by decide) hx5 dX7_step_133 ?_
  refine q_nm (fun σ10 => ?_)
  refine q_aload_n X dX7_step_134 0 rfl ?_
  refine fg_X7_47 X dX7_step_135 ?_
  refine q_aload_n X dX7_step_138 0 rfl ?_
  refine fg_X7_139 X dX7_step_139 (fun h11 => ?_)
  refine q_iload X dX7_step_142 6 rfl ?_
  refine q_iast X hM12 (by decide) hx6 dX7_step_144 ?_
  refine q_aload_n X dX7_step_145 0 rfl ?_
  refine fg_X7_26 X dX7_step_146 ?_
  refine q_bipush X dX7_step_149 (by decide) ?_
  refine q_iload_n X dX7_step_151 1 rfl ?_
  refine q_imul X dX7_step_152 ?_
  refine q_aload_n X dX7_step_153 0 rfl ?_
  refine fg_X7_23 X dX7_step_154 ?_
  refine q_iload_n X dX7_step_157 1 rfl ?_
  refine q_iald X hM4 (by decide) dX7_step_158 (fun h12 => ?_)
  refine q_iadd X dX7_step_159 ?_
  refine q_aload_n X dX7_step_160 0 rfl ?_
  refine fg_X7_139 X dX7_step_161 (fun h13 => ?_)
  refine q_iast X hM5 (by decide) h13 dX7_step_164 ?_
  refine q_nm (fun σ14 => ?_)
  refine q_aload_n X dX7_step_165 0 rfl ?_
  refine fg_X7_23 X dX7_step_166 ?_
  refine q_iload_n X dX7_step_169 1 rfl ?_
  refine q_dup2 X dX7_step_170 rfl rfl ?_
  refine q_iald X hM4 (by decide) dX7_step_171 (fun h15 => ?_)
  refine q_iconst X dX7_step_172 ?_
  refine q_iadd X dX7_step_173 ?_
  refine q_ck (fun h16 => ?_)
  refine q_iast X hM4 (by decide) h16 dX7_step_174 ?_
  refine q_aload_n X dX7_step_175 0 rfl ?_
  refine q_dup X dX7_step_176 rfl ?_
  refine fg_X7_139 X dX7_step_177 (fun h17 => ?_)
  refine q_iconst X dX7_step_180 ?_
  refine q_iadd X dX7_step_181 ?_
  refine q_ck (fun h18 => ?_)
  refine fp_X7_139 X h18 dX7_step_182 ?_
  refine q_nm (fun σ19 => ?_)
  refine q_aload_n X dX7_step_185 0 rfl ?_
  refine q_dup X dX7_step_186 rfl ?_
  refine fg_X7_142 X dX7_step_187 (fun h20 => ?_)
  refine q_iload_n X dX7_step_190 2 rfl ?_
  refine q_iconst X dX7_step_191 ?_
  refine q_icmp_ge X hx2 (by decide) 199 dX7_step_192 (by decide) (fun h21 => ?_) (fun h21 => ?_)
  · refine q_iconst X dX7_step_199 ?_
    refine q_iadd X dX7_step_200 ?_
    refine q_ck (fun h22 => ?_)
    refine fp_X7_142 X h22 dX7_step_201 ?_
    refine q_aload_n X dX7_step_204 0 rfl ?_
    refine q_iconst X dX7_step_205 ?_
    refine fp_X7_122 X (Or.inl rfl) dX7_step_206 ?_
    refine q_aload_n X dX7_step_209 0 rfl ?_
    refine q_iconst X dX7_step_210 ?_
    refine fp_X7_126 X (Or.inl rfl) dX7_step_211 ?_
    refine q_aload_n X dX7_step_214 0 rfl ?_
    refine fg_X7_139 X dX7_step_215 (fun h23 => ?_)
    refine q_iconst X dX7_step_218 ?_
    refine q_isub X dX7_step_219 ?_
    refine q_ck (fun h24 => ?_)
    exact q_iret X h24 hr hlk dX7_step_220
  · refine q_iconst X dX7_step_195 ?_
    refine q_goto X 200 dX7_step_196 (by decide) ?_
    refine q_iadd X dX7_step_200 ?_
    refine q_ck (fun h25 => ?_)
    refine fp_X7_142 X h25 dX7_step_201 ?_
    refine q_aload_n X dX7_step_204 0 rfl ?_
    refine q_iconst X dX7_step_205 ?_
    refine fp_X7_122 X (Or.inl rfl) dX7_step_206 ?_
    refine q_aload_n X dX7_step_209 0 rfl ?_
    refine q_iconst X dX7_step_210 ?_
    refine fp_X7_126 X (Or.inl rfl) dX7_step_211 ?_
    refine q_aload_n X dX7_step_214 0 rfl ?_
    refine fg_X7_139 X dX7_step_215 (fun h26 => ?_)
    refine q_iconst X dX7_step_218 ?_
    refine q_isub X dX7_step_219 ?_
    refine q_ck (fun h27 => ?_)
    exact q_iret X h27 hr hlk dX7_step_220
def f_X7_step (x1 : Int) (x2 : Int) (x3 : Int) (x4 : Int) (x5 : Int) (x6 : Int) (σ : Mm) : Option (Int × Mm) :=
  ck (inR ((σ.1 0 2) - 1)) ((f_X7_in x1 0 ((σ.1 0 2) - 1) σ).bind (fun r30 => (if r30 = 0 then some ((-1), σ) else (f_X7_in x2 0 16 σ).bind (fun r34 => (if r34 = 0 then some ((-1), σ) else (f_X7_areRight x2 x3 x4 x5 x6 σ).bind (fun r38 => (if r38 = 0 then some ((-1), σ) else (if (σ.1 0 7) = 90 then some ((-3), σ) else (if 2 ≤ x2 then f_X7_step_67 x1 x2 x3 x4 x5 x6 σ else (if (σ.1 0 8) = 55 then some ((-3), σ) else f_X7_step_67 x1 x2 x3 x4 x5 x6 σ))))))))))
theorem hd_X7_step : yX7_step.cls = RX7 ∧ yX7_step.cls ≠ "java/lang/invoke/MethodHandle" ∧ yX7_step.cls ≠ "java/lang/invoke/VarHandle" ∧ (parseMethodDescriptor yX7_step.desc).map (fun d => d.parameters.length) = some 6 := by decide +kernel
set_option maxRecDepth 100000 in
set_option maxHeartbeats 4000000 in
theorem c_X7_step {l : Launch} {D : va_G} {ca : Nat → ClassId} {ad : Nat → Nat} {x1 : Int} {x2 : Int} {x3 : Int} {x4 : Int} {x5 : Int} {x6 : Int} (hx1 : inR x1) (hx2 : inR x2) (hx3 : inR x3) (hx4 : inR x4) (hx5 : inR x5) (hx6 : inR x6) {σ : Mm} : CtI l D vcl ca ad shM NM yX7_step (Cond.code yX7_step cX7_step 7 (some .int) :: tbG) { frames := 3, cells := 0, slots := 0, locals := 68 } [.ref (ad 0), .int (oi x1), .int (oi x2), .int (oi x3), .int (oi x4), .int (oi x5), .int (oi x6)] σ (f_X7_step x1 x2 x3 x4 x5 x6 σ) := by
  refine ct_I RX7 rfl (by decide) rfl (Nat.le_of_ble_eq_true rfl) (fun p e s m below meth c res X hN hr hlk => ?_)
  show GX7_step p l e s m _ below meth c D ca ad res 0 [(0, .ref (ad 0)), (1, .int (oi x1)), (2, .int (oi x2)), (3, .int (oi x3)), (4, .int (oi x4)), (5, .int (oi x5)), (6, .int (oi x6))] [] σ (f_X7_step x1 x2 x3 x4 x5 x6 σ)
  unfold f_X7_step
  refine q_iload_n X dX7_step_0 1 rfl ?_
  refine q_iconst X dX7_step_1 ?_
  refine q_aload_n X dX7_step_2 0 rfl ?_
  refine fg_X7_115 X dX7_step_3 (fun h28 => ?_)
  refine q_iconst X dX7_step_6 ?_
  refine q_isub X dX7_step_7 ?_
  refine q_ck (fun h29 => ?_)
  refine q_callIp X NMok hN Aw_new (c_X7_in hx1 (by decide) h29) (rn_S X (va_cwS 3 X.2.2.2.2.1 (tbG_good _ (tbG_S mw_1008 mw_1009 mw_9 mw_1010)) rfl rfl rfl hd_X7_in ⟨by decide, by decide⟩) rfl rfl (Nat.le_of_ble_eq_true rfl) dX7_step_8) (fun r30 _ h32 => ?_)
  refine q_if_eq X h32 39 dX7_step_11 (by decide) (fun h33 => ?_) (fun h33 => ?_)
  · refine q_iconst X dX7_step_39 ?_
    exact q_iret X (by decide) hr hlk dX7_step_40
  · refine q_iload_n X dX7_step_14 2 rfl ?_
    refine q_iconst X dX7_step_15 ?_
    refine q_bipush X dX7_step_16 (by decide) ?_
    refine q_callIp X NMok hN Aw_new (c_X7_in hx2 (by decide) (by decide)) (rn_S X (va_cwS 3 X.2.2.2.2.1 (tbG_good _ (tbG_S mw_1008 mw_1009 mw_9 mw_1010)) rfl rfl rfl hd_X7_in ⟨by decide, by decide⟩) rfl rfl (Nat.le_of_ble_eq_true rfl) dX7_step_18) (fun r34 _ h36 => ?_)
    refine q_if_eq X h36 39 dX7_step_21 (by decide) (fun h37 => ?_) (fun h37 => ?_)
    · refine q_iconst X dX7_step_39 ?_
      exact q_iret X (by decide) hr hlk dX7_step_40
    · refine q_aload_n X dX7_step_24 0 rfl ?_
      refine q_iload_n X dX7_step_25 2 rfl ?_
      refine q_iload_n X dX7_step_26 3 rfl ?_
      refine q_iload X dX7_step_27 4 rfl ?_
      refine q_iload X dX7_step_29 5 rfl ?_
      refine q_iload X dX7_step_31 6 rfl ?_
      refine q_callIp X NMok hN Aw_new (c_X7_areRight hx2 hx3 hx4 hx5 hx6) (rn_V X (cwV 5 X.2.2.2.2.1 (tbG_good _ (tbG_V mw_1019 mw_1021 mp_4_2 mw_9 mw_1022)) rfl rfl rfl hd_X7_areRight ⟨by decide, by decide⟩) hM0 rfl rfl rfl (Nat.le_of_ble_eq_true rfl) dX7_step_33) (fun r38 _ h40 => ?_)
      refine q_if_ne X h40 41 dX7_step_36 (by decide) (fun h41 => ?_) (fun h41 => ?_)
      · refine q_iconst X dX7_step_39 ?_
        exact q_iret X (by decide) hr hlk dX7_step_40
      · refine q_aload_n X dX7_step_41 0 rfl ?_
        refine fg_X7_139 X dX7_step_42 (fun h42 => ?_)
        refine q_bipush X dX7_step_45 (by decide) ?_
        refine q_icmp_eq X h42 (by decide) 64 dX7_step_47 (by decide) (fun h43 => ?_) (fun h43 => ?_)
        · refine q_bipush X dX7_step_64 (by decide) ?_
          exact q_iret X (by decide) hr hlk dX7_step_66
        · refine q_iload_n X dX7_step_50 2 rfl ?_
          refine q_iconst X dX7_step_51 ?_
          refine q_icmp_ge X hx2 (by decide) 67 dX7_step_52 (by decide) (fun h44 => ?_) (fun h44 => ?_)
          · refine q_sub [(0, .ref (ad 0)), (1, .int (oi x1)), (2, .int (oi x2)), (3, .int (oi x3)), (4, .int (oi x4)), (5, .int (oi x5)), (6, .int (oi x6))] [0, 1, 2, 3, 4, 5, 6] rfl ?_
            exact t_X7_step_67 X hN hr hlk x1 x2 x3 x4 x5 x6 σ hx1 hx2 hx3 hx4 hx5 hx6
          · refine q_aload_n X dX7_step_55 0 rfl ?_
            refine fg_X7_142 X dX7_step_56 (fun h45 => ?_)
            refine q_bipush X dX7_step_59 (by decide) ?_
            refine q_icmp_ne X h45 (by decide) 67 dX7_step_61 (by decide) (fun h46 => ?_) (fun h46 => ?_)
            · refine q_bipush X dX7_step_64 (by decide) ?_
              exact q_iret X (by decide) hr hlk dX7_step_66
            · refine q_sub [(0, .ref (ad 0)), (1, .int (oi x1)), (2, .int (oi x2)), (3, .int (oi x3)), (4, .int (oi x4)), (5, .int (oi x5)), (6, .int (oi x6))] [0, 1, 2, 3, 4, 5, 6] rfl ?_
              exact t_X7_step_67 X hN hr hlk x1 x2 x3 x4 x5 x6 σ hx1 hx2 hx3 hx4 hx5 hx6

/-! SiteObjectsModel.classOf(I)I -/
abbrev GX7_classOf (p : Program) (l : Launch) (e : Env) (s : State) (m : MethodId) (args : Array Value) (below : List Frame) (meth : Method) (c : Code) (D : va_G) (ca : Nat → ClassId) (ad : Nat → Nat) (σ : Mm) (res : Int) : Nat → List (Nat × Value) → List Value → Mm → Option (Int) → Prop := G p l e { frames := 0, cells := 0, slots := 0, locals := 0 } s m args below meth c (MQ below (QcI D vcl ca ad shM s.heap.size (res, σ)) args s 0 0 (Aw ad shM.length s.heap.size)) 2 D vcl ca ad shM (Aw ad shM.length s.heap.size) res
def f_X7_classOf (x1 : Int) (σ : Mm) : Option (Int) :=
  ck ((0 : Int) ≤ x1 ∧ x1 < ((60 : Nat) : Int)) (ck ((0 : Int) ≤ (σ.1 17 (Int.toNat x1)) ∧ (σ.1 17 (Int.toNat x1)) < ((90 : Nat) : Int)) ((if (σ.1 8 (Int.toNat (σ.1 17 (Int.toNat x1)))) = 1 then some 0 else ck ((0 : Int) ≤ x1 ∧ x1 < ((60 : Nat) : Int)) (ck ((0 : Int) ≤ (σ.1 17 (Int.toNat x1)) ∧ (σ.1 17 (Int.toNat x1)) < ((90 : Nat) : Int)) (some (σ.1 10 (Int.toNat (σ.1 17 (Int.toNat x1)))))))))
theorem hd_X7_classOf : yX7_classOf.cls = RX7 ∧ yX7_classOf.cls ≠ "java/lang/invoke/MethodHandle" ∧ yX7_classOf.cls ≠ "java/lang/invoke/VarHandle" ∧ (parseMethodDescriptor yX7_classOf.desc).map (fun d => d.parameters.length) = some 1 := by decide +kernel
set_option maxRecDepth 100000 in
set_option maxHeartbeats 4000000 in
theorem c_X7_classOf {l : Launch} {D : va_G} {ca : Nat → ClassId} {ad : Nat → Nat} {x1 : Int} (hx1 : inR x1) {σ : Mm} : CtI l D vcl ca ad shM NM yX7_classOf (Cond.code yX7_classOf cX7_classOf 2 (some .int) :: tbG) { frames := 0, cells := 0, slots := 0, locals := 0 } [.ref (ad 0), .int (oi x1)] σ ((f_X7_classOf x1 σ).map (fun r => (r, σ))) := by
  refine ct_Ip RX7 rfl (by decide) rfl (Nat.le_of_ble_eq_true rfl) (fun p e s m below meth c res X hN hr hlk => ?_)
  show GX7_classOf p l e s m _ below meth c D ca ad σ res 0 [(0, .ref (ad 0)), (1, .int (oi x1))] [] σ (f_X7_classOf x1 σ)
  unfold f_X7_classOf
  refine q_aload_n X dX7_classOf_0 0 rfl ?_
  refine fg_X7_35 X dX7_classOf_1 ?_
  refine q_aload_n X dX7_classOf_4 0 rfl ?_
  refine fg_X7_63 X dX7_classOf_5 ?_
  refine q_iload_n X dX7_classOf_8 1 rfl ?_
  refine q_iald X hM17 (by decide) dX7_classOf_9 (fun h1 => ?_)
  refine q_iald X hM8 (by decide) dX7_classOf_10 (fun h2 => ?_)
  refine q_iconst X dX7_classOf_11 ?_
  refine q_icmp_ne X h2 (by decide) 19 dX7_classOf_12 (by decide) (fun h3 => ?_) (fun h3 => ?_)
  · refine q_iconst X dX7_classOf_15 ?_
    refine q_goto X 30 dX7_classOf_16 (by decide) ?_
    exact q_iretp X (by decide) hr hlk dX7_classOf_30
  · refine q_aload_n X dX7_classOf_19 0 rfl ?_
    refine fg_X7_41 X dX7_classOf_20 ?_
    refine q_aload_n X dX7_classOf_23 0 rfl ?_
    refine fg_X7_63 X dX7_classOf_24 ?_
    refine q_iload_n X dX7_classOf_27 1 rfl ?_
    refine q_iald X hM17 (by decide) dX7_classOf_28 (fun h4 => ?_)
    refine q_iald X hM10 (by decide) dX7_classOf_29 (fun h5 => ?_)
    exact q_iretp X h5 hr hlk dX7_classOf_30

/-! SiteObjectsModel.isRow(I)Z -/
abbrev GX7_isRow (p : Program) (l : Launch) (e : Env) (s : State) (m : MethodId) (args : Array Value) (below : List Frame) (meth : Method) (c : Code) (D : va_G) (ca : Nat → ClassId) (ad : Nat → Nat) (σ : Mm) (res : Int) : Nat → List (Nat × Value) → List Value → Mm → Option (Int) → Prop := G p l e { frames := 0, cells := 0, slots := 0, locals := 0 } s m args below meth c (MQ below (QcI D vcl ca ad shM s.heap.size (res, σ)) args s 0 0 (Aw ad shM.length s.heap.size)) 2 D vcl ca ad shM (Aw ad shM.length s.heap.size) res
def f_X7_isRow (x1 : Int) (σ : Mm) : Option (Int) :=
  ck ((0 : Int) ≤ x1 ∧ x1 < ((60 : Nat) : Int)) (ck ((0 : Int) ≤ (σ.1 17 (Int.toNat x1)) ∧ (σ.1 17 (Int.toNat x1)) < ((90 : Nat) : Int)) ((if (σ.1 8 (Int.toNat (σ.1 17 (Int.toNat x1)))) = 1 then some 1 else some 0)))
theorem hd_X7_isRow : yX7_isRow.cls = RX7 ∧ yX7_isRow.cls ≠ "java/lang/invoke/MethodHandle" ∧ yX7_isRow.cls ≠ "java/lang/invoke/VarHandle" ∧ (parseMethodDescriptor yX7_isRow.desc).map (fun d => d.parameters.length) = some 1 := by decide +kernel
set_option maxRecDepth 100000 in
set_option maxHeartbeats 4000000 in
theorem c_X7_isRow {l : Launch} {D : va_G} {ca : Nat → ClassId} {ad : Nat → Nat} {x1 : Int} (hx1 : inR x1) {σ : Mm} : CtI l D vcl ca ad shM NM yX7_isRow (Cond.code yX7_isRow cX7_isRow 2 (some .boolean) :: tbG) { frames := 0, cells := 0, slots := 0, locals := 0 } [.ref (ad 0), .int (oi x1)] σ ((f_X7_isRow x1 σ).map (fun r => (r, σ))) := by
  refine ct_Ip RX7 rfl (by decide) rfl (Nat.le_of_ble_eq_true rfl) (fun p e s m below meth c res X hN hr hlk => ?_)
  show GX7_isRow p l e s m _ below meth c D ca ad σ res 0 [(0, .ref (ad 0)), (1, .int (oi x1))] [] σ (f_X7_isRow x1 σ)
  unfold f_X7_isRow
  refine q_aload_n X dX7_isRow_0 0 rfl ?_
  refine fg_X7_35 X dX7_isRow_1 ?_
  refine q_aload_n X dX7_isRow_4 0 rfl ?_
  refine fg_X7_63 X dX7_isRow_5 ?_
  refine q_iload_n X dX7_isRow_8 1 rfl ?_
  refine q_iald X hM17 (by decide) dX7_isRow_9 (fun h1 => ?_)
  refine q_iald X hM8 (by decide) dX7_isRow_10 (fun h2 => ?_)
  refine q_iconst X dX7_isRow_11 ?_
  refine q_icmp_ne X h2 (by decide) 19 dX7_isRow_12 (by decide) (fun h3 => ?_) (fun h3 => ?_)
  · refine q_iconst X dX7_isRow_15 ?_
    refine q_goto X 20 dX7_isRow_16 (by decide) ?_
    exact q_zretp X (Or.inr rfl) hr hlk dX7_isRow_20
  · refine q_iconst X dX7_isRow_19 ?_
    exact q_zretp X (Or.inl rfl) hr hlk dX7_isRow_20

/-! SiteObjectsModel.methodFor(II)I -/
abbrev GX7_methodFor (p : Program) (l : Launch) (e : Env) (s : State) (m : MethodId) (args : Array Value) (below : List Frame) (meth : Method) (c : Code) (D : va_G) (ca : Nat → ClassId) (ad : Nat → Nat) (σ : Mm) (res : Int) : Nat → List (Nat × Value) → List Value → Mm → Option (Int) → Prop := G p l e { frames := 0, cells := 0, slots := 0, locals := 0 } s m args below meth c (MQ below (QcI D vcl ca ad shM s.heap.size (res, σ)) args s 0 0 (Aw ad shM.length s.heap.size)) 5 D vcl ca ad shM (Aw ad shM.length s.heap.size) res
def f_X7_methodFor_9 (k2 : Int → Int → Mm → Option (Int)) : Nat → Int → Int → Int → Mm → Option (Int)
  | 0, _, _, _, _ => none
  | n + 1, x2, x3, x4, σ => (if (σ.1 0 2) ≤ x4 then ck ((0 : Int) ≤ x3 ∧ x3 < ((10 : Nat) : Int)) (k2 x2 (σ.1 1 (Int.toNat x3)) σ) else ck ((0 : Int) ≤ x4 ∧ x4 < ((12 : Nat) : Int)) ((if (σ.1 2 (Int.toNat x4)) = x3 then ck ((0 : Int) ≤ x4 ∧ x4 < ((12 : Nat) : Int)) ((if (σ.1 3 (Int.toNat x4)) = x2 then some x4 else ck (inR (x4 + 1)) (f_X7_methodFor_9 k2 n x2 x3 (x4 + 1) σ))) else ck (inR (x4 + 1)) (f_X7_methodFor_9 k2 n x2 x3 (x4 + 1) σ))))
set_option maxRecDepth 100000 in
set_option maxHeartbeats 4000000 in
theorem t_X7_methodFor_9 {p : Program} {l : Launch} {e : Env} {s : State} {m : MethodId} {args : Array Value} {below : List Frame} {meth : Method} {c : Code} {D : va_G} {ca : Nat → ClassId} {ad : Nat → Nat} {σ : Mm} {res : Int} {k2 : Int → Int → Mm → Option (Int)} (X : Cx p s m args c cX7_methodFor 5 RX7 (Cond.code yX7_methodFor cX7_methodFor 5 (some .int) :: tbG) D vcl ca) (hN : NM s) (hr : meth.sig.returnType = (some .int)) (hlk : meth.locks = false) (hk2 : ∀ (x2 : Int) (x3 : Int), inR x2 → inR x3 → GX7_methodFor p l e s m args below meth c D ca ad σ res 2 [(0, .ref (ad 0)), (2, .int (oi x2)), (3, .int (oi x3))] [] σ (k2 x2 x3 σ)) : ∀ (n : Nat) (x2 : Int) (x3 : Int) (x4 : Int), inR x2 → inR x3 → inR x4 → GX7_methodFor p l e s m args below meth c D ca ad σ res 9 [(0, .ref (ad 0)), (2, .int (oi x2)), (3, .int (oi x3)), (4, .int (oi x4))] [] σ (f_X7_methodFor_9 k2 n x2 x3 x4 σ)
  := by
  intro n
  induction n with
  | zero => intro x2 x3 x4 hx2 hx3 hx4 h; cases h
  | succ n ih =>
    intro x2 x3 x4 hx2 hx3 hx4
    rw [f_X7_methodFor_9]
    refine q_iload X dX7_methodFor_9 3 rfl ?_
    refine q_aload_n X dX7_methodFor_11 0 rfl ?_
    refine fg_X7_115 X dX7_methodFor_12 (fun h1 => ?_)
    refine q_icmp_ge X hx4 h1 49 dX7_methodFor_15 (by decide) (fun h2 => ?_) (fun h2 => ?_)
    · refine q_aload_n X dX7_methodFor_49 0 rfl ?_
      refine fg_X7_13 X dX7_methodFor_50 ?_
      refine q_iload_n X dX7_methodFor_53 2 rfl ?_
      refine q_iald X hM1 (by decide) dX7_methodFor_54 (fun h3 => ?_)
      refine q_istore_n X [(3, .int (oi (σ.1 1 (Int.toNat x3)))), (0, .ref (ad 0)), (2, .int (oi x2)), (4, .int (oi x4))] dX7_methodFor_55 (by decide) rfl ?_
      refine q_goto X 2 dX7_methodFor_56 (by decide) ?_
      refine q_sub [(0, .ref (ad 0)), (2, .int (oi x2)), (3, .int (oi (σ.1 1 (Int.toNat x3))))] [1, 2, 0] rfl ?_
      exact hk2 x2 (σ.1 1 (Int.toNat x3)) hx2 h3
    · refine q_aload_n X dX7_methodFor_18 0 rfl ?_
      refine fg_X7_17 X dX7_methodFor_19 ?_
      refine q_iload X dX7_methodFor_22 3 rfl ?_
      refine q_iald X hM2 (by decide) dX7_methodFor_24 (fun h4 => ?_)
      refine q_iload_n X dX7_methodFor_25 2 rfl ?_
      refine q_icmp_ne X h4 hx3 43 dX7_methodFor_26 (by decide) (fun h5 => ?_) (fun h5 => ?_)
      · refine q_aload_n X dX7_methodFor_29 0 rfl ?_
        refine fg_X7_20 X dX7_methodFor_30 ?_
        refine q_iload X dX7_methodFor_33 3 rfl ?_
        refine q_iald X hM3 (by decide) dX7_methodFor_35 (fun h6 => ?_)
        refine q_iload_n X dX7_methodFor_36 1 rfl ?_
        refine q_icmp_ne X h6 hx2 43 dX7_methodFor_37 (by decide) (fun h7 => ?_) (fun h7 => ?_)
        · refine q_iload X dX7_methodFor_40 3 rfl ?_
          exact q_iretp X hx4 hr hlk dX7_methodFor_42
        · refine q_iinc X [(4, .int (oi (x4 + 1))), (0, .ref (ad 0)), (2, .int (oi x2)), (3, .int (oi x3))] dX7_methodFor_43 (by decide) 3 rfl rfl (fun h8 => ?_)
          refine q_goto X 9 dX7_methodFor_46 (by decide) ?_
          refine q_sub [(0, .ref (ad 0)), (2, .int (oi x2)), (3, .int (oi x3)), (4, .int (oi (x4 + 1)))] [1, 2, 3, 0] rfl ?_
          exact ih x2 x3 (x4 + 1) hx2 hx3 h8
      · refine q_iinc X [(4, .int (oi (x4 + 1))), (0, .ref (ad 0)), (2, .int (oi x2)), (3, .int (oi x3))] dX7_methodFor_43 (by decide) 3 rfl rfl (fun h9 => ?_)
        refine q_goto X 9 dX7_methodFor_46 (by decide) ?_
        refine q_sub [(0, .ref (ad 0)), (2, .int (oi x2)), (3, .int (oi x3)), (4, .int (oi (x4 + 1)))] [1, 2, 3, 0] rfl ?_
        exact ih x2 x3 (x4 + 1) hx2 hx3 h9
def f_X7_methodFor_2 : Nat → Int → Int → Mm → Option (Int)
  | 0, _, _, _ => none
  | n + 1, x2, x3, σ => (if x3 < 0 then some (-1) else f_X7_methodFor_9 (f_X7_methodFor_2 n) 2000 x2 x3 0 σ)
set_option maxRecDepth 100000 in
set_option maxHeartbeats 4000000 in
theorem t_X7_methodFor_2 {p : Program} {l : Launch} {e : Env} {s : State} {m : MethodId} {args : Array Value} {below : List Frame} {meth : Method} {c : Code} {D : va_G} {ca : Nat → ClassId} {ad : Nat → Nat} {σ : Mm} {res : Int} (X : Cx p s m args c cX7_methodFor 5 RX7 (Cond.code yX7_methodFor cX7_methodFor 5 (some .int) :: tbG) D vcl ca) (hN : NM s) (hr : meth.sig.returnType = (some .int)) (hlk : meth.locks = false) : ∀ (n : Nat) (x2 : Int) (x3 : Int), inR x2 → inR x3 → GX7_methodFor p l e s m args below meth c D ca ad σ res 2 [(0, .ref (ad 0)), (2, .int (oi x2)), (3, .int (oi x3))] [] σ (f_X7_methodFor_2 n x2 x3 σ)
  := by
  intro n
  induction n with
  | zero => intro x2 x3 hx2 hx3 h; cases h
  | succ n ih =>
    intro x2 x3 hx2 hx3
    rw [f_X7_methodFor_2]
    refine q_iload_n X dX7_methodFor_2 2 rfl ?_
    refine q_if_lt X hx3 59 dX7_methodFor_3 (by decide) (fun h10 => ?_) (fun h10 => ?_)
    · refine q_iconst X dX7_methodFor_59 ?_
      exact q_iretp X (by decide) hr hlk dX7_methodFor_60
    · refine q_iconst X dX7_methodFor_6 ?_
      refine q_istore X [(4, .int (oi 0)), (0, .ref (ad 0)), (2, .int (oi x2)), (3, .int (oi x3))] dX7_methodFor_7 (by decide) rfl ?_
      refine q_sub [(0, .ref (ad 0)), (2, .int (oi x2)), (3, .int (oi x3)), (4, .int (oi 0))] [1, 2, 3, 0] rfl ?_
      exact t_X7_methodFor_9 X hN hr hlk ih 2000 x2 x3 0 hx2 hx3 (by decide)
def f_X7_methodFor (x1 : Int) (x2 : Int) (σ : Mm) : Option (Int) :=
  f_X7_methodFor_2 2000 x2 x1 σ
theorem hd_X7_methodFor : yX7_methodFor.cls = RX7 ∧ yX7_methodFor.cls ≠ "java/lang/invoke/MethodHandle" ∧ yX7_methodFor.cls ≠ "java/lang/invoke/VarHandle" ∧ (parseMethodDescriptor yX7_methodFor.desc).map (fun d => d.parameters.length) = some 2 := by decide +kernel
set_option maxRecDepth 100000 in
set_option maxHeartbeats 4000000 in
theorem c_X7_methodFor {l : Launch} {D : va_G} {ca : Nat → ClassId} {ad : Nat → Nat} {x1 : Int} {x2 : Int} (hx1 : inR x1) (hx2 : inR x2) {σ : Mm} : CtI l D vcl ca ad shM NM yX7_methodFor (Cond.code yX7_methodFor cX7_methodFor 5 (some .int) :: tbG) { frames := 0, cells := 0, slots := 0, locals := 0 } [.ref (ad 0), .int (oi x1), .int (oi x2)] σ ((f_X7_methodFor x1 x2 σ).map (fun r => (r, σ))) := by
  refine ct_Ip RX7 rfl (by decide) rfl (Nat.le_of_ble_eq_true rfl) (fun p e s m below meth c res X hN hr hlk => ?_)
  show GX7_methodFor p l e s m _ below meth c D ca ad σ res 0 [(0, .ref (ad 0)), (1, .int (oi x1)), (2, .int (oi x2))] [] σ (f_X7_methodFor x1 x2 σ)
  unfold f_X7_methodFor
  refine q_iload_n X dX7_methodFor_0 1 rfl ?_
  refine q_istore_n X [(3, .int (oi x1)), (0, .ref (ad 0)), (1, .int (oi x1)), (2, .int (oi x2))] dX7_methodFor_1 (by decide) rfl ?_
  refine q_sub [(0, .ref (ad 0)), (2, .int (oi x2)), (3, .int (oi x1))] [1, 3, 0] rfl ?_
  exact t_X7_methodFor_2 X hN hr hlk 2000 x2 x1 hx2 hx1

/-! SiteObjectsModel.context(III)V -/
abbrev GX7_context (p : Program) (l : Launch) (e : Env) (s : State) (m : MethodId) (args : Array Value) (below : List Frame) (meth : Method) (c : Code) (D : va_G) (ca : Nat → ClassId) (ad : Nat → Nat) (res : Mm) : Nat → List (Nat × Value) → List Value → Mm → Option (Mm) → Prop := G p l e { frames := 0, cells := 0, slots := 0, locals := 0 } s m args below meth c (MQ below (QcV D vcl ca ad shM s.heap.size res) args s 0 0 (Aw ad shM.length s.heap.size)) 6 D vcl ca ad shM (Aw ad shM.length s.heap.size) res
def f_X7_context_113 (s0 : Int) (σ : Mm) : Option (Mm) :=
  (if ((stI σ 0 35 s0).1 0 19) = 0 then (if 2 ≤ ((stI (stI σ 0 35 s0) 0 34 (-1)).1 0 19) then (some (stI (stI (stI σ 0 35 s0) 0 34 (-1)) 0 35 ((stI (stI σ 0 35 s0) 0 34 (-1)).1 0 35))).bind (fun σ6 => some σ6) else some (stI (stI (stI σ 0 35 s0) 0 34 (-1)) 0 35 (-1))) else (if 2 ≤ ((stI (stI σ 0 35 s0) 0 34 ((stI σ 0 35 s0).1 0 34)).1 0 19) then (some (stI (stI (stI σ 0 35 s0) 0 34 ((stI σ 0 35 s0).1 0 34)) 0 35 ((stI (stI σ 0 35 s0) 0 34 ((stI σ 0 35 s0).1 0 34)).1 0 35))).bind (fun σ11 => some σ11) else (some (stI (stI (stI σ 0 35 s0) 0 34 ((stI σ 0 35 s0).1 0 34)) 0 35 (-1))).bind (fun σ12 => some σ12)))
set_option maxRecDepth 100000 in
set_option maxHeartbeats 4000000 in
theorem t_X7_context_113 {p : Program} {l : Launch} {e : Env} {s : State} {m : MethodId} {args : Array Value} {below : List Frame} {meth : Method} {c : Code} {D : va_G} {ca : Nat → ClassId} {ad : Nat → Nat} {res : Mm} (X : Cx p s m args c cX7_context 6 RX7 (Cond.code yX7_context cX7_context 6 none :: tbG) D vcl ca) (hN : NM s) (hr : meth.sig.returnType = none) (hlk : meth.locks = false) : ∀ (s0 : Int) (σ : Mm), inR s0 → GX7_context p l e s m args below meth c D ca ad res 113 [(0, .ref (ad 0))] [.int (oi s0), .ref (ad 0)] σ (f_X7_context_113 s0 σ) := by
  intro s0 σ hs0
  unfold f_X7_context_113
  refine fp_X7_151 X hs0 dX7_context_113 ?_
  refine q_aload_n X dX7_context_116 0 rfl ?_
  refine q_aload_n X dX7_context_117 0 rfl ?_
  refine fg_X7_154 X dX7_context_118 (fun h1 => ?_)
  refine q_if_ne X h1 128 dX7_context_121 (by decide) (fun h2 => ?_) (fun h2 => ?_)
  · refine q_iconst X dX7_context_124 ?_
    refine q_goto X 132 dX7_context_125 (by decide) ?_
    refine fp_X7_148 X (by decide) dX7_context_132 ?_
    refine q_aload_n X dX7_context_135 0 rfl ?_
    refine q_aload_n X dX7_context_136 0 rfl ?_
    refine fg_X7_154 X dX7_context_137 (fun h3 => ?_)
    refine q_iconst X dX7_context_140 ?_
    refine q_icmp_ge X h3 (by decide) 148 dX7_context_141 (by decide) (fun h4 => ?_) (fun h4 => ?_)
    · refine q_aload_n X dX7_context_148 0 rfl ?_
      refine fg_X7_151 X dX7_context_149 (fun h5 => ?_)
      refine fp_X7_151 X h5 dX7_context_152 ?_
      refine q_nm (fun σ6 => ?_)
      exact q_vret X hr hlk dX7_context_155
    · refine q_iconst X dX7_context_144 ?_
      refine q_goto X 152 dX7_context_145 (by decide) ?_
      refine fp_X7_151 X (by decide) dX7_context_152 ?_
      exact q_vret X hr hlk dX7_context_155
  · refine q_aload_n X dX7_context_128 0 rfl ?_
    refine fg_X7_148 X dX7_context_129 (fun h7 => ?_)
    refine fp_X7_148 X h7 dX7_context_132 ?_
    refine q_aload_n X dX7_context_135 0 rfl ?_
    refine q_aload_n X dX7_context_136 0 rfl ?_
    refine fg_X7_154 X dX7_context_137 (fun h8 => ?_)
    refine q_iconst X dX7_context_140 ?_
    refine q_icmp_ge X h8 (by decide) 148 dX7_context_141 (by decide) (fun h9 => ?_) (fun h9 => ?_)
    · refine q_aload_n X dX7_context_148 0 rfl ?_
      refine fg_X7_151 X dX7_context_149 (fun h10 => ?_)
      refine fp_X7_151 X h10 dX7_context_152 ?_
      refine q_nm (fun σ11 => ?_)
      exact q_vret X hr hlk dX7_context_155
    · refine q_iconst X dX7_context_144 ?_
      refine q_goto X 152 dX7_context_145 (by decide) ?_
      refine fp_X7_151 X (by decide) dX7_context_152 ?_
      refine q_nm (fun σ12 => ?_)
      exact q_vret X hr hlk dX7_context_155
def f_X7_context_70 (x1 : Int) (x3 : Int) (x4 : Int) (x5 : Int) (s0 : Int) (σ : Mm) : Option (Mm) :=
  (if x4 = 0 then (if x5 = 0 then ck ((0 : Int) ≤ x1 ∧ x1 < ((80 : Nat) : Int)) (f_X7_context_113 ((stI σ 0 34 s0).1 14 (Int.toNat x1)) (stI σ 0 34 s0)) else ck ((0 : Int) ≤ x3 ∧ x3 < ((60 : Nat) : Int)) (ck ((0 : Int) ≤ ((stI σ 0 34 s0).1 18 (Int.toNat x3)) ∧ ((stI σ 0 34 s0).1 18 (Int.toNat x3)) < ((80 : Nat) : Int)) (f_X7_context_113 ((stI σ 0 34 s0).1 14 (Int.toNat ((stI σ 0 34 s0).1 18 (Int.toNat x3)))) (stI σ 0 34 s0)))) else ck ((0 : Int) ≤ x1 ∧ x1 < ((80 : Nat) : Int)) (f_X7_context_113 ((stI σ 0 34 s0).1 15 (Int.toNat x1)) (stI σ 0 34 s0)))
set_option maxRecDepth 100000 in
set_option maxHeartbeats 4000000 in
theorem t_X7_context_70 {p : Program} {l : Launch} {e : Env} {s : State} {m : MethodId} {args : Array Value} {below : List Frame} {meth : Method} {c : Code} {D : va_G} {ca : Nat → ClassId} {ad : Nat → Nat} {res : Mm} (X : Cx p s m args c cX7_context 6 RX7 (Cond.code yX7_context cX7_context 6 none :: tbG) D vcl ca) (hN : NM s) (hr : meth.sig.returnType = none) (hlk : meth.locks = false) : ∀ (x1 : Int) (x3 : Int) (x4 : Int) (x5 : Int) (s0 : Int) (σ : Mm), inR x1 → inR x3 → inR x4 → inR x5 → inR s0 → GX7_context p l e s m args below meth c D ca ad res 70 [(0, .ref (ad 0)), (1, .int (oi x1)), (3, .int (oi x3)), (4, .int (oi x4)), (5, .int (oi x5))] [.int (oi s0), .ref (ad 0)] σ (f_X7_context_70 x1 x3 x4 x5 s0 σ) := by
  intro x1 x3 x4 x5 s0 σ hx1 hx3 hx4 hx5 hs0
  unfold f_X7_context_70
  refine fp_X7_148 X hs0 dX7_context_70 ?_
  refine q_aload_n X dX7_context_73 0 rfl ?_
  refine q_iload X dX7_context_74 3 rfl ?_
  refine q_if_eq X hx4 88 dX7_context_76 (by decide) (fun h13 => ?_) (fun h13 => ?_)
  · refine q_iload X dX7_context_88 4 rfl ?_
    refine q_if_eq X hx5 107 dX7_context_90 (by decide) (fun h14 => ?_) (fun h14 => ?_)
    · refine q_aload_n X dX7_context_107 0 rfl ?_
      refine fg_X7_53 X dX7_context_108 ?_
      refine q_iload_n X dX7_context_111 1 rfl ?_
      refine q_iald X hM14 (by decide) dX7_context_112 (fun h15 => ?_)
      refine q_sub [(0, .ref (ad 0))] [0] rfl ?_
      exact t_X7_context_113 X hN hr hlk ((stI σ 0 34 s0).1 14 (Int.toNat x1)) (stI σ 0 34 s0) h15
    · refine q_aload_n X dX7_context_93 0 rfl ?_
      refine fg_X7_53 X dX7_context_94 ?_
      refine q_aload_n X dX7_context_97 0 rfl ?_
      refine fg_X7_66 X dX7_context_98 ?_
      refine q_iload_n X dX7_context_101 2 rfl ?_
      refine q_iald X hM18 (by decide) dX7_context_102 (fun h16 => ?_)
      refine q_iald X hM14 (by decide) dX7_context_103 (fun h17 => ?_)
      refine q_goto X 113 dX7_context_104 (by decide) ?_
      refine q_sub [(0, .ref (ad 0))] [0] rfl ?_
      exact t_X7_context_113 X hN hr hlk ((stI σ 0 34 s0).1 14 (Int.toNat ((stI σ 0 34 s0).1 18 (Int.toNat x3)))) (stI σ 0 34 s0) h17
  · refine q_aload_n X dX7_context_79 0 rfl ?_
    refine fg_X7_56 X dX7_context_80 ?_
    refine q_iload_n X dX7_context_83 1 rfl ?_
    refine q_iald X hM15 (by decide) dX7_context_84 (fun h18 => ?_)
    refine q_goto X 113 dX7_context_85 (by decide) ?_
    refine q_sub [(0, .ref (ad 0))] [0] rfl ?_
    exact t_X7_context_113 X hN hr hlk ((stI σ 0 34 s0).1 15 (Int.toNat x1)) (stI σ 0 34 s0) h18
def f_X7_context_35 (x1 : Int) (x2 : Int) (x3 : Int) (x4 : Int) (s0 : Int) (σ : Mm) : Option (Mm) :=
  (if x4 = 0 then (if s0 = 0 then f_X7_context_70 x1 x3 x4 s0 x2 σ else ck ((0 : Int) ≤ x3 ∧ x3 < ((60 : Nat) : Int)) (ck (inR (100 + (σ.1 17 (Int.toNat x3)))) (f_X7_context_70 x1 x3 x4 s0 (100 + (σ.1 17 (Int.toNat x3))) σ))) else ck ((0 : Int) ≤ x1 ∧ x1 < ((80 : Nat) : Int)) (f_X7_context_70 x1 x3 x4 s0 (σ.1 14 (Int.toNat x1)) σ))
set_option maxRecDepth 100000 in
set_option maxHeartbeats 4000000 in
theorem t_X7_context_35 {p : Program} {l : Launch} {e : Env} {s : State} {m : MethodId} {args : Array Value} {below : List Frame} {meth : Method} {c : Code} {D : va_G} {ca : Nat → ClassId} {ad : Nat → Nat} {res : Mm} (X : Cx p s m args c cX7_context 6 RX7 (Cond.code yX7_context cX7_context 6 none :: tbG) D vcl ca) (hN : NM s) (hr : meth.sig.returnType = none) (hlk : meth.locks = false) : ∀ (x1 : Int) (x2 : Int) (x3 : Int) (x4 : Int) (s0 : Int) (σ : Mm), inR x1 → inR x2 → inR x3 → inR x4 → inR s0 → GX7_context p l e s m args below meth c D ca ad res 35 [(0, .ref (ad 0)), (1, .int (oi x1)), (2, .int (oi x2)), (3, .int (oi x3)), (4, .int (oi x4))] [.int (oi s0)] σ (f_X7_context_35 x1 x2 x3 x4 s0 σ) := by
  intro x1 x2 x3 x4 s0 σ hx1 hx2 hx3 hx4 hs0
  unfold f_X7_context_35
  refine q_istore X [(5, .int (oi s0)), (0, .ref (ad 0)), (1, .int (oi x1)), (2, .int (oi x2)), (3, .int (oi x3)), (4, .int (oi x4))] dX7_context_35 (by decide) rfl ?_
  refine q_aload_n X dX7_context_37 1 rfl ?_
  refine q_iload X dX7_context_38 5 rfl ?_
  refine q_if_eq X hx4 52 dX7_context_40 (by decide) (fun h19 => ?_) (fun h19 => ?_)
  · refine q_iload X dX7_context_52 0 rfl ?_
    refine q_if_eq X hs0 69 dX7_context_54 (by decide) (fun h20 => ?_) (fun h20 => ?_)
    · refine q_iload_n X dX7_context_69 3 rfl ?_
      refine q_sub [(0, .ref (ad 0)), (1, .int (oi x1)), (3, .int (oi x3)), (4, .int (oi x4)), (5, .int (oi s0))] [1, 2, 4, 5, 0] rfl ?_
      exact t_X7_context_70 X hN hr hlk x1 x3 x4 s0 x2 σ hx1 hx3 hx4 hs0 hx2
    · refine q_bipush X dX7_context_57 (by decide) ?_
      refine q_aload_n X dX7_context_59 1 rfl ?_
      refine fg_X7_63 X dX7_context_60 ?_
      refine q_iload_n X dX7_context_63 4 rfl ?_
      refine q_iald X hM17 (by decide) dX7_context_64 (fun h21 => ?_)
      refine q_iadd X dX7_context_65 ?_
      refine q_goto X 70 dX7_context_66 (by decide) ?_
      refine q_ck (fun h22 => ?_)
      refine q_sub [(0, .ref (ad 0)), (1, .int (oi x1)), (3, .int (oi x3)), (4, .int (oi x4)), (5, .int (oi s0))] [1, 2, 4, 5, 0] rfl ?_
      exact t_X7_context_70 X hN hr hlk x1 x3 x4 s0 (100 + (σ.1 17 (Int.toNat x3))) σ hx1 hx3 hx4 hs0 h22
  · refine q_aload_n X dX7_context_43 1 rfl ?_
    refine fg_X7_53 X dX7_context_44 ?_
    refine q_iload_n X dX7_context_47 2 rfl ?_
    refine q_iald X hM14 (by decide) dX7_context_48 (fun h23 => ?_)
    refine q_goto X 70 dX7_context_49 (by decide) ?_
    refine q_sub [(0, .ref (ad 0)), (1, .int (oi x1)), (3, .int (oi x3)), (4, .int (oi x4)), (5, .int (oi s0))] [1, 2, 4, 5, 0] rfl ?_
    exact t_X7_context_70 X hN hr hlk x1 x3 x4 s0 (σ.1 14 (Int.toNat x1)) σ hx1 hx3 hx4 hs0 h23
def f_X7_context (x1 : Int) (x2 : Int) (x3 : Int) (σ : Mm) : Option (Mm) :=
  (if 0 ≤ x3 then (if x3 < 0 then f_X7_context_35 x1 x2 x3 0 0 σ else (if (σ.1 0 18) ≤ 0 then f_X7_context_35 x1 x2 x3 0 0 σ else f_X7_context_35 x1 x2 x3 0 1 σ)) else (if (σ.1 0 18) = 1 then (if x3 < 0 then f_X7_context_35 x1 x2 x3 1 0 σ else (if (σ.1 0 18) ≤ 0 then f_X7_context_35 x1 x2 x3 1 0 σ else f_X7_context_35 x1 x2 x3 1 1 σ)) else (if x3 < 0 then f_X7_context_35 x1 x2 x3 0 0 σ else (if (σ.1 0 18) ≤ 0 then f_X7_context_35 x1 x2 x3 0 0 σ else f_X7_context_35 x1 x2 x3 0 1 σ))))
theorem hd_X7_context : yX7_context.cls = RX7 ∧ yX7_context.cls ≠ "java/lang/invoke/MethodHandle" ∧ yX7_context.cls ≠ "java/lang/invoke/VarHandle" ∧ (parseMethodDescriptor yX7_context.desc).map (fun d => d.parameters.length) = some 3 := by decide +kernel
set_option maxRecDepth 100000 in
set_option maxHeartbeats 4000000 in
theorem c_X7_context {l : Launch} {D : va_G} {ca : Nat → ClassId} {ad : Nat → Nat} {x1 : Int} {x2 : Int} {x3 : Int} (hx1 : inR x1) (hx2 : inR x2) (hx3 : inR x3) {σ : Mm} : CtV l D vcl ca ad shM NM yX7_context (Cond.code yX7_context cX7_context 6 none :: tbG) { frames := 0, cells := 0, slots := 0, locals := 0 } [.ref (ad 0), .int (oi x1), .int (oi x2), .int (oi x3)] σ (f_X7_context x1 x2 x3 σ) := by
  refine ct_V RX7 rfl (by decide) rfl (Nat.le_of_ble_eq_true rfl) (fun p e s m below meth c res X hN hr hlk => ?_)
  show GX7_context p l e s m _ below meth c D ca ad res 0 [(0, .ref (ad 0)), (1, .int (oi x1)), (2, .int (oi x2)), (3, .int (oi x3))] [] σ (f_X7_context x1 x2 x3 σ)
  unfold f_X7_context
  refine q_iload_n X dX7_context_0 3 rfl ?_
  refine q_if_ge X hx3 16 dX7_context_1 (by decide) (fun h24 => ?_) (fun h24 => ?_)
  · refine q_iconst X dX7_context_16 ?_
    refine q_istore X [(4, .int (oi 0)), (0, .ref (ad 0)), (1, .int (oi x1)), (2, .int (oi x2)), (3, .int (oi x3))] dX7_context_17 (by decide) rfl ?_
    refine q_iload_n X dX7_context_19 4 rfl ?_
    refine q_if_lt X hx3 34 dX7_context_20 (by decide) (fun h25 => ?_) (fun h25 => ?_)
    · refine q_iconst X dX7_context_34 ?_
      refine q_sub [(0, .ref (ad 0)), (1, .int (oi x1)), (2, .int (oi x2)), (3, .int (oi x3)), (4, .int (oi 0))] [1, 2, 3, 4, 0] rfl ?_
      exact t_X7_context_35 X hN hr hlk x1 x2 x3 0 0 σ hx1 hx2 hx3 (by decide) (by decide)
    · refine q_aload_n X dX7_context_23 1 rfl ?_
      refine fg_X7_145 X dX7_context_24 (fun h26 => ?_)
      refine q_if_le X h26 34 dX7_context_27 (by decide) (fun h27 => ?_) (fun h27 => ?_)
      · refine q_iconst X dX7_context_34 ?_
        refine q_sub [(0, .ref (ad 0)), (1, .int (oi x1)), (2, .int (oi x2)), (3, .int (oi x3)), (4, .int (oi 0))] [1, 2, 3, 4, 0] rfl ?_
        exact t_X7_context_35 X hN hr hlk x1 x2 x3 0 0 σ hx1 hx2 hx3 (by decide) (by decide)
      · refine q_iconst X dX7_context_30 ?_
        refine q_goto X 35 dX7_context_31 (by decide) ?_
        refine q_sub [(0, .ref (ad 0)), (1, .int (oi x1)), (2, .int (oi x2)), (3, .int (oi x3)), (4, .int (oi 0))] [1, 2, 3, 4, 0] rfl ?_
        exact t_X7_context_35 X hN hr hlk x1 x2 x3 0 1 σ hx1 hx2 hx3 (by decide) (by decide)
  · refine q_aload_n X dX7_context_4 0 rfl ?_
    refine fg_X7_145 X dX7_context_5 (fun h28 => ?_)
    refine q_iconst X dX7_context_8 ?_
    refine q_icmp_ne X h28 (by decide) 16 dX7_context_9 (by decide) (fun h29 => ?_) (fun h29 => ?_)
    · refine q_iconst X dX7_context_12 ?_
      refine q_goto X 17 dX7_context_13 (by decide) ?_
      refine q_istore X [(4, .int (oi 1)), (0, .ref (ad 0)), (1, .int (oi x1)), (2, .int (oi x2)), (3, .int (oi x3))] dX7_context_17 (by decide) rfl ?_
      refine q_iload_n X dX7_context_19 4 rfl ?_
      refine q_if_lt X hx3 34 dX7_context_20 (by decide) (fun h30 => ?_) (fun h30 => ?_)
      · refine q_iconst X dX7_context_34 ?_
        refine q_sub [(0, .ref (ad 0)), (1, .int (oi x1)), (2, .int (oi x2)), (3, .int (oi x3)), (4, .int (oi 1))] [1, 2, 3, 4, 0] rfl ?_
        exact t_X7_context_35 X hN hr hlk x1 x2 x3 1 0 σ hx1 hx2 hx3 (by decide) (by decide)
      · refine q_aload_n X dX7_context_23 1 rfl ?_
        refine fg_X7_145 X dX7_context_24 (fun h31 => ?_)
        refine q_if_le X h31 34 dX7_context_27 (by decide) (fun h32 => ?_) (fun h32 => ?_)
        · refine q_iconst X dX7_context_34 ?_
          refine q_sub [(0, .ref (ad 0)), (1, .int (oi x1)), (2, .int (oi x2)), (3, .int (oi x3)), (4, .int (oi 1))] [1, 2, 3, 4, 0] rfl ?_
          exact t_X7_context_35 X hN hr hlk x1 x2 x3 1 0 σ hx1 hx2 hx3 (by decide) (by decide)
        · refine q_iconst X dX7_context_30 ?_
          refine q_goto X 35 dX7_context_31 (by decide) ?_
          refine q_sub [(0, .ref (ad 0)), (1, .int (oi x1)), (2, .int (oi x2)), (3, .int (oi x3)), (4, .int (oi 1))] [1, 2, 3, 4, 0] rfl ?_
          exact t_X7_context_35 X hN hr hlk x1 x2 x3 1 1 σ hx1 hx2 hx3 (by decide) (by decide)
    · refine q_iconst X dX7_context_16 ?_
      refine q_istore X [(4, .int (oi 0)), (0, .ref (ad 0)), (1, .int (oi x1)), (2, .int (oi x2)), (3, .int (oi x3))] dX7_context_17 (by decide) rfl ?_
      refine q_iload_n X dX7_context_19 4 rfl ?_
      refine q_if_lt X hx3 34 dX7_context_20 (by decide) (fun h33 => ?_) (fun h33 => ?_)
      · refine q_iconst X dX7_context_34 ?_
        refine q_sub [(0, .ref (ad 0)), (1, .int (oi x1)), (2, .int (oi x2)), (3, .int (oi x3)), (4, .int (oi 0))] [1, 2, 3, 4, 0] rfl ?_
        exact t_X7_context_35 X hN hr hlk x1 x2 x3 0 0 σ hx1 hx2 hx3 (by decide) (by decide)
      · refine q_aload_n X dX7_context_23 1 rfl ?_
        refine fg_X7_145 X dX7_context_24 (fun h34 => ?_)
        refine q_if_le X h34 34 dX7_context_27 (by decide) (fun h35 => ?_) (fun h35 => ?_)
        · refine q_iconst X dX7_context_34 ?_
          refine q_sub [(0, .ref (ad 0)), (1, .int (oi x1)), (2, .int (oi x2)), (3, .int (oi x3)), (4, .int (oi 0))] [1, 2, 3, 4, 0] rfl ?_
          exact t_X7_context_35 X hN hr hlk x1 x2 x3 0 0 σ hx1 hx2 hx3 (by decide) (by decide)
        · refine q_iconst X dX7_context_30 ?_
          refine q_goto X 35 dX7_context_31 (by decide) ?_
          refine q_sub [(0, .ref (ad 0)), (1, .int (oi x1)), (2, .int (oi x2)), (3, .int (oi x3)), (4, .int (oi 0))] [1, 2, 3, 4, 0] rfl ?_
          exact t_X7_context_35 X hN hr hlk x1 x2 x3 0 1 σ hx1 hx2 hx3 (by decide) (by decide)

/-! SiteObjectsModel.nodeOf(I)I -/
abbrev GX7_nodeOf (p : Program) (l : Launch) (e : Env) (s : State) (m : MethodId) (args : Array Value) (below : List Frame) (meth : Method) (c : Code) (D : va_G) (ca : Nat → ClassId) (ad : Nat → Nat) (σ : Mm) (res : Int) : Nat → List (Nat × Value) → List Value → Mm → Option (Int) → Prop := G p l e { frames := 0, cells := 0, slots := 0, locals := 0 } s m args below meth c (MQ below (QcI D vcl ca ad shM s.heap.size (res, σ)) args s 0 0 (Aw ad shM.length s.heap.size)) 3 D vcl ca ad shM (Aw ad shM.length s.heap.size) res
def f_X7_nodeOf_2 : Nat → Int → Int → Mm → Option (Int)
  | 0, _, _, _ => none
  | n + 1, x1, x2, σ => (if (σ.1 0 24) ≤ x2 then some x2 else ck ((0 : Int) ≤ x2 ∧ x2 < ((80 : Nat) : Int)) ((if (σ.1 13 (Int.toNat x2)) = x1 then ck ((0 : Int) ≤ x2 ∧ x2 < ((80 : Nat) : Int)) ((if (σ.1 14 (Int.toNat x2)) = (σ.1 0 34) then ck ((0 : Int) ≤ x2 ∧ x2 < ((80 : Nat) : Int)) ((if (σ.1 15 (Int.toNat x2)) = (σ.1 0 35) then some x2 else ck (inR (x2 + 1)) (f_X7_nodeOf_2 n x1 (x2 + 1) σ))) else ck (inR (x2 + 1)) (f_X7_nodeOf_2 n x1 (x2 + 1) σ))) else ck (inR (x2 + 1)) (f_X7_nodeOf_2 n x1 (x2 + 1) σ))))
set_option maxRecDepth 100000 in
set_option maxHeartbeats 4000000 in
theorem t_X7_nodeOf_2 {p : Program} {l : Launch} {e : Env} {s : State} {m : MethodId} {args : Array Value} {below : List Frame} {meth : Method} {c : Code} {D : va_G} {ca : Nat → ClassId} {ad : Nat → Nat} {σ : Mm} {res : Int} (X : Cx p s m args c cX7_nodeOf 3 RX7 (Cond.code yX7_nodeOf cX7_nodeOf 3 (some .int) :: tbG) D vcl ca) (hN : NM s) (hr : meth.sig.returnType = (some .int)) (hlk : meth.locks = false) : ∀ (n : Nat) (x1 : Int) (x2 : Int), inR x1 → inR x2 → GX7_nodeOf p l e s m args below meth c D ca ad σ res 2 [(0, .ref (ad 0)), (1, .int (oi x1)), (2, .int (oi x2))] [] σ (f_X7_nodeOf_2 n x1 x2 σ)
  := by
  intro n
  induction n with
  | zero => intro x1 x2 hx1 hx2 h; cases h
  | succ n ih =>
    intro x1 x2 hx1 hx2
    rw [f_X7_nodeOf_2]
    refine q_iload_n X dX7_nodeOf_2 2 rfl ?_
    refine q_aload_n X dX7_nodeOf_3 0 rfl ?_
    refine fg_X7_108 X dX7_nodeOf_4 (fun h1 => ?_)
    refine q_icmp_ge X hx2 h1 52 dX7_nodeOf_7 (by decide) (fun h2 => ?_) (fun h2 => ?_)
    · refine q_iload_n X dX7_nodeOf_52 2 rfl ?_
      exact q_iretp X hx2 hr hlk dX7_nodeOf_53
    · refine q_aload_n X dX7_nodeOf_10 0 rfl ?_
      refine fg_X7_50 X dX7_nodeOf_11 ?_
      refine q_iload_n X dX7_nodeOf_14 2 rfl ?_
      refine q_iald X hM13 (by decide) dX7_nodeOf_15 (fun h3 => ?_)
      refine q_iload_n X dX7_nodeOf_16 1 rfl ?_
      refine q_icmp_ne X h3 hx1 46 dX7_nodeOf_17 (by decide) (fun h4 => ?_) (fun h4 => ?_)
      · refine q_aload_n X dX7_nodeOf_20 0 rfl ?_
        refine fg_X7_53 X dX7_nodeOf_21 ?_
        refine q_iload_n X dX7_nodeOf_24 2 rfl ?_
        refine q_iald X hM14 (by decide) dX7_nodeOf_25 (fun h5 => ?_)
        refine q_aload_n X dX7_nodeOf_26 0 rfl ?_
        refine fg_X7_148 X dX7_nodeOf_27 (fun h6 => ?_)
        refine q_icmp_ne X h5 h6 46 dX7_nodeOf_30 (by decide) (fun h7 => ?_) (fun h7 => ?_)
        · refine q_aload_n X dX7_nodeOf_33 0 rfl ?_
          refine fg_X7_56 X dX7_nodeOf_34 ?_
          refine q_iload_n X dX7_nodeOf_37 2 rfl ?_
          refine q_iald X hM15 (by decide) dX7_nodeOf_38 (fun h8 => ?_)
          refine q_aload_n X dX7_nodeOf_39 0 rfl ?_
          refine fg_X7_151 X dX7_nodeOf_40 (fun h9 => ?_)
          refine q_icmp_eq X h8 h9 52 dX7_nodeOf_43 (by decide) (fun h10 => ?_) (fun h10 => ?_)
          · refine q_iload_n X dX7_nodeOf_52 2 rfl ?_
            exact q_iretp X hx2 hr hlk dX7_nodeOf_53
          · refine q_iinc X [(2, .int (oi (x2 + 1))), (0, .ref (ad 0)), (1, .int (oi x1))] dX7_nodeOf_46 (by decide) 2 rfl rfl (fun h11 => ?_)
            refine q_goto X 2 dX7_nodeOf_49 (by decide) ?_
            refine q_sub [(0, .ref (ad 0)), (1, .int (oi x1)), (2, .int (oi (x2 + 1)))] [1, 2, 0] rfl ?_
            exact ih x1 (x2 + 1) hx1 h11
        · refine q_iinc X [(2, .int (oi (x2 + 1))), (0, .ref (ad 0)), (1, .int (oi x1))] dX7_nodeOf_46 (by decide) 2 rfl rfl (fun h12 => ?_)
          refine q_goto X 2 dX7_nodeOf_49 (by decide) ?_
          refine q_sub [(0, .ref (ad 0)), (1, .int (oi x1)), (2, .int (oi (x2 + 1)))] [1, 2, 0] rfl ?_
          exact ih x1 (x2 + 1) hx1 h12
      · refine q_iinc X [(2, .int (oi (x2 + 1))), (0, .ref (ad 0)), (1, .int (oi x1))] dX7_nodeOf_46 (by decide) 2 rfl rfl (fun h13 => ?_)
        refine q_goto X 2 dX7_nodeOf_49 (by decide) ?_
        refine q_sub [(0, .ref (ad 0)), (1, .int (oi x1)), (2, .int (oi (x2 + 1)))] [1, 2, 0] rfl ?_
        exact ih x1 (x2 + 1) hx1 h13
def f_X7_nodeOf (x1 : Int) (σ : Mm) : Option (Int) :=
  f_X7_nodeOf_2 2000 x1 0 σ
theorem hd_X7_nodeOf : yX7_nodeOf.cls = RX7 ∧ yX7_nodeOf.cls ≠ "java/lang/invoke/MethodHandle" ∧ yX7_nodeOf.cls ≠ "java/lang/invoke/VarHandle" ∧ (parseMethodDescriptor yX7_nodeOf.desc).map (fun d => d.parameters.length) = some 1 := by decide +kernel
set_option maxRecDepth 100000 in
set_option maxHeartbeats 4000000 in
theorem c_X7_nodeOf {l : Launch} {D : va_G} {ca : Nat → ClassId} {ad : Nat → Nat} {x1 : Int} (hx1 : inR x1) {σ : Mm} : CtI l D vcl ca ad shM NM yX7_nodeOf (Cond.code yX7_nodeOf cX7_nodeOf 3 (some .int) :: tbG) { frames := 0, cells := 0, slots := 0, locals := 0 } [.ref (ad 0), .int (oi x1)] σ ((f_X7_nodeOf x1 σ).map (fun r => (r, σ))) := by
  refine ct_Ip RX7 rfl (by decide) rfl (Nat.le_of_ble_eq_true rfl) (fun p e s m below meth c res X hN hr hlk => ?_)
  show GX7_nodeOf p l e s m _ below meth c D ca ad σ res 0 [(0, .ref (ad 0)), (1, .int (oi x1))] [] σ (f_X7_nodeOf x1 σ)
  unfold f_X7_nodeOf
  refine q_iconst X dX7_nodeOf_0 ?_
  refine q_istore_n X [(2, .int (oi 0)), (0, .ref (ad 0)), (1, .int (oi x1))] dX7_nodeOf_1 (by decide) rfl ?_
  refine q_sub [(0, .ref (ad 0)), (1, .int (oi x1)), (2, .int (oi 0))] [1, 2, 0] rfl ?_
  exact t_X7_nodeOf_2 X hN hr hlk 2000 x1 0 hx1 (by decide)

/-! SiteObjectsModel.newNode(I)I -/
abbrev GX7_newNode (p : Program) (l : Launch) (e : Env) (s : State) (m : MethodId) (args : Array Value) (below : List Frame) (meth : Method) (c : Code) (D : va_G) (ca : Nat → ClassId) (ad : Nat → Nat) (res : Int × Mm) : Nat → List (Nat × Value) → List Value → Mm → Option (Int × Mm) → Prop := G p l e { frames := 1, cells := 0, slots := 0, locals := 22 } s m args below meth c (MQ below (QcI D vcl ca ad shM s.heap.size res) args s 0 0 (Aw ad shM.length s.heap.size)) 4 D vcl ca ad shM (Aw ad shM.length s.heap.size) res
def f_X7_newNode_56 : Nat → Int → Int → Mm → Option (Int × Mm)
  | 0, _, _, _ => none
  | n + 1, x2, x3, σ => (if 8 ≤ x3 then ck (inR ((σ.1 0 24) + 1)) (some (x2, (stI (stI σ 0 24 ((σ.1 0 24) + 1)) 0 22 1))) else ck ((0 : Int) ≤ ((8 * x2) + x3) ∧ ((8 * x2) + x3) < ((640 : Nat) : Int)) (ck (inR (x3 + 1)) (f_X7_newNode_56 n x2 (x3 + 1) (stL σ 16 (Int.toNat ((8 * x2) + x3)) 0))))
set_option maxRecDepth 100000 in
set_option maxHeartbeats 4000000 in
theorem t_X7_newNode_56 {p : Program} {l : Launch} {e : Env} {s : State} {m : MethodId} {args : Array Value} {below : List Frame} {meth : Method} {c : Code} {D : va_G} {ca : Nat → ClassId} {ad : Nat → Nat} {res : Int × Mm} (X : Cx p s m args c cX7_newNode 4 RX7 (Cond.code yX7_newNode cX7_newNode 4 (some .int) :: tbG) D vcl ca) (hN : NM s) (hr : meth.sig.returnType = (some .int)) (hlk : meth.locks = false) : ∀ (n : Nat) (x2 : Int) (x3 : Int) (σ : Mm), inR x2 → inR x3 → GX7_newNode p l e s m args below meth c D ca ad res 56 [(0, .ref (ad 0)), (2, .int (oi x2)), (3, .int (oi x3))] [] σ (f_X7_newNode_56 n x2 x3 σ)
  := by
  intro n
  induction n with
  | zero => intro x2 x3 σ hx2 hx3 h; cases h
  | succ n ih =>
    intro x2 x3 σ hx2 hx3
    rw [f_X7_newNode_56]
    refine q_iload_n X dX7_newNode_56 2 rfl ?_
    refine q_bipush X dX7_newNode_57 (by decide) ?_
    refine q_icmp_ge X hx3 (by decide) 80 dX7_newNode_59 (by decide) (fun h1 => ?_) (fun h1 => ?_)
    · refine q_aload_n X dX7_newNode_80 0 rfl ?_
      refine q_dup X dX7_newNode_81 rfl ?_
      refine fg_X7_108 X dX7_newNode_82 (fun h2 => ?_)
      refine q_iconst X dX7_newNode_85 ?_
      refine q_iadd X dX7_newNode_86 ?_
      refine q_ck (fun h3 => ?_)
      refine fp_X7_108 X h3 dX7_newNode_87 ?_
      refine q_aload_n X dX7_newNode_90 0 rfl ?_
      refine q_iconst X dX7_newNode_91 ?_
      refine fp_X7_164 X (Or.inr rfl) dX7_newNode_92 ?_
      refine q_iload_n X dX7_newNode_95 1 rfl ?_
      exact q_iret X hx2 hr hlk dX7_newNode_96
    · refine q_aload_n X dX7_newNode_62 0 rfl ?_
      refine fg_X7_59 X dX7_newNode_63 ?_
      refine q_bipush X dX7_newNode_66 (by decide) ?_
      refine q_iload_n X dX7_newNode_68 1 rfl ?_
      refine q_imul X dX7_newNode_69 ?_
      refine q_iload_n X dX7_newNode_70 2 rfl ?_
      refine q_iadd X dX7_newNode_71 ?_
      refine q_lconst X 0 dX7_newNode_72 rfl ?_
      refine q_last X hM16 (by decide) dX7_newNode_73 ?_
      refine q_iinc X [(3, .int (oi (x3 + 1))), (0, .ref (ad 0)), (2, .int (oi x2))] dX7_newNode_74 (by decide) 2 rfl rfl (fun h4 => ?_)
      refine q_goto X 56 dX7_newNode_77 (by decide) ?_
      refine q_sub [(0, .ref (ad 0)), (2, .int (oi x2)), (3, .int (oi (x3 + 1)))] [1, 2, 0] rfl ?_
      exact ih x2 (x3 + 1) (stL σ 16 (Int.toNat ((8 * x2) + x3)) 0) hx2 h4
def f_X7_newNode (x1 : Int) (σ : Mm) : Option (Int × Mm) :=
  (f_X7_nodeOf x1 σ).bind (fun r5 => (if r5 = 80 then some (0, (stI σ 0 23 1)) else (if r5 = (σ.1 0 24) then ck ((0 : Int) ≤ r5 ∧ r5 < ((80 : Nat) : Int)) (ck ((0 : Int) ≤ r5 ∧ r5 < ((80 : Nat) : Int)) ((some (stI (stI σ 13 (Int.toNat r5) x1) 14 (Int.toNat r5) ((stI σ 13 (Int.toNat r5) x1).1 0 34))).bind (fun σ12 => ck ((0 : Int) ≤ r5 ∧ r5 < ((80 : Nat) : Int)) (f_X7_newNode_56 2000 r5 0 (stI σ12 15 (Int.toNat r5) (σ12.1 0 35)))))) else some (r5, σ))))
theorem hd_X7_newNode : yX7_newNode.cls = RX7 ∧ yX7_newNode.cls ≠ "java/lang/invoke/MethodHandle" ∧ yX7_newNode.cls ≠ "java/lang/invoke/VarHandle" ∧ (parseMethodDescriptor yX7_newNode.desc).map (fun d => d.parameters.length) = some 1 := by decide +kernel
set_option maxRecDepth 100000 in
set_option maxHeartbeats 4000000 in
theorem c_X7_newNode {l : Launch} {D : va_G} {ca : Nat → ClassId} {ad : Nat → Nat} {x1 : Int} (hx1 : inR x1) {σ : Mm} : CtI l D vcl ca ad shM NM yX7_newNode (Cond.code yX7_newNode cX7_newNode 4 (some .int) :: tbG) { frames := 1, cells := 0, slots := 0, locals := 22 } [.ref (ad 0), .int (oi x1)] σ (f_X7_newNode x1 σ) := by
  refine ct_I RX7 rfl (by decide) rfl (Nat.le_of_ble_eq_true rfl) (fun p e s m below meth c res X hN hr hlk => ?_)
  show GX7_newNode p l e s m _ below meth c D ca ad res 0 [(0, .ref (ad 0)), (1, .int (oi x1))] [] σ (f_X7_newNode x1 σ)
  unfold f_X7_newNode
  refine q_aload_n X dX7_newNode_0 0 rfl ?_
  refine q_iload_n X dX7_newNode_1 1 rfl ?_
  refine q_callIp X NMok hN Aw_new (c_X7_nodeOf hx1) (rn_V X (cwV 1 X.2.2.2.2.1 (tbG_good _ (tbG_V mw_1046 mw_1048 mp_4_7 mw_9 mw_1049)) rfl rfl rfl hd_X7_nodeOf ⟨by decide, by decide⟩) hM0 rfl rfl rfl (Nat.le_of_ble_eq_true rfl) dX7_newNode_2) (fun r5 _ h7 => ?_)
  refine q_istore_n X [(2, .int (oi r5)), (0, .ref (ad 0)), (1, .int (oi x1))] dX7_newNode_5 (by decide) rfl ?_
  refine q_iload_n X dX7_newNode_6 0 rfl ?_
  refine q_bipush X dX7_newNode_7 (by decide) ?_
  refine q_icmp_ne X h7 (by decide) 19 dX7_newNode_9 (by decide) (fun h8 => ?_) (fun h8 => ?_)
  · refine q_aload_n X dX7_newNode_12 1 rfl ?_
    refine q_iconst X dX7_newNode_13 ?_
    refine fp_X7_161 X (Or.inr rfl) dX7_newNode_14 ?_
    refine q_iconst X dX7_newNode_17 ?_
    exact q_iret X (by decide) hr hlk dX7_newNode_18
  · refine q_iload_n X dX7_newNode_19 0 rfl ?_
    refine q_aload_n X dX7_newNode_20 1 rfl ?_
    refine fg_X7_108 X dX7_newNode_21 (fun h9 => ?_)
    refine q_icmp_ne X h7 h9 95 dX7_newNode_24 (by decide) (fun h10 => ?_) (fun h10 => ?_)
    · refine q_aload_n X dX7_newNode_27 1 rfl ?_
      refine fg_X7_50 X dX7_newNode_28 ?_
      refine q_iload_n X dX7_newNode_31 0 rfl ?_
      refine q_iload_n X dX7_newNode_32 2 rfl ?_
      refine q_iast X hM13 (by decide) hx1 dX7_newNode_33 ?_
      refine q_aload_n X dX7_newNode_34 1 rfl ?_
      refine fg_X7_53 X dX7_newNode_35 ?_
      refine q_iload_n X dX7_newNode_38 0 rfl ?_
      refine q_aload_n X dX7_newNode_39 1 rfl ?_
      refine fg_X7_148 X dX7_newNode_40 (fun h11 => ?_)
      refine q_iast X hM14 (by decide) h11 dX7_newNode_43 ?_
      refine q_nm (fun σ12 => ?_)
      refine q_aload_n X dX7_newNode_44 1 rfl ?_
      refine fg_X7_56 X dX7_newNode_45 ?_
      refine q_iload_n X dX7_newNode_48 0 rfl ?_
      refine q_aload_n X dX7_newNode_49 1 rfl ?_
      refine fg_X7_151 X dX7_newNode_50 (fun h13 => ?_)
      refine q_iast X hM15 (by decide) h13 dX7_newNode_53 ?_
      refine q_iconst X dX7_newNode_54 ?_
      refine q_istore_n X [(3, .int (oi 0)), (2, .int (oi r5)), (0, .ref (ad 0)), (1, .int (oi x1))] dX7_newNode_55 (by decide) rfl ?_
      refine q_sub [(0, .ref (ad 0)), (2, .int (oi r5)), (3, .int (oi 0))] [2, 1, 0] rfl ?_
      exact t_X7_newNode_56 X hN hr hlk 2000 r5 0 (stI σ12 15 (Int.toNat r5) (σ12.1 0 35)) h7 (by decide)
    · refine q_iload_n X dX7_newNode_95 0 rfl ?_
      exact q_iret X h7 hr hlk dX7_newNode_96

/-! SiteObjectsModel.nameOf(II)I -/
abbrev GX7_nameOf (p : Program) (l : Launch) (e : Env) (s : State) (m : MethodId) (args : Array Value) (below : List Frame) (meth : Method) (c : Code) (D : va_G) (ca : Nat → ClassId) (ad : Nat → Nat) (σ : Mm) (res : Int) : Nat → List (Nat × Value) → List Value → Mm → Option (Int) → Prop := G p l e { frames := 0, cells := 0, slots := 0, locals := 0 } s m args below meth c (MQ below (QcI D vcl ca ad shM s.heap.size (res, σ)) args s 0 0 (Aw ad shM.length s.heap.size)) 4 D vcl ca ad shM (Aw ad shM.length s.heap.size) res
def f_X7_nameOf_2 : Nat → Int → Int → Int → Mm → Option (Int)
  | 0, _, _, _, _ => none
  | n + 1, x1, x2, x3, σ => (if (σ.1 0 29) ≤ x3 then some x3 else ck ((0 : Int) ≤ x3 ∧ x3 < ((60 : Nat) : Int)) ((if (σ.1 17 (Int.toNat x3)) = x1 then ck ((0 : Int) ≤ x3 ∧ x3 < ((60 : Nat) : Int)) ((if (σ.1 18 (Int.toNat x3)) = x2 then some x3 else ck (inR (x3 + 1)) (f_X7_nameOf_2 n x1 x2 (x3 + 1) σ))) else ck (inR (x3 + 1)) (f_X7_nameOf_2 n x1 x2 (x3 + 1) σ))))
set_option maxRecDepth 100000 in
set_option maxHeartbeats 4000000 in
theorem t_X7_nameOf_2 {p : Program} {l : Launch} {e : Env} {s : State} {m : MethodId} {args : Array Value} {below : List Frame} {meth : Method} {c : Code} {D : va_G} {ca : Nat → ClassId} {ad : Nat → Nat} {σ : Mm} {res : Int} (X : Cx p s m args c cX7_nameOf 4 RX7 (Cond.code yX7_nameOf cX7_nameOf 4 (some .int) :: tbG) D vcl ca) (hN : NM s) (hr : meth.sig.returnType = (some .int)) (hlk : meth.locks = false) : ∀ (n : Nat) (x1 : Int) (x2 : Int) (x3 : Int), inR x1 → inR x2 → inR x3 → GX7_nameOf p l e s m args below meth c D ca ad σ res 2 [(0, .ref (ad 0)), (1, .int (oi x1)), (2, .int (oi x2)), (3, .int (oi x3))] [] σ (f_X7_nameOf_2 n x1 x2 x3 σ)
  := by
  intro n
  induction n with
  | zero => intro x1 x2 x3 hx1 hx2 hx3 h; cases h
  | succ n ih =>
    intro x1 x2 x3 hx1 hx2 hx3
    rw [f_X7_nameOf_2]
    refine q_iload_n X dX7_nameOf_2 3 rfl ?_
    refine q_aload_n X dX7_nameOf_3 0 rfl ?_
    refine fg_X7_167 X dX7_nameOf_4 (fun h1 => ?_)
    refine q_icmp_ge X hx3 h1 36 dX7_nameOf_7 (by decide) (fun h2 => ?_) (fun h2 => ?_)
    · refine q_iload_n X dX7_nameOf_36 3 rfl ?_
      exact q_iretp X hx3 hr hlk dX7_nameOf_37
    · refine q_aload_n X dX7_nameOf_10 0 rfl ?_
      refine fg_X7_63 X dX7_nameOf_11 ?_
      refine q_iload_n X dX7_nameOf_14 3 rfl ?_
      refine q_iald X hM17 (by decide) dX7_nameOf_15 (fun h3 => ?_)
      refine q_iload_n X dX7_nameOf_16 1 rfl ?_
      refine q_icmp_ne X h3 hx1 30 dX7_nameOf_17 (by decide) (fun h4 => ?_) (fun h4 => ?_)
      · refine q_aload_n X dX7_nameOf_20 0 rfl ?_
        refine fg_X7_66 X dX7_nameOf_21 ?_
        refine q_iload_n X dX7_nameOf_24 3 rfl ?_
        refine q_iald X hM18 (by decide) dX7_nameOf_25 (fun h5 => ?_)
        refine q_iload_n X dX7_nameOf_26 2 rfl ?_
        refine q_icmp_eq X h5 hx2 36 dX7_nameOf_27 (by decide) (fun h6 => ?_) (fun h6 => ?_)
        · refine q_iload_n X dX7_nameOf_36 3 rfl ?_
          exact q_iretp X hx3 hr hlk dX7_nameOf_37
        · refine q_iinc X [(3, .int (oi (x3 + 1))), (0, .ref (ad 0)), (1, .int (oi x1)), (2, .int (oi x2))] dX7_nameOf_30 (by decide) 3 rfl rfl (fun h7 => ?_)
          refine q_goto X 2 dX7_nameOf_33 (by decide) ?_
          refine q_sub [(0, .ref (ad 0)), (1, .int (oi x1)), (2, .int (oi x2)), (3, .int (oi (x3 + 1)))] [1, 2, 3, 0] rfl ?_
          exact ih x1 x2 (x3 + 1) hx1 hx2 h7
      · refine q_iinc X [(3, .int (oi (x3 + 1))), (0, .ref (ad 0)), (1, .int (oi x1)), (2, .int (oi x2))] dX7_nameOf_30 (by decide) 3 rfl rfl (fun h8 => ?_)
        refine q_goto X 2 dX7_nameOf_33 (by decide) ?_
        refine q_sub [(0, .ref (ad 0)), (1, .int (oi x1)), (2, .int (oi x2)), (3, .int (oi (x3 + 1)))] [1, 2, 3, 0] rfl ?_
        exact ih x1 x2 (x3 + 1) hx1 hx2 h8
def f_X7_nameOf (x1 : Int) (x2 : Int) (σ : Mm) : Option (Int) :=
  f_X7_nameOf_2 2000 x1 x2 0 σ
theorem hd_X7_nameOf : yX7_nameOf.cls = RX7 ∧ yX7_nameOf.cls ≠ "java/lang/invoke/MethodHandle" ∧ yX7_nameOf.cls ≠ "java/lang/invoke/VarHandle" ∧ (parseMethodDescriptor yX7_nameOf.desc).map (fun d => d.parameters.length) = some 2 := by decide +kernel
set_option maxRecDepth 100000 in
set_option maxHeartbeats 4000000 in
theorem c_X7_nameOf {l : Launch} {D : va_G} {ca : Nat → ClassId} {ad : Nat → Nat} {x1 : Int} {x2 : Int} (hx1 : inR x1) (hx2 : inR x2) {σ : Mm} : CtI l D vcl ca ad shM NM yX7_nameOf (Cond.code yX7_nameOf cX7_nameOf 4 (some .int) :: tbG) { frames := 0, cells := 0, slots := 0, locals := 0 } [.ref (ad 0), .int (oi x1), .int (oi x2)] σ ((f_X7_nameOf x1 x2 σ).map (fun r => (r, σ))) := by
  refine ct_Ip RX7 rfl (by decide) rfl (Nat.le_of_ble_eq_true rfl) (fun p e s m below meth c res X hN hr hlk => ?_)
  show GX7_nameOf p l e s m _ below meth c D ca ad σ res 0 [(0, .ref (ad 0)), (1, .int (oi x1)), (2, .int (oi x2))] [] σ (f_X7_nameOf x1 x2 σ)
  unfold f_X7_nameOf
  refine q_iconst X dX7_nameOf_0 ?_
  refine q_istore_n X [(3, .int (oi 0)), (0, .ref (ad 0)), (1, .int (oi x1)), (2, .int (oi x2))] dX7_nameOf_1 (by decide) rfl ?_
  refine q_sub [(0, .ref (ad 0)), (1, .int (oi x1)), (2, .int (oi x2)), (3, .int (oi 0))] [1, 2, 3, 0] rfl ?_
  exact t_X7_nameOf_2 X hN hr hlk 2000 x1 x2 0 hx1 hx2 (by decide)

/-! SiteObjectsModel.newName(II)I -/
abbrev GX7_newName (p : Program) (l : Launch) (e : Env) (s : State) (m : MethodId) (args : Array Value) (below : List Frame) (meth : Method) (c : Code) (D : va_G) (ca : Nat → ClassId) (ad : Nat → Nat) (res : Int × Mm) : Nat → List (Nat × Value) → List Value → Mm → Option (Int × Mm) → Prop := G p l e { frames := 1, cells := 0, slots := 0, locals := 23 } s m args below meth c (MQ below (QcI D vcl ca ad shM s.heap.size res) args s 0 0 (Aw ad shM.length s.heap.size)) 5 D vcl ca ad shM (Aw ad shM.length s.heap.size) res
def f_X7_newName_45 : Nat → Int → Int → Mm → Option (Int × Mm)
  | 0, _, _, _ => none
  | n + 1, x3, x4, σ => (if 5 ≤ x4 then ck (inR ((σ.1 0 29) + 1)) (some (x3, (stI (stI σ 0 29 ((σ.1 0 29) + 1)) 0 22 1))) else ck ((0 : Int) ≤ ((5 * x3) + x4) ∧ ((5 * x3) + x4) < ((300 : Nat) : Int)) (ck (inR (x4 + 1)) (f_X7_newName_45 n x3 (x4 + 1) (stL σ 19 (Int.toNat ((5 * x3) + x4)) 0))))
set_option maxRecDepth 100000 in
set_option maxHeartbeats 4000000 in
theorem t_X7_newName_45 {p : Program} {l : Launch} {e : Env} {s : State} {m : MethodId} {args : Array Value} {below : List Frame} {meth : Method} {c : Code} {D : va_G} {ca : Nat → ClassId} {ad : Nat → Nat} {res : Int × Mm} (X : Cx p s m args c cX7_newName 5 RX7 (Cond.code yX7_newName cX7_newName 5 (some .int) :: tbG) D vcl ca) (hN : NM s) (hr : meth.sig.returnType = (some .int)) (hlk : meth.locks = false) : ∀ (n : Nat) (x3 : Int) (x4 : Int) (σ : Mm), inR x3 → inR x4 → GX7_newName p l e s m args below meth c D ca ad res 45 [(0, .ref (ad 0)), (3, .int (oi x3)), (4, .int (oi x4))] [] σ (f_X7_newName_45 n x3 x4 σ)
  := by
  intro n
  induction n with
  | zero => intro x3 x4 σ hx3 hx4 h; cases h
  | succ n ih =>
    intro x3 x4 σ hx3 hx4
    rw [f_X7_newName_45]
    refine q_iload X dX7_newName_45 2 rfl ?_
    refine q_iconst X dX7_newName_47 ?_
    refine q_icmp_ge X hx4 (by decide) 69 dX7_newName_48 (by decide) (fun h1 => ?_) (fun h1 => ?_)
    · refine q_aload_n X dX7_newName_69 0 rfl ?_
      refine q_dup X dX7_newName_70 rfl ?_
      refine fg_X7_167 X dX7_newName_71 (fun h2 => ?_)
      refine q_iconst X dX7_newName_74 ?_
      refine q_iadd X dX7_newName_75 ?_
      refine q_ck (fun h3 => ?_)
      refine fp_X7_167 X h3 dX7_newName_76 ?_
      refine q_aload_n X dX7_newName_79 0 rfl ?_
      refine q_iconst X dX7_newName_80 ?_
      refine fp_X7_164 X (Or.inr rfl) dX7_newName_81 ?_
      refine q_iload_n X dX7_newName_84 1 rfl ?_
      exact q_iret X hx3 hr hlk dX7_newName_85
    · refine q_aload_n X dX7_newName_51 0 rfl ?_
      refine fg_X7_69 X dX7_newName_52 ?_
      refine q_iconst X dX7_newName_55 ?_
      refine q_iload_n X dX7_newName_56 1 rfl ?_
      refine q_imul X dX7_newName_57 ?_
      refine q_iload X dX7_newName_58 2 rfl ?_
      refine q_iadd X dX7_newName_60 ?_
      refine q_lconst X 0 dX7_newName_61 rfl ?_
      refine q_last X hM19 (by decide) dX7_newName_62 ?_
      refine q_iinc X [(4, .int (oi (x4 + 1))), (0, .ref (ad 0)), (3, .int (oi x3))] dX7_newName_63 (by decide) 2 rfl rfl (fun h4 => ?_)
      refine q_goto X 45 dX7_newName_66 (by decide) ?_
      refine q_sub [(0, .ref (ad 0)), (3, .int (oi x3)), (4, .int (oi (x4 + 1)))] [1, 2, 0] rfl ?_
      exact ih x3 (x4 + 1) (stL σ 19 (Int.toNat ((5 * x3) + x4)) 0) hx3 h4
def f_X7_newName (x1 : Int) (x2 : Int) (σ : Mm) : Option (Int × Mm) :=
  (f_X7_nameOf x2 x1 σ).bind (fun r5 => (if r5 = 60 then some (0, (stI σ 0 23 1)) else (if r5 = (σ.1 0 29) then ck ((0 : Int) ≤ r5 ∧ r5 < ((60 : Nat) : Int)) (ck ((0 : Int) ≤ r5 ∧ r5 < ((60 : Nat) : Int)) (f_X7_newName_45 2000 r5 0 (stI (stI σ 17 (Int.toNat r5) x2) 18 (Int.toNat r5) x1))) else some (r5, σ))))
theorem hd_X7_newName : yX7_newName.cls = RX7 ∧ yX7_newName.cls ≠ "java/lang/invoke/MethodHandle" ∧ yX7_newName.cls ≠ "java/lang/invoke/VarHandle" ∧ (parseMethodDescriptor yX7_newName.desc).map (fun d => d.parameters.length) = some 2 := by decide +kernel
set_option maxRecDepth 100000 in
set_option maxHeartbeats 4000000 in
theorem c_X7_newName {l : Launch} {D : va_G} {ca : Nat → ClassId} {ad : Nat → Nat} {x1 : Int} {x2 : Int} (hx1 : inR x1) (hx2 : inR x2) {σ : Mm} : CtI l D vcl ca ad shM NM yX7_newName (Cond.code yX7_newName cX7_newName 5 (some .int) :: tbG) { frames := 1, cells := 0, slots := 0, locals := 23 } [.ref (ad 0), .int (oi x1), .int (oi x2)] σ (f_X7_newName x1 x2 σ) := by
  refine ct_I RX7 rfl (by decide) rfl (Nat.le_of_ble_eq_true rfl) (fun p e s m below meth c res X hN hr hlk => ?_)
  show GX7_newName p l e s m _ below meth c D ca ad res 0 [(0, .ref (ad 0)), (1, .int (oi x1)), (2, .int (oi x2))] [] σ (f_X7_newName x1 x2 σ)
  unfold f_X7_newName
  refine q_aload_n X dX7_newName_0 0 rfl ?_
  refine q_iload_n X dX7_newName_1 2 rfl ?_
  refine q_iload_n X dX7_newName_2 1 rfl ?_
  refine q_callIp X NMok hN Aw_new (c_X7_nameOf hx2 hx1) (rn_V X (cwV 2 X.2.2.2.2.1 (tbG_good _ (tbG_V mw_1058 mw_1060 mp_4_10 mw_9 mw_1061)) rfl rfl rfl hd_X7_nameOf ⟨by decide, by decide⟩) hM0 rfl rfl rfl (Nat.le_of_ble_eq_true rfl) dX7_newName_3) (fun r5 _ h7 => ?_)
  refine q_istore_n X [(3, .int (oi r5)), (0, .ref (ad 0)), (1, .int (oi x1)), (2, .int (oi x2))] dX7_newName_6 (by decide) rfl ?_
  refine q_iload_n X dX7_newName_7 0 rfl ?_
  refine q_bipush X dX7_newName_8 (by decide) ?_
  refine q_icmp_ne X h7 (by decide) 20 dX7_newName_10 (by decide) (fun h8 => ?_) (fun h8 => ?_)
  · refine q_aload_n X dX7_newName_13 1 rfl ?_
    refine q_iconst X dX7_newName_14 ?_
    refine fp_X7_161 X (Or.inr rfl) dX7_newName_15 ?_
    refine q_iconst X dX7_newName_18 ?_
    exact q_iret X (by decide) hr hlk dX7_newName_19
  · refine q_iload_n X dX7_newName_20 0 rfl ?_
    refine q_aload_n X dX7_newName_21 1 rfl ?_
    refine fg_X7_167 X dX7_newName_22 (fun h9 => ?_)
    refine q_icmp_ne X h7 h9 84 dX7_newName_25 (by decide) (fun h10 => ?_) (fun h10 => ?_)
    · refine q_aload_n X dX7_newName_28 1 rfl ?_
      refine fg_X7_63 X dX7_newName_29 ?_
      refine q_iload_n X dX7_newName_32 0 rfl ?_
      refine q_iload_n X dX7_newName_33 3 rfl ?_
      refine q_iast X hM17 (by decide) hx2 dX7_newName_34 ?_
      refine q_aload_n X dX7_newName_35 1 rfl ?_
      refine fg_X7_66 X dX7_newName_36 ?_
      refine q_iload_n X dX7_newName_39 0 rfl ?_
      refine q_iload_n X dX7_newName_40 2 rfl ?_
      refine q_iast X hM18 (by decide) hx1 dX7_newName_41 ?_
      refine q_iconst X dX7_newName_42 ?_
      refine q_istore X [(4, .int (oi 0)), (3, .int (oi r5)), (0, .ref (ad 0)), (1, .int (oi x1)), (2, .int (oi x2))] dX7_newName_43 (by decide) rfl ?_
      refine q_sub [(0, .ref (ad 0)), (3, .int (oi r5)), (4, .int (oi 0))] [2, 1, 0] rfl ?_
      exact t_X7_newName_45 X hN hr hlk 2000 r5 0 (stI (stI σ 17 (Int.toNat r5) x2) 18 (Int.toNat r5) x1) h7 (by decide)
    · refine q_iload_n X dX7_newName_84 0 rfl ?_
      exact q_iret X h7 hr hlk dX7_newName_85

/-! SiteObjectsModel.holds(IIJ)V -/
abbrev GX7_holds (p : Program) (l : Launch) (e : Env) (s : State) (m : MethodId) (args : Array Value) (below : List Frame) (meth : Method) (c : Code) (D : va_G) (ca : Nat → ClassId) (ad : Nat → Nat) (res : Mm) : Nat → List (Nat × Value) → List Value → Mm → Option (Mm) → Prop := G p l e { frames := 0, cells := 0, slots := 0, locals := 0 } s m args below meth c (MQ below (QcV D vcl ca ad shM s.heap.size res) args s 0 0 (Aw ad shM.length s.heap.size)) 7 D vcl ca ad shM (Aw ad shM.length s.heap.size) res
def f_X7_holds (x1 : Int) (x2 : Int) (x3 : Int64) (σ : Mm) : Option (Mm) :=
  ck ((0 : Int) ≤ ((8 * x1) + x2) ∧ ((8 * x1) + x2) < ((640 : Nat) : Int)) (ck ((0 : Int) ≤ ((8 * x1) + x2) ∧ ((8 * x1) + x2) < ((640 : Nat) : Int)) ((some (stL σ 16 (Int.toNat ((8 * x1) + x2)) ((σ.2 16 (Int.toNat ((8 * x1) + x2))) ||| x3))).bind (fun σ1 => (if (σ1.1 0 22) = 0 then ck ((0 : Int) ≤ ((8 * x1) + x2) ∧ ((8 * x1) + x2) < ((640 : Nat) : Int)) ((if (σ1.2 16 (Int.toNat ((8 * x1) + x2))) = (σ.2 16 (Int.toNat ((8 * x1) + x2))) then some (stI σ1 0 22 0) else some (stI σ1 0 22 1))) else some (stI σ1 0 22 1)))))
theorem hd_X7_holds : yX7_holds.cls = RX7 ∧ yX7_holds.cls ≠ "java/lang/invoke/MethodHandle" ∧ yX7_holds.cls ≠ "java/lang/invoke/VarHandle" ∧ (parseMethodDescriptor yX7_holds.desc).map (fun d => d.parameters.length) = some 3 := by decide +kernel
set_option maxRecDepth 100000 in
set_option maxHeartbeats 4000000 in
theorem c_X7_holds {l : Launch} {D : va_G} {ca : Nat → ClassId} {ad : Nat → Nat} {x1 : Int} {x2 : Int} {x3 : Int64} (hx1 : inR x1) (hx2 : inR x2) {σ : Mm} : CtV l D vcl ca ad shM NM yX7_holds (Cond.code yX7_holds cX7_holds 7 none :: tbG) { frames := 0, cells := 0, slots := 0, locals := 0 } [.ref (ad 0), .int (oi x1), .int (oi x2), .long x3] σ (f_X7_holds x1 x2 x3 σ) := by
  refine ct_V RX7 rfl (by decide) rfl (Nat.le_of_ble_eq_true rfl) (fun p e s m below meth c res X hN hr hlk => ?_)
  show GX7_holds p l e s m _ below meth c D ca ad res 0 [(0, .ref (ad 0)), (1, .int (oi x1)), (2, .int (oi x2)), (3, .long x3)] [] σ (f_X7_holds x1 x2 x3 σ)
  unfold f_X7_holds
  refine q_aload_n X dX7_holds_0 0 rfl ?_
  refine fg_X7_59 X dX7_holds_1 ?_
  refine q_bipush X dX7_holds_4 (by decide) ?_
  refine q_iload_n X dX7_holds_6 1 rfl ?_
  refine q_imul X dX7_holds_7 ?_
  refine q_iload_n X dX7_holds_8 2 rfl ?_
  refine q_iadd X dX7_holds_9 ?_
  refine q_lald X hM16 (by decide) dX7_holds_10 ?_
  refine q_lstore X [(5, .long (σ.2 16 (Int.toNat ((8 * x1) + x2)))), (0, .ref (ad 0)), (1, .int (oi x1)), (2, .int (oi x2)), (3, .long x3)] dX7_holds_11 (by decide) rfl ?_
  refine q_aload_n X dX7_holds_13 1 rfl ?_
  refine fg_X7_59 X dX7_holds_14 ?_
  refine q_bipush X dX7_holds_17 (by decide) ?_
  refine q_iload_n X dX7_holds_19 2 rfl ?_
  refine q_imul X dX7_holds_20 ?_
  refine q_iload_n X dX7_holds_21 3 rfl ?_
  refine q_iadd X dX7_holds_22 ?_
  refine q_lload X dX7_holds_23 0 rfl ?_
  refine q_lload_n X dX7_holds_25 4 rfl ?_
  refine q_lor X dX7_holds_26 ?_
  refine q_last X hM16 (by decide) dX7_holds_27 ?_
  refine q_nm (fun σ1 => ?_)
  refine q_aload_n X dX7_holds_28 1 rfl ?_
  refine q_aload_n X dX7_holds_29 1 rfl ?_
  refine fg_X7_164 X dX7_holds_30 (fun h2 => ?_)
  refine q_if_ne X h2 53 dX7_holds_33 (by decide) (fun h3 => ?_) (fun h3 => ?_)
  · refine q_aload_n X dX7_holds_36 1 rfl ?_
    refine fg_X7_59 X dX7_holds_37 ?_
    refine q_bipush X dX7_holds_40 (by decide) ?_
    refine q_iload_n X dX7_holds_42 2 rfl ?_
    refine q_imul X dX7_holds_43 ?_
    refine q_iload_n X dX7_holds_44 3 rfl ?_
    refine q_iadd X dX7_holds_45 ?_
    refine q_lald X hM16 (by decide) dX7_holds_46 ?_
    refine q_lload X dX7_holds_47 0 rfl ?_
    refine q_lcmp_eq X 57 dX7_holds_49 dX7_holds_50 (by decide) (fun h4 => ?_) (fun h4 => ?_)
    · refine q_iconst X dX7_holds_57 ?_
      refine fp_X7_164 X (Or.inl rfl) dX7_holds_58 ?_
      exact q_vret X hr hlk dX7_holds_61
    · refine q_iconst X dX7_holds_53 ?_
      refine q_goto X 58 dX7_holds_54 (by decide) ?_
      refine fp_X7_164 X (Or.inr rfl) dX7_holds_58 ?_
      exact q_vret X hr hlk dX7_holds_61
  · refine q_iconst X dX7_holds_53 ?_
    refine q_goto X 58 dX7_holds_54 (by decide) ?_
    refine fp_X7_164 X (Or.inr rfl) dX7_holds_58 ?_
    exact q_vret X hr hlk dX7_holds_61

/-! SiteObjectsModel.lies(IIJ)V -/
abbrev GX7_lies (p : Program) (l : Launch) (e : Env) (s : State) (m : MethodId) (args : Array Value) (below : List Frame) (meth : Method) (c : Code) (D : va_G) (ca : Nat → ClassId) (ad : Nat → Nat) (res : Mm) : Nat → List (Nat × Value) → List Value → Mm → Option (Mm) → Prop := G p l e { frames := 0, cells := 0, slots := 0, locals := 0 } s m args below meth c (MQ below (QcV D vcl ca ad shM s.heap.size res) args s 0 0 (Aw ad shM.length s.heap.size)) 7 D vcl ca ad shM (Aw ad shM.length s.heap.size) res
def f_X7_lies (x1 : Int) (x2 : Int) (x3 : Int64) (σ : Mm) : Option (Mm) :=
  ck ((0 : Int) ≤ ((5 * x1) + x2) ∧ ((5 * x1) + x2) < ((300 : Nat) : Int)) (ck ((0 : Int) ≤ ((5 * x1) + x2) ∧ ((5 * x1) + x2) < ((300 : Nat) : Int)) ((some (stL σ 19 (Int.toNat ((5 * x1) + x2)) ((σ.2 19 (Int.toNat ((5 * x1) + x2))) ||| x3))).bind (fun σ1 => (if (σ1.1 0 22) = 0 then ck ((0 : Int) ≤ ((5 * x1) + x2) ∧ ((5 * x1) + x2) < ((300 : Nat) : Int)) ((if (σ1.2 19 (Int.toNat ((5 * x1) + x2))) = (σ.2 19 (Int.toNat ((5 * x1) + x2))) then some (stI σ1 0 22 0) else some (stI σ1 0 22 1))) else some (stI σ1 0 22 1)))))
theorem hd_X7_lies : yX7_lies.cls = RX7 ∧ yX7_lies.cls ≠ "java/lang/invoke/MethodHandle" ∧ yX7_lies.cls ≠ "java/lang/invoke/VarHandle" ∧ (parseMethodDescriptor yX7_lies.desc).map (fun d => d.parameters.length) = some 3 := by decide +kernel
set_option maxRecDepth 100000 in
set_option maxHeartbeats 4000000 in
theorem c_X7_lies {l : Launch} {D : va_G} {ca : Nat → ClassId} {ad : Nat → Nat} {x1 : Int} {x2 : Int} {x3 : Int64} (hx1 : inR x1) (hx2 : inR x2) {σ : Mm} : CtV l D vcl ca ad shM NM yX7_lies (Cond.code yX7_lies cX7_lies 7 none :: tbG) { frames := 0, cells := 0, slots := 0, locals := 0 } [.ref (ad 0), .int (oi x1), .int (oi x2), .long x3] σ (f_X7_lies x1 x2 x3 σ) := by
  refine ct_V RX7 rfl (by decide) rfl (Nat.le_of_ble_eq_true rfl) (fun p e s m below meth c res X hN hr hlk => ?_)
  show GX7_lies p l e s m _ below meth c D ca ad res 0 [(0, .ref (ad 0)), (1, .int (oi x1)), (2, .int (oi x2)), (3, .long x3)] [] σ (f_X7_lies x1 x2 x3 σ)
  unfold f_X7_lies
  refine q_aload_n X dX7_lies_0 0 rfl ?_
  refine fg_X7_69 X dX7_lies_1 ?_
  refine q_iconst X dX7_lies_4 ?_
  refine q_iload_n X dX7_lies_5 1 rfl ?_
  refine q_imul X dX7_lies_6 ?_
  refine q_iload_n X dX7_lies_7 2 rfl ?_
  refine q_iadd X dX7_lies_8 ?_
  refine q_lald X hM19 (by decide) dX7_lies_9 ?_
  refine q_lstore X [(5, .long (σ.2 19 (Int.toNat ((5 * x1) + x2)))), (0, .ref (ad 0)), (1, .int (oi x1)), (2, .int (oi x2)), (3, .long x3)] dX7_lies_10 (by decide) rfl ?_
  refine q_aload_n X dX7_lies_12 1 rfl ?_
  refine fg_X7_69 X dX7_lies_13 ?_
  refine q_iconst X dX7_lies_16 ?_
  refine q_iload_n X dX7_lies_17 2 rfl ?_
  refine q_imul X dX7_lies_18 ?_
  refine q_iload_n X dX7_lies_19 3 rfl ?_
  refine q_iadd X dX7_lies_20 ?_
  refine q_lload X dX7_lies_21 0 rfl ?_
  refine q_lload_n X dX7_lies_23 4 rfl ?_
  refine q_lor X dX7_lies_24 ?_
  refine q_last X hM19 (by decide) dX7_lies_25 ?_
  refine q_nm (fun σ1 => ?_)
  refine q_aload_n X dX7_lies_26 1 rfl ?_
  refine q_aload_n X dX7_lies_27 1 rfl ?_
  refine fg_X7_164 X dX7_lies_28 (fun h2 => ?_)
  refine q_if_ne X h2 50 dX7_lies_31 (by decide) (fun h3 => ?_) (fun h3 => ?_)
  · refine q_aload_n X dX7_lies_34 1 rfl ?_
    refine fg_X7_69 X dX7_lies_35 ?_
    refine q_iconst X dX7_lies_38 ?_
    refine q_iload_n X dX7_lies_39 2 rfl ?_
    refine q_imul X dX7_lies_40 ?_
    refine q_iload_n X dX7_lies_41 3 rfl ?_
    refine q_iadd X dX7_lies_42 ?_
    refine q_lald X hM19 (by decide) dX7_lies_43 ?_
    refine q_lload X dX7_lies_44 0 rfl ?_
    refine q_lcmp_eq X 54 dX7_lies_46 dX7_lies_47 (by decide) (fun h4 => ?_) (fun h4 => ?_)
    · refine q_iconst X dX7_lies_54 ?_
      refine fp_X7_164 X (Or.inl rfl) dX7_lies_55 ?_
      exact q_vret X hr hlk dX7_lies_58
    · refine q_iconst X dX7_lies_50 ?_
      refine q_goto X 55 dX7_lies_51 (by decide) ?_
      refine fp_X7_164 X (Or.inr rfl) dX7_lies_55 ?_
      exact q_vret X hr hlk dX7_lies_58
  · refine q_iconst X dX7_lies_50 ?_
    refine q_goto X 55 dX7_lies_51 (by decide) ?_
    refine fp_X7_164 X (Or.inr rfl) dX7_lies_55 ?_
    exact q_vret X hr hlk dX7_lies_58

/-! SiteObjectsModel.below(JI)J -/
abbrev GX7_below (p : Program) (l : Launch) (e : Env) (s : State) (m : MethodId) (args : Array Value) (below : List Frame) (meth : Method) (c : Code) (D : va_G) (ca : Nat → ClassId) (ad : Nat → Nat) (σ : Mm) (res : Int64) : Nat → List (Nat × Value) → List Value → Mm → Option (Int64) → Prop := G p l e { frames := 1, cells := 0, slots := 0, locals := 23 } s m args below meth c (MQ below (QcL D vcl ca ad shM s.heap.size (res, σ)) args s 0 0 (Aw ad shM.length s.heap.size)) 7 D vcl ca ad shM (Aw ad shM.length s.heap.size) res
def f_X7_below_6 : Nat → Int64 → Int → Int64 → Int → Mm → Option (Int64)
  | 0, _, _, _, _, _ => none
  | n + 1, x1, x3, x4, x6, σ => (if (σ.1 0 29) ≤ x6 then some x4 else (if ((lShr x1 x6) &&& 1) = 1 then (f_X7_classOf x6 σ).bind (fun r4 => (f_X7_isBelow r4 x3 σ).bind (fun r7 => (if r7 = 0 then ck (inR (x6 + 1)) (f_X7_below_6 n x1 x3 x4 (x6 + 1) σ) else ck (inR (x6 + 1)) (f_X7_below_6 n x1 x3 (x4 ||| (lShl 1 x6)) (x6 + 1) σ)))) else ck (inR (x6 + 1)) (f_X7_below_6 n x1 x3 x4 (x6 + 1) σ)))
set_option maxRecDepth 100000 in
set_option maxHeartbeats 4000000 in
theorem t_X7_below_6 {p : Program} {l : Launch} {e : Env} {s : State} {m : MethodId} {args : Array Value} {below : List Frame} {meth : Method} {c : Code} {D : va_G} {ca : Nat → ClassId} {ad : Nat → Nat} {σ : Mm} {res : Int64} (X : Cx p s m args c cX7_below 7 RX7 (Cond.code yX7_below cX7_below 7 (some .long) :: tbG) D vcl ca) (hN : NM s) (hr : meth.sig.returnType = (some .long)) (hlk : meth.locks = false) : ∀ (n : Nat) (x1 : Int64) (x3 : Int) (x4 : Int64) (x6 : Int), inR x3 → inR x6 → GX7_below p l e s m args below meth c D ca ad σ res 6 [(0, .ref (ad 0)), (1, .long x1), (3, .int (oi x3)), (4, .long x4), (6, .int (oi x6))] [] σ (f_X7_below_6 n x1 x3 x4 x6 σ)
  := by
  intro n
  induction n with
  | zero => intro x1 x3 x4 x6 hx3 hx6 h; cases h
  | succ n ih =>
    intro x1 x3 x4 x6 hx3 hx6
    rw [f_X7_below_6]
    refine q_iload X dX7_below_6 4 rfl ?_
    refine q_aload_n X dX7_below_8 0 rfl ?_
    refine fg_X7_167 X dX7_below_9 (fun h1 => ?_)
    refine q_icmp_ge X hx6 h1 55 dX7_below_12 (by decide) (fun h2 => ?_) (fun h2 => ?_)
    · refine q_lload X dX7_below_55 3 rfl ?_
      exact q_lretp X hr hlk dX7_below_57
    · refine q_lload_n X dX7_below_15 1 rfl ?_
      refine q_iload X dX7_below_16 4 rfl ?_
      refine q_lshr X dX7_below_18 ?_
      refine q_lconst X 1 dX7_below_19 rfl ?_
      refine q_land X dX7_below_20 ?_
      refine q_lconst X 1 dX7_below_21 rfl ?_
      refine q_lcmp_ne X 49 dX7_below_22 dX7_below_23 (by decide) (fun h3 => ?_) (fun h3 => ?_)
      · refine q_aload_n X dX7_below_26 0 rfl ?_
        refine q_aload_n X dX7_below_27 0 rfl ?_
        refine q_iload X dX7_below_28 4 rfl ?_
        refine q_callIp X NMok hN Aw_new (c_X7_classOf hx6) (rn_V X (cwV 1 X.2.2.2.2.1 (tbG_good _ (tbG_V mw_1078 mw_1080 mp_4_15 mw_9 mw_1081)) rfl rfl rfl hd_X7_classOf ⟨by decide, by decide⟩) hM0 rfl rfl rfl (Nat.le_of_ble_eq_true rfl) dX7_below_30) (fun r4 _ h6 => ?_)
        refine q_iload_n X dX7_below_33 2 rfl ?_
        refine q_callIp X NMok hN Aw_new (c_X7_isBelow h6 hx3) (rn_V X (cwV 2 X.2.2.2.2.1 (tbG_good _ (tbG_V mw_1082 mw_1084 mp_5_0 mw_9 mw_1085)) rfl rfl rfl hd_X7_isBelow ⟨by decide, by decide⟩) hM0 rfl rfl rfl (Nat.le_of_ble_eq_true rfl) dX7_below_34) (fun r7 _ h9 => ?_)
        refine q_if_eq X h9 49 dX7_below_37 (by decide) (fun h10 => ?_) (fun h10 => ?_)
        · refine q_iinc X [(6, .int (oi (x6 + 1))), (0, .ref (ad 0)), (1, .long x1), (3, .int (oi x3)), (4, .long x4)] dX7_below_49 (by decide) 4 rfl rfl (fun h11 => ?_)
          refine q_goto X 6 dX7_below_52 (by decide) ?_
          refine q_sub [(0, .ref (ad 0)), (1, .long x1), (3, .int (oi x3)), (4, .long x4), (6, .int (oi (x6 + 1)))] [1, 2, 3, 4, 0] rfl ?_
          exact ih x1 x3 x4 (x6 + 1) hx3 h11
        · refine q_lload X dX7_below_40 3 rfl ?_
          refine q_lconst X 1 dX7_below_42 rfl ?_
          refine q_iload X dX7_below_43 4 rfl ?_
          refine q_lshl X dX7_below_45 ?_
          refine q_lor X dX7_below_46 ?_
          refine q_lstore X [(4, .long (x4 ||| (lShl 1 x6))), (0, .ref (ad 0)), (1, .long x1), (3, .int (oi x3)), (6, .int (oi x6))] dX7_below_47 (by decide) rfl ?_
          refine q_iinc X [(6, .int (oi (x6 + 1))), (4, .long (x4 ||| (lShl 1 x6))), (0, .ref (ad 0)), (1, .long x1), (3, .int (oi x3))] dX7_below_49 (by decide) 4 rfl rfl (fun h12 => ?_)
          refine q_goto X 6 dX7_below_52 (by decide) ?_
          refine q_sub [(0, .ref (ad 0)), (1, .long x1), (3, .int (oi x3)), (4, .long (x4 ||| (lShl 1 x6))), (6, .int (oi (x6 + 1)))] [2, 3, 4, 1, 0] rfl ?_
          exact ih x1 x3 (x4 ||| (lShl 1 x6)) (x6 + 1) hx3 h12
      · refine q_iinc X [(6, .int (oi (x6 + 1))), (0, .ref (ad 0)), (1, .long x1), (3, .int (oi x3)), (4, .long x4)] dX7_below_49 (by decide) 4 rfl rfl (fun h13 => ?_)
        refine q_goto X 6 dX7_below_52 (by decide) ?_
        refine q_sub [(0, .ref (ad 0)), (1, .long x1), (3, .int (oi x3)), (4, .long x4), (6, .int (oi (x6 + 1)))] [1, 2, 3, 4, 0] rfl ?_
        exact ih x1 x3 x4 (x6 + 1) hx3 h13
def f_X7_below (x1 : Int64) (x3 : Int) (σ : Mm) : Option (Int64) :=
  f_X7_below_6 2000 x1 x3 0 0 σ
theorem hd_X7_below : yX7_below.cls = RX7 ∧ yX7_below.cls ≠ "java/lang/invoke/MethodHandle" ∧ yX7_below.cls ≠ "java/lang/invoke/VarHandle" ∧ (parseMethodDescriptor yX7_below.desc).map (fun d => d.parameters.length) = some 2 := by decide +kernel
set_option maxRecDepth 100000 in
set_option maxHeartbeats 4000000 in
theorem c_X7_below {l : Launch} {D : va_G} {ca : Nat → ClassId} {ad : Nat → Nat} {x1 : Int64} {x3 : Int} (hx3 : inR x3) {σ : Mm} : CtL l D vcl ca ad shM NM yX7_below (Cond.code yX7_below cX7_below 7 (some .long) :: tbG) { frames := 1, cells := 0, slots := 0, locals := 23 } [.ref (ad 0), .long x1, .int (oi x3)] σ ((f_X7_below x1 x3 σ).map (fun r => (r, σ))) := by
  refine ct_Lp RX7 rfl (by decide) rfl (Nat.le_of_ble_eq_true rfl) (fun p e s m below meth c res X hN hr hlk => ?_)
  show GX7_below p l e s m _ below meth c D ca ad σ res 0 [(0, .ref (ad 0)), (1, .long x1), (3, .int (oi x3))] [] σ (f_X7_below x1 x3 σ)
  unfold f_X7_below
  refine q_lconst X 0 dX7_below_0 rfl ?_
  refine q_lstore X [(4, .long 0), (0, .ref (ad 0)), (1, .long x1), (3, .int (oi x3))] dX7_below_1 (by decide) rfl ?_
  refine q_iconst X dX7_below_3 ?_
  refine q_istore X [(6, .int (oi 0)), (4, .long 0), (0, .ref (ad 0)), (1, .long x1), (3, .int (oi x3))] dX7_below_4 (by decide) rfl ?_
  refine q_sub [(0, .ref (ad 0)), (1, .long x1), (3, .int (oi x3)), (4, .long 0), (6, .int (oi 0))] [2, 3, 4, 1, 0] rfl ?_
  exact t_X7_below_6 X hN hr hlk 2000 x1 x3 0 0 hx3 (by decide)

/-! SiteObjectsModel.covers(II)Z -/
abbrev GX7_covers (p : Program) (l : Launch) (e : Env) (s : State) (m : MethodId) (args : Array Value) (below : List Frame) (meth : Method) (c : Code) (D : va_G) (ca : Nat → ClassId) (ad : Nat → Nat) (σ : Mm) (res : Int) : Nat → List (Nat × Value) → List Value → Mm → Option (Int) → Prop := G p l e { frames := 0, cells := 0, slots := 0, locals := 0 } s m args below meth c (MQ below (QcI D vcl ca ad shM s.heap.size (res, σ)) args s 0 0 (Aw ad shM.length s.heap.size)) 3 D vcl ca ad shM (Aw ad shM.length s.heap.size) res
def f_X7_covers (x1 : Int) (x2 : Int) (σ : Mm) : Option (Int) :=
  ck ((0 : Int) ≤ x1 ∧ x1 < ((90 : Nat) : Int)) ((if (σ.1 8 (Int.toNat x1)) = 16 then ck ((0 : Int) ≤ x1 ∧ x1 < ((90 : Nat) : Int)) ((if x2 ≤ (σ.1 7 (Int.toNat x1)) then some 0 else ck ((0 : Int) ≤ x1 ∧ x1 < ((90 : Nat) : Int)) (ck ((0 : Int) ≤ x1 ∧ x1 < ((90 : Nat) : Int)) (ck (inR ((σ.1 7 (Int.toNat x1)) + (σ.1 10 (Int.toNat x1)))) ((if ((σ.1 7 (Int.toNat x1)) + (σ.1 10 (Int.toNat x1))) < x2 then some 0 else some 1)))))) else some 0))
theorem hd_X7_covers : yX7_covers.cls = RX7 ∧ yX7_covers.cls ≠ "java/lang/invoke/MethodHandle" ∧ yX7_covers.cls ≠ "java/lang/invoke/VarHandle" ∧ (parseMethodDescriptor yX7_covers.desc).map (fun d => d.parameters.length) = some 2 := by decide +kernel
set_option maxRecDepth 100000 in
set_option maxHeartbeats 4000000 in
theorem c_X7_covers {l : Launch} {D : va_G} {ca : Nat → ClassId} {ad : Nat → Nat} {x1 : Int} {x2 : Int} (hx1 : inR x1) (hx2 : inR x2) {σ : Mm} : CtI l D vcl ca ad shM NM yX7_covers (Cond.code yX7_covers cX7_covers 3 (some .boolean) :: tbG) { frames := 0, cells := 0, slots := 0, locals := 0 } [.ref (ad 0), .int (oi x1), .int (oi x2)] σ ((f_X7_covers x1 x2 σ).map (fun r => (r, σ))) := by
  refine ct_Ip RX7 rfl (by decide) rfl (Nat.le_of_ble_eq_true rfl) (fun p e s m below meth c res X hN hr hlk => ?_)
  show GX7_covers p l e s m _ below meth c D ca ad σ res 0 [(0, .ref (ad 0)), (1, .int (oi x1)), (2, .int (oi x2))] [] σ (f_X7_covers x1 x2 σ)
  unfold f_X7_covers
  refine q_aload_n X dX7_covers_0 0 rfl ?_
  refine fg_X7_35 X dX7_covers_1 ?_
  refine q_iload_n X dX7_covers_4 1 rfl ?_
  refine q_iald X hM8 (by decide) dX7_covers_5 (fun h1 => ?_)
  refine q_bipush X dX7_covers_6 (by decide) ?_
  refine q_icmp_ne X h1 (by decide) 42 dX7_covers_8 (by decide) (fun h2 => ?_) (fun h2 => ?_)
  · refine q_aload_n X dX7_covers_11 0 rfl ?_
    refine fg_X7_32 X dX7_covers_12 ?_
    refine q_iload_n X dX7_covers_15 1 rfl ?_
    refine q_iald X hM7 (by decide) dX7_covers_16 (fun h3 => ?_)
    refine q_iload_n X dX7_covers_17 2 rfl ?_
    refine q_icmp_ge X h3 hx2 42 dX7_covers_18 (by decide) (fun h4 => ?_) (fun h4 => ?_)
    · refine q_iconst X dX7_covers_42 ?_
      exact q_zretp X (Or.inl rfl) hr hlk dX7_covers_43
    · refine q_iload_n X dX7_covers_21 2 rfl ?_
      refine q_aload_n X dX7_covers_22 0 rfl ?_
      refine fg_X7_32 X dX7_covers_23 ?_
      refine q_iload_n X dX7_covers_26 1 rfl ?_
      refine q_iald X hM7 (by decide) dX7_covers_27 (fun h5 => ?_)
      refine q_aload_n X dX7_covers_28 0 rfl ?_
      refine fg_X7_41 X dX7_covers_29 ?_
      refine q_iload_n X dX7_covers_32 1 rfl ?_
      refine q_iald X hM10 (by decide) dX7_covers_33 (fun h6 => ?_)
      refine q_iadd X dX7_covers_34 ?_
      refine q_ck (fun h7 => ?_)
      refine q_icmp_gt X hx2 h7 42 dX7_covers_35 (by decide) (fun h8 => ?_) (fun h8 => ?_)
      · refine q_iconst X dX7_covers_42 ?_
        exact q_zretp X (Or.inl rfl) hr hlk dX7_covers_43
      · refine q_iconst X dX7_covers_38 ?_
        refine q_goto X 43 dX7_covers_39 (by decide) ?_
        exact q_zretp X (Or.inr rfl) hr hlk dX7_covers_43
  · refine q_iconst X dX7_covers_42 ?_
    exact q_zretp X (Or.inl rfl) hr hlk dX7_covers_43

/-! SiteObjectsModel.raised(IIJ)V -/
abbrev GX7_raised (p : Program) (l : Launch) (e : Env) (s : State) (m : MethodId) (args : Array Value) (below : List Frame) (meth : Method) (c : Code) (D : va_G) (ca : Nat → ClassId) (ad : Nat → Nat) (res : Mm) : Nat → List (Nat × Value) → List Value → Mm → Option (Mm) → Prop := G p l e { frames := 2, cells := 0, slots := 0, locals := 49 } s m args below meth c (MQ below (QcV D vcl ca ad shM s.heap.size res) args s 0 0 (Aw ad shM.length s.heap.size)) 12 D vcl ca ad shM (Aw ad shM.length s.heap.size) res
def f_X7_raised_21 : Nat → Int → Int → Int64 → Int → Int → Mm → Option (Mm)
  | 0, _, _, _, _, _, _ => none
  | n + 1, x1, x2, x5, x7, x8, σ => (if x8 < 0 then (f_X7_holds x1 7 x5 σ).bind (fun r2 => some r2) else ck ((0 : Int) ≤ ((90 * x7) + x8) ∧ ((90 * x7) + x8) < ((1080 : Nat) : Int)) (ck ((0 : Int) ≤ x2 ∧ x2 < ((90 : Nat) : Int)) ((f_X7_covers (σ.1 5 (Int.toNat ((90 * x7) + x8))) (σ.1 7 (Int.toNat x2)) σ).bind (fun r7 => (if r7 = 0 then ck (inR (x8 + (-1))) (f_X7_raised_21 n x1 x2 x5 x7 (x8 + (-1)) σ) else ck ((0 : Int) ≤ (σ.1 5 (Int.toNat ((90 * x7) + x8))) ∧ (σ.1 5 (Int.toNat ((90 * x7) + x8))) < ((90 : Nat) : Int)) ((f_X7_below x5 (σ.1 11 (Int.toNat (σ.1 5 (Int.toNat ((90 * x7) + x8))))) σ).bind (fun r13 => ck ((0 : Int) ≤ (σ.1 5 (Int.toNat ((90 * x7) + x8))) ∧ (σ.1 5 (Int.toNat ((90 * x7) + x8))) < ((90 : Nat) : Int)) ((f_X7_holds x1 (σ.1 9 (Int.toNat (σ.1 5 (Int.toNat ((90 * x7) + x8))))) r13 σ).bind (fun r17 => ck (inR (x8 + (-1))) (f_X7_raised_21 n x1 x2 (x5 &&& (r13 ^^^ (-1))) x7 (x8 + (-1)) r17))))))))))
set_option maxRecDepth 100000 in
set_option maxHeartbeats 4000000 in
theorem t_X7_raised_21 {p : Program} {l : Launch} {e : Env} {s : State} {m : MethodId} {args : Array Value} {below : List Frame} {meth : Method} {c : Code} {D : va_G} {ca : Nat → ClassId} {ad : Nat → Nat} {res : Mm} (X : Cx p s m args c cX7_raised 12 RX7 (Cond.code yX7_raised cX7_raised 12 none :: tbG) D vcl ca) (hN : NM s) (hr : meth.sig.returnType = none) (hlk : meth.locks = false) : ∀ (n : Nat) (x1 : Int) (x2 : Int) (x5 : Int64) (x7 : Int) (x8 : Int) (σ : Mm), inR x1 → inR x2 → inR x7 → inR x8 → GX7_raised p l e s m args below meth c D ca ad res 21 [(0, .ref (ad 0)), (1, .int (oi x1)), (2, .int (oi x2)), (5, .long x5), (7, .int (oi x7)), (8, .int (oi x8))] [] σ (f_X7_raised_21 n x1 x2 x5 x7 x8 σ)
  := by
  intro n
  induction n with
  | zero => intro x1 x2 x5 x7 x8 σ hx1 hx2 hx7 hx8 h; cases h
  | succ n ih =>
    intro x1 x2 x5 x7 x8 σ hx1 hx2 hx7 hx8
    rw [f_X7_raised_21]
    refine q_iload X dX7_raised_21 5 rfl ?_
    refine q_if_lt X hx8 102 dX7_raised_23 (by decide) (fun h1 => ?_) (fun h1 => ?_)
    · refine q_aload_n X dX7_raised_102 0 rfl ?_
      refine q_iload_n X dX7_raised_103 1 rfl ?_
      refine q_bipush X dX7_raised_104 (by decide) ?_
      refine q_lload X dX7_raised_106 3 rfl ?_
      refine q_callV X NMok hN Aw_new (c_X7_holds hx1 (by decide)) (rn_V X (cwV 3 X.2.2.2.2.1 (tbG_good _ (tbG_V mw_1062 mw_1064 mp_4_11 mw_9 mw_1065)) rfl rfl rfl hd_X7_holds ⟨by decide, by decide⟩) hM0 rfl rfl rfl (Nat.le_of_ble_eq_true rfl) dX7_raised_108) (fun r2 _ => ?_)
      exact q_vret X hr hlk dX7_raised_111
    · refine q_aload_n X dX7_raised_26 0 rfl ?_
      refine fg_X7_26 X dX7_raised_27 ?_
      refine q_bipush X dX7_raised_30 (by decide) ?_
      refine q_iload X dX7_raised_32 4 rfl ?_
      refine q_imul X dX7_raised_34 ?_
      refine q_iload X dX7_raised_35 5 rfl ?_
      refine q_iadd X dX7_raised_37 ?_
      refine q_iald X hM5 (by decide) dX7_raised_38 (fun h5 => ?_)
      refine q_istore X [(9, .int (oi (σ.1 5 (Int.toNat ((90 * x7) + x8))))), (0, .ref (ad 0)), (1, .int (oi x1)), (2, .int (oi x2)), (5, .long x5), (7, .int (oi x7)), (8, .int (oi x8))] dX7_raised_39 (by decide) rfl ?_
      refine q_aload_n X dX7_raised_41 1 rfl ?_
      refine q_iload X dX7_raised_42 0 rfl ?_
      refine q_aload_n X dX7_raised_44 1 rfl ?_
      refine fg_X7_32 X dX7_raised_45 ?_
      refine q_iload_n X dX7_raised_48 3 rfl ?_
      refine q_iald X hM7 (by decide) dX7_raised_49 (fun h6 => ?_)
      refine q_callIp X NMok hN Aw_new (c_X7_covers h5 h6) (rn_V X (cwV 2 X.2.2.2.2.1 (tbG_good _ (tbG_V mw_1102 mw_1104 mp_5_5 mw_9 mw_1105)) rfl rfl rfl hd_X7_covers ⟨by decide, by decide⟩) hM0 rfl rfl rfl (Nat.le_of_ble_eq_true rfl) dX7_raised_50) (fun r7 _ h9 => ?_)
      refine q_if_eq X h9 96 dX7_raised_53 (by decide) (fun h10 => ?_) (fun h10 => ?_)
      · refine q_iinc X [(8, .int (oi (x8 + (-1)))), (9, .int (oi (σ.1 5 (Int.toNat ((90 * x7) + x8))))), (0, .ref (ad 0)), (1, .int (oi x1)), (2, .int (oi x2)), (5, .long x5), (7, .int (oi x7))] dX7_raised_96 (by decide) 6 rfl rfl (fun h11 => ?_)
        refine q_goto X 21 dX7_raised_99 (by decide) ?_
        refine q_sub [(0, .ref (ad 0)), (1, .int (oi x1)), (2, .int (oi x2)), (5, .long x5), (7, .int (oi x7)), (8, .int (oi (x8 + (-1))))] [2, 3, 4, 5, 6, 0] rfl ?_
        exact ih x1 x2 x5 x7 (x8 + (-1)) σ hx1 hx2 hx7 h11
      · refine q_aload_n X dX7_raised_56 1 rfl ?_
        refine q_lload X dX7_raised_57 4 rfl ?_
        refine q_aload_n X dX7_raised_59 1 rfl ?_
        refine fg_X7_44 X dX7_raised_60 ?_
        refine q_iload X dX7_raised_63 0 rfl ?_
        refine q_iald X hM11 (by decide) dX7_raised_65 (fun h12 => ?_)
        refine q_callLp X NMok hN Aw_new (c_X7_below h12) (rn_V X (cwV 2 X.2.2.2.2.1 (tbG_good _ (tbG_V mw_1074 mw_1076 mp_4_14 mw_9 mw_1077)) rfl rfl rfl hd_X7_below ⟨by decide, by decide⟩) hM0 rfl rfl rfl (Nat.le_of_ble_eq_true rfl) dX7_raised_66) (fun r13 _ => ?_)
        refine q_lstore X [(10, .long r13), (9, .int (oi (σ.1 5 (Int.toNat ((90 * x7) + x8))))), (0, .ref (ad 0)), (1, .int (oi x1)), (2, .int (oi x2)), (5, .long x5), (7, .int (oi x7)), (8, .int (oi x8))] dX7_raised_69 (by decide) rfl ?_
        refine q_aload_n X dX7_raised_71 2 rfl ?_
        refine q_iload_n X dX7_raised_72 3 rfl ?_
        refine q_aload_n X dX7_raised_73 2 rfl ?_
        refine fg_X7_38 X dX7_raised_74 ?_
        refine q_iload X dX7_raised_77 1 rfl ?_
        refine q_iald X hM9 (by decide) dX7_raised_79 (fun h16 => ?_)
        refine q_lload X dX7_raised_80 0 rfl ?_
        refine q_callV X NMok hN Aw_new (c_X7_holds hx1 h16) (rn_V X (cwV 3 X.2.2.2.2.1 (tbG_good _ (tbG_V mw_1062 mw_1064 mp_4_11 mw_9 mw_1065)) rfl rfl rfl hd_X7_holds ⟨by decide, by decide⟩) hM0 rfl rfl rfl (Nat.le_of_ble_eq_true rfl) dX7_raised_82) (fun r17 _ => ?_)
        refine q_lload X dX7_raised_85 5 rfl ?_
        refine q_lload X dX7_raised_87 0 rfl ?_
        refine q_ldc2 X (-1) dX7_raised_89 (List.mem_cons_of_mem _ mw_1106) ?_
        refine q_lxor X dX7_raised_92 ?_
        refine q_land X dX7_raised_93 ?_
        refine q_lstore X [(5, .long (x5 &&& (r13 ^^^ (-1)))), (10, .long r13), (9, .int (oi (σ.1 5 (Int.toNat ((90 * x7) + x8))))), (0, .ref (ad 0)), (1, .int (oi x1)), (2, .int (oi x2)), (7, .int (oi x7)), (8, .int (oi x8))] dX7_raised_94 (by decide) rfl ?_
        refine q_iinc X [(8, .int (oi (x8 + (-1)))), (5, .long (x5 &&& (r13 ^^^ (-1)))), (10, .long r13), (9, .int (oi (σ.1 5 (Int.toNat ((90 * x7) + x8))))), (0, .ref (ad 0)), (1, .int (oi x1)), (2, .int (oi x2)), (7, .int (oi x7))] dX7_raised_96 (by decide) 7 rfl rfl (fun h20 => ?_)
        refine q_goto X 21 dX7_raised_99 (by decide) ?_
        refine q_sub [(0, .ref (ad 0)), (1, .int (oi x1)), (2, .int (oi x2)), (5, .long (x5 &&& (r13 ^^^ (-1)))), (7, .int (oi x7)), (8, .int (oi (x8 + (-1))))] [4, 5, 6, 1, 7, 0] rfl ?_
        exact ih x1 x2 (x5 &&& (r13 ^^^ (-1))) x7 (x8 + (-1)) r17 hx1 hx2 hx7 h20
def f_X7_raised (x1 : Int) (x2 : Int) (x3 : Int64) (σ : Mm) : Option (Mm) :=
  ck ((0 : Int) ≤ x1 ∧ x1 < ((80 : Nat) : Int)) (ck ((0 : Int) ≤ x2 ∧ x2 < ((90 : Nat) : Int)) (ck (inR ((σ.1 7 (Int.toNat x2)) - 1)) (f_X7_raised_21 2000 x1 x2 x3 (σ.1 13 (Int.toNat x1)) ((σ.1 7 (Int.toNat x2)) - 1) σ)))
theorem hd_X7_raised : yX7_raised.cls = RX7 ∧ yX7_raised.cls ≠ "java/lang/invoke/MethodHandle" ∧ yX7_raised.cls ≠ "java/lang/invoke/VarHandle" ∧ (parseMethodDescriptor yX7_raised.desc).map (fun d => d.parameters.length) = some 3 := by decide +kernel
set_option maxRecDepth 100000 in
set_option maxHeartbeats 4000000 in
theorem c_X7_raised {l : Launch} {D : va_G} {ca : Nat → ClassId} {ad : Nat → Nat} {x1 : Int} {x2 : Int} {x3 : Int64} (hx1 : inR x1) (hx2 : inR x2) {σ : Mm} : CtV l D vcl ca ad shM NM yX7_raised (Cond.code yX7_raised cX7_raised 12 none :: tbG) { frames := 2, cells := 0, slots := 0, locals := 49 } [.ref (ad 0), .int (oi x1), .int (oi x2), .long x3] σ (f_X7_raised x1 x2 x3 σ) := by
  refine ct_V RX7 rfl (by decide) rfl (Nat.le_of_ble_eq_true rfl) (fun p e s m below meth c res X hN hr hlk => ?_)
  show GX7_raised p l e s m _ below meth c D ca ad res 0 [(0, .ref (ad 0)), (1, .int (oi x1)), (2, .int (oi x2)), (3, .long x3)] [] σ (f_X7_raised x1 x2 x3 σ)
  unfold f_X7_raised
  refine q_lload_n X dX7_raised_0 3 rfl ?_
  refine q_lstore X [(5, .long x3), (0, .ref (ad 0)), (1, .int (oi x1)), (2, .int (oi x2)), (3, .long x3)] dX7_raised_1 (by decide) rfl ?_
  refine q_aload_n X dX7_raised_3 1 rfl ?_
  refine fg_X7_50 X dX7_raised_4 ?_
  refine q_iload_n X dX7_raised_7 2 rfl ?_
  refine q_iald X hM13 (by decide) dX7_raised_8 (fun h21 => ?_)
  refine q_istore X [(7, .int (oi (σ.1 13 (Int.toNat x1)))), (5, .long x3), (0, .ref (ad 0)), (1, .int (oi x1)), (2, .int (oi x2)), (3, .long x3)] dX7_raised_9 (by decide) rfl ?_
  refine q_aload_n X dX7_raised_11 2 rfl ?_
  refine fg_X7_32 X dX7_raised_12 ?_
  refine q_iload_n X dX7_raised_15 4 rfl ?_
  refine q_iald X hM7 (by decide) dX7_raised_16 (fun h22 => ?_)
  refine q_iconst X dX7_raised_17 ?_
  refine q_isub X dX7_raised_18 ?_
  refine q_ck (fun h23 => ?_)
  refine q_istore X [(8, .int (oi ((σ.1 7 (Int.toNat x2)) - 1))), (7, .int (oi (σ.1 13 (Int.toNat x1)))), (5, .long x3), (0, .ref (ad 0)), (1, .int (oi x1)), (2, .int (oi x2)), (3, .long x3)] dX7_raised_19 (by decide) rfl ?_
  refine q_sub [(0, .ref (ad 0)), (1, .int (oi x1)), (2, .int (oi x2)), (5, .long x3), (7, .int (oi (σ.1 13 (Int.toNat x1)))), (8, .int (oi ((σ.1 7 (Int.toNat x2)) - 1)))] [3, 4, 5, 2, 1, 0] rfl ?_
  exact t_X7_raised_21 X hN hr hlk 2000 x1 x2 x3 (σ.1 13 (Int.toNat x1)) ((σ.1 7 (Int.toNat x2)) - 1) σ hx1 hx2 h21 h23

/-! SiteObjectsModel.joins(III)V -/
abbrev GX7_joins (p : Program) (l : Launch) (e : Env) (s : State) (m : MethodId) (args : Array Value) (below : List Frame) (meth : Method) (c : Code) (D : va_G) (ca : Nat → ClassId) (ad : Nat → Nat) (res : Mm) : Nat → List (Nat × Value) → List Value → Mm → Option (Mm) → Prop := G p l e { frames := 3, cells := 0, slots := 0, locals := 80 } s m args below meth c (MQ below (QcV D vcl ca ad shM s.heap.size res) args s 0 0 (Aw ad shM.length s.heap.size)) 4 D vcl ca ad shM (Aw ad shM.length s.heap.size) res
def f_X7_joins (x1 : Int) (x2 : Int) (x3 : Int) (σ : Mm) : Option (Mm) :=
  ck ((0 : Int) ≤ x2 ∧ x2 < ((90 : Nat) : Int)) (ck ((0 : Int) ≤ ((8 * x1) + (σ.1 12 (Int.toNat x2))) ∧ ((8 * x1) + (σ.1 12 (Int.toNat x2))) < ((640 : Nat) : Int)) ((f_X7_holds x3 1 (σ.2 16 (Int.toNat ((8 * x1) + (σ.1 12 (Int.toNat x2))))) σ).bind (fun r2 => ck ((0 : Int) ≤ x2 ∧ x2 < ((90 : Nat) : Int)) (ck ((0 : Int) ≤ ((8 * x3) + 6) ∧ ((8 * x3) + 6) < ((640 : Nat) : Int)) ((f_X7_holds x1 (r2.1 9 (Int.toNat x2)) (r2.2 16 (Int.toNat ((8 * x3) + 6))) r2).bind (fun r6 => ck ((0 : Int) ≤ ((8 * x3) + 7) ∧ ((8 * x3) + 7) < ((640 : Nat) : Int)) ((f_X7_raised x1 x2 (r6.2 16 (Int.toNat ((8 * x3) + 7))) r6).bind (fun r9 => some r9))))))))
theorem hd_X7_joins : yX7_joins.cls = RX7 ∧ yX7_joins.cls ≠ "java/lang/invoke/MethodHandle" ∧ yX7_joins.cls ≠ "java/lang/invoke/VarHandle" ∧ (parseMethodDescriptor yX7_joins.desc).map (fun d => d.parameters.length) = some 3 := by decide +kernel
set_option maxRecDepth 100000 in
set_option maxHeartbeats 4000000 in
theorem c_X7_joins {l : Launch} {D : va_G} {ca : Nat → ClassId} {ad : Nat → Nat} {x1 : Int} {x2 : Int} {x3 : Int} (hx1 : inR x1) (hx2 : inR x2) (hx3 : inR x3) {σ : Mm} : CtV l D vcl ca ad shM NM yX7_joins (Cond.code yX7_joins cX7_joins 4 none :: tbG) { frames := 3, cells := 0, slots := 0, locals := 80 } [.ref (ad 0), .int (oi x1), .int (oi x2), .int (oi x3)] σ (f_X7_joins x1 x2 x3 σ) := by
  refine ct_V RX7 rfl (by decide) rfl (Nat.le_of_ble_eq_true rfl) (fun p e s m below meth c res X hN hr hlk => ?_)
  show GX7_joins p l e s m _ below meth c D ca ad res 0 [(0, .ref (ad 0)), (1, .int (oi x1)), (2, .int (oi x2)), (3, .int (oi x3))] [] σ (f_X7_joins x1 x2 x3 σ)
  unfold f_X7_joins
  refine q_aload_n X dX7_joins_0 0 rfl ?_
  refine q_iload_n X dX7_joins_1 3 rfl ?_
  refine q_iconst X dX7_joins_2 ?_
  refine q_aload_n X dX7_joins_3 0 rfl ?_
  refine fg_X7_59 X dX7_joins_4 ?_
  refine q_bipush X dX7_joins_7 (by decide) ?_
  refine q_iload_n X dX7_joins_9 1 rfl ?_
  refine q_imul X dX7_joins_10 ?_
  refine q_aload_n X dX7_joins_11 0 rfl ?_
  refine fg_X7_47 X dX7_joins_12 ?_
  refine q_iload_n X dX7_joins_15 2 rfl ?_
  refine q_iald X hM12 (by decide) dX7_joins_16 (fun h1 => ?_)
  refine q_iadd X dX7_joins_17 ?_
  refine q_lald X hM16 (by decide) dX7_joins_18 ?_
  refine q_callV X NMok hN Aw_new (c_X7_holds hx3 (by decide)) (rn_V X (cwV 3 X.2.2.2.2.1 (tbG_good _ (tbG_V mw_1062 mw_1064 mp_4_11 mw_9 mw_1065)) rfl rfl rfl hd_X7_holds ⟨by decide, by decide⟩) hM0 rfl rfl rfl (Nat.le_of_ble_eq_true rfl) dX7_joins_19) (fun r2 _ => ?_)
  refine q_aload_n X dX7_joins_22 0 rfl ?_
  refine q_iload_n X dX7_joins_23 1 rfl ?_
  refine q_aload_n X dX7_joins_24 0 rfl ?_
  refine fg_X7_38 X dX7_joins_25 ?_
  refine q_iload_n X dX7_joins_28 2 rfl ?_
  refine q_iald X hM9 (by decide) dX7_joins_29 (fun h5 => ?_)
  refine q_aload_n X dX7_joins_30 0 rfl ?_
  refine fg_X7_59 X dX7_joins_31 ?_
  refine q_bipush X dX7_joins_34 (by decide) ?_
  refine q_iload_n X dX7_joins_36 3 rfl ?_
  refine q_imul X dX7_joins_37 ?_
  refine q_bipush X dX7_joins_38 (by decide) ?_
  refine q_iadd X dX7_joins_40 ?_
  refine q_lald X hM16 (by decide) dX7_joins_41 ?_
  refine q_callV X NMok hN Aw_new (c_X7_holds hx1 h5) (rn_V X (cwV 3 X.2.2.2.2.1 (tbG_good _ (tbG_V mw_1062 mw_1064 mp_4_11 mw_9 mw_1065)) rfl rfl rfl hd_X7_holds ⟨by decide, by decide⟩) hM0 rfl rfl rfl (Nat.le_of_ble_eq_true rfl) dX7_joins_42) (fun r6 _ => ?_)
  refine q_aload_n X dX7_joins_45 0 rfl ?_
  refine q_iload_n X dX7_joins_46 1 rfl ?_
  refine q_iload_n X dX7_joins_47 2 rfl ?_
  refine q_aload_n X dX7_joins_48 0 rfl ?_
  refine fg_X7_59 X dX7_joins_49 ?_
  refine q_bipush X dX7_joins_52 (by decide) ?_
  refine q_iload_n X dX7_joins_54 3 rfl ?_
  refine q_imul X dX7_joins_55 ?_
  refine q_bipush X dX7_joins_56 (by decide) ?_
  refine q_iadd X dX7_joins_58 ?_
  refine q_lald X hM16 (by decide) dX7_joins_59 ?_
  refine q_callV X NMok hN Aw_new (c_X7_raised hx1 hx2) (rn_V X (cwV 3 X.2.2.2.2.1 (tbG_good _ (tbG_V mw_1098 mw_1100 mp_5_4 mw_9 mw_1101)) rfl rfl rfl hd_X7_raised ⟨by decide, by decide⟩) hM0 rfl rfl rfl (Nat.le_of_ble_eq_true rfl) dX7_joins_60) (fun r9 _ => ?_)
  exact q_vret X hr hlk dX7_joins_63

/-! SiteObjectsModel.goes(II)V -/
abbrev GX7_goes (p : Program) (l : Launch) (e : Env) (s : State) (m : MethodId) (args : Array Value) (below : List Frame) (meth : Method) (c : Code) (D : va_G) (ca : Nat → ClassId) (ad : Nat → Nat) (res : Mm) : Nat → List (Nat × Value) → List Value → Mm → Option (Mm) → Prop := G p l e { frames := 4, cells := 0, slots := 0, locals := 103 } s m args below meth c (MQ below (QcV D vcl ca ad shM s.heap.size res) args s 0 0 (Aw ad shM.length s.heap.size)) 14 D vcl ca ad shM (Aw ad shM.length s.heap.size) res
def f_X7_goes_241 (k198 : Int → Int → Int → Int → Int64 → Int → Mm → Option (Mm)) (x1 : Int) (x2 : Int) (x3 : Int) (x5 : Int) (x6 : Int64) (x11 : Int) (s0 : Int) (s1 : Int) (σ : Mm) : Option (Mm) :=
  (if s1 = s0 then ck ((0 : Int) ≤ x2 ∧ x2 < ((90 : Nat) : Int)) ((if (σ.1 8 (Int.toNat x2)) = 6 then ck ((0 : Int) ≤ ((5 * x11) + 4) ∧ ((5 * x11) + 4) < ((300 : Nat) : Int)) ((f_X7_holds x1 x3 (σ.2 19 (Int.toNat ((5 * x11) + 4))) σ).bind (fun r4 => ck (inR (x11 + 1)) (k198 x1 x2 x3 x5 x6 (x11 + 1) r4))) else ck ((0 : Int) ≤ ((5 * x11) + x5) ∧ ((5 * x11) + x5) < ((300 : Nat) : Int)) ((f_X7_holds x1 x3 (σ.2 19 (Int.toNat ((5 * x11) + x5))) σ).bind (fun r8 => ck (inR (x11 + 1)) (k198 x1 x2 x3 x5 x6 (x11 + 1) r8))))) else ck (inR (x11 + 1)) (k198 x1 x2 x3 x5 x6 (x11 + 1) σ))
set_option maxRecDepth 100000 in
set_option maxHeartbeats 4000000 in
theorem t_X7_goes_241 {p : Program} {l : Launch} {e : Env} {s : State} {m : MethodId} {args : Array Value} {below : List Frame} {meth : Method} {c : Code} {D : va_G} {ca : Nat → ClassId} {ad : Nat → Nat} {res : Mm} {k198 : Int → Int → Int → Int → Int64 → Int → Mm → Option (Mm)} (X : Cx p s m args c cX7_goes 14 RX7 (Cond.code yX7_goes cX7_goes 14 none :: tbG) D vcl ca) (hN : NM s) (hr : meth.sig.returnType = none) (hlk : meth.locks = false) (hk198 : ∀ (x1 : Int) (x2 : Int) (x3 : Int) (x5 : Int) (x6 : Int64) (x11 : Int) (σ : Mm), inR x1 → inR x2 → inR x3 → inR x5 → inR x11 → GX7_goes p l e s m args below meth c D ca ad res 198 [(0, .ref (ad 0)), (1, .int (oi x1)), (2, .int (oi x2)), (3, .int (oi x3)), (5, .int (oi x5)), (6, .long x6), (11, .int (oi x11))] [] σ (k198 x1 x2 x3 x5 x6 x11 σ)) : ∀ (x1 : Int) (x2 : Int) (x3 : Int) (x5 : Int) (x6 : Int64) (x11 : Int) (s0 : Int) (s1 : Int) (σ : Mm), inR x1 → inR x2 → inR x3 → inR x5 → inR x11 → inR s0 → inR s1 → GX7_goes p l e s m args below meth c D ca ad res 241 [(0, .ref (ad 0)), (1, .int (oi x1)), (2, .int (oi x2)), (3, .int (oi x3)), (5, .int (oi x5)), (6, .long x6), (11, .int (oi x11))] [.int (oi s0), .int (oi s1)] σ (f_X7_goes_241 k198 x1 x2 x3 x5 x6 x11 s0 s1 σ) := by
  intro x1 x2 x3 x5 x6 x11 s0 s1 σ hx1 hx2 hx3 hx5 hx11 hs0 hs1
  unfold f_X7_goes_241
  refine q_icmp_ne X hs1 hs0 277 dX7_goes_241 (by decide) (fun h1 => ?_) (fun h1 => ?_)
  · refine q_aload_n X dX7_goes_244 0 rfl ?_
    refine q_iload_n X dX7_goes_245 1 rfl ?_
    refine q_iload_n X dX7_goes_246 3 rfl ?_
    refine q_aload_n X dX7_goes_247 0 rfl ?_
    refine fg_X7_69 X dX7_goes_248 ?_
    refine q_iconst X dX7_goes_251 ?_
    refine q_iload X dX7_goes_252 6 rfl ?_
    refine q_imul X dX7_goes_254 ?_
    refine q_aload_n X dX7_goes_255 0 rfl ?_
    refine fg_X7_35 X dX7_goes_256 ?_
    refine q_iload_n X dX7_goes_259 2 rfl ?_
    refine q_iald X hM8 (by decide) dX7_goes_260 (fun h2 => ?_)
    refine q_bipush X dX7_goes_261 (by decide) ?_
    refine q_icmp_ne X h2 (by decide) 270 dX7_goes_263 (by decide) (fun h3 => ?_) (fun h3 => ?_)
    · refine q_iconst X dX7_goes_266 ?_
      refine q_goto X 272 dX7_goes_267 (by decide) ?_
      refine q_iadd X dX7_goes_272 ?_
      refine q_lald X hM19 (by decide) dX7_goes_273 ?_
      refine q_callV X NMok hN Aw_new (c_X7_holds hx1 hx3) (rn_V X (cwV 3 X.2.2.2.2.1 (tbG_good _ (tbG_V mw_1062 mw_1064 mp_4_11 mw_9 mw_1065)) rfl rfl rfl hd_X7_holds ⟨by decide, by decide⟩) hM0 rfl rfl rfl (Nat.le_of_ble_eq_true rfl) dX7_goes_274) (fun r4 _ => ?_)
      refine q_iinc X [(11, .int (oi (x11 + 1))), (0, .ref (ad 0)), (1, .int (oi x1)), (2, .int (oi x2)), (3, .int (oi x3)), (5, .int (oi x5)), (6, .long x6)] dX7_goes_277 (by decide) 6 rfl rfl (fun h7 => ?_)
      refine q_goto X 198 dX7_goes_280 (by decide) ?_
      refine q_sub [(0, .ref (ad 0)), (1, .int (oi x1)), (2, .int (oi x2)), (3, .int (oi x3)), (5, .int (oi x5)), (6, .long x6), (11, .int (oi (x11 + 1)))] [1, 2, 3, 4, 5, 6, 0] rfl ?_
      exact hk198 x1 x2 x3 x5 x6 (x11 + 1) r4 hx1 hx2 hx3 hx5 h7
    · refine q_iload X dX7_goes_270 4 rfl ?_
      refine q_iadd X dX7_goes_272 ?_
      refine q_lald X hM19 (by decide) dX7_goes_273 ?_
      refine q_callV X NMok hN Aw_new (c_X7_holds hx1 hx3) (rn_V X (cwV 3 X.2.2.2.2.1 (tbG_good _ (tbG_V mw_1062 mw_1064 mp_4_11 mw_9 mw_1065)) rfl rfl rfl hd_X7_holds ⟨by decide, by decide⟩) hM0 rfl rfl rfl (Nat.le_of_ble_eq_true rfl) dX7_goes_274) (fun r8 _ => ?_)
      refine q_iinc X [(11, .int (oi (x11 + 1))), (0, .ref (ad 0)), (1, .int (oi x1)), (2, .int (oi x2)), (3, .int (oi x3)), (5, .int (oi x5)), (6, .long x6)] dX7_goes_277 (by decide) 6 rfl rfl (fun h11 => ?_)
      refine q_goto X 198 dX7_goes_280 (by decide) ?_
      refine q_sub [(0, .ref (ad 0)), (1, .int (oi x1)), (2, .int (oi x2)), (3, .int (oi x3)), (5, .int (oi x5)), (6, .long x6), (11, .int (oi (x11 + 1)))] [1, 2, 3, 4, 5, 6, 0] rfl ?_
      exact hk198 x1 x2 x3 x5 x6 (x11 + 1) r8 hx1 hx2 hx3 hx5 h11
  · refine q_iinc X [(11, .int (oi (x11 + 1))), (0, .ref (ad 0)), (1, .int (oi x1)), (2, .int (oi x2)), (3, .int (oi x3)), (5, .int (oi x5)), (6, .long x6)] dX7_goes_277 (by decide) 6 rfl rfl (fun h12 => ?_)
    refine q_goto X 198 dX7_goes_280 (by decide) ?_
    refine q_sub [(0, .ref (ad 0)), (1, .int (oi x1)), (2, .int (oi x2)), (3, .int (oi x3)), (5, .int (oi x5)), (6, .long x6), (11, .int (oi (x11 + 1)))] [1, 2, 3, 4, 5, 6, 0] rfl ?_
    exact hk198 x1 x2 x3 x5 x6 (x11 + 1) σ hx1 hx2 hx3 hx5 h12
def f_X7_goes_198 : Nat → Int → Int → Int → Int → Int64 → Int → Mm → Option (Mm)
  | 0, _, _, _, _, _, _, _ => none
  | n + 1, x1, x2, x3, x5, x6, x11, σ => (if (σ.1 0 29) ≤ x11 then some σ else (if ((lShr x6 x11) &&& 1) = 1 then (f_X7_isRow x11 σ).bind (fun r16 => ck ((0 : Int) ≤ x2 ∧ x2 < ((90 : Nat) : Int)) ((if (σ.1 8 (Int.toNat x2)) = 6 then f_X7_goes_241 (f_X7_goes_198 n) x1 x2 x3 x5 x6 x11 1 r16 σ else f_X7_goes_241 (f_X7_goes_198 n) x1 x2 x3 x5 x6 x11 0 r16 σ))) else ck (inR (x11 + 1)) (f_X7_goes_198 n x1 x2 x3 x5 x6 (x11 + 1) σ)))
set_option maxRecDepth 100000 in
set_option maxHeartbeats 4000000 in
theorem t_X7_goes_198 {p : Program} {l : Launch} {e : Env} {s : State} {m : MethodId} {args : Array Value} {below : List Frame} {meth : Method} {c : Code} {D : va_G} {ca : Nat → ClassId} {ad : Nat → Nat} {res : Mm} (X : Cx p s m args c cX7_goes 14 RX7 (Cond.code yX7_goes cX7_goes 14 none :: tbG) D vcl ca) (hN : NM s) (hr : meth.sig.returnType = none) (hlk : meth.locks = false) : ∀ (n : Nat) (x1 : Int) (x2 : Int) (x3 : Int) (x5 : Int) (x6 : Int64) (x11 : Int) (σ : Mm), inR x1 → inR x2 → inR x3 → inR x5 → inR x11 → GX7_goes p l e s m args below meth c D ca ad res 198 [(0, .ref (ad 0)), (1, .int (oi x1)), (2, .int (oi x2)), (3, .int (oi x3)), (5, .int (oi x5)), (6, .long x6), (11, .int (oi x11))] [] σ (f_X7_goes_198 n x1 x2 x3 x5 x6 x11 σ)
  := by
  intro n
  induction n with
  | zero => intro x1 x2 x3 x5 x6 x11 σ hx1 hx2 hx3 hx5 hx11 h; cases h
  | succ n ih =>
    intro x1 x2 x3 x5 x6 x11 σ hx1 hx2 hx3 hx5 hx11
    rw [f_X7_goes_198]
    refine q_iload X dX7_goes_198 6 rfl ?_
    refine q_aload_n X dX7_goes_200 0 rfl ?_
    refine fg_X7_167 X dX7_goes_201 (fun h13 => ?_)
    refine q_icmp_ge X hx11 h13 283 dX7_goes_204 (by decide) (fun h14 => ?_) (fun h14 => ?_)
    · refine q_goto X 651 dX7_goes_283 (by decide) ?_
      exact q_vret X hr hlk dX7_goes_651
    · refine q_lload X dX7_goes_207 5 rfl ?_
      refine q_iload X dX7_goes_209 6 rfl ?_
      refine q_lshr X dX7_goes_211 ?_
      refine q_lconst X 1 dX7_goes_212 rfl ?_
      refine q_land X dX7_goes_213 ?_
      refine q_lconst X 1 dX7_goes_214 rfl ?_
      refine q_lcmp_ne X 277 dX7_goes_215 dX7_goes_216 (by decide) (fun h15 => ?_) (fun h15 => ?_)
      · refine q_aload_n X dX7_goes_219 0 rfl ?_
        refine q_iload X dX7_goes_220 6 rfl ?_
        refine q_callIp X NMok hN Aw_new (c_X7_isRow hx11) (rn_V X (cwV 1 X.2.2.2.2.1 (tbG_good _ (tbG_V mw_1066 mw_1068 mp_4_12 mw_9 mw_1069)) rfl rfl rfl hd_X7_isRow ⟨by decide, by decide⟩) hM0 rfl rfl rfl (Nat.le_of_ble_eq_true rfl) dX7_goes_222) (fun r16 _ h18 => ?_)
        refine q_aload_n X dX7_goes_225 0 rfl ?_
        refine fg_X7_35 X dX7_goes_226 ?_
        refine q_iload_n X dX7_goes_229 2 rfl ?_
        refine q_iald X hM8 (by decide) dX7_goes_230 (fun h19 => ?_)
        refine q_bipush X dX7_goes_231 (by decide) ?_
        refine q_icmp_ne X h19 (by decide) 240 dX7_goes_233 (by decide) (fun h20 => ?_) (fun h20 => ?_)
        · refine q_iconst X dX7_goes_236 ?_
          refine q_goto X 241 dX7_goes_237 (by decide) ?_
          refine q_sub [(0, .ref (ad 0)), (1, .int (oi x1)), (2, .int (oi x2)), (3, .int (oi x3)), (5, .int (oi x5)), (6, .long x6), (11, .int (oi x11))] [0, 1, 2, 3, 4, 5, 6] rfl ?_
          exact t_X7_goes_241 X hN hr hlk ih x1 x2 x3 x5 x6 x11 1 r16 σ hx1 hx2 hx3 hx5 hx11 (by decide) h18
        · refine q_iconst X dX7_goes_240 ?_
          refine q_sub [(0, .ref (ad 0)), (1, .int (oi x1)), (2, .int (oi x2)), (3, .int (oi x3)), (5, .int (oi x5)), (6, .long x6), (11, .int (oi x11))] [0, 1, 2, 3, 4, 5, 6] rfl ?_
          exact t_X7_goes_241 X hN hr hlk ih x1 x2 x3 x5 x6 x11 0 r16 σ hx1 hx2 hx3 hx5 hx11 (by decide) h18
      · refine q_iinc X [(11, .int (oi (x11 + 1))), (0, .ref (ad 0)), (1, .int (oi x1)), (2, .int (oi x2)), (3, .int (oi x3)), (5, .int (oi x5)), (6, .long x6)] dX7_goes_277 (by decide) 6 rfl rfl (fun h21 => ?_)
        refine q_goto X 198 dX7_goes_280 (by decide) ?_
        refine q_sub [(0, .ref (ad 0)), (1, .int (oi x1)), (2, .int (oi x2)), (3, .int (oi x3)), (5, .int (oi x5)), (6, .long x6), (11, .int (oi (x11 + 1)))] [1, 2, 3, 4, 5, 6, 0] rfl ?_
        exact ih x1 x2 x3 x5 x6 (x11 + 1) σ hx1 hx2 hx3 hx5 h21
def f_X7_goes_289 : Nat → Int → Int64 → Int64 → Int → Mm → Option (Mm)
  | 0, _, _, _, _, _ => none
  | n + 1, x5, x6, x8, x11, σ => (if (σ.1 0 29) ≤ x11 then some σ else (if ((lShr x8 x11) &&& 1) = 1 then (f_X7_isRow x11 σ).bind (fun r25 => (if r25 = 0 then (f_X7_lies x11 x5 x6 σ).bind (fun r29 => ck (inR (x11 + 1)) (f_X7_goes_289 n x5 x6 x8 (x11 + 1) r29)) else ck (inR (x11 + 1)) (f_X7_goes_289 n x5 x6 x8 (x11 + 1) σ))) else ck (inR (x11 + 1)) (f_X7_goes_289 n x5 x6 x8 (x11 + 1) σ)))
set_option maxRecDepth 100000 in
set_option maxHeartbeats 4000000 in
theorem t_X7_goes_289 {p : Program} {l : Launch} {e : Env} {s : State} {m : MethodId} {args : Array Value} {below : List Frame} {meth : Method} {c : Code} {D : va_G} {ca : Nat → ClassId} {ad : Nat → Nat} {res : Mm} (X : Cx p s m args c cX7_goes 14 RX7 (Cond.code yX7_goes cX7_goes 14 none :: tbG) D vcl ca) (hN : NM s) (hr : meth.sig.returnType = none) (hlk : meth.locks = false) : ∀ (n : Nat) (x5 : Int) (x6 : Int64) (x8 : Int64) (x11 : Int) (σ : Mm), inR x5 → inR x11 → GX7_goes p l e s m args below meth c D ca ad res 289 [(0, .ref (ad 0)), (5, .int (oi x5)), (6, .long x6), (8, .long x8), (11, .int (oi x11))] [] σ (f_X7_goes_289 n x5 x6 x8 x11 σ)
  := by
  intro n
  induction n with
  | zero => intro x5 x6 x8 x11 σ hx5 hx11 h; cases h
  | succ n ih =>
    intro x5 x6 x8 x11 σ hx5 hx11
    rw [f_X7_goes_289]
    refine q_iload X dX7_goes_289 4 rfl ?_
    refine q_aload_n X dX7_goes_291 0 rfl ?_
    refine fg_X7_167 X dX7_goes_292 (fun h22 => ?_)
    refine q_icmp_ge X hx11 h22 335 dX7_goes_295 (by decide) (fun h23 => ?_) (fun h23 => ?_)
    · refine q_goto X 651 dX7_goes_335 (by decide) ?_
      exact q_vret X hr hlk dX7_goes_651
    · refine q_lload X dX7_goes_298 3 rfl ?_
      refine q_iload X dX7_goes_300 4 rfl ?_
      refine q_lshr X dX7_goes_302 ?_
      refine q_lconst X 1 dX7_goes_303 rfl ?_
      refine q_land X dX7_goes_304 ?_
      refine q_lconst X 1 dX7_goes_305 rfl ?_
      refine q_lcmp_ne X 329 dX7_goes_306 dX7_goes_307 (by decide) (fun h24 => ?_) (fun h24 => ?_)
      · refine q_aload_n X dX7_goes_310 0 rfl ?_
        refine q_iload X dX7_goes_311 4 rfl ?_
        refine q_callIp X NMok hN Aw_new (c_X7_isRow hx11) (rn_V X (cwV 1 X.2.2.2.2.1 (tbG_good _ (tbG_V mw_1066 mw_1068 mp_4_12 mw_9 mw_1069)) rfl rfl rfl hd_X7_isRow ⟨by decide, by decide⟩) hM0 rfl rfl rfl (Nat.le_of_ble_eq_true rfl) dX7_goes_313) (fun r25 _ h27 => ?_)
        refine q_if_ne X h27 329 dX7_goes_316 (by decide) (fun h28 => ?_) (fun h28 => ?_)
        · refine q_aload_n X dX7_goes_319 0 rfl ?_
          refine q_iload X dX7_goes_320 4 rfl ?_
          refine q_iload X dX7_goes_322 1 rfl ?_
          refine q_lload X dX7_goes_324 2 rfl ?_
          refine q_callV X NMok hN Aw_new (c_X7_lies hx11 hx5) (rn_V X (cwV 3 X.2.2.2.2.1 (tbG_good _ (tbG_V mw_1070 mw_1072 mp_4_13 mw_9 mw_1073)) rfl rfl rfl hd_X7_lies ⟨by decide, by decide⟩) hM0 rfl rfl rfl (Nat.le_of_ble_eq_true rfl) dX7_goes_326) (fun r29 _ => ?_)
          refine q_iinc X [(11, .int (oi (x11 + 1))), (0, .ref (ad 0)), (5, .int (oi x5)), (6, .long x6), (8, .long x8)] dX7_goes_329 (by decide) 4 rfl rfl (fun h32 => ?_)
          refine q_goto X 289 dX7_goes_332 (by decide) ?_
          refine q_sub [(0, .ref (ad 0)), (5, .int (oi x5)), (6, .long x6), (8, .long x8), (11, .int (oi (x11 + 1)))] [1, 2, 3, 4, 0] rfl ?_
          exact ih x5 x6 x8 (x11 + 1) r29 hx5 h32
        · refine q_iinc X [(11, .int (oi (x11 + 1))), (0, .ref (ad 0)), (5, .int (oi x5)), (6, .long x6), (8, .long x8)] dX7_goes_329 (by decide) 4 rfl rfl (fun h33 => ?_)
          refine q_goto X 289 dX7_goes_332 (by decide) ?_
          refine q_sub [(0, .ref (ad 0)), (5, .int (oi x5)), (6, .long x6), (8, .long x8), (11, .int (oi (x11 + 1)))] [1, 2, 3, 4, 0] rfl ?_
          exact ih x5 x6 x8 (x11 + 1) σ hx5 h33
      · refine q_iinc X [(11, .int (oi (x11 + 1))), (0, .ref (ad 0)), (5, .int (oi x5)), (6, .long x6), (8, .long x8)] dX7_goes_329 (by decide) 4 rfl rfl (fun h34 => ?_)
        refine q_goto X 289 dX7_goes_332 (by decide) ?_
        refine q_sub [(0, .ref (ad 0)), (5, .int (oi x5)), (6, .long x6), (8, .long x8), (11, .int (oi (x11 + 1)))] [1, 2, 3, 4, 0] rfl ?_
        exact ih x5 x6 x8 (x11 + 1) σ hx5 h34
def f_X7_goes_341 : Nat → Int64 → Int64 → Int → Mm → Option (Mm)
  | 0, _, _, _, _ => none
  | n + 1, x6, x8, x11, σ => (if (σ.1 0 29) ≤ x11 then some σ else (if ((lShr x8 x11) &&& 1) = 1 then (f_X7_isRow x11 σ).bind (fun r38 => (if r38 = 0 then ck (inR (x11 + 1)) (f_X7_goes_341 n x6 x8 (x11 + 1) σ) else ck ((0 : Int) ≤ x11 ∧ x11 < ((60 : Nat) : Int)) (ck ((0 : Int) ≤ (σ.1 17 (Int.toNat x11)) ∧ (σ.1 17 (Int.toNat x11)) < ((90 : Nat) : Int)) ((f_X7_below x6 (σ.1 10 (Int.toNat (σ.1 17 (Int.toNat x11)))) σ).bind (fun r45 => (f_X7_lies x11 4 r45 σ).bind (fun r48 => ck (inR (x11 + 1)) (f_X7_goes_341 n x6 x8 (x11 + 1) r48))))))) else ck (inR (x11 + 1)) (f_X7_goes_341 n x6 x8 (x11 + 1) σ)))
set_option maxRecDepth 100000 in
set_option maxHeartbeats 4000000 in
theorem t_X7_goes_341 {p : Program} {l : Launch} {e : Env} {s : State} {m : MethodId} {args : Array Value} {below : List Frame} {meth : Method} {c : Code} {D : va_G} {ca : Nat → ClassId} {ad : Nat → Nat} {res : Mm} (X : Cx p s m args c cX7_goes 14 RX7 (Cond.code yX7_goes cX7_goes 14 none :: tbG) D vcl ca) (hN : NM s) (hr : meth.sig.returnType = none) (hlk : meth.locks = false) : ∀ (n : Nat) (x6 : Int64) (x8 : Int64) (x11 : Int) (σ : Mm), inR x11 → GX7_goes p l e s m args below meth c D ca ad res 341 [(0, .ref (ad 0)), (6, .long x6), (8, .long x8), (11, .int (oi x11))] [] σ (f_X7_goes_341 n x6 x8 x11 σ)
  := by
  intro n
  induction n with
  | zero => intro x6 x8 x11 σ hx11 h; cases h
  | succ n ih =>
    intro x6 x8 x11 σ hx11
    rw [f_X7_goes_341]
    refine q_iload X dX7_goes_341 3 rfl ?_
    refine q_aload_n X dX7_goes_343 0 rfl ?_
    refine fg_X7_167 X dX7_goes_344 (fun h35 => ?_)
    refine q_icmp_ge X hx11 h35 402 dX7_goes_347 (by decide) (fun h36 => ?_) (fun h36 => ?_)
    · refine q_goto X 651 dX7_goes_402 (by decide) ?_
      exact q_vret X hr hlk dX7_goes_651
    · refine q_lload X dX7_goes_350 2 rfl ?_
      refine q_iload X dX7_goes_352 3 rfl ?_
      refine q_lshr X dX7_goes_354 ?_
      refine q_lconst X 1 dX7_goes_355 rfl ?_
      refine q_land X dX7_goes_356 ?_
      refine q_lconst X 1 dX7_goes_357 rfl ?_
      refine q_lcmp_ne X 396 dX7_goes_358 dX7_goes_359 (by decide) (fun h37 => ?_) (fun h37 => ?_)
      · refine q_aload_n X dX7_goes_362 0 rfl ?_
        refine q_iload X dX7_goes_363 3 rfl ?_
        refine q_callIp X NMok hN Aw_new (c_X7_isRow hx11) (rn_V X (cwV 1 X.2.2.2.2.1 (tbG_good _ (tbG_V mw_1066 mw_1068 mp_4_12 mw_9 mw_1069)) rfl rfl rfl hd_X7_isRow ⟨by decide, by decide⟩) hM0 rfl rfl rfl (Nat.le_of_ble_eq_true rfl) dX7_goes_365) (fun r38 _ h40 => ?_)
        refine q_if_eq X h40 396 dX7_goes_368 (by decide) (fun h41 => ?_) (fun h41 => ?_)
        · refine q_iinc X [(11, .int (oi (x11 + 1))), (0, .ref (ad 0)), (6, .long x6), (8, .long x8)] dX7_goes_396 (by decide) 3 rfl rfl (fun h42 => ?_)
          refine q_goto X 341 dX7_goes_399 (by decide) ?_
          refine q_sub [(0, .ref (ad 0)), (6, .long x6), (8, .long x8), (11, .int (oi (x11 + 1)))] [1, 2, 3, 0] rfl ?_
          exact ih x6 x8 (x11 + 1) σ h42
        · refine q_aload_n X dX7_goes_371 0 rfl ?_
          refine q_iload X dX7_goes_372 3 rfl ?_
          refine q_iconst X dX7_goes_374 ?_
          refine q_aload_n X dX7_goes_375 0 rfl ?_
          refine q_lload X dX7_goes_376 1 rfl ?_
          refine q_aload_n X dX7_goes_378 0 rfl ?_
          refine fg_X7_41 X dX7_goes_379 ?_
          refine q_aload_n X dX7_goes_382 0 rfl ?_
          refine fg_X7_63 X dX7_goes_383 ?_
          refine q_iload X dX7_goes_386 3 rfl ?_
          refine q_iald X hM17 (by decide) dX7_goes_388 (fun h43 => ?_)
          refine q_iald X hM10 (by decide) dX7_goes_389 (fun h44 => ?_)
          refine q_callLp X NMok hN Aw_new (c_X7_below h44) (rn_V X (cwV 2 X.2.2.2.2.1 (tbG_good _ (tbG_V mw_1074 mw_1076 mp_4_14 mw_9 mw_1077)) rfl rfl rfl hd_X7_below ⟨by decide, by decide⟩) hM0 rfl rfl rfl (Nat.le_of_ble_eq_true rfl) dX7_goes_390) (fun r45 _ => ?_)
          refine q_callV X NMok hN Aw_new (c_X7_lies hx11 (by decide)) (rn_V X (cwV 3 X.2.2.2.2.1 (tbG_good _ (tbG_V mw_1070 mw_1072 mp_4_13 mw_9 mw_1073)) rfl rfl rfl hd_X7_lies ⟨by decide, by decide⟩) hM0 rfl rfl rfl (Nat.le_of_ble_eq_true rfl) dX7_goes_393) (fun r48 _ => ?_)
          refine q_iinc X [(11, .int (oi (x11 + 1))), (0, .ref (ad 0)), (6, .long x6), (8, .long x8)] dX7_goes_396 (by decide) 3 rfl rfl (fun h51 => ?_)
          refine q_goto X 341 dX7_goes_399 (by decide) ?_
          refine q_sub [(0, .ref (ad 0)), (6, .long x6), (8, .long x8), (11, .int (oi (x11 + 1)))] [1, 2, 3, 0] rfl ?_
          exact ih x6 x8 (x11 + 1) r48 h51
      · refine q_iinc X [(11, .int (oi (x11 + 1))), (0, .ref (ad 0)), (6, .long x6), (8, .long x8)] dX7_goes_396 (by decide) 3 rfl rfl (fun h52 => ?_)
        refine q_goto X 341 dX7_goes_399 (by decide) ?_
        refine q_sub [(0, .ref (ad 0)), (6, .long x6), (8, .long x8), (11, .int (oi (x11 + 1)))] [1, 2, 3, 0] rfl ?_
        exact ih x6 x8 (x11 + 1) σ h52
def f_X7_goes_469 (k425 : Int → Int → Int → Int64 → Int → Mm → Option (Mm)) (x1 : Int) (x2 : Int) (x5 : Int) (x6 : Int64) (x11 : Int) (s0 : Int) (σ : Mm) : Option (Mm) :=
  (if s0 < 0 then ck (inR (x11 + 1)) (k425 x1 x2 x5 x6 (x11 + 1) σ) else (f_X7_context x1 x2 x11 σ).bind (fun r55 => (f_X7_newNode s0 r55).bind (fun r58 => (if (r58.2.1 0 23) = 0 then (f_X7_holds r58.1 0 (lShl 1 x11) r58.2).bind (fun r63 => (f_X7_joins x1 x2 r58.1 r63).bind (fun r66 => ck (inR (x11 + 1)) (k425 x1 x2 x5 x6 (x11 + 1) r66))) else ck (inR (x11 + 1)) (k425 x1 x2 x5 x6 (x11 + 1) r58.2)))))
set_option maxRecDepth 100000 in
set_option maxHeartbeats 4000000 in
theorem t_X7_goes_469 {p : Program} {l : Launch} {e : Env} {s : State} {m : MethodId} {args : Array Value} {below : List Frame} {meth : Method} {c : Code} {D : va_G} {ca : Nat → ClassId} {ad : Nat → Nat} {res : Mm} {k425 : Int → Int → Int → Int64 → Int → Mm → Option (Mm)} (X : Cx p s m args c cX7_goes 14 RX7 (Cond.code yX7_goes cX7_goes 14 none :: tbG) D vcl ca) (hN : NM s) (hr : meth.sig.returnType = none) (hlk : meth.locks = false) (hk425 : ∀ (x1 : Int) (x2 : Int) (x5 : Int) (x6 : Int64) (x11 : Int) (σ : Mm), inR x1 → inR x2 → inR x5 → inR x11 → GX7_goes p l e s m args below meth c D ca ad res 425 [(0, .ref (ad 0)), (1, .int (oi x1)), (2, .int (oi x2)), (5, .int (oi x5)), (6, .long x6), (11, .int (oi x11))] [] σ (k425 x1 x2 x5 x6 x11 σ)) : ∀ (x1 : Int) (x2 : Int) (x5 : Int) (x6 : Int64) (x11 : Int) (s0 : Int) (σ : Mm), inR x1 → inR x2 → inR x5 → inR x11 → inR s0 → GX7_goes p l e s m args below meth c D ca ad res 469 [(0, .ref (ad 0)), (1, .int (oi x1)), (2, .int (oi x2)), (5, .int (oi x5)), (6, .long x6), (11, .int (oi x11))] [.int (oi s0)] σ (f_X7_goes_469 k425 x1 x2 x5 x6 x11 s0 σ) := by
  intro x1 x2 x5 x6 x11 s0 σ hx1 hx2 hx5 hx11 hs0
  unfold f_X7_goes_469
  refine q_istore X [(12, .int (oi s0)), (0, .ref (ad 0)), (1, .int (oi x1)), (2, .int (oi x2)), (5, .int (oi x5)), (6, .long x6), (11, .int (oi x11))] dX7_goes_469 (by decide) rfl ?_
  refine q_iload X dX7_goes_471 0 rfl ?_
  refine q_if_lt X hs0 518 dX7_goes_473 (by decide) (fun h53 => ?_) (fun h53 => ?_)
  · refine q_iinc X [(11, .int (oi (x11 + 1))), (12, .int (oi s0)), (0, .ref (ad 0)), (1, .int (oi x1)), (2, .int (oi x2)), (5, .int (oi x5)), (6, .long x6)] dX7_goes_518 (by decide) 6 rfl rfl (fun h54 => ?_)
    refine q_goto X 425 dX7_goes_521 (by decide) ?_
    refine q_sub [(0, .ref (ad 0)), (1, .int (oi x1)), (2, .int (oi x2)), (5, .int (oi x5)), (6, .long x6), (11, .int (oi (x11 + 1)))] [2, 3, 4, 5, 6, 0] rfl ?_
    exact hk425 x1 x2 x5 x6 (x11 + 1) σ hx1 hx2 hx5 h54
  · refine q_aload_n X dX7_goes_476 1 rfl ?_
    refine q_iload_n X dX7_goes_477 2 rfl ?_
    refine q_iload_n X dX7_goes_478 3 rfl ?_
    refine q_iload X dX7_goes_479 6 rfl ?_
    refine q_callV X NMok hN Aw_new (c_X7_context hx1 hx2 hx11) (rn_V X (cwV 3 X.2.2.2.2.1 (tbG_good _ (tbG_V mw_1090 mw_1092 mp_5_2 mw_9 mw_1093)) rfl rfl rfl hd_X7_context ⟨by decide, by decide⟩) hM0 rfl rfl rfl (Nat.le_of_ble_eq_true rfl) dX7_goes_481) (fun r55 _ => ?_)
    refine q_aload_n X dX7_goes_484 1 rfl ?_
    refine q_iload X dX7_goes_485 0 rfl ?_
    refine q_callI X NMok hN Aw_new (c_X7_newNode hs0) (rn_V X (cwV 1 X.2.2.2.2.1 (tbG_good _ (tbG_V mw_1042 mw_1044 mp_4_6 mw_9 mw_1045)) rfl rfl rfl hd_X7_newNode ⟨by decide, by decide⟩) hM0 rfl rfl rfl (Nat.le_of_ble_eq_true rfl) dX7_goes_487) (fun r58 _ h60 => ?_)
    refine q_istore X [(13, .int (oi r58.1)), (12, .int (oi s0)), (0, .ref (ad 0)), (1, .int (oi x1)), (2, .int (oi x2)), (5, .int (oi x5)), (6, .long x6), (11, .int (oi x11))] dX7_goes_490 (by decide) rfl ?_
    refine q_aload_n X dX7_goes_492 2 rfl ?_
    refine fg_X7_161 X dX7_goes_493 (fun h61 => ?_)
    refine q_if_ne X h61 518 dX7_goes_496 (by decide) (fun h62 => ?_) (fun h62 => ?_)
    · refine q_aload_n X dX7_goes_499 2 rfl ?_
      refine q_iload X dX7_goes_500 0 rfl ?_
      refine q_iconst X dX7_goes_502 ?_
      refine q_lconst X 1 dX7_goes_503 rfl ?_
      refine q_iload X dX7_goes_504 7 rfl ?_
      refine q_lshl X dX7_goes_506 ?_
      refine q_callV X NMok hN Aw_new (c_X7_holds h60 (by decide)) (rn_V X (cwV 3 X.2.2.2.2.1 (tbG_good _ (tbG_V mw_1062 mw_1064 mp_4_11 mw_9 mw_1065)) rfl rfl rfl hd_X7_holds ⟨by decide, by decide⟩) hM0 rfl rfl rfl (Nat.le_of_ble_eq_true rfl) dX7_goes_507) (fun r63 _ => ?_)
      refine q_aload_n X dX7_goes_510 2 rfl ?_
      refine q_iload_n X dX7_goes_511 3 rfl ?_
      refine q_iload_n X dX7_goes_512 4 rfl ?_
      refine q_iload X dX7_goes_513 0 rfl ?_
      refine q_callV X NMok hN Aw_new (c_X7_joins hx1 hx2 h60) (rn_V X (cwV 3 X.2.2.2.2.1 (tbG_good _ (tbG_V mw_1094 mw_1096 mp_5_3 mw_9 mw_1097)) rfl rfl rfl hd_X7_joins ⟨by decide, by decide⟩) hM0 rfl rfl rfl (Nat.le_of_ble_eq_true rfl) dX7_goes_515) (fun r66 _ => ?_)
      refine q_iinc X [(11, .int (oi (x11 + 1))), (13, .int (oi r58.1)), (12, .int (oi s0)), (0, .ref (ad 0)), (1, .int (oi x1)), (2, .int (oi x2)), (5, .int (oi x5)), (6, .long x6)] dX7_goes_518 (by decide) 7 rfl rfl (fun h69 => ?_)
      refine q_goto X 425 dX7_goes_521 (by decide) ?_
      refine q_sub [(0, .ref (ad 0)), (1, .int (oi x1)), (2, .int (oi x2)), (5, .int (oi x5)), (6, .long x6), (11, .int (oi (x11 + 1)))] [3, 4, 5, 6, 7, 0] rfl ?_
      exact hk425 x1 x2 x5 x6 (x11 + 1) r66 hx1 hx2 hx5 h69
    · refine q_iinc X [(11, .int (oi (x11 + 1))), (13, .int (oi r58.1)), (12, .int (oi s0)), (0, .ref (ad 0)), (1, .int (oi x1)), (2, .int (oi x2)), (5, .int (oi x5)), (6, .long x6)] dX7_goes_518 (by decide) 7 rfl rfl (fun h70 => ?_)
      refine q_goto X 425 dX7_goes_521 (by decide) ?_
      refine q_sub [(0, .ref (ad 0)), (1, .int (oi x1)), (2, .int (oi x2)), (5, .int (oi x5)), (6, .long x6), (11, .int (oi (x11 + 1)))] [3, 4, 5, 6, 7, 0] rfl ?_
      exact hk425 x1 x2 x5 x6 (x11 + 1) r58.2 hx1 hx2 hx5 h70
def f_X7_goes_425 : Nat → Int → Int → Int → Int64 → Int → Mm → Option (Mm)
  | 0, _, _, _, _, _, _ => none
  | n + 1, x1, x2, x5, x6, x11, σ => (if (σ.1 0 29) ≤ x11 then some σ else (if (σ.1 0 23) = 0 then (if ((lShr x6 x11) &&& 1) = 1 then (f_X7_classOf x11 σ).bind (fun r76 => (f_X7_methodFor r76 x5 σ).bind (fun r79 => f_X7_goes_469 (f_X7_goes_425 n) x1 x2 x5 x6 x11 r79 σ)) else f_X7_goes_469 (f_X7_goes_425 n) x1 x2 x5 x6 x11 (-1) σ) else some σ))
set_option maxRecDepth 100000 in
set_option maxHeartbeats 4000000 in
theorem t_X7_goes_425 {p : Program} {l : Launch} {e : Env} {s : State} {m : MethodId} {args : Array Value} {below : List Frame} {meth : Method} {c : Code} {D : va_G} {ca : Nat → ClassId} {ad : Nat → Nat} {res : Mm} (X : Cx p s m args c cX7_goes 14 RX7 (Cond.code yX7_goes cX7_goes 14 none :: tbG) D vcl ca) (hN : NM s) (hr : meth.sig.returnType = none) (hlk : meth.locks = false) : ∀ (n : Nat) (x1 : Int) (x2 : Int) (x5 : Int) (x6 : Int64) (x11 : Int) (σ : Mm), inR x1 → inR x2 → inR x5 → inR x11 → GX7_goes p l e s m args below meth c D ca ad res 425 [(0, .ref (ad 0)), (1, .int (oi x1)), (2, .int (oi x2)), (5, .int (oi x5)), (6, .long x6), (11, .int (oi x11))] [] σ (f_X7_goes_425 n x1 x2 x5 x6 x11 σ)
  := by
  intro n
  induction n with
  | zero => intro x1 x2 x5 x6 x11 σ hx1 hx2 hx5 hx11 h; cases h
  | succ n ih =>
    intro x1 x2 x5 x6 x11 σ hx1 hx2 hx5 hx11
    rw [f_X7_goes_425]
    refine q_iload X dX7_goes_425 5 rfl ?_
    refine q_aload_n X dX7_goes_427 0 rfl ?_
    refine fg_X7_167 X dX7_goes_428 (fun h71 => ?_)
    refine q_icmp_ge X hx11 h71 524 dX7_goes_431 (by decide) (fun h72 => ?_) (fun h72 => ?_)
    · refine q_goto X 651 dX7_goes_524 (by decide) ?_
      exact q_vret X hr hlk dX7_goes_651
    · refine q_aload_n X dX7_goes_434 0 rfl ?_
      refine fg_X7_161 X dX7_goes_435 (fun h73 => ?_)
      refine q_if_ne X h73 524 dX7_goes_438 (by decide) (fun h74 => ?_) (fun h74 => ?_)
      · refine q_lload X dX7_goes_441 4 rfl ?_
        refine q_iload X dX7_goes_443 5 rfl ?_
        refine q_lshr X dX7_goes_445 ?_
        refine q_lconst X 1 dX7_goes_446 rfl ?_
        refine q_land X dX7_goes_447 ?_
        refine q_lconst X 1 dX7_goes_448 rfl ?_
        refine q_lcmp_ne X 468 dX7_goes_449 dX7_goes_450 (by decide) (fun h75 => ?_) (fun h75 => ?_)
        · refine q_aload_n X dX7_goes_453 0 rfl ?_
          refine q_aload_n X dX7_goes_454 0 rfl ?_
          refine q_iload X dX7_goes_455 5 rfl ?_
          refine q_callIp X NMok hN Aw_new (c_X7_classOf hx11) (rn_V X (cwV 1 X.2.2.2.2.1 (tbG_good _ (tbG_V mw_1078 mw_1080 mp_4_15 mw_9 mw_1081)) rfl rfl rfl hd_X7_classOf ⟨by decide, by decide⟩) hM0 rfl rfl rfl (Nat.le_of_ble_eq_true rfl) dX7_goes_457) (fun r76 _ h78 => ?_)
          refine q_iload X dX7_goes_460 3 rfl ?_
          refine q_callIp X NMok hN Aw_new (c_X7_methodFor h78 hx5) (rn_V X (cwV 2 X.2.2.2.2.1 (tbG_good _ (tbG_V mw_1086 mw_1088 mp_5_1 mw_9 mw_1089)) rfl rfl rfl hd_X7_methodFor ⟨by decide, by decide⟩) hM0 rfl rfl rfl (Nat.le_of_ble_eq_true rfl) dX7_goes_462) (fun r79 _ h81 => ?_)
          refine q_goto X 469 dX7_goes_465 (by decide) ?_
          refine q_sub [(0, .ref (ad 0)), (1, .int (oi x1)), (2, .int (oi x2)), (5, .int (oi x5)), (6, .long x6), (11, .int (oi x11))] [0, 1, 2, 3, 4, 5] rfl ?_
          exact t_X7_goes_469 X hN hr hlk ih x1 x2 x5 x6 x11 r79 σ hx1 hx2 hx5 hx11 h81
        · refine q_iconst X dX7_goes_468 ?_
          refine q_sub [(0, .ref (ad 0)), (1, .int (oi x1)), (2, .int (oi x2)), (5, .int (oi x5)), (6, .long x6), (11, .int (oi x11))] [0, 1, 2, 3, 4, 5] rfl ?_
          exact t_X7_goes_469 X hN hr hlk ih x1 x2 x5 x6 x11 (-1) σ hx1 hx2 hx5 hx11 (by decide)
      · refine q_goto X 651 dX7_goes_524 (by decide) ?_
        exact q_vret X hr hlk dX7_goes_651
def f_X7_goes_71 (x1 : Int) (x2 : Int) (x3 : Int) (x5 : Int) (x6 : Int64) (s0 : Int64) (σ : Mm) : Option (Mm) :=
  ck ((0 : Int) ≤ x2 ∧ x2 < ((90 : Nat) : Int)) ((if (σ.1 8 (Int.toNat x2)) = 0 then (f_X7_newName x1 x2 σ).bind (fun r84 => (if (r84.2.1 0 23) = 0 then (f_X7_holds x1 x3 (lShl 1 r84.1) r84.2).bind (fun r89 => some r89) else some r84.2)) else (if (σ.1 8 (Int.toNat x2)) = 1 then (f_X7_newName x1 x2 σ).bind (fun r93 => (if (r93.2.1 0 23) = 0 then (f_X7_holds x1 x3 (lShl 1 r93.1) r93.2).bind (fun r98 => some r98) else some r93.2)) else (if (σ.1 8 (Int.toNat x2)) = 2 then (f_X7_holds x1 x3 x6 σ).bind (fun r102 => some r102) else (if (σ.1 8 (Int.toNat x2)) = 3 then some σ else (if (σ.1 8 (Int.toNat x2)) = 4 then f_X7_goes_198 2000 x1 x2 x3 x5 x6 0 σ else (if (σ.1 8 (Int.toNat x2)) = 5 then f_X7_goes_289 2000 x5 x6 s0 0 σ else (if (σ.1 8 (Int.toNat x2)) = 6 then f_X7_goes_198 2000 x1 x2 x3 x5 x6 0 σ else (if (σ.1 8 (Int.toNat x2)) = 7 then f_X7_goes_341 2000 x6 s0 0 σ else (if (σ.1 8 (Int.toNat x2)) = 8 then (f_X7_below x6 x5 σ).bind (fun r111 => (f_X7_holds x1 x3 r111 σ).bind (fun r114 => some r114)) else (if (σ.1 8 (Int.toNat x2)) = 9 then f_X7_goes_425 2000 x1 x2 x5 x6 0 σ else (if (σ.1 8 (Int.toNat x2)) = 10 then (f_X7_context x1 x2 (-1) σ).bind (fun r119 => (f_X7_newNode x5 r119).bind (fun r122 => (if (r122.2.1 0 23) = 0 then (f_X7_joins x1 x2 r122.1 r122.2).bind (fun r127 => some r127) else some r122.2))) else (if (σ.1 8 (Int.toNat x2)) = 11 then (f_X7_holds x1 6 s0 σ).bind (fun r131 => some r131) else (if (σ.1 8 (Int.toNat x2)) = 12 then some σ else (if (σ.1 8 (Int.toNat x2)) = 13 then (if (σ.1 0 22) = 0 then ck ((0 : Int) ≤ x5 ∧ x5 < ((4 : Nat) : Int)) (ck ((0 : Int) ≤ x5 ∧ x5 < ((4 : Nat) : Int)) ((if ((σ.2 20 (Int.toNat x5)) ||| s0) = (σ.2 20 (Int.toNat x5)) then ck ((0 : Int) ≤ x5 ∧ x5 < ((4 : Nat) : Int)) (ck ((0 : Int) ≤ x5 ∧ x5 < ((4 : Nat) : Int)) ((some (stL (stI σ 0 22 0) 20 (Int.toNat x5) (((stI σ 0 22 0).2 20 (Int.toNat x5)) ||| s0))).bind (fun σ139 => some σ139))) else ck ((0 : Int) ≤ x5 ∧ x5 < ((4 : Nat) : Int)) (ck ((0 : Int) ≤ x5 ∧ x5 < ((4 : Nat) : Int)) ((some (stL (stI σ 0 22 1) 20 (Int.toNat x5) (((stI σ 0 22 1).2 20 (Int.toNat x5)) ||| s0))).bind (fun σ140 => some σ140)))))) else ck ((0 : Int) ≤ x5 ∧ x5 < ((4 : Nat) : Int)) (ck ((0 : Int) ≤ x5 ∧ x5 < ((4 : Nat) : Int)) ((some (stL (stI σ 0 22 1) 20 (Int.toNat x5) (((stI σ 0 22 1).2 20 (Int.toNat x5)) ||| s0))).bind (fun σ141 => some σ141)))) else (if (σ.1 8 (Int.toNat x2)) = 14 then ck ((0 : Int) ≤ x5 ∧ x5 < ((4 : Nat) : Int)) ((f_X7_holds x1 x3 (σ.2 20 (Int.toNat x5)) σ).bind (fun r143 => some r143)) else (if (σ.1 8 (Int.toNat x2)) = 15 then (f_X7_raised x1 x2 s0 σ).bind (fun r147 => some r147) else some σ)))))))))))))))))
set_option maxRecDepth 100000 in
set_option maxHeartbeats 4000000 in
theorem t_X7_goes_71 {p : Program} {l : Launch} {e : Env} {s : State} {m : MethodId} {args : Array Value} {below : List Frame} {meth : Method} {c : Code} {D : va_G} {ca : Nat → ClassId} {ad : Nat → Nat} {res : Mm} (X : Cx p s m args c cX7_goes 14 RX7 (Cond.code yX7_goes cX7_goes 14 none :: tbG) D vcl ca) (hN : NM s) (hr : meth.sig.returnType = none) (hlk : meth.locks = false) : ∀ (x1 : Int) (x2 : Int) (x3 : Int) (x5 : Int) (x6 : Int64) (s0 : Int64) (σ : Mm), inR x1 → inR x2 → inR x3 → inR x5 → GX7_goes p l e s m args below meth c D ca ad res 71 [(0, .ref (ad 0)), (1, .int (oi x1)), (2, .int (oi x2)), (3, .int (oi x3)), (5, .int (oi x5)), (6, .long x6)] [.long s0] σ (f_X7_goes_71 x1 x2 x3 x5 x6 s0 σ) := by
  intro x1 x2 x3 x5 x6 s0 σ hx1 hx2 hx3 hx5
  unfold f_X7_goes_71
  refine q_lstore X [(8, .long s0), (0, .ref (ad 0)), (1, .int (oi x1)), (2, .int (oi x2)), (3, .int (oi x3)), (5, .int (oi x5)), (6, .long x6)] dX7_goes_71 (by decide) rfl ?_
  refine q_aload_n X dX7_goes_73 1 rfl ?_
  refine fg_X7_35 X dX7_goes_74 ?_
  refine q_iload_n X dX7_goes_77 3 rfl ?_
  refine q_iald X hM8 (by decide) dX7_goes_78 (fun h82 => ?_)
  refine q_ite (fun h83 => ?_) (fun h83 => ?_)
  · refine q_tswIn X h82 0 77 156 h83 dX7_goes_79 (by decide) rfl (by decide) ?_
    refine q_aload_n X dX7_goes_156 1 rfl ?_
    refine q_iload_n X dX7_goes_157 2 rfl ?_
    refine q_iload_n X dX7_goes_158 3 rfl ?_
    refine q_callI X NMok hN Aw_new (c_X7_newName hx1 hx2) (rn_V X (cwV 2 X.2.2.2.2.1 (tbG_good _ (tbG_V mw_1054 mw_1056 mp_4_9 mw_9 mw_1057)) rfl rfl rfl hd_X7_newName ⟨by decide, by decide⟩) hM0 rfl rfl rfl (Nat.le_of_ble_eq_true rfl) dX7_goes_159) (fun r84 _ h86 => ?_)
    refine q_istore X [(10, .int (oi r84.1)), (8, .long s0), (0, .ref (ad 0)), (1, .int (oi x1)), (2, .int (oi x2)), (3, .int (oi x3)), (5, .int (oi x5)), (6, .long x6)] dX7_goes_162 (by decide) rfl ?_
    refine q_aload_n X dX7_goes_164 2 rfl ?_
    refine fg_X7_161 X dX7_goes_165 (fun h87 => ?_)
    refine q_if_ne X h87 651 dX7_goes_168 (by decide) (fun h88 => ?_) (fun h88 => ?_)
    · refine q_aload_n X dX7_goes_171 2 rfl ?_
      refine q_iload_n X dX7_goes_172 3 rfl ?_
      refine q_iload_n X dX7_goes_173 5 rfl ?_
      refine q_lconst X 1 dX7_goes_174 rfl ?_
      refine q_iload X dX7_goes_175 0 rfl ?_
      refine q_lshl X dX7_goes_177 ?_
      refine q_callV X NMok hN Aw_new (c_X7_holds hx1 hx3) (rn_V X (cwV 3 X.2.2.2.2.1 (tbG_good _ (tbG_V mw_1062 mw_1064 mp_4_11 mw_9 mw_1065)) rfl rfl rfl hd_X7_holds ⟨by decide, by decide⟩) hM0 rfl rfl rfl (Nat.le_of_ble_eq_true rfl) dX7_goes_178) (fun r89 _ => ?_)
      refine q_goto X 651 dX7_goes_181 (by decide) ?_
      exact q_vret X hr hlk dX7_goes_651
    · exact q_vret X hr hlk dX7_goes_651
  · refine q_ite (fun h92 => ?_) (fun h92 => ?_)
    · refine q_tswIn X h82 1 77 156 h92 dX7_goes_79 (by decide) rfl (by decide) ?_
      refine q_aload_n X dX7_goes_156 1 rfl ?_
      refine q_iload_n X dX7_goes_157 2 rfl ?_
      refine q_iload_n X dX7_goes_158 3 rfl ?_
      refine q_callI X NMok hN Aw_new (c_X7_newName hx1 hx2) (rn_V X (cwV 2 X.2.2.2.2.1 (tbG_good _ (tbG_V mw_1054 mw_1056 mp_4_9 mw_9 mw_1057)) rfl rfl rfl hd_X7_newName ⟨by decide, by decide⟩) hM0 rfl rfl rfl (Nat.le_of_ble_eq_true rfl) dX7_goes_159) (fun r93 _ h95 => ?_)
      refine q_istore X [(10, .int (oi r93.1)), (8, .long s0), (0, .ref (ad 0)), (1, .int (oi x1)), (2, .int (oi x2)), (3, .int (oi x3)), (5, .int (oi x5)), (6, .long x6)] dX7_goes_162 (by decide) rfl ?_
      refine q_aload_n X dX7_goes_164 2 rfl ?_
      refine fg_X7_161 X dX7_goes_165 (fun h96 => ?_)
      refine q_if_ne X h96 651 dX7_goes_168 (by decide) (fun h97 => ?_) (fun h97 => ?_)
      · refine q_aload_n X dX7_goes_171 2 rfl ?_
        refine q_iload_n X dX7_goes_172 3 rfl ?_
        refine q_iload_n X dX7_goes_173 5 rfl ?_
        refine q_lconst X 1 dX7_goes_174 rfl ?_
        refine q_iload X dX7_goes_175 0 rfl ?_
        refine q_lshl X dX7_goes_177 ?_
        refine q_callV X NMok hN Aw_new (c_X7_holds hx1 hx3) (rn_V X (cwV 3 X.2.2.2.2.1 (tbG_good _ (tbG_V mw_1062 mw_1064 mp_4_11 mw_9 mw_1065)) rfl rfl rfl hd_X7_holds ⟨by decide, by decide⟩) hM0 rfl rfl rfl (Nat.le_of_ble_eq_true rfl) dX7_goes_178) (fun r98 _ => ?_)
        refine q_goto X 651 dX7_goes_181 (by decide) ?_
        exact q_vret X hr hlk dX7_goes_651
      · exact q_vret X hr hlk dX7_goes_651
    · refine q_ite (fun h101 => ?_) (fun h101 => ?_)
      · refine q_tswIn X h82 2 105 184 h101 dX7_goes_79 (by decide) rfl (by decide) ?_
        refine q_aload_n X dX7_goes_184 1 rfl ?_
        refine q_iload_n X dX7_goes_185 2 rfl ?_
        refine q_iload_n X dX7_goes_186 4 rfl ?_
        refine q_lload X dX7_goes_187 6 rfl ?_
        refine q_callV X NMok hN Aw_new (c_X7_holds hx1 hx3) (rn_V X (cwV 3 X.2.2.2.2.1 (tbG_good _ (tbG_V mw_1062 mw_1064 mp_4_11 mw_9 mw_1065)) rfl rfl rfl hd_X7_holds ⟨by decide, by decide⟩) hM0 rfl rfl rfl (Nat.le_of_ble_eq_true rfl) dX7_goes_189) (fun r102 _ => ?_)
        refine q_goto X 651 dX7_goes_192 (by decide) ?_
        exact q_vret X hr hlk dX7_goes_651
      · refine q_ite (fun h105 => ?_) (fun h105 => ?_)
        · refine q_tswIn X h82 3 572 651 h105 dX7_goes_79 (by decide) rfl (by decide) ?_
          exact q_vret X hr hlk dX7_goes_651
        · refine q_ite (fun h106 => ?_) (fun h106 => ?_)
          · refine q_tswIn X h82 4 116 195 h106 dX7_goes_79 (by decide) rfl (by decide) ?_
            refine q_iconst X dX7_goes_195 ?_
            refine q_istore X [(11, .int (oi 0)), (8, .long s0), (0, .ref (ad 0)), (1, .int (oi x1)), (2, .int (oi x2)), (3, .int (oi x3)), (5, .int (oi x5)), (6, .long x6)] dX7_goes_196 (by decide) rfl ?_
            refine q_sub [(0, .ref (ad 0)), (1, .int (oi x1)), (2, .int (oi x2)), (3, .int (oi x3)), (5, .int (oi x5)), (6, .long x6), (11, .int (oi 0))] [2, 3, 4, 5, 6, 7, 0] rfl ?_
            exact t_X7_goes_198 X hN hr hlk 2000 x1 x2 x3 x5 x6 0 σ hx1 hx2 hx3 hx5 (by decide)
          · refine q_ite (fun h107 => ?_) (fun h107 => ?_)
            · refine q_tswIn X h82 5 207 286 h107 dX7_goes_79 (by decide) rfl (by decide) ?_
              refine q_iconst X dX7_goes_286 ?_
              refine q_istore X [(11, .int (oi 0)), (8, .long s0), (0, .ref (ad 0)), (1, .int (oi x1)), (2, .int (oi x2)), (3, .int (oi x3)), (5, .int (oi x5)), (6, .long x6)] dX7_goes_287 (by decide) rfl ?_
              refine q_sub [(0, .ref (ad 0)), (5, .int (oi x5)), (6, .long x6), (8, .long s0), (11, .int (oi 0))] [2, 6, 7, 1, 0] rfl ?_
              exact t_X7_goes_289 X hN hr hlk 2000 x5 x6 s0 0 σ hx5 (by decide)
            · refine q_ite (fun h108 => ?_) (fun h108 => ?_)
              · refine q_tswIn X h82 6 116 195 h108 dX7_goes_79 (by decide) rfl (by decide) ?_
                refine q_iconst X dX7_goes_195 ?_
                refine q_istore X [(11, .int (oi 0)), (8, .long s0), (0, .ref (ad 0)), (1, .int (oi x1)), (2, .int (oi x2)), (3, .int (oi x3)), (5, .int (oi x5)), (6, .long x6)] dX7_goes_196 (by decide) rfl ?_
                refine q_sub [(0, .ref (ad 0)), (1, .int (oi x1)), (2, .int (oi x2)), (3, .int (oi x3)), (5, .int (oi x5)), (6, .long x6), (11, .int (oi 0))] [2, 3, 4, 5, 6, 7, 0] rfl ?_
                exact t_X7_goes_198 X hN hr hlk 2000 x1 x2 x3 x5 x6 0 σ hx1 hx2 hx3 hx5 (by decide)
              · refine q_ite (fun h109 => ?_) (fun h109 => ?_)
                · refine q_tswIn X h82 7 259 338 h109 dX7_goes_79 (by decide) rfl (by decide) ?_
                  refine q_iconst X dX7_goes_338 ?_
                  refine q_istore X [(11, .int (oi 0)), (8, .long s0), (0, .ref (ad 0)), (1, .int (oi x1)), (2, .int (oi x2)), (3, .int (oi x3)), (5, .int (oi x5)), (6, .long x6)] dX7_goes_339 (by decide) rfl ?_
                  refine q_sub [(0, .ref (ad 0)), (6, .long x6), (8, .long s0), (11, .int (oi 0))] [2, 7, 1, 0] rfl ?_
                  exact t_X7_goes_341 X hN hr hlk 2000 x6 s0 0 σ (by decide)
                · refine q_ite (fun h110 => ?_) (fun h110 => ?_)
                  · refine q_tswIn X h82 8 326 405 h110 dX7_goes_79 (by decide) rfl (by decide) ?_
                    refine q_aload_n X dX7_goes_405 1 rfl ?_
                    refine q_iload_n X dX7_goes_406 2 rfl ?_
                    refine q_iload_n X dX7_goes_407 4 rfl ?_
                    refine q_aload_n X dX7_goes_408 1 rfl ?_
                    refine q_lload X dX7_goes_409 6 rfl ?_
                    refine q_iload X dX7_goes_411 5 rfl ?_
                    refine q_callLp X NMok hN Aw_new (c_X7_below hx5) (rn_V X (cwV 2 X.2.2.2.2.1 (tbG_good _ (tbG_V mw_1074 mw_1076 mp_4_14 mw_9 mw_1077)) rfl rfl rfl hd_X7_below ⟨by decide, by decide⟩) hM0 rfl rfl rfl (Nat.le_of_ble_eq_true rfl) dX7_goes_413) (fun r111 _ => ?_)
                    refine q_callV X NMok hN Aw_new (c_X7_holds hx1 hx3) (rn_V X (cwV 3 X.2.2.2.2.1 (tbG_good _ (tbG_V mw_1062 mw_1064 mp_4_11 mw_9 mw_1065)) rfl rfl rfl hd_X7_holds ⟨by decide, by decide⟩) hM0 rfl rfl rfl (Nat.le_of_ble_eq_true rfl) dX7_goes_416) (fun r114 _ => ?_)
                    refine q_goto X 651 dX7_goes_419 (by decide) ?_
                    exact q_vret X hr hlk dX7_goes_651
                  · refine q_ite (fun h117 => ?_) (fun h117 => ?_)
                    · refine q_tswIn X h82 9 343 422 h117 dX7_goes_79 (by decide) rfl (by decide) ?_
                      refine q_iconst X dX7_goes_422 ?_
                      refine q_istore X [(11, .int (oi 0)), (8, .long s0), (0, .ref (ad 0)), (1, .int (oi x1)), (2, .int (oi x2)), (3, .int (oi x3)), (5, .int (oi x5)), (6, .long x6)] dX7_goes_423 (by decide) rfl ?_
                      refine q_sub [(0, .ref (ad 0)), (1, .int (oi x1)), (2, .int (oi x2)), (5, .int (oi x5)), (6, .long x6), (11, .int (oi 0))] [2, 3, 4, 6, 7, 0] rfl ?_
                      exact t_X7_goes_425 X hN hr hlk 2000 x1 x2 x5 x6 0 σ hx1 hx2 hx5 (by decide)
                    · refine q_ite (fun h118 => ?_) (fun h118 => ?_)
                      · refine q_tswIn X h82 10 448 527 h118 dX7_goes_79 (by decide) rfl (by decide) ?_
                        refine q_aload_n X dX7_goes_527 1 rfl ?_
                        refine q_iload_n X dX7_goes_528 2 rfl ?_
                        refine q_iload_n X dX7_goes_529 3 rfl ?_
                        refine q_iconst X dX7_goes_530 ?_
                        refine q_callV X NMok hN Aw_new (c_X7_context hx1 hx2 (by decide)) (rn_V X (cwV 3 X.2.2.2.2.1 (tbG_good _ (tbG_V mw_1090 mw_1092 mp_5_2 mw_9 mw_1093)) rfl rfl rfl hd_X7_context ⟨by decide, by decide⟩) hM0 rfl rfl rfl (Nat.le_of_ble_eq_true rfl) dX7_goes_531) (fun r119 _ => ?_)
                        refine q_aload_n X dX7_goes_534 1 rfl ?_
                        refine q_iload X dX7_goes_535 5 rfl ?_
                        refine q_callI X NMok hN Aw_new (c_X7_newNode hx5) (rn_V X (cwV 1 X.2.2.2.2.1 (tbG_good _ (tbG_V mw_1042 mw_1044 mp_4_6 mw_9 mw_1045)) rfl rfl rfl hd_X7_newNode ⟨by decide, by decide⟩) hM0 rfl rfl rfl (Nat.le_of_ble_eq_true rfl) dX7_goes_537) (fun r122 _ h124 => ?_)
                        refine q_istore X [(11, .int (oi r122.1)), (8, .long s0), (0, .ref (ad 0)), (1, .int (oi x1)), (2, .int (oi x2)), (3, .int (oi x3)), (5, .int (oi x5)), (6, .long x6)] dX7_goes_540 (by decide) rfl ?_
                        refine q_aload_n X dX7_goes_542 2 rfl ?_
                        refine fg_X7_161 X dX7_goes_543 (fun h125 => ?_)
                        refine q_if_ne X h125 651 dX7_goes_546 (by decide) (fun h126 => ?_) (fun h126 => ?_)
                        · refine q_aload_n X dX7_goes_549 2 rfl ?_
                          refine q_iload_n X dX7_goes_550 3 rfl ?_
                          refine q_iload_n X dX7_goes_551 4 rfl ?_
                          refine q_iload X dX7_goes_552 0 rfl ?_
                          refine q_callV X NMok hN Aw_new (c_X7_joins hx1 hx2 h124) (rn_V X (cwV 3 X.2.2.2.2.1 (tbG_good _ (tbG_V mw_1094 mw_1096 mp_5_3 mw_9 mw_1097)) rfl rfl rfl hd_X7_joins ⟨by decide, by decide⟩) hM0 rfl rfl rfl (Nat.le_of_ble_eq_true rfl) dX7_goes_554) (fun r127 _ => ?_)
                          refine q_goto X 651 dX7_goes_557 (by decide) ?_
                          exact q_vret X hr hlk dX7_goes_651
                        · exact q_vret X hr hlk dX7_goes_651
                      · refine q_ite (fun h130 => ?_) (fun h130 => ?_)
                        · refine q_tswIn X h82 11 481 560 h130 dX7_goes_79 (by decide) rfl (by decide) ?_
                          refine q_aload_n X dX7_goes_560 1 rfl ?_
                          refine q_iload_n X dX7_goes_561 2 rfl ?_
                          refine q_bipush X dX7_goes_562 (by decide) ?_
                          refine q_lload X dX7_goes_564 0 rfl ?_
                          refine q_callV X NMok hN Aw_new (c_X7_holds hx1 (by decide)) (rn_V X (cwV 3 X.2.2.2.2.1 (tbG_good _ (tbG_V mw_1062 mw_1064 mp_4_11 mw_9 mw_1065)) rfl rfl rfl hd_X7_holds ⟨by decide, by decide⟩) hM0 rfl rfl rfl (Nat.le_of_ble_eq_true rfl) dX7_goes_566) (fun r131 _ => ?_)
                          refine q_goto X 651 dX7_goes_569 (by decide) ?_
                          exact q_vret X hr hlk dX7_goes_651
                        · refine q_ite (fun h134 => ?_) (fun h134 => ?_)
                          · refine q_tswIn X h82 12 572 651 h134 dX7_goes_79 (by decide) rfl (by decide) ?_
                            exact q_vret X hr hlk dX7_goes_651
                          · refine q_ite (fun h135 => ?_) (fun h135 => ?_)
                            · refine q_tswIn X h82 13 493 572 h135 dX7_goes_79 (by decide) rfl (by decide) ?_
                              refine q_aload_n X dX7_goes_572 1 rfl ?_
                              refine q_aload_n X dX7_goes_573 1 rfl ?_
                              refine fg_X7_164 X dX7_goes_574 (fun h136 => ?_)
                              refine q_if_ne X h136 601 dX7_goes_577 (by decide) (fun h137 => ?_) (fun h137 => ?_)
                              · refine q_aload_n X dX7_goes_580 1 rfl ?_
                                refine fg_X7_72 X dX7_goes_581 ?_
                                refine q_iload X dX7_goes_584 5 rfl ?_
                                refine q_lald X hM20 (by decide) dX7_goes_586 ?_
                                refine q_lload X dX7_goes_587 0 rfl ?_
                                refine q_lor X dX7_goes_589 ?_
                                refine q_aload_n X dX7_goes_590 1 rfl ?_
                                refine fg_X7_72 X dX7_goes_591 ?_
                                refine q_iload X dX7_goes_594 5 rfl ?_
                                refine q_lald X hM20 (by decide) dX7_goes_596 ?_
                                refine q_lcmp_eq X 605 dX7_goes_597 dX7_goes_598 (by decide) (fun h138 => ?_) (fun h138 => ?_)
                                · refine q_iconst X dX7_goes_605 ?_
                                  refine fp_X7_164 X (Or.inl rfl) dX7_goes_606 ?_
                                  refine q_aload_n X dX7_goes_609 1 rfl ?_
                                  refine fg_X7_72 X dX7_goes_610 ?_
                                  refine q_iload X dX7_goes_613 5 rfl ?_
                                  refine q_dup2 X dX7_goes_615 rfl rfl ?_
                                  refine q_lald X hM20 (by decide) dX7_goes_616 ?_
                                  refine q_lload X dX7_goes_617 0 rfl ?_
                                  refine q_lor X dX7_goes_619 ?_
                                  refine q_last X hM20 (by decide) dX7_goes_620 ?_
                                  refine q_nm (fun σ139 => ?_)
                                  refine q_goto X 651 dX7_goes_621 (by decide) ?_
                                  exact q_vret X hr hlk dX7_goes_651
                                · refine q_iconst X dX7_goes_601 ?_
                                  refine q_goto X 606 dX7_goes_602 (by decide) ?_
                                  refine fp_X7_164 X (Or.inr rfl) dX7_goes_606 ?_
                                  refine q_aload_n X dX7_goes_609 1 rfl ?_
                                  refine fg_X7_72 X dX7_goes_610 ?_
                                  refine q_iload X dX7_goes_613 5 rfl ?_
                                  refine q_dup2 X dX7_goes_615 rfl rfl ?_
                                  refine q_lald X hM20 (by decide) dX7_goes_616 ?_
                                  refine q_lload X dX7_goes_617 0 rfl ?_
                                  refine q_lor X dX7_goes_619 ?_
                                  refine q_last X hM20 (by decide) dX7_goes_620 ?_
                                  refine q_nm (fun σ140 => ?_)
                                  refine q_goto X 651 dX7_goes_621 (by decide) ?_
                                  exact q_vret X hr hlk dX7_goes_651
                              · refine q_iconst X dX7_goes_601 ?_
                                refine q_goto X 606 dX7_goes_602 (by decide) ?_
                                refine fp_X7_164 X (Or.inr rfl) dX7_goes_606 ?_
                                refine q_aload_n X dX7_goes_609 1 rfl ?_
                                refine fg_X7_72 X dX7_goes_610 ?_
                                refine q_iload X dX7_goes_613 5 rfl ?_
                                refine q_dup2 X dX7_goes_615 rfl rfl ?_
                                refine q_lald X hM20 (by decide) dX7_goes_616 ?_
                                refine q_lload X dX7_goes_617 0 rfl ?_
                                refine q_lor X dX7_goes_619 ?_
                                refine q_last X hM20 (by decide) dX7_goes_620 ?_
                                refine q_nm (fun σ141 => ?_)
                                refine q_goto X 651 dX7_goes_621 (by decide) ?_
                                exact q_vret X hr hlk dX7_goes_651
                            · refine q_ite (fun h142 => ?_) (fun h142 => ?_)
                              · refine q_tswIn X h82 14 545 624 h142 dX7_goes_79 (by decide) rfl (by decide) ?_
                                refine q_aload_n X dX7_goes_624 1 rfl ?_
                                refine q_iload_n X dX7_goes_625 2 rfl ?_
                                refine q_iload_n X dX7_goes_626 4 rfl ?_
                                refine q_aload_n X dX7_goes_627 1 rfl ?_
                                refine fg_X7_72 X dX7_goes_628 ?_
                                refine q_iload X dX7_goes_631 5 rfl ?_
                                refine q_lald X hM20 (by decide) dX7_goes_633 ?_
                                refine q_callV X NMok hN Aw_new (c_X7_holds hx1 hx3) (rn_V X (cwV 3 X.2.2.2.2.1 (tbG_good _ (tbG_V mw_1062 mw_1064 mp_4_11 mw_9 mw_1065)) rfl rfl rfl hd_X7_holds ⟨by decide, by decide⟩) hM0 rfl rfl rfl (Nat.le_of_ble_eq_true rfl) dX7_goes_634) (fun r143 _ => ?_)
                                refine q_goto X 651 dX7_goes_637 (by decide) ?_
                                exact q_vret X hr hlk dX7_goes_651
                              · refine q_ite (fun h146 => ?_) (fun h146 => ?_)
                                · refine q_tswIn X h82 15 561 640 h146 dX7_goes_79 (by decide) rfl (by decide) ?_
                                  refine q_aload_n X dX7_goes_640 1 rfl ?_
                                  refine q_iload_n X dX7_goes_641 2 rfl ?_
                                  refine q_iload_n X dX7_goes_642 3 rfl ?_
                                  refine q_lload X dX7_goes_643 0 rfl ?_
                                  refine q_callV X NMok hN Aw_new (c_X7_raised hx1 hx2) (rn_V X (cwV 3 X.2.2.2.2.1 (tbG_good _ (tbG_V mw_1098 mw_1100 mp_5_4 mw_9 mw_1101)) rfl rfl rfl hd_X7_raised ⟨by decide, by decide⟩) hM0 rfl rfl rfl (Nat.le_of_ble_eq_true rfl) dX7_goes_645) (fun r147 _ => ?_)
                                  refine q_goto X 651 dX7_goes_648 (by decide) ?_
                                  exact q_vret X hr hlk dX7_goes_651
                                · refine q_tswOut X h82 651 (by omega) dX7_goes_79 (by decide) ?_
                                  exact q_vret X hr hlk dX7_goes_651
def f_X7_goes_47 (x1 : Int) (x2 : Int) (x3 : Int) (x5 : Int) (s0 : Int64) (σ : Mm) : Option (Mm) :=
  (f_X7_isVar x3 σ).bind (fun r150 => (if r150 = 0 then f_X7_goes_71 x1 x2 x3 x5 s0 0 σ else ck ((0 : Int) ≤ ((8 * x1) + x3) ∧ ((8 * x1) + x3) < ((640 : Nat) : Int)) (f_X7_goes_71 x1 x2 x3 x5 s0 (σ.2 16 (Int.toNat ((8 * x1) + x3))) σ)))
set_option maxRecDepth 100000 in
set_option maxHeartbeats 4000000 in
theorem t_X7_goes_47 {p : Program} {l : Launch} {e : Env} {s : State} {m : MethodId} {args : Array Value} {below : List Frame} {meth : Method} {c : Code} {D : va_G} {ca : Nat → ClassId} {ad : Nat → Nat} {res : Mm} (X : Cx p s m args c cX7_goes 14 RX7 (Cond.code yX7_goes cX7_goes 14 none :: tbG) D vcl ca) (hN : NM s) (hr : meth.sig.returnType = none) (hlk : meth.locks = false) : ∀ (x1 : Int) (x2 : Int) (x3 : Int) (x5 : Int) (s0 : Int64) (σ : Mm), inR x1 → inR x2 → inR x3 → inR x5 → GX7_goes p l e s m args below meth c D ca ad res 47 [(0, .ref (ad 0)), (1, .int (oi x1)), (2, .int (oi x2)), (3, .int (oi x3)), (5, .int (oi x5))] [.long s0] σ (f_X7_goes_47 x1 x2 x3 x5 s0 σ) := by
  intro x1 x2 x3 x5 s0 σ hx1 hx2 hx3 hx5
  unfold f_X7_goes_47
  refine q_lstore X [(6, .long s0), (0, .ref (ad 0)), (1, .int (oi x1)), (2, .int (oi x2)), (3, .int (oi x3)), (5, .int (oi x5))] dX7_goes_47 (by decide) rfl ?_
  refine q_iload_n X dX7_goes_49 4 rfl ?_
  refine q_callIp X NMok hN Aw_new (c_X7_isVar hx3) (rn_S X (va_cwS 1 X.2.2.2.2.1 (tbG_good _ (tbG_S mw_1023 mw_1024 mw_9 mw_1025)) rfl rfl rfl hd_X7_isVar ⟨by decide, by decide⟩) rfl rfl (Nat.le_of_ble_eq_true rfl) dX7_goes_50) (fun r150 _ h152 => ?_)
  refine q_if_eq X h152 70 dX7_goes_53 (by decide) (fun h153 => ?_) (fun h153 => ?_)
  · refine q_lconst X 0 dX7_goes_70 rfl ?_
    refine q_sub [(0, .ref (ad 0)), (1, .int (oi x1)), (2, .int (oi x2)), (3, .int (oi x3)), (5, .int (oi x5)), (6, .long s0)] [1, 2, 3, 4, 5, 0] rfl ?_
    exact t_X7_goes_71 X hN hr hlk x1 x2 x3 x5 s0 0 σ hx1 hx2 hx3 hx5
  · refine q_aload_n X dX7_goes_56 1 rfl ?_
    refine fg_X7_59 X dX7_goes_57 ?_
    refine q_bipush X dX7_goes_60 (by decide) ?_
    refine q_iload_n X dX7_goes_62 2 rfl ?_
    refine q_imul X dX7_goes_63 ?_
    refine q_iload_n X dX7_goes_64 4 rfl ?_
    refine q_iadd X dX7_goes_65 ?_
    refine q_lald X hM16 (by decide) dX7_goes_66 ?_
    refine q_goto X 71 dX7_goes_67 (by decide) ?_
    refine q_sub [(0, .ref (ad 0)), (1, .int (oi x1)), (2, .int (oi x2)), (3, .int (oi x3)), (5, .int (oi x5)), (6, .long s0)] [1, 2, 3, 4, 5, 0] rfl ?_
    exact t_X7_goes_71 X hN hr hlk x1 x2 x3 x5 s0 (σ.2 16 (Int.toNat ((8 * x1) + x3))) σ hx1 hx2 hx3 hx5
def f_X7_goes (x1 : Int) (x2 : Int) (σ : Mm) : Option (Mm) :=
  ck ((0 : Int) ≤ x2 ∧ x2 < ((90 : Nat) : Int)) (ck ((0 : Int) ≤ x2 ∧ x2 < ((90 : Nat) : Int)) (ck ((0 : Int) ≤ x2 ∧ x2 < ((90 : Nat) : Int)) ((f_X7_isVar (σ.1 10 (Int.toNat x2)) σ).bind (fun r157 => (if r157 = 0 then f_X7_goes_47 x1 x2 (σ.1 9 (Int.toNat x2)) (σ.1 11 (Int.toNat x2)) 0 σ else ck ((0 : Int) ≤ ((8 * x1) + (σ.1 10 (Int.toNat x2))) ∧ ((8 * x1) + (σ.1 10 (Int.toNat x2))) < ((640 : Nat) : Int)) (f_X7_goes_47 x1 x2 (σ.1 9 (Int.toNat x2)) (σ.1 11 (Int.toNat x2)) (σ.2 16 (Int.toNat ((8 * x1) + (σ.1 10 (Int.toNat x2))))) σ))))))
theorem hd_X7_goes : yX7_goes.cls = RX7 ∧ yX7_goes.cls ≠ "java/lang/invoke/MethodHandle" ∧ yX7_goes.cls ≠ "java/lang/invoke/VarHandle" ∧ (parseMethodDescriptor yX7_goes.desc).map (fun d => d.parameters.length) = some 2 := by decide +kernel
set_option maxRecDepth 100000 in
set_option maxHeartbeats 4000000 in
theorem c_X7_goes {l : Launch} {D : va_G} {ca : Nat → ClassId} {ad : Nat → Nat} {x1 : Int} {x2 : Int} (hx1 : inR x1) (hx2 : inR x2) {σ : Mm} : CtV l D vcl ca ad shM NM yX7_goes (Cond.code yX7_goes cX7_goes 14 none :: tbG) { frames := 4, cells := 0, slots := 0, locals := 103 } [.ref (ad 0), .int (oi x1), .int (oi x2)] σ (f_X7_goes x1 x2 σ) := by
  refine ct_V RX7 rfl (by decide) rfl (Nat.le_of_ble_eq_true rfl) (fun p e s m below meth c res X hN hr hlk => ?_)
  show GX7_goes p l e s m _ below meth c D ca ad res 0 [(0, .ref (ad 0)), (1, .int (oi x1)), (2, .int (oi x2))] [] σ (f_X7_goes x1 x2 σ)
  unfold f_X7_goes
  refine q_aload_n X dX7_goes_0 0 rfl ?_
  refine fg_X7_38 X dX7_goes_1 ?_
  refine q_iload_n X dX7_goes_4 2 rfl ?_
  refine q_iald X hM9 (by decide) dX7_goes_5 (fun h154 => ?_)
  refine q_istore_n X [(3, .int (oi (σ.1 9 (Int.toNat x2)))), (0, .ref (ad 0)), (1, .int (oi x1)), (2, .int (oi x2))] dX7_goes_6 (by decide) rfl ?_
  refine q_aload_n X dX7_goes_7 1 rfl ?_
  refine fg_X7_41 X dX7_goes_8 ?_
  refine q_iload_n X dX7_goes_11 3 rfl ?_
  refine q_iald X hM10 (by decide) dX7_goes_12 (fun h155 => ?_)
  refine q_istore X [(4, .int (oi (σ.1 10 (Int.toNat x2)))), (3, .int (oi (σ.1 9 (Int.toNat x2)))), (0, .ref (ad 0)), (1, .int (oi x1)), (2, .int (oi x2))] dX7_goes_13 (by decide) rfl ?_
  refine q_aload_n X dX7_goes_15 2 rfl ?_
  refine fg_X7_44 X dX7_goes_16 ?_
  refine q_iload_n X dX7_goes_19 4 rfl ?_
  refine q_iald X hM11 (by decide) dX7_goes_20 (fun h156 => ?_)
  refine q_istore X [(5, .int (oi (σ.1 11 (Int.toNat x2)))), (4, .int (oi (σ.1 10 (Int.toNat x2)))), (3, .int (oi (σ.1 9 (Int.toNat x2)))), (0, .ref (ad 0)), (1, .int (oi x1)), (2, .int (oi x2))] dX7_goes_21 (by decide) rfl ?_
  refine q_iload X dX7_goes_23 1 rfl ?_
  refine q_callIp X NMok hN Aw_new (c_X7_isVar h155) (rn_S X (va_cwS 1 X.2.2.2.2.1 (tbG_good _ (tbG_S mw_1023 mw_1024 mw_9 mw_1025)) rfl rfl rfl hd_X7_isVar ⟨by decide, by decide⟩) rfl rfl (Nat.le_of_ble_eq_true rfl) dX7_goes_25) (fun r157 _ h159 => ?_)
  refine q_if_eq X h159 46 dX7_goes_28 (by decide) (fun h160 => ?_) (fun h160 => ?_)
  · refine q_lconst X 0 dX7_goes_46 rfl ?_
    refine q_sub [(0, .ref (ad 0)), (1, .int (oi x1)), (2, .int (oi x2)), (3, .int (oi (σ.1 9 (Int.toNat x2)))), (5, .int (oi (σ.1 11 (Int.toNat x2))))] [3, 4, 5, 2, 0] rfl ?_
    exact t_X7_goes_47 X hN hr hlk x1 x2 (σ.1 9 (Int.toNat x2)) (σ.1 11 (Int.toNat x2)) 0 σ hx1 hx2 h154 h156
  · refine q_aload_n X dX7_goes_31 3 rfl ?_
    refine fg_X7_59 X dX7_goes_32 ?_
    refine q_bipush X dX7_goes_35 (by decide) ?_
    refine q_iload_n X dX7_goes_37 4 rfl ?_
    refine q_imul X dX7_goes_38 ?_
    refine q_iload X dX7_goes_39 1 rfl ?_
    refine q_iadd X dX7_goes_41 ?_
    refine q_lald X hM16 (by decide) dX7_goes_42 ?_
    refine q_goto X 47 dX7_goes_43 (by decide) ?_
    refine q_sub [(0, .ref (ad 0)), (1, .int (oi x1)), (2, .int (oi x2)), (3, .int (oi (σ.1 9 (Int.toNat x2)))), (5, .int (oi (σ.1 11 (Int.toNat x2))))] [3, 4, 5, 2, 0] rfl ?_
    exact t_X7_goes_47 X hN hr hlk x1 x2 (σ.1 9 (Int.toNat x2)) (σ.1 11 (Int.toNat x2)) (σ.2 16 (Int.toNat ((8 * x1) + (σ.1 10 (Int.toNat x2))))) σ hx1 hx2 h154 h156

/-! SiteObjectsModel.finds()V -/
abbrev GX7_finds (p : Program) (l : Launch) (e : Env) (s : State) (m : MethodId) (args : Array Value) (below : List Frame) (meth : Method) (c : Code) (D : va_G) (ca : Nat → ClassId) (ad : Nat → Nat) (res : Mm) : Nat → List (Nat × Value) → List Value → Mm → Option (Mm) → Prop := G p l e { frames := 5, cells := 0, slots := 0, locals := 136 } s m args below meth c (MQ below (QcV D vcl ca ad shM s.heap.size res) args s 0 0 (Aw ad shM.length s.heap.size)) 4 D vcl ca ad shM (Aw ad shM.length s.heap.size) res
def f_X7_finds_112 (k95 : Int → Mm → Option (Mm)) : Nat → Int → Int → Mm → Option (Mm)
  | 0, _, _, _ => none
  | n + 1, x2, x3, σ => ck ((0 : Int) ≤ x2 ∧ x2 < ((80 : Nat) : Int)) (ck ((0 : Int) ≤ (σ.1 13 (Int.toNat x2)) ∧ (σ.1 13 (Int.toNat x2)) < ((12 : Nat) : Int)) ((if (σ.1 4 (Int.toNat (σ.1 13 (Int.toNat x2)))) ≤ x3 then ck (inR (x2 + 1)) (k95 (x2 + 1) σ) else (if (σ.1 0 23) = 0 then ck ((0 : Int) ≤ x2 ∧ x2 < ((80 : Nat) : Int)) (ck ((0 : Int) ≤ ((90 * (σ.1 13 (Int.toNat x2))) + x3) ∧ ((90 * (σ.1 13 (Int.toNat x2))) + x3) < ((1080 : Nat) : Int)) ((f_X7_goes x2 (σ.1 5 (Int.toNat ((90 * (σ.1 13 (Int.toNat x2))) + x3))) σ).bind (fun r9 => ck (inR (x3 + 1)) (f_X7_finds_112 k95 n x2 (x3 + 1) r9)))) else ck (inR (x2 + 1)) (k95 (x2 + 1) σ)))))
set_option maxRecDepth 100000 in
set_option maxHeartbeats 4000000 in
theorem t_X7_finds_112 {p : Program} {l : Launch} {e : Env} {s : State} {m : MethodId} {args : Array Value} {below : List Frame} {meth : Method} {c : Code} {D : va_G} {ca : Nat → ClassId} {ad : Nat → Nat} {res : Mm} {k95 : Int → Mm → Option (Mm)} (X : Cx p s m args c cX7_finds 4 RX7 (Cond.code yX7_finds cX7_finds 4 none :: tbG) D vcl ca) (hN : NM s) (hr : meth.sig.returnType = none) (hlk : meth.locks = false) (hk95 : ∀ (x2 : Int) (σ : Mm), inR x2 → GX7_finds p l e s m args below meth c D ca ad res 95 [(0, .ref (ad 0)), (2, .int (oi x2))] [] σ (k95 x2 σ)) : ∀ (n : Nat) (x2 : Int) (x3 : Int) (σ : Mm), inR x2 → inR x3 → GX7_finds p l e s m args below meth c D ca ad res 112 [(0, .ref (ad 0)), (2, .int (oi x2)), (3, .int (oi x3))] [] σ (f_X7_finds_112 k95 n x2 x3 σ)
  := by
  intro n
  induction n with
  | zero => intro x2 x3 σ hx2 hx3 h; cases h
  | succ n ih =>
    intro x2 x3 σ hx2 hx3
    rw [f_X7_finds_112]
    refine q_iload_n X dX7_finds_112 2 rfl ?_
    refine q_aload_n X dX7_finds_113 0 rfl ?_
    refine fg_X7_23 X dX7_finds_114 ?_
    refine q_aload_n X dX7_finds_117 0 rfl ?_
    refine fg_X7_50 X dX7_finds_118 ?_
    refine q_iload_n X dX7_finds_121 1 rfl ?_
    refine q_iald X hM13 (by decide) dX7_finds_122 (fun h1 => ?_)
    refine q_iald X hM4 (by decide) dX7_finds_123 (fun h2 => ?_)
    refine q_icmp_ge X hx3 h2 161 dX7_finds_124 (by decide) (fun h3 => ?_) (fun h3 => ?_)
    · refine q_iinc X [(2, .int (oi (x2 + 1))), (0, .ref (ad 0)), (3, .int (oi x3))] dX7_finds_161 (by decide) 1 rfl rfl (fun h4 => ?_)
      refine q_goto X 95 dX7_finds_164 (by decide) ?_
      refine q_sub [(0, .ref (ad 0)), (2, .int (oi (x2 + 1)))] [1, 0] rfl ?_
      exact hk95 (x2 + 1) σ h4
    · refine q_aload_n X dX7_finds_127 0 rfl ?_
      refine fg_X7_161 X dX7_finds_128 (fun h5 => ?_)
      refine q_if_ne X h5 161 dX7_finds_131 (by decide) (fun h6 => ?_) (fun h6 => ?_)
      · refine q_aload_n X dX7_finds_134 0 rfl ?_
        refine q_iload_n X dX7_finds_135 1 rfl ?_
        refine q_aload_n X dX7_finds_136 0 rfl ?_
        refine fg_X7_26 X dX7_finds_137 ?_
        refine q_bipush X dX7_finds_140 (by decide) ?_
        refine q_aload_n X dX7_finds_142 0 rfl ?_
        refine fg_X7_50 X dX7_finds_143 ?_
        refine q_iload_n X dX7_finds_146 1 rfl ?_
        refine q_iald X hM13 (by decide) dX7_finds_147 (fun h7 => ?_)
        refine q_imul X dX7_finds_148 ?_
        refine q_iload_n X dX7_finds_149 2 rfl ?_
        refine q_iadd X dX7_finds_150 ?_
        refine q_iald X hM5 (by decide) dX7_finds_151 (fun h8 => ?_)
        refine q_callV X NMok hN Aw_new (c_X7_goes hx2 h8) (rn_V X (cwV 2 X.2.2.2.2.1 (tbG_good _ (tbG_V mw_1050 mw_1052 mp_4_8 mw_9 mw_1053)) rfl rfl rfl hd_X7_goes ⟨by decide, by decide⟩) hM0 rfl rfl rfl (Nat.le_of_ble_eq_true rfl) dX7_finds_152) (fun r9 _ => ?_)
        refine q_iinc X [(3, .int (oi (x3 + 1))), (0, .ref (ad 0)), (2, .int (oi x2))] dX7_finds_155 (by decide) 2 rfl rfl (fun h12 => ?_)
        refine q_goto X 112 dX7_finds_158 (by decide) ?_
        refine q_sub [(0, .ref (ad 0)), (2, .int (oi x2)), (3, .int (oi (x3 + 1)))] [1, 2, 0] rfl ?_
        exact ih x2 (x3 + 1) r9 hx2 h12
      · refine q_iinc X [(2, .int (oi (x2 + 1))), (0, .ref (ad 0)), (3, .int (oi x3))] dX7_finds_161 (by decide) 1 rfl rfl (fun h13 => ?_)
        refine q_goto X 95 dX7_finds_164 (by decide) ?_
        refine q_sub [(0, .ref (ad 0)), (2, .int (oi (x2 + 1)))] [1, 0] rfl ?_
        exact hk95 (x2 + 1) σ h13
def f_X7_finds_95 (k64 : Mm → Option (Mm)) : Nat → Int → Mm → Option (Mm)
  | 0, _, _ => none
  | n + 1, x2, σ => (if (σ.1 0 24) ≤ x2 then k64 σ else (if (σ.1 0 23) = 0 then f_X7_finds_112 (f_X7_finds_95 k64 n) 2000 x2 0 σ else k64 σ))
set_option maxRecDepth 100000 in
set_option maxHeartbeats 4000000 in
theorem t_X7_finds_95 {p : Program} {l : Launch} {e : Env} {s : State} {m : MethodId} {args : Array Value} {below : List Frame} {meth : Method} {c : Code} {D : va_G} {ca : Nat → ClassId} {ad : Nat → Nat} {res : Mm} {k64 : Mm → Option (Mm)} (X : Cx p s m args c cX7_finds 4 RX7 (Cond.code yX7_finds cX7_finds 4 none :: tbG) D vcl ca) (hN : NM s) (hr : meth.sig.returnType = none) (hlk : meth.locks = false) (hk64 : ∀ (σ : Mm), GX7_finds p l e s m args below meth c D ca ad res 64 [(0, .ref (ad 0))] [] σ (k64 σ)) : ∀ (n : Nat) (x2 : Int) (σ : Mm), inR x2 → GX7_finds p l e s m args below meth c D ca ad res 95 [(0, .ref (ad 0)), (2, .int (oi x2))] [] σ (f_X7_finds_95 k64 n x2 σ)
  := by
  intro n
  induction n with
  | zero => intro x2 σ hx2 h; cases h
  | succ n ih =>
    intro x2 σ hx2
    rw [f_X7_finds_95]
    refine q_iload_n X dX7_finds_95 1 rfl ?_
    refine q_aload_n X dX7_finds_96 0 rfl ?_
    refine fg_X7_108 X dX7_finds_97 (fun h14 => ?_)
    refine q_icmp_ge X hx2 h14 167 dX7_finds_100 (by decide) (fun h15 => ?_) (fun h15 => ?_)
    · refine q_goto X 64 dX7_finds_167 (by decide) ?_
      refine q_sub [(0, .ref (ad 0))] [0] rfl ?_
      exact hk64 σ
    · refine q_aload_n X dX7_finds_103 0 rfl ?_
      refine fg_X7_161 X dX7_finds_104 (fun h16 => ?_)
      refine q_if_ne X h16 167 dX7_finds_107 (by decide) (fun h17 => ?_) (fun h17 => ?_)
      · refine q_iconst X dX7_finds_110 ?_
        refine q_istore_n X [(3, .int (oi 0)), (0, .ref (ad 0)), (2, .int (oi x2))] dX7_finds_111 (by decide) rfl ?_
        refine q_sub [(0, .ref (ad 0)), (2, .int (oi x2)), (3, .int (oi 0))] [1, 2, 0] rfl ?_
        exact t_X7_finds_112 X hN hr hlk ih 2000 x2 0 σ hx2 (by decide)
      · refine q_goto X 64 dX7_finds_167 (by decide) ?_
        refine q_sub [(0, .ref (ad 0))] [0] rfl ?_
        exact hk64 σ
def f_X7_finds_64 : Nat → Mm → Option (Mm)
  | 0, _ => none
  | n + 1, σ => (if (σ.1 0 22) = 0 then some σ else (if (σ.1 0 23) = 0 then ck (inR (((stI σ 0 22 0).1 0 21) + 1)) (f_X7_finds_95 (f_X7_finds_64 n) 2000 0 (stI (stI σ 0 22 0) 0 21 (((stI σ 0 22 0).1 0 21) + 1))) else some σ))
set_option maxRecDepth 100000 in
set_option maxHeartbeats 4000000 in
theorem t_X7_finds_64 {p : Program} {l : Launch} {e : Env} {s : State} {m : MethodId} {args : Array Value} {below : List Frame} {meth : Method} {c : Code} {D : va_G} {ca : Nat → ClassId} {ad : Nat → Nat} {res : Mm} (X : Cx p s m args c cX7_finds 4 RX7 (Cond.code yX7_finds cX7_finds 4 none :: tbG) D vcl ca) (hN : NM s) (hr : meth.sig.returnType = none) (hlk : meth.locks = false) : ∀ (n : Nat) (σ : Mm), GX7_finds p l e s m args below meth c D ca ad res 64 [(0, .ref (ad 0))] [] σ (f_X7_finds_64 n σ)
  := by
  intro n
  induction n with
  | zero => intro σ h; cases h
  | succ n ih =>
    intro σ
    rw [f_X7_finds_64]
    refine q_aload_n X dX7_finds_64 0 rfl ?_
    refine fg_X7_164 X dX7_finds_65 (fun h18 => ?_)
    refine q_if_eq X h18 170 dX7_finds_68 (by decide) (fun h19 => ?_) (fun h19 => ?_)
    · exact q_vret X hr hlk dX7_finds_170
    · refine q_aload_n X dX7_finds_71 0 rfl ?_
      refine fg_X7_161 X dX7_finds_72 (fun h20 => ?_)
      refine q_if_ne X h20 170 dX7_finds_75 (by decide) (fun h21 => ?_) (fun h21 => ?_)
      · refine q_aload_n X dX7_finds_78 0 rfl ?_
        refine q_iconst X dX7_finds_79 ?_
        refine fp_X7_164 X (Or.inl rfl) dX7_finds_80 ?_
        refine q_aload_n X dX7_finds_83 0 rfl ?_
        refine q_dup X dX7_finds_84 rfl ?_
        refine fg_X7_219 X dX7_finds_85 (fun h22 => ?_)
        refine q_iconst X dX7_finds_88 ?_
        refine q_iadd X dX7_finds_89 ?_
        refine q_ck (fun h23 => ?_)
        refine fp_X7_219 X h23 dX7_finds_90 ?_
        refine q_iconst X dX7_finds_93 ?_
        refine q_istore_n X [(2, .int (oi 0)), (0, .ref (ad 0))] dX7_finds_94 (by decide) rfl ?_
        refine q_sub [(0, .ref (ad 0)), (2, .int (oi 0))] [1, 0] rfl ?_
        exact t_X7_finds_95 X hN hr hlk ih 2000 0 (stI (stI σ 0 22 0) 0 21 (((stI σ 0 22 0).1 0 21) + 1)) (by decide)
      · exact q_vret X hr hlk dX7_finds_170
def f_X7_finds_22 : Nat → Int → Mm → Option (Mm)
  | 0, _, _ => none
  | n + 1, x1, σ => (if 4 ≤ x1 then (f_X7_newNode ((stI (stI σ 0 34 (-1)) 0 35 (-1)).1 0 17) (stI (stI σ 0 34 (-1)) 0 35 (-1))).bind (fun r26 => f_X7_finds_64 1000002 (stI r26.2 0 22 1)) else ck ((0 : Int) ≤ x1 ∧ x1 < ((4 : Nat) : Int)) (ck (inR (x1 + 1)) (f_X7_finds_22 n (x1 + 1) (stL σ 20 (Int.toNat x1) 0))))
set_option maxRecDepth 100000 in
set_option maxHeartbeats 4000000 in
theorem t_X7_finds_22 {p : Program} {l : Launch} {e : Env} {s : State} {m : MethodId} {args : Array Value} {below : List Frame} {meth : Method} {c : Code} {D : va_G} {ca : Nat → ClassId} {ad : Nat → Nat} {res : Mm} (X : Cx p s m args c cX7_finds 4 RX7 (Cond.code yX7_finds cX7_finds 4 none :: tbG) D vcl ca) (hN : NM s) (hr : meth.sig.returnType = none) (hlk : meth.locks = false) : ∀ (n : Nat) (x1 : Int) (σ : Mm), inR x1 → GX7_finds p l e s m args below meth c D ca ad res 22 [(0, .ref (ad 0)), (1, .int (oi x1))] [] σ (f_X7_finds_22 n x1 σ)
  := by
  intro n
  induction n with
  | zero => intro x1 σ hx1 h; cases h
  | succ n ih =>
    intro x1 σ hx1
    rw [f_X7_finds_22]
    refine q_iload_n X dX7_finds_22 1 rfl ?_
    refine q_iconst X dX7_finds_23 ?_
    refine q_icmp_ge X hx1 (by decide) 40 dX7_finds_24 (by decide) (fun h24 => ?_) (fun h24 => ?_)
    · refine q_aload_n X dX7_finds_40 0 rfl ?_
      refine q_iconst X dX7_finds_41 ?_
      refine fp_X7_148 X (by decide) dX7_finds_42 ?_
      refine q_aload_n X dX7_finds_45 0 rfl ?_
      refine q_iconst X dX7_finds_46 ?_
      refine fp_X7_151 X (by decide) dX7_finds_47 ?_
      refine q_aload_n X dX7_finds_50 0 rfl ?_
      refine q_aload_n X dX7_finds_51 0 rfl ?_
      refine fg_X7_222 X dX7_finds_52 (fun h25 => ?_)
      refine q_callI X NMok hN Aw_new (c_X7_newNode h25) (rn_V X (cwV 1 X.2.2.2.2.1 (tbG_good _ (tbG_V mw_1042 mw_1044 mp_4_6 mw_9 mw_1045)) rfl rfl rfl hd_X7_newNode ⟨by decide, by decide⟩) hM0 rfl rfl rfl (Nat.le_of_ble_eq_true rfl) dX7_finds_55) (fun r26 _ h28 => ?_)
      refine q_istore_n X [(1, .int (oi r26.1)), (0, .ref (ad 0))] dX7_finds_58 (by decide) rfl ?_
      refine q_aload_n X dX7_finds_59 1 rfl ?_
      refine q_iconst X dX7_finds_60 ?_
      refine fp_X7_164 X (Or.inr rfl) dX7_finds_61 ?_
      refine q_sub [(0, .ref (ad 0))] [1] rfl ?_
      exact t_X7_finds_64 X hN hr hlk 1000002 (stI r26.2 0 22 1)
    · refine q_aload_n X dX7_finds_27 0 rfl ?_
      refine fg_X7_72 X dX7_finds_28 ?_
      refine q_iload_n X dX7_finds_31 1 rfl ?_
      refine q_lconst X 0 dX7_finds_32 rfl ?_
      refine q_last X hM20 (by decide) dX7_finds_33 ?_
      refine q_iinc X [(1, .int (oi (x1 + 1))), (0, .ref (ad 0))] dX7_finds_34 (by decide) 1 rfl rfl (fun h29 => ?_)
      refine q_goto X 22 dX7_finds_37 (by decide) ?_
      refine q_sub [(0, .ref (ad 0)), (1, .int (oi (x1 + 1)))] [1, 0] rfl ?_
      exact ih (x1 + 1) (stL σ 20 (Int.toNat x1) 0) h29
def f_X7_finds (σ : Mm) : Option (Mm) :=
  f_X7_finds_22 2000 0 (stI (stI (stI (stI σ 0 24 0) 0 29 0) 0 21 0) 0 23 0)
theorem hd_X7_finds : yX7_finds.cls = RX7 ∧ yX7_finds.cls ≠ "java/lang/invoke/MethodHandle" ∧ yX7_finds.cls ≠ "java/lang/invoke/VarHandle" ∧ (parseMethodDescriptor yX7_finds.desc).map (fun d => d.parameters.length) = some 0 := by decide +kernel
set_option maxRecDepth 100000 in
set_option maxHeartbeats 4000000 in
theorem c_X7_finds {l : Launch} {D : va_G} {ca : Nat → ClassId} {ad : Nat → Nat} {σ : Mm} : CtV l D vcl ca ad shM NM yX7_finds (Cond.code yX7_finds cX7_finds 4 none :: tbG) { frames := 5, cells := 0, slots := 0, locals := 136 } [.ref (ad 0)] σ (f_X7_finds σ) := by
  refine ct_V RX7 rfl (by decide) rfl (Nat.le_of_ble_eq_true rfl) (fun p e s m below meth c res X hN hr hlk => ?_)
  show GX7_finds p l e s m _ below meth c D ca ad res 0 [(0, .ref (ad 0))] [] σ (f_X7_finds σ)
  unfold f_X7_finds
  refine q_aload_n X dX7_finds_0 0 rfl ?_
  refine q_iconst X dX7_finds_1 ?_
  refine fp_X7_108 X (by decide) dX7_finds_2 ?_
  refine q_aload_n X dX7_finds_5 0 rfl ?_
  refine q_iconst X dX7_finds_6 ?_
  refine fp_X7_167 X (by decide) dX7_finds_7 ?_
  refine q_aload_n X dX7_finds_10 0 rfl ?_
  refine q_iconst X dX7_finds_11 ?_
  refine fp_X7_219 X (by decide) dX7_finds_12 ?_
  refine q_aload_n X dX7_finds_15 0 rfl ?_
  refine q_iconst X dX7_finds_16 ?_
  refine fp_X7_161 X (Or.inl rfl) dX7_finds_17 ?_
  refine q_iconst X dX7_finds_20 ?_
  refine q_istore_n X [(1, .int (oi 0)), (0, .ref (ad 0))] dX7_finds_21 (by decide) rfl ?_
  refine q_sub [(0, .ref (ad 0)), (1, .int (oi 0))] [1, 0] rfl ?_
  exact t_X7_finds_22 X hN hr hlk 2000 0 (stI (stI (stI (stI σ 0 24 0) 0 29 0) 0 21 0) 0 23 0) (by decide)

/-! SiteObjectsModel.findsAll(II)V -/
abbrev GX7_findsAll (p : Program) (l : Launch) (e : Env) (s : State) (m : MethodId) (args : Array Value) (below : List Frame) (meth : Method) (c : Code) (D : va_G) (ca : Nat → ClassId) (ad : Nat → Nat) (res : Mm) : Nat → List (Nat × Value) → List Value → Mm → Option (Mm) → Prop := G p l e { frames := 6, cells := 0, slots := 0, locals := 159 } s m args below meth c (MQ below (QcV D vcl ca ad shM s.heap.size res) args s 0 0 (Aw ad shM.length s.heap.size)) 3 D vcl ca ad shM (Aw ad shM.length s.heap.size) res
def f_X7_findsAll_14 : Nat → Mm → Option (Mm)
  | 0, _ => none
  | n + 1, σ => (if (σ.1 0 23) = 0 then some σ else ck (inR ((σ.1 0 19) - 1)) ((f_X7_finds (stI σ 0 19 ((σ.1 0 19) - 1))).bind (fun r5 => f_X7_findsAll_14 n r5)))
set_option maxRecDepth 100000 in
set_option maxHeartbeats 4000000 in
theorem t_X7_findsAll_14 {p : Program} {l : Launch} {e : Env} {s : State} {m : MethodId} {args : Array Value} {below : List Frame} {meth : Method} {c : Code} {D : va_G} {ca : Nat → ClassId} {ad : Nat → Nat} {res : Mm} (X : Cx p s m args c cX7_findsAll 3 RX7 (Cond.code yX7_findsAll cX7_findsAll 3 none :: tbG) D vcl ca) (hN : NM s) (hr : meth.sig.returnType = none) (hlk : meth.locks = false) : ∀ (n : Nat) (σ : Mm), GX7_findsAll p l e s m args below meth c D ca ad res 14 [(0, .ref (ad 0))] [] σ (f_X7_findsAll_14 n σ)
  := by
  intro n
  induction n with
  | zero => intro σ h; cases h
  | succ n ih =>
    intro σ
    rw [f_X7_findsAll_14]
    refine q_aload_n X dX7_findsAll_14 0 rfl ?_
    refine fg_X7_161 X dX7_findsAll_15 (fun h1 => ?_)
    refine q_if_eq X h1 38 dX7_findsAll_18 (by decide) (fun h2 => ?_) (fun h2 => ?_)
    · exact q_vret X hr hlk dX7_findsAll_38
    · refine q_aload_n X dX7_findsAll_21 0 rfl ?_
      refine q_dup X dX7_findsAll_22 rfl ?_
      refine fg_X7_154 X dX7_findsAll_23 (fun h3 => ?_)
      refine q_iconst X dX7_findsAll_26 ?_
      refine q_isub X dX7_findsAll_27 ?_
      refine q_ck (fun h4 => ?_)
      refine fp_X7_154 X h4 dX7_findsAll_28 ?_
      refine q_aload_n X dX7_findsAll_31 0 rfl ?_
      refine q_callV X NMok hN Aw_new c_X7_finds (rn_V X (cwV 0 X.2.2.2.2.1 (tbG_good _ (tbG_V mw_1038 mw_1040 mp_4_5 mw_9 mw_1041)) rfl rfl rfl hd_X7_finds ⟨by decide, by decide⟩) hM0 rfl rfl rfl (Nat.le_of_ble_eq_true rfl) dX7_findsAll_32) (fun r5 _ => ?_)
      refine q_goto X 14 dX7_findsAll_35 (by decide) ?_
      refine q_sub [(0, .ref (ad 0))] [0] rfl ?_
      exact ih r5
def f_X7_findsAll (x1 : Int) (x2 : Int) (σ : Mm) : Option (Mm) :=
  (f_X7_finds (stI (stI σ 0 18 x1) 0 19 x2)).bind (fun r8 => f_X7_findsAll_14 2000 r8)
theorem hd_X7_findsAll : yX7_findsAll.cls = RX7 ∧ yX7_findsAll.cls ≠ "java/lang/invoke/MethodHandle" ∧ yX7_findsAll.cls ≠ "java/lang/invoke/VarHandle" ∧ (parseMethodDescriptor yX7_findsAll.desc).map (fun d => d.parameters.length) = some 2 := by decide +kernel
set_option maxRecDepth 100000 in
set_option maxHeartbeats 4000000 in
theorem c_X7_findsAll {l : Launch} {D : va_G} {ca : Nat → ClassId} {ad : Nat → Nat} {x1 : Int} {x2 : Int} (hx1 : inR x1) (hx2 : inR x2) {σ : Mm} : CtV l D vcl ca ad shM NM yX7_findsAll (Cond.code yX7_findsAll cX7_findsAll 3 none :: tbG) { frames := 6, cells := 0, slots := 0, locals := 159 } [.ref (ad 0), .int (oi x1), .int (oi x2)] σ (f_X7_findsAll x1 x2 σ) := by
  refine ct_V RX7 rfl (by decide) rfl (Nat.le_of_ble_eq_true rfl) (fun p e s m below meth c res X hN hr hlk => ?_)
  show GX7_findsAll p l e s m _ below meth c D ca ad res 0 [(0, .ref (ad 0)), (1, .int (oi x1)), (2, .int (oi x2))] [] σ (f_X7_findsAll x1 x2 σ)
  unfold f_X7_findsAll
  refine q_aload_n X dX7_findsAll_0 0 rfl ?_
  refine q_iload_n X dX7_findsAll_1 1 rfl ?_
  refine fp_X7_145 X hx1 dX7_findsAll_2 ?_
  refine q_aload_n X dX7_findsAll_5 0 rfl ?_
  refine q_iload_n X dX7_findsAll_6 2 rfl ?_
  refine fp_X7_154 X hx2 dX7_findsAll_7 ?_
  refine q_aload_n X dX7_findsAll_10 0 rfl ?_
  refine q_callV X NMok hN Aw_new c_X7_finds (rn_V X (cwV 0 X.2.2.2.2.1 (tbG_good _ (tbG_V mw_1038 mw_1040 mp_4_5 mw_9 mw_1041)) rfl rfl rfl hd_X7_finds ⟨by decide, by decide⟩) hM0 rfl rfl rfl (Nat.le_of_ble_eq_true rfl) dX7_findsAll_11) (fun r8 _ => ?_)
  refine q_sub [(0, .ref (ad 0))] [0] rfl ?_
  exact t_X7_findsAll_14 X hN hr hlk 2000 r8

/-! SiteObjectsModel.work(III)I -/
abbrev GX7_work (p : Program) (l : Launch) (e : Env) (s : State) (m : MethodId) (args : Array Value) (below : List Frame) (meth : Method) (c : Code) (D : va_G) (ca : Nat → ClassId) (ad : Nat → Nat) (res : Int × Mm) : Nat → List (Nat × Value) → List Value → Mm → Option (Int × Mm) → Prop := G p l e { frames := 7, cells := 0, slots := 0, locals := 181 } s m args below meth c (MQ below (QcI D vcl ca ad shM s.heap.size res) args s 0 0 (Aw ad shM.length s.heap.size)) 4 D vcl ca ad shM (Aw ad shM.length s.heap.size) res
def f_X7_work (x1 : Int) (x2 : Int) (x3 : Int) (σ : Mm) : Option (Int × Mm) :=
  (f_X7_isStatic x1 σ).bind (fun r1 => (if r1 = 0 then some ((-1), σ) else (f_X7_in x2 0 2 σ).bind (fun r5 => (if r5 = 0 then some ((-1), σ) else (f_X7_in x3 0 2 σ).bind (fun r9 => (if r9 = 0 then some ((-1), σ) else (f_X7_findsAll x2 x3 (stI σ 0 17 x1)).bind (fun r13 => some (((stI (stI (stI r13 0 20 x3) 0 16 1) 0 37 0).1 0 19), (stI (stI (stI r13 0 20 x3) 0 16 1) 0 37 0)))))))))
theorem hd_X7_work : yX7_work.cls = RX7 ∧ yX7_work.cls ≠ "java/lang/invoke/MethodHandle" ∧ yX7_work.cls ≠ "java/lang/invoke/VarHandle" ∧ (parseMethodDescriptor yX7_work.desc).map (fun d => d.parameters.length) = some 3 := by decide +kernel
set_option maxRecDepth 100000 in
set_option maxHeartbeats 4000000 in
theorem c_X7_work {l : Launch} {D : va_G} {ca : Nat → ClassId} {ad : Nat → Nat} {x1 : Int} {x2 : Int} {x3 : Int} (hx1 : inR x1) (hx2 : inR x2) (hx3 : inR x3) {σ : Mm} : CtI l D vcl ca ad shM NM yX7_work (Cond.code yX7_work cX7_work 4 (some .int) :: tbG) { frames := 7, cells := 0, slots := 0, locals := 181 } [.ref (ad 0), .int (oi x1), .int (oi x2), .int (oi x3)] σ (f_X7_work x1 x2 x3 σ) := by
  refine ct_I RX7 rfl (by decide) rfl (Nat.le_of_ble_eq_true rfl) (fun p e s m below meth c res X hN hr hlk => ?_)
  show GX7_work p l e s m _ below meth c D ca ad res 0 [(0, .ref (ad 0)), (1, .int (oi x1)), (2, .int (oi x2)), (3, .int (oi x3))] [] σ (f_X7_work x1 x2 x3 σ)
  unfold f_X7_work
  refine q_aload_n X dX7_work_0 0 rfl ?_
  refine q_iload_n X dX7_work_1 1 rfl ?_
  refine q_callIp X NMok hN Aw_new (c_X7_isStatic hx1) (rn_V X (cwV 1 X.2.2.2.2.1 (tbG_good _ (tbG_V mw_1026 mw_1028 mp_4_3 mw_9 mw_1029)) rfl rfl rfl hd_X7_isStatic ⟨by decide, by decide⟩) hM0 rfl rfl rfl (Nat.le_of_ble_eq_true rfl) dX7_work_2) (fun r1 _ h3 => ?_)
  refine q_if_eq X h3 26 dX7_work_5 (by decide) (fun h4 => ?_) (fun h4 => ?_)
  · refine q_iconst X dX7_work_26 ?_
    exact q_iret X (by decide) hr hlk dX7_work_27
  · refine q_iload_n X dX7_work_8 2 rfl ?_
    refine q_iconst X dX7_work_9 ?_
    refine q_iconst X dX7_work_10 ?_
    refine q_callIp X NMok hN Aw_new (c_X7_in hx2 (by decide) (by decide)) (rn_S X (va_cwS 3 X.2.2.2.2.1 (tbG_good _ (tbG_S mw_1008 mw_1009 mw_9 mw_1010)) rfl rfl rfl hd_X7_in ⟨by decide, by decide⟩) rfl rfl (Nat.le_of_ble_eq_true rfl) dX7_work_11) (fun r5 _ h7 => ?_)
    refine q_if_eq X h7 26 dX7_work_14 (by decide) (fun h8 => ?_) (fun h8 => ?_)
    · refine q_iconst X dX7_work_26 ?_
      exact q_iret X (by decide) hr hlk dX7_work_27
    · refine q_iload_n X dX7_work_17 3 rfl ?_
      refine q_iconst X dX7_work_18 ?_
      refine q_iconst X dX7_work_19 ?_
      refine q_callIp X NMok hN Aw_new (c_X7_in hx3 (by decide) (by decide)) (rn_S X (va_cwS 3 X.2.2.2.2.1 (tbG_good _ (tbG_S mw_1008 mw_1009 mw_9 mw_1010)) rfl rfl rfl hd_X7_in ⟨by decide, by decide⟩) rfl rfl (Nat.le_of_ble_eq_true rfl) dX7_work_20) (fun r9 _ h11 => ?_)
      refine q_if_ne X h11 28 dX7_work_23 (by decide) (fun h12 => ?_) (fun h12 => ?_)
      · refine q_iconst X dX7_work_26 ?_
        exact q_iret X (by decide) hr hlk dX7_work_27
      · refine q_aload_n X dX7_work_28 0 rfl ?_
        refine q_iload_n X dX7_work_29 1 rfl ?_
        refine fp_X7_222 X hx1 dX7_work_30 ?_
        refine q_aload_n X dX7_work_33 0 rfl ?_
        refine q_iload_n X dX7_work_34 2 rfl ?_
        refine q_iload_n X dX7_work_35 3 rfl ?_
        refine q_callV X NMok hN Aw_new (c_X7_findsAll hx2 hx3) (rn_V X (cwV 2 X.2.2.2.2.1 (tbG_good _ (tbG_V mw_1034 mw_1036 mp_4_4 mw_9 mw_1037)) rfl rfl rfl hd_X7_findsAll ⟨by decide, by decide⟩) hM0 rfl rfl rfl (Nat.le_of_ble_eq_true rfl) dX7_work_36) (fun r13 _ => ?_)
        refine q_aload_n X dX7_work_39 0 rfl ?_
        refine q_iload_n X dX7_work_40 3 rfl ?_
        refine fp_X7_235 X hx3 dX7_work_41 ?_
        refine q_aload_n X dX7_work_44 0 rfl ?_
        refine q_iconst X dX7_work_45 ?_
        refine fp_X7_122 X (Or.inr rfl) dX7_work_46 ?_
        refine q_aload_n X dX7_work_49 0 rfl ?_
        refine q_iconst X dX7_work_50 ?_
        refine fp_X7_126 X (Or.inl rfl) dX7_work_51 ?_
        refine q_aload_n X dX7_work_54 0 rfl ?_
        refine fg_X7_154 X dX7_work_55 (fun h16 => ?_)
        exact q_iret X h16 hr hlk dX7_work_58

/-! SiteObjectsModel.isLed(III)Z -/
abbrev GX7_isLed (p : Program) (l : Launch) (e : Env) (s : State) (m : MethodId) (args : Array Value) (below : List Frame) (meth : Method) (c : Code) (D : va_G) (ca : Nat → ClassId) (ad : Nat → Nat) (res : Int × Mm) : Nat → List (Nat × Value) → List Value → Mm → Option (Int × Mm) → Prop := G p l e { frames := 1, cells := 0, slots := 0, locals := 25 } s m args below meth c (MQ below (QcI D vcl ca ad shM s.heap.size res) args s 0 0 (Aw ad shM.length s.heap.size)) 8 D vcl ca ad shM (Aw ad shM.length s.heap.size) res
def f_X7_isLed_127 (k86 : Int → Int → Int → Int64 → Int → Mm → Option (Int × Mm)) (x1 : Int) (x2 : Int) (x3 : Int) (x4 : Int64) (x6 : Int) (s0 : Int) (σ : Mm) : Option (Int × Mm) :=
  ck ((0 : Int) ≤ x3 ∧ x3 < ((80 : Nat) : Int)) ((if s0 = (σ.1 13 (Int.toNat x3)) then (f_X7_context x1 x2 x6 σ).bind (fun r3 => ck ((0 : Int) ≤ x3 ∧ x3 < ((80 : Nat) : Int)) ((if (r3.1 14 (Int.toNat x3)) = (r3.1 0 34) then ck ((0 : Int) ≤ x3 ∧ x3 < ((80 : Nat) : Int)) ((if (r3.1 15 (Int.toNat x3)) = (r3.1 0 35) then some (1, r3) else ck (inR (x6 + 1)) (k86 x1 x2 x3 x4 (x6 + 1) r3))) else ck (inR (x6 + 1)) (k86 x1 x2 x3 x4 (x6 + 1) r3)))) else ck (inR (x6 + 1)) (k86 x1 x2 x3 x4 (x6 + 1) σ)))
set_option maxRecDepth 100000 in
set_option maxHeartbeats 4000000 in
theorem t_X7_isLed_127 {p : Program} {l : Launch} {e : Env} {s : State} {m : MethodId} {args : Array Value} {below : List Frame} {meth : Method} {c : Code} {D : va_G} {ca : Nat → ClassId} {ad : Nat → Nat} {res : Int × Mm} {k86 : Int → Int → Int → Int64 → Int → Mm → Option (Int × Mm)} (X : Cx p s m args c cX7_isLed 8 RX7 (Cond.code yX7_isLed cX7_isLed 8 (some .boolean) :: tbG) D vcl ca) (hN : NM s) (hr : meth.sig.returnType = (some .boolean)) (hlk : meth.locks = false) (hk86 : ∀ (x1 : Int) (x2 : Int) (x3 : Int) (x4 : Int64) (x6 : Int) (σ : Mm), inR x1 → inR x2 → inR x3 → inR x6 → GX7_isLed p l e s m args below meth c D ca ad res 86 [(0, .ref (ad 0)), (1, .int (oi x1)), (2, .int (oi x2)), (3, .int (oi x3)), (4, .long x4), (6, .int (oi x6))] [] σ (k86 x1 x2 x3 x4 x6 σ)) : ∀ (x1 : Int) (x2 : Int) (x3 : Int) (x4 : Int64) (x6 : Int) (s0 : Int) (σ : Mm), inR x1 → inR x2 → inR x3 → inR x6 → inR s0 → GX7_isLed p l e s m args below meth c D ca ad res 127 [(0, .ref (ad 0)), (1, .int (oi x1)), (2, .int (oi x2)), (3, .int (oi x3)), (4, .long x4), (6, .int (oi x6))] [.int (oi s0)] σ (f_X7_isLed_127 k86 x1 x2 x3 x4 x6 s0 σ) := by
  intro x1 x2 x3 x4 x6 s0 σ hx1 hx2 hx3 hx6 hs0
  unfold f_X7_isLed_127
  refine q_istore X [(7, .int (oi s0)), (0, .ref (ad 0)), (1, .int (oi x1)), (2, .int (oi x2)), (3, .int (oi x3)), (4, .long x4), (6, .int (oi x6))] dX7_isLed_127 (by decide) rfl ?_
  refine q_iload X dX7_isLed_129 0 rfl ?_
  refine q_aload_n X dX7_isLed_131 1 rfl ?_
  refine fg_X7_50 X dX7_isLed_132 ?_
  refine q_iload_n X dX7_isLed_135 4 rfl ?_
  refine q_iald X hM13 (by decide) dX7_isLed_136 (fun h1 => ?_)
  refine q_icmp_ne X hs0 h1 176 dX7_isLed_137 (by decide) (fun h2 => ?_) (fun h2 => ?_)
  · refine q_aload_n X dX7_isLed_140 1 rfl ?_
    refine q_iload_n X dX7_isLed_141 2 rfl ?_
    refine q_iload_n X dX7_isLed_142 3 rfl ?_
    refine q_iload X dX7_isLed_143 6 rfl ?_
    refine q_callV X NMok hN Aw_new (c_X7_context hx1 hx2 hx6) (rn_V X (cwV 3 X.2.2.2.2.1 (tbG_good _ (tbG_V mw_1090 mw_1092 mp_5_2 mw_9 mw_1093)) rfl rfl rfl hd_X7_context ⟨by decide, by decide⟩) hM0 rfl rfl rfl (Nat.le_of_ble_eq_true rfl) dX7_isLed_145) (fun r3 _ => ?_)
    refine q_aload_n X dX7_isLed_148 1 rfl ?_
    refine fg_X7_53 X dX7_isLed_149 ?_
    refine q_iload_n X dX7_isLed_152 4 rfl ?_
    refine q_iald X hM14 (by decide) dX7_isLed_153 (fun h6 => ?_)
    refine q_aload_n X dX7_isLed_154 1 rfl ?_
    refine fg_X7_148 X dX7_isLed_155 (fun h7 => ?_)
    refine q_icmp_ne X h6 h7 176 dX7_isLed_158 (by decide) (fun h8 => ?_) (fun h8 => ?_)
    · refine q_aload_n X dX7_isLed_161 1 rfl ?_
      refine fg_X7_56 X dX7_isLed_162 ?_
      refine q_iload_n X dX7_isLed_165 4 rfl ?_
      refine q_iald X hM15 (by decide) dX7_isLed_166 (fun h9 => ?_)
      refine q_aload_n X dX7_isLed_167 1 rfl ?_
      refine fg_X7_151 X dX7_isLed_168 (fun h10 => ?_)
      refine q_icmp_ne X h9 h10 176 dX7_isLed_171 (by decide) (fun h11 => ?_) (fun h11 => ?_)
      · refine q_iconst X dX7_isLed_174 ?_
        exact q_zret X (Or.inr rfl) hr hlk dX7_isLed_175
      · refine q_iinc X [(6, .int (oi (x6 + 1))), (7, .int (oi s0)), (0, .ref (ad 0)), (1, .int (oi x1)), (2, .int (oi x2)), (3, .int (oi x3)), (4, .long x4)] dX7_isLed_176 (by decide) 6 rfl rfl (fun h12 => ?_)
        refine q_goto X 86 dX7_isLed_179 (by decide) ?_
        refine q_sub [(0, .ref (ad 0)), (1, .int (oi x1)), (2, .int (oi x2)), (3, .int (oi x3)), (4, .long x4), (6, .int (oi (x6 + 1)))] [2, 3, 4, 5, 6, 0] rfl ?_
        exact hk86 x1 x2 x3 x4 (x6 + 1) r3 hx1 hx2 hx3 h12
    · refine q_iinc X [(6, .int (oi (x6 + 1))), (7, .int (oi s0)), (0, .ref (ad 0)), (1, .int (oi x1)), (2, .int (oi x2)), (3, .int (oi x3)), (4, .long x4)] dX7_isLed_176 (by decide) 6 rfl rfl (fun h13 => ?_)
      refine q_goto X 86 dX7_isLed_179 (by decide) ?_
      refine q_sub [(0, .ref (ad 0)), (1, .int (oi x1)), (2, .int (oi x2)), (3, .int (oi x3)), (4, .long x4), (6, .int (oi (x6 + 1)))] [2, 3, 4, 5, 6, 0] rfl ?_
      exact hk86 x1 x2 x3 x4 (x6 + 1) r3 hx1 hx2 hx3 h13
  · refine q_iinc X [(6, .int (oi (x6 + 1))), (7, .int (oi s0)), (0, .ref (ad 0)), (1, .int (oi x1)), (2, .int (oi x2)), (3, .int (oi x3)), (4, .long x4)] dX7_isLed_176 (by decide) 6 rfl rfl (fun h14 => ?_)
    refine q_goto X 86 dX7_isLed_179 (by decide) ?_
    refine q_sub [(0, .ref (ad 0)), (1, .int (oi x1)), (2, .int (oi x2)), (3, .int (oi x3)), (4, .long x4), (6, .int (oi (x6 + 1)))] [2, 3, 4, 5, 6, 0] rfl ?_
    exact hk86 x1 x2 x3 x4 (x6 + 1) σ hx1 hx2 hx3 h14
def f_X7_isLed_86 : Nat → Int → Int → Int → Int64 → Int → Mm → Option (Int × Mm)
  | 0, _, _, _, _, _, _ => none
  | n + 1, x1, x2, x3, x4, x6, σ => (if (σ.1 0 29) ≤ x6 then some (0, σ) else (if ((lShr x4 x6) &&& 1) = 1 then (f_X7_classOf x6 σ).bind (fun r18 => ck ((0 : Int) ≤ x2 ∧ x2 < ((90 : Nat) : Int)) ((f_X7_methodFor r18 (σ.1 11 (Int.toNat x2)) σ).bind (fun r22 => f_X7_isLed_127 (f_X7_isLed_86 n) x1 x2 x3 x4 x6 r22 σ))) else f_X7_isLed_127 (f_X7_isLed_86 n) x1 x2 x3 x4 x6 (-1) σ))
set_option maxRecDepth 100000 in
set_option maxHeartbeats 4000000 in
theorem t_X7_isLed_86 {p : Program} {l : Launch} {e : Env} {s : State} {m : MethodId} {args : Array Value} {below : List Frame} {meth : Method} {c : Code} {D : va_G} {ca : Nat → ClassId} {ad : Nat → Nat} {res : Int × Mm} (X : Cx p s m args c cX7_isLed 8 RX7 (Cond.code yX7_isLed cX7_isLed 8 (some .boolean) :: tbG) D vcl ca) (hN : NM s) (hr : meth.sig.returnType = (some .boolean)) (hlk : meth.locks = false) : ∀ (n : Nat) (x1 : Int) (x2 : Int) (x3 : Int) (x4 : Int64) (x6 : Int) (σ : Mm), inR x1 → inR x2 → inR x3 → inR x6 → GX7_isLed p l e s m args below meth c D ca ad res 86 [(0, .ref (ad 0)), (1, .int (oi x1)), (2, .int (oi x2)), (3, .int (oi x3)), (4, .long x4), (6, .int (oi x6))] [] σ (f_X7_isLed_86 n x1 x2 x3 x4 x6 σ)
  := by
  intro n
  induction n with
  | zero => intro x1 x2 x3 x4 x6 σ hx1 hx2 hx3 hx6 h; cases h
  | succ n ih =>
    intro x1 x2 x3 x4 x6 σ hx1 hx2 hx3 hx6
    rw [f_X7_isLed_86]
    refine q_iload X dX7_isLed_86 5 rfl ?_
    refine q_aload_n X dX7_isLed_88 0 rfl ?_
    refine fg_X7_167 X dX7_isLed_89 (fun h15 => ?_)
    refine q_icmp_ge X hx6 h15 182 dX7_isLed_92 (by decide) (fun h16 => ?_) (fun h16 => ?_)
    · refine q_iconst X dX7_isLed_182 ?_
      exact q_zret X (Or.inl rfl) hr hlk dX7_isLed_183
    · refine q_lload X dX7_isLed_95 4 rfl ?_
      refine q_iload X dX7_isLed_97 5 rfl ?_
      refine q_lshr X dX7_isLed_99 ?_
      refine q_lconst X 1 dX7_isLed_100 rfl ?_
      refine q_land X dX7_isLed_101 ?_
      refine q_lconst X 1 dX7_isLed_102 rfl ?_
      refine q_lcmp_ne X 126 dX7_isLed_103 dX7_isLed_104 (by decide) (fun h17 => ?_) (fun h17 => ?_)
      · refine q_aload_n X dX7_isLed_107 0 rfl ?_
        refine q_aload_n X dX7_isLed_108 0 rfl ?_
        refine q_iload X dX7_isLed_109 5 rfl ?_
        refine q_callIp X NMok hN Aw_new (c_X7_classOf hx6) (rn_V X (cwV 1 X.2.2.2.2.1 (tbG_good _ (tbG_V mw_1078 mw_1080 mp_4_15 mw_9 mw_1081)) rfl rfl rfl hd_X7_classOf ⟨by decide, by decide⟩) hM0 rfl rfl rfl (Nat.le_of_ble_eq_true rfl) dX7_isLed_111) (fun r18 _ h20 => ?_)
        refine q_aload_n X dX7_isLed_114 0 rfl ?_
        refine fg_X7_44 X dX7_isLed_115 ?_
        refine q_iload_n X dX7_isLed_118 2 rfl ?_
        refine q_iald X hM11 (by decide) dX7_isLed_119 (fun h21 => ?_)
        refine q_callIp X NMok hN Aw_new (c_X7_methodFor h20 h21) (rn_V X (cwV 2 X.2.2.2.2.1 (tbG_good _ (tbG_V mw_1086 mw_1088 mp_5_1 mw_9 mw_1089)) rfl rfl rfl hd_X7_methodFor ⟨by decide, by decide⟩) hM0 rfl rfl rfl (Nat.le_of_ble_eq_true rfl) dX7_isLed_120) (fun r22 _ h24 => ?_)
        refine q_goto X 127 dX7_isLed_123 (by decide) ?_
        refine q_sub [(0, .ref (ad 0)), (1, .int (oi x1)), (2, .int (oi x2)), (3, .int (oi x3)), (4, .long x4), (6, .int (oi x6))] [0, 1, 2, 3, 4, 5] rfl ?_
        exact t_X7_isLed_127 X hN hr hlk ih x1 x2 x3 x4 x6 r22 σ hx1 hx2 hx3 hx6 h24
      · refine q_iconst X dX7_isLed_126 ?_
        refine q_sub [(0, .ref (ad 0)), (1, .int (oi x1)), (2, .int (oi x2)), (3, .int (oi x3)), (4, .long x4), (6, .int (oi x6))] [0, 1, 2, 3, 4, 5] rfl ?_
        exact t_X7_isLed_127 X hN hr hlk ih x1 x2 x3 x4 x6 (-1) σ hx1 hx2 hx3 hx6 (by decide)
def f_X7_isLed (x1 : Int) (x2 : Int) (x3 : Int) (σ : Mm) : Option (Int × Mm) :=
  ck ((0 : Int) ≤ x2 ∧ x2 < ((90 : Nat) : Int)) ((if (σ.1 8 (Int.toNat x2)) = 10 then (f_X7_context x1 x2 (-1) σ).bind (fun r27 => ck ((0 : Int) ≤ x3 ∧ x3 < ((80 : Nat) : Int)) (ck ((0 : Int) ≤ x2 ∧ x2 < ((90 : Nat) : Int)) ((if (r27.1 13 (Int.toNat x3)) = (r27.1 11 (Int.toNat x2)) then ck ((0 : Int) ≤ x3 ∧ x3 < ((80 : Nat) : Int)) ((if (r27.1 14 (Int.toNat x3)) = (r27.1 0 34) then ck ((0 : Int) ≤ x3 ∧ x3 < ((80 : Nat) : Int)) ((if (r27.1 15 (Int.toNat x3)) = (r27.1 0 35) then some (1, r27) else some (0, r27))) else some (0, r27))) else some (0, r27))))) else ck ((0 : Int) ≤ x2 ∧ x2 < ((90 : Nat) : Int)) (ck ((0 : Int) ≤ ((8 * x1) + (σ.1 10 (Int.toNat x2))) ∧ ((8 * x1) + (σ.1 10 (Int.toNat x2))) < ((640 : Nat) : Int)) (f_X7_isLed_86 2000 x1 x2 x3 (σ.2 16 (Int.toNat ((8 * x1) + (σ.1 10 (Int.toNat x2))))) 0 σ))))
theorem hd_X7_isLed : yX7_isLed.cls = RX7 ∧ yX7_isLed.cls ≠ "java/lang/invoke/MethodHandle" ∧ yX7_isLed.cls ≠ "java/lang/invoke/VarHandle" ∧ (parseMethodDescriptor yX7_isLed.desc).map (fun d => d.parameters.length) = some 3 := by decide +kernel
set_option maxRecDepth 100000 in
set_option maxHeartbeats 4000000 in
theorem c_X7_isLed {l : Launch} {D : va_G} {ca : Nat → ClassId} {ad : Nat → Nat} {x1 : Int} {x2 : Int} {x3 : Int} (hx1 : inR x1) (hx2 : inR x2) (hx3 : inR x3) {σ : Mm} : CtI l D vcl ca ad shM NM yX7_isLed (Cond.code yX7_isLed cX7_isLed 8 (some .boolean) :: tbG) { frames := 1, cells := 0, slots := 0, locals := 25 } [.ref (ad 0), .int (oi x1), .int (oi x2), .int (oi x3)] σ (f_X7_isLed x1 x2 x3 σ) := by
  refine ct_I RX7 rfl (by decide) rfl (Nat.le_of_ble_eq_true rfl) (fun p e s m below meth c res X hN hr hlk => ?_)
  show GX7_isLed p l e s m _ below meth c D ca ad res 0 [(0, .ref (ad 0)), (1, .int (oi x1)), (2, .int (oi x2)), (3, .int (oi x3))] [] σ (f_X7_isLed x1 x2 x3 σ)
  unfold f_X7_isLed
  refine q_aload_n X dX7_isLed_0 0 rfl ?_
  refine fg_X7_35 X dX7_isLed_1 ?_
  refine q_iload_n X dX7_isLed_4 2 rfl ?_
  refine q_iald X hM8 (by decide) dX7_isLed_5 (fun h25 => ?_)
  refine q_bipush X dX7_isLed_6 (by decide) ?_
  refine q_icmp_ne X h25 (by decide) 65 dX7_isLed_8 (by decide) (fun h26 => ?_) (fun h26 => ?_)
  · refine q_aload_n X dX7_isLed_11 0 rfl ?_
    refine q_iload_n X dX7_isLed_12 1 rfl ?_
    refine q_iload_n X dX7_isLed_13 2 rfl ?_
    refine q_iconst X dX7_isLed_14 ?_
    refine q_callV X NMok hN Aw_new (c_X7_context hx1 hx2 (by decide)) (rn_V X (cwV 3 X.2.2.2.2.1 (tbG_good _ (tbG_V mw_1090 mw_1092 mp_5_2 mw_9 mw_1093)) rfl rfl rfl hd_X7_context ⟨by decide, by decide⟩) hM0 rfl rfl rfl (Nat.le_of_ble_eq_true rfl) dX7_isLed_15) (fun r27 _ => ?_)
    refine q_aload_n X dX7_isLed_18 0 rfl ?_
    refine fg_X7_50 X dX7_isLed_19 ?_
    refine q_iload_n X dX7_isLed_22 3 rfl ?_
    refine q_iald X hM13 (by decide) dX7_isLed_23 (fun h30 => ?_)
    refine q_aload_n X dX7_isLed_24 0 rfl ?_
    refine fg_X7_44 X dX7_isLed_25 ?_
    refine q_iload_n X dX7_isLed_28 2 rfl ?_
    refine q_iald X hM11 (by decide) dX7_isLed_29 (fun h31 => ?_)
    refine q_icmp_ne X h30 h31 63 dX7_isLed_30 (by decide) (fun h32 => ?_) (fun h32 => ?_)
    · refine q_aload_n X dX7_isLed_33 0 rfl ?_
      refine fg_X7_53 X dX7_isLed_34 ?_
      refine q_iload_n X dX7_isLed_37 3 rfl ?_
      refine q_iald X hM14 (by decide) dX7_isLed_38 (fun h33 => ?_)
      refine q_aload_n X dX7_isLed_39 0 rfl ?_
      refine fg_X7_148 X dX7_isLed_40 (fun h34 => ?_)
      refine q_icmp_ne X h33 h34 63 dX7_isLed_43 (by decide) (fun h35 => ?_) (fun h35 => ?_)
      · refine q_aload_n X dX7_isLed_46 0 rfl ?_
        refine fg_X7_56 X dX7_isLed_47 ?_
        refine q_iload_n X dX7_isLed_50 3 rfl ?_
        refine q_iald X hM15 (by decide) dX7_isLed_51 (fun h36 => ?_)
        refine q_aload_n X dX7_isLed_52 0 rfl ?_
        refine fg_X7_151 X dX7_isLed_53 (fun h37 => ?_)
        refine q_icmp_ne X h36 h37 63 dX7_isLed_56 (by decide) (fun h38 => ?_) (fun h38 => ?_)
        · refine q_iconst X dX7_isLed_59 ?_
          refine q_goto X 64 dX7_isLed_60 (by decide) ?_
          exact q_zret X (Or.inr rfl) hr hlk dX7_isLed_64
        · refine q_iconst X dX7_isLed_63 ?_
          exact q_zret X (Or.inl rfl) hr hlk dX7_isLed_64
      · refine q_iconst X dX7_isLed_63 ?_
        exact q_zret X (Or.inl rfl) hr hlk dX7_isLed_64
    · refine q_iconst X dX7_isLed_63 ?_
      exact q_zret X (Or.inl rfl) hr hlk dX7_isLed_64
  · refine q_aload_n X dX7_isLed_65 0 rfl ?_
    refine fg_X7_59 X dX7_isLed_66 ?_
    refine q_bipush X dX7_isLed_69 (by decide) ?_
    refine q_iload_n X dX7_isLed_71 1 rfl ?_
    refine q_imul X dX7_isLed_72 ?_
    refine q_aload_n X dX7_isLed_73 0 rfl ?_
    refine fg_X7_41 X dX7_isLed_74 ?_
    refine q_iload_n X dX7_isLed_77 2 rfl ?_
    refine q_iald X hM10 (by decide) dX7_isLed_78 (fun h39 => ?_)
    refine q_iadd X dX7_isLed_79 ?_
    refine q_lald X hM16 (by decide) dX7_isLed_80 ?_
    refine q_lstore X [(4, .long (σ.2 16 (Int.toNat ((8 * x1) + (σ.1 10 (Int.toNat x2)))))), (0, .ref (ad 0)), (1, .int (oi x1)), (2, .int (oi x2)), (3, .int (oi x3))] dX7_isLed_81 (by decide) rfl ?_
    refine q_iconst X dX7_isLed_83 ?_
    refine q_istore X [(6, .int (oi 0)), (4, .long (σ.2 16 (Int.toNat ((8 * x1) + (σ.1 10 (Int.toNat x2)))))), (0, .ref (ad 0)), (1, .int (oi x1)), (2, .int (oi x2)), (3, .int (oi x3))] dX7_isLed_84 (by decide) rfl ?_
    refine q_sub [(0, .ref (ad 0)), (1, .int (oi x1)), (2, .int (oi x2)), (3, .int (oi x3)), (4, .long (σ.2 16 (Int.toNat ((8 * x1) + (σ.1 10 (Int.toNat x2)))))), (6, .int (oi 0))] [2, 3, 4, 5, 1, 0] rfl ?_
    exact t_X7_isLed_86 X hN hr hlk 2000 x1 x2 x3 (σ.2 16 (Int.toNat ((8 * x1) + (σ.1 10 (Int.toNat x2))))) 0 σ hx1 hx2 hx3 (by decide)

/-! SiteObjectsModel.ledBy(I)I -/
abbrev GX7_ledBy (p : Program) (l : Launch) (e : Env) (s : State) (m : MethodId) (args : Array Value) (below : List Frame) (meth : Method) (c : Code) (D : va_G) (ca : Nat → ClassId) (ad : Nat → Nat) (res : Int × Mm) : Nat → List (Nat × Value) → List Value → Mm → Option (Int × Mm) → Prop := G p l e { frames := 2, cells := 0, slots := 0, locals := 52 } s m args below meth c (MQ below (QcI D vcl ca ad shM s.heap.size res) args s 0 0 (Aw ad shM.length s.heap.size)) 6 D vcl ca ad shM (Aw ad shM.length s.heap.size) res
def f_X7_ledBy_74 (k15 : Int → Int → Int → Int → Mm → Option (Int × Mm)) (x1 : Int) (x2 : Int) (x3 : Int) (x4 : Int) (x5 : Int) (σ : Mm) : Option (Int × Mm) :=
  (f_X7_isLed x3 x5 x1 σ).bind (fun r1 => (if r1.1 = 0 then ck (inR (x4 + 1)) (k15 x1 x2 x3 (x4 + 1) r1.2) else ck (inR (x2 + 1)) (ck (inR (x4 + 1)) (k15 x1 (x2 + 1) x3 (x4 + 1) (stI r1.2 0 36 x3)))))
set_option maxRecDepth 100000 in
set_option maxHeartbeats 4000000 in
theorem t_X7_ledBy_74 {p : Program} {l : Launch} {e : Env} {s : State} {m : MethodId} {args : Array Value} {below : List Frame} {meth : Method} {c : Code} {D : va_G} {ca : Nat → ClassId} {ad : Nat → Nat} {res : Int × Mm} {k15 : Int → Int → Int → Int → Mm → Option (Int × Mm)} (X : Cx p s m args c cX7_ledBy 6 RX7 (Cond.code yX7_ledBy cX7_ledBy 6 (some .int) :: tbG) D vcl ca) (hN : NM s) (hr : meth.sig.returnType = (some .int)) (hlk : meth.locks = false) (hk15 : ∀ (x1 : Int) (x2 : Int) (x3 : Int) (x4 : Int) (σ : Mm), inR x1 → inR x2 → inR x3 → inR x4 → GX7_ledBy p l e s m args below meth c D ca ad res 15 [(0, .ref (ad 0)), (1, .int (oi x1)), (2, .int (oi x2)), (3, .int (oi x3)), (4, .int (oi x4))] [] σ (k15 x1 x2 x3 x4 σ)) : ∀ (x1 : Int) (x2 : Int) (x3 : Int) (x4 : Int) (x5 : Int) (σ : Mm), inR x1 → inR x2 → inR x3 → inR x4 → inR x5 → GX7_ledBy p l e s m args below meth c D ca ad res 74 [(0, .ref (ad 0)), (1, .int (oi x1)), (2, .int (oi x2)), (3, .int (oi x3)), (4, .int (oi x4)), (5, .int (oi x5))] [] σ (f_X7_ledBy_74 k15 x1 x2 x3 x4 x5 σ) := by
  intro x1 x2 x3 x4 x5 σ hx1 hx2 hx3 hx4 hx5
  unfold f_X7_ledBy_74
  refine q_aload_n X dX7_ledBy_74 0 rfl ?_
  refine q_iload_n X dX7_ledBy_75 3 rfl ?_
  refine q_iload X dX7_ledBy_76 5 rfl ?_
  refine q_iload_n X dX7_ledBy_78 1 rfl ?_
  refine q_callI X NMok hN Aw_new (c_X7_isLed hx3 hx5 hx1) (rn_V X (cwV 3 X.2.2.2.2.1 (tbG_good _ (tbG_V mw_1119 mw_1121 mp_5_8 mw_9 mw_1122)) rfl rfl rfl hd_X7_isLed ⟨by decide, by decide⟩) hM0 rfl rfl rfl (Nat.le_of_ble_eq_true rfl) dX7_ledBy_79) (fun r1 _ h3 => ?_)
  refine q_if_eq X h3 93 dX7_ledBy_82 (by decide) (fun h4 => ?_) (fun h4 => ?_)
  · refine q_iinc X [(4, .int (oi (x4 + 1))), (0, .ref (ad 0)), (1, .int (oi x1)), (2, .int (oi x2)), (3, .int (oi x3)), (5, .int (oi x5))] dX7_ledBy_93 (by decide) 4 rfl rfl (fun h5 => ?_)
    refine q_goto X 15 dX7_ledBy_96 (by decide) ?_
    refine q_sub [(0, .ref (ad 0)), (1, .int (oi x1)), (2, .int (oi x2)), (3, .int (oi x3)), (4, .int (oi (x4 + 1)))] [1, 2, 3, 4, 0] rfl ?_
    exact hk15 x1 x2 x3 (x4 + 1) r1.2 hx1 hx2 hx3 h5
  · refine q_iinc X [(2, .int (oi (x2 + 1))), (0, .ref (ad 0)), (1, .int (oi x1)), (3, .int (oi x3)), (4, .int (oi x4)), (5, .int (oi x5))] dX7_ledBy_85 (by decide) 2 rfl rfl (fun h6 => ?_)
    refine q_aload_n X dX7_ledBy_88 1 rfl ?_
    refine q_iload_n X dX7_ledBy_89 3 rfl ?_
    refine fp_X7_241 X hx3 dX7_ledBy_90 ?_
    refine q_iinc X [(4, .int (oi (x4 + 1))), (2, .int (oi (x2 + 1))), (0, .ref (ad 0)), (1, .int (oi x1)), (3, .int (oi x3)), (5, .int (oi x5))] dX7_ledBy_93 (by decide) 4 rfl rfl (fun h7 => ?_)
    refine q_goto X 15 dX7_ledBy_96 (by decide) ?_
    refine q_sub [(0, .ref (ad 0)), (1, .int (oi x1)), (2, .int (oi (x2 + 1))), (3, .int (oi x3)), (4, .int (oi (x4 + 1)))] [2, 3, 1, 4, 0] rfl ?_
    exact hk15 x1 (x2 + 1) x3 (x4 + 1) (stI r1.2 0 36 x3) hx1 h6 hx3 h7
def f_X7_ledBy_15 (k4 : Int → Int → Int → Mm → Option (Int × Mm)) : Nat → Int → Int → Int → Int → Mm → Option (Int × Mm)
  | 0, _, _, _, _, _ => none
  | n + 1, x1, x2, x3, x4, σ => ck ((0 : Int) ≤ x3 ∧ x3 < ((80 : Nat) : Int)) (ck ((0 : Int) ≤ (σ.1 13 (Int.toNat x3)) ∧ (σ.1 13 (Int.toNat x3)) < ((12 : Nat) : Int)) ((if (σ.1 4 (Int.toNat (σ.1 13 (Int.toNat x3)))) ≤ x4 then ck (inR (x3 + 1)) (k4 x1 x2 (x3 + 1) σ) else ck ((0 : Int) ≤ x3 ∧ x3 < ((80 : Nat) : Int)) (ck ((0 : Int) ≤ ((90 * (σ.1 13 (Int.toNat x3))) + x4) ∧ ((90 * (σ.1 13 (Int.toNat x3))) + x4) < ((1080 : Nat) : Int)) (ck ((0 : Int) ≤ (σ.1 5 (Int.toNat ((90 * (σ.1 13 (Int.toNat x3))) + x4))) ∧ (σ.1 5 (Int.toNat ((90 * (σ.1 13 (Int.toNat x3))) + x4))) < ((90 : Nat) : Int)) ((if (σ.1 8 (Int.toNat (σ.1 5 (Int.toNat ((90 * (σ.1 13 (Int.toNat x3))) + x4))))) = 9 then f_X7_ledBy_74 (f_X7_ledBy_15 k4 n) x1 x2 x3 x4 (σ.1 5 (Int.toNat ((90 * (σ.1 13 (Int.toNat x3))) + x4))) σ else ck ((0 : Int) ≤ (σ.1 5 (Int.toNat ((90 * (σ.1 13 (Int.toNat x3))) + x4))) ∧ (σ.1 5 (Int.toNat ((90 * (σ.1 13 (Int.toNat x3))) + x4))) < ((90 : Nat) : Int)) ((if (σ.1 8 (Int.toNat (σ.1 5 (Int.toNat ((90 * (σ.1 13 (Int.toNat x3))) + x4))))) = 10 then f_X7_ledBy_74 (f_X7_ledBy_15 k4 n) x1 x2 x3 x4 (σ.1 5 (Int.toNat ((90 * (σ.1 13 (Int.toNat x3))) + x4))) σ else ck (inR (x4 + 1)) (f_X7_ledBy_15 k4 n x1 x2 x3 (x4 + 1) σ))))))))))
set_option maxRecDepth 100000 in
set_option maxHeartbeats 4000000 in
theorem t_X7_ledBy_15 {p : Program} {l : Launch} {e : Env} {s : State} {m : MethodId} {args : Array Value} {below : List Frame} {meth : Method} {c : Code} {D : va_G} {ca : Nat → ClassId} {ad : Nat → Nat} {res : Int × Mm} {k4 : Int → Int → Int → Mm → Option (Int × Mm)} (X : Cx p s m args c cX7_ledBy 6 RX7 (Cond.code yX7_ledBy cX7_ledBy 6 (some .int) :: tbG) D vcl ca) (hN : NM s) (hr : meth.sig.returnType = (some .int)) (hlk : meth.locks = false) (hk4 : ∀ (x1 : Int) (x2 : Int) (x3 : Int) (σ : Mm), inR x1 → inR x2 → inR x3 → GX7_ledBy p l e s m args below meth c D ca ad res 4 [(0, .ref (ad 0)), (1, .int (oi x1)), (2, .int (oi x2)), (3, .int (oi x3))] [] σ (k4 x1 x2 x3 σ)) : ∀ (n : Nat) (x1 : Int) (x2 : Int) (x3 : Int) (x4 : Int) (σ : Mm), inR x1 → inR x2 → inR x3 → inR x4 → GX7_ledBy p l e s m args below meth c D ca ad res 15 [(0, .ref (ad 0)), (1, .int (oi x1)), (2, .int (oi x2)), (3, .int (oi x3)), (4, .int (oi x4))] [] σ (f_X7_ledBy_15 k4 n x1 x2 x3 x4 σ)
  := by
  intro n
  induction n with
  | zero => intro x1 x2 x3 x4 σ hx1 hx2 hx3 hx4 h; cases h
  | succ n ih =>
    intro x1 x2 x3 x4 σ hx1 hx2 hx3 hx4
    rw [f_X7_ledBy_15]
    refine q_iload X dX7_ledBy_15 4 rfl ?_
    refine q_aload_n X dX7_ledBy_17 0 rfl ?_
    refine fg_X7_23 X dX7_ledBy_18 ?_
    refine q_aload_n X dX7_ledBy_21 0 rfl ?_
    refine fg_X7_50 X dX7_ledBy_22 ?_
    refine q_iload_n X dX7_ledBy_25 3 rfl ?_
    refine q_iald X hM13 (by decide) dX7_ledBy_26 (fun h8 => ?_)
    refine q_iald X hM4 (by decide) dX7_ledBy_27 (fun h9 => ?_)
    refine q_icmp_ge X hx4 h9 99 dX7_ledBy_28 (by decide) (fun h10 => ?_) (fun h10 => ?_)
    · refine q_iinc X [(3, .int (oi (x3 + 1))), (0, .ref (ad 0)), (1, .int (oi x1)), (2, .int (oi x2)), (4, .int (oi x4))] dX7_ledBy_99 (by decide) 3 rfl rfl (fun h11 => ?_)
      refine q_goto X 4 dX7_ledBy_102 (by decide) ?_
      refine q_sub [(0, .ref (ad 0)), (1, .int (oi x1)), (2, .int (oi x2)), (3, .int (oi (x3 + 1)))] [1, 2, 3, 0] rfl ?_
      exact hk4 x1 x2 (x3 + 1) σ hx1 hx2 h11
    · refine q_aload_n X dX7_ledBy_31 0 rfl ?_
      refine fg_X7_26 X dX7_ledBy_32 ?_
      refine q_bipush X dX7_ledBy_35 (by decide) ?_
      refine q_aload_n X dX7_ledBy_37 0 rfl ?_
      refine fg_X7_50 X dX7_ledBy_38 ?_
      refine q_iload_n X dX7_ledBy_41 3 rfl ?_
      refine q_iald X hM13 (by decide) dX7_ledBy_42 (fun h12 => ?_)
      refine q_imul X dX7_ledBy_43 ?_
      refine q_iload X dX7_ledBy_44 4 rfl ?_
      refine q_iadd X dX7_ledBy_46 ?_
      refine q_iald X hM5 (by decide) dX7_ledBy_47 (fun h13 => ?_)
      refine q_istore X [(5, .int (oi (σ.1 5 (Int.toNat ((90 * (σ.1 13 (Int.toNat x3))) + x4))))), (0, .ref (ad 0)), (1, .int (oi x1)), (2, .int (oi x2)), (3, .int (oi x3)), (4, .int (oi x4))] dX7_ledBy_48 (by decide) rfl ?_
      refine q_aload_n X dX7_ledBy_50 1 rfl ?_
      refine fg_X7_35 X dX7_ledBy_51 ?_
      refine q_iload X dX7_ledBy_54 0 rfl ?_
      refine q_iald X hM8 (by decide) dX7_ledBy_56 (fun h14 => ?_)
      refine q_bipush X dX7_ledBy_57 (by decide) ?_
      refine q_icmp_eq X h14 (by decide) 74 dX7_ledBy_59 (by decide) (fun h15 => ?_) (fun h15 => ?_)
      · refine q_sub [(0, .ref (ad 0)), (1, .int (oi x1)), (2, .int (oi x2)), (3, .int (oi x3)), (4, .int (oi x4)), (5, .int (oi (σ.1 5 (Int.toNat ((90 * (σ.1 13 (Int.toNat x3))) + x4)))))] [1, 2, 3, 4, 5, 0] rfl ?_
        exact t_X7_ledBy_74 X hN hr hlk ih x1 x2 x3 x4 (σ.1 5 (Int.toNat ((90 * (σ.1 13 (Int.toNat x3))) + x4))) σ hx1 hx2 hx3 hx4 h13
      · refine q_aload_n X dX7_ledBy_62 1 rfl ?_
        refine fg_X7_35 X dX7_ledBy_63 ?_
        refine q_iload X dX7_ledBy_66 0 rfl ?_
        refine q_iald X hM8 (by decide) dX7_ledBy_68 (fun h16 => ?_)
        refine q_bipush X dX7_ledBy_69 (by decide) ?_
        refine q_icmp_ne X h16 (by decide) 93 dX7_ledBy_71 (by decide) (fun h17 => ?_) (fun h17 => ?_)
        · refine q_sub [(0, .ref (ad 0)), (1, .int (oi x1)), (2, .int (oi x2)), (3, .int (oi x3)), (4, .int (oi x4)), (5, .int (oi (σ.1 5 (Int.toNat ((90 * (σ.1 13 (Int.toNat x3))) + x4)))))] [1, 2, 3, 4, 5, 0] rfl ?_
          exact t_X7_ledBy_74 X hN hr hlk ih x1 x2 x3 x4 (σ.1 5 (Int.toNat ((90 * (σ.1 13 (Int.toNat x3))) + x4))) σ hx1 hx2 hx3 hx4 h13
        · refine q_iinc X [(4, .int (oi (x4 + 1))), (5, .int (oi (σ.1 5 (Int.toNat ((90 * (σ.1 13 (Int.toNat x3))) + x4))))), (0, .ref (ad 0)), (1, .int (oi x1)), (2, .int (oi x2)), (3, .int (oi x3))] dX7_ledBy_93 (by decide) 5 rfl rfl (fun h18 => ?_)
          refine q_goto X 15 dX7_ledBy_96 (by decide) ?_
          refine q_sub [(0, .ref (ad 0)), (1, .int (oi x1)), (2, .int (oi x2)), (3, .int (oi x3)), (4, .int (oi (x4 + 1)))] [2, 3, 4, 5, 0] rfl ?_
          exact ih x1 x2 x3 (x4 + 1) σ hx1 hx2 hx3 h18
def f_X7_ledBy_4 : Nat → Int → Int → Int → Mm → Option (Int × Mm)
  | 0, _, _, _, _ => none
  | n + 1, x1, x2, x3, σ => (if (σ.1 0 24) ≤ x3 then some (x2, σ) else f_X7_ledBy_15 (f_X7_ledBy_4 n) 2000 x1 x2 x3 0 σ)
set_option maxRecDepth 100000 in
set_option maxHeartbeats 4000000 in
theorem t_X7_ledBy_4 {p : Program} {l : Launch} {e : Env} {s : State} {m : MethodId} {args : Array Value} {below : List Frame} {meth : Method} {c : Code} {D : va_G} {ca : Nat → ClassId} {ad : Nat → Nat} {res : Int × Mm} (X : Cx p s m args c cX7_ledBy 6 RX7 (Cond.code yX7_ledBy cX7_ledBy 6 (some .int) :: tbG) D vcl ca) (hN : NM s) (hr : meth.sig.returnType = (some .int)) (hlk : meth.locks = false) : ∀ (n : Nat) (x1 : Int) (x2 : Int) (x3 : Int) (σ : Mm), inR x1 → inR x2 → inR x3 → GX7_ledBy p l e s m args below meth c D ca ad res 4 [(0, .ref (ad 0)), (1, .int (oi x1)), (2, .int (oi x2)), (3, .int (oi x3))] [] σ (f_X7_ledBy_4 n x1 x2 x3 σ)
  := by
  intro n
  induction n with
  | zero => intro x1 x2 x3 σ hx1 hx2 hx3 h; cases h
  | succ n ih =>
    intro x1 x2 x3 σ hx1 hx2 hx3
    rw [f_X7_ledBy_4]
    refine q_iload_n X dX7_ledBy_4 3 rfl ?_
    refine q_aload_n X dX7_ledBy_5 0 rfl ?_
    refine fg_X7_108 X dX7_ledBy_6 (fun h19 => ?_)
    refine q_icmp_ge X hx3 h19 105 dX7_ledBy_9 (by decide) (fun h20 => ?_) (fun h20 => ?_)
    · refine q_iload_n X dX7_ledBy_105 2 rfl ?_
      exact q_iret X hx2 hr hlk dX7_ledBy_106
    · refine q_iconst X dX7_ledBy_12 ?_
      refine q_istore X [(4, .int (oi 0)), (0, .ref (ad 0)), (1, .int (oi x1)), (2, .int (oi x2)), (3, .int (oi x3))] dX7_ledBy_13 (by decide) rfl ?_
      refine q_sub [(0, .ref (ad 0)), (1, .int (oi x1)), (2, .int (oi x2)), (3, .int (oi x3)), (4, .int (oi 0))] [1, 2, 3, 4, 0] rfl ?_
      exact t_X7_ledBy_15 X hN hr hlk ih 2000 x1 x2 x3 0 σ hx1 hx2 hx3 (by decide)
def f_X7_ledBy (x1 : Int) (σ : Mm) : Option (Int × Mm) :=
  f_X7_ledBy_4 2000 x1 0 0 σ
theorem hd_X7_ledBy : yX7_ledBy.cls = RX7 ∧ yX7_ledBy.cls ≠ "java/lang/invoke/MethodHandle" ∧ yX7_ledBy.cls ≠ "java/lang/invoke/VarHandle" ∧ (parseMethodDescriptor yX7_ledBy.desc).map (fun d => d.parameters.length) = some 1 := by decide +kernel
set_option maxRecDepth 100000 in
set_option maxHeartbeats 4000000 in
theorem c_X7_ledBy {l : Launch} {D : va_G} {ca : Nat → ClassId} {ad : Nat → Nat} {x1 : Int} (hx1 : inR x1) {σ : Mm} : CtI l D vcl ca ad shM NM yX7_ledBy (Cond.code yX7_ledBy cX7_ledBy 6 (some .int) :: tbG) { frames := 2, cells := 0, slots := 0, locals := 52 } [.ref (ad 0), .int (oi x1)] σ (f_X7_ledBy x1 σ) := by
  refine ct_I RX7 rfl (by decide) rfl (Nat.le_of_ble_eq_true rfl) (fun p e s m below meth c res X hN hr hlk => ?_)
  show GX7_ledBy p l e s m _ below meth c D ca ad res 0 [(0, .ref (ad 0)), (1, .int (oi x1))] [] σ (f_X7_ledBy x1 σ)
  unfold f_X7_ledBy
  refine q_iconst X dX7_ledBy_0 ?_
  refine q_istore_n X [(2, .int (oi 0)), (0, .ref (ad 0)), (1, .int (oi x1))] dX7_ledBy_1 (by decide) rfl ?_
  refine q_iconst X dX7_ledBy_2 ?_
  refine q_istore_n X [(3, .int (oi 0)), (2, .int (oi 0)), (0, .ref (ad 0)), (1, .int (oi x1))] dX7_ledBy_3 (by decide) rfl ?_
  refine q_sub [(0, .ref (ad 0)), (1, .int (oi x1)), (2, .int (oi 0)), (3, .int (oi 0))] [2, 3, 1, 0] rfl ?_
  exact t_X7_ledBy_4 X hN hr hlk 2000 x1 0 0 σ hx1 (by decide) (by decide)

/-! SiteObjectsModel.isOnce(I)Z -/
abbrev GX7_isOnce (p : Program) (l : Launch) (e : Env) (s : State) (m : MethodId) (args : Array Value) (below : List Frame) (meth : Method) (c : Code) (D : va_G) (ca : Nat → ClassId) (ad : Nat → Nat) (res : Int × Mm) : Nat → List (Nat × Value) → List Value → Mm → Option (Int × Mm) → Prop := G p l e { frames := 3, cells := 0, slots := 0, locals := 77 } s m args below meth c (MQ below (QcI D vcl ca ad shM s.heap.size res) args s 0 0 (Aw ad shM.length s.heap.size)) 5 D vcl ca ad shM (Aw ad shM.length s.heap.size) res
def f_X7_isOnce_4 : Nat → Int → Int → Mm → Option (Int × Mm)
  | 0, _, _, _ => none
  | n + 1, x2, x3, σ => (if (σ.1 0 24) < x3 then some (0, σ) else (f_X7_ledBy x2 σ).bind (fun r3 => (if x2 = 0 then (if r3.1 = 0 then some (1, r3.2) else some (0, r3.2)) else (if r3.1 = 1 then ck (inR (x3 + 1)) (f_X7_isOnce_4 n (r3.2.1 0 36) (x3 + 1) r3.2) else some (0, r3.2)))))
set_option maxRecDepth 100000 in
set_option maxHeartbeats 4000000 in
theorem t_X7_isOnce_4 {p : Program} {l : Launch} {e : Env} {s : State} {m : MethodId} {args : Array Value} {below : List Frame} {meth : Method} {c : Code} {D : va_G} {ca : Nat → ClassId} {ad : Nat → Nat} {res : Int × Mm} (X : Cx p s m args c cX7_isOnce 5 RX7 (Cond.code yX7_isOnce cX7_isOnce 5 (some .boolean) :: tbG) D vcl ca) (hN : NM s) (hr : meth.sig.returnType = (some .boolean)) (hlk : meth.locks = false) : ∀ (n : Nat) (x2 : Int) (x3 : Int) (σ : Mm), inR x2 → inR x3 → GX7_isOnce p l e s m args below meth c D ca ad res 4 [(0, .ref (ad 0)), (2, .int (oi x2)), (3, .int (oi x3))] [] σ (f_X7_isOnce_4 n x2 x3 σ)
  := by
  intro n
  induction n with
  | zero => intro x2 x3 σ hx2 hx3 h; cases h
  | succ n ih =>
    intro x2 x3 σ hx2 hx3
    rw [f_X7_isOnce_4]
    refine q_iload_n X dX7_isOnce_4 2 rfl ?_
    refine q_aload_n X dX7_isOnce_5 0 rfl ?_
    refine fg_X7_108 X dX7_isOnce_6 (fun h1 => ?_)
    refine q_icmp_gt X hx3 h1 53 dX7_isOnce_9 (by decide) (fun h2 => ?_) (fun h2 => ?_)
    · refine q_iconst X dX7_isOnce_53 ?_
      exact q_zret X (Or.inl rfl) hr hlk dX7_isOnce_54
    · refine q_aload_n X dX7_isOnce_12 0 rfl ?_
      refine q_iload_n X dX7_isOnce_13 1 rfl ?_
      refine q_callI X NMok hN Aw_new (c_X7_ledBy hx2) (rn_V X (cwV 1 X.2.2.2.2.1 (tbG_good _ (tbG_V mw_1115 mw_1117 mp_5_7 mw_9 mw_1118)) rfl rfl rfl hd_X7_ledBy ⟨by decide, by decide⟩) hM0 rfl rfl rfl (Nat.le_of_ble_eq_true rfl) dX7_isOnce_14) (fun r3 _ h5 => ?_)
      refine q_istore X [(4, .int (oi r3.1)), (0, .ref (ad 0)), (2, .int (oi x2)), (3, .int (oi x3))] dX7_isOnce_17 (by decide) rfl ?_
      refine q_iload_n X dX7_isOnce_19 2 rfl ?_
      refine q_if_ne X hx2 34 dX7_isOnce_20 (by decide) (fun h6 => ?_) (fun h6 => ?_)
      · refine q_iload X dX7_isOnce_23 0 rfl ?_
        refine q_if_ne X h5 32 dX7_isOnce_25 (by decide) (fun h7 => ?_) (fun h7 => ?_)
        · refine q_iconst X dX7_isOnce_28 ?_
          refine q_goto X 33 dX7_isOnce_29 (by decide) ?_
          exact q_zret X (Or.inr rfl) hr hlk dX7_isOnce_33
        · refine q_iconst X dX7_isOnce_32 ?_
          exact q_zret X (Or.inl rfl) hr hlk dX7_isOnce_33
      · refine q_iload X dX7_isOnce_34 0 rfl ?_
        refine q_iconst X dX7_isOnce_36 ?_
        refine q_icmp_eq X h5 (by decide) 42 dX7_isOnce_37 (by decide) (fun h8 => ?_) (fun h8 => ?_)
        · refine q_aload_n X dX7_isOnce_42 1 rfl ?_
          refine fg_X7_241 X dX7_isOnce_43 (fun h9 => ?_)
          refine q_istore_n X [(2, .int (oi (r3.2.1 0 36))), (4, .int (oi r3.1)), (0, .ref (ad 0)), (3, .int (oi x3))] dX7_isOnce_46 (by decide) rfl ?_
          refine q_iinc X [(3, .int (oi (x3 + 1))), (2, .int (oi (r3.2.1 0 36))), (4, .int (oi r3.1)), (0, .ref (ad 0))] dX7_isOnce_47 (by decide) 3 rfl rfl (fun h10 => ?_)
          refine q_goto X 4 dX7_isOnce_50 (by decide) ?_
          refine q_sub [(0, .ref (ad 0)), (2, .int (oi (r3.2.1 0 36))), (3, .int (oi (x3 + 1)))] [3, 1, 0] rfl ?_
          exact ih (r3.2.1 0 36) (x3 + 1) r3.2 h9 h10
        · refine q_iconst X dX7_isOnce_40 ?_
          exact q_zret X (Or.inl rfl) hr hlk dX7_isOnce_41
def f_X7_isOnce (x1 : Int) (σ : Mm) : Option (Int × Mm) :=
  f_X7_isOnce_4 2000 x1 0 σ
theorem hd_X7_isOnce : yX7_isOnce.cls = RX7 ∧ yX7_isOnce.cls ≠ "java/lang/invoke/MethodHandle" ∧ yX7_isOnce.cls ≠ "java/lang/invoke/VarHandle" ∧ (parseMethodDescriptor yX7_isOnce.desc).map (fun d => d.parameters.length) = some 1 := by decide +kernel
set_option maxRecDepth 100000 in
set_option maxHeartbeats 4000000 in
theorem c_X7_isOnce {l : Launch} {D : va_G} {ca : Nat → ClassId} {ad : Nat → Nat} {x1 : Int} (hx1 : inR x1) {σ : Mm} : CtI l D vcl ca ad shM NM yX7_isOnce (Cond.code yX7_isOnce cX7_isOnce 5 (some .boolean) :: tbG) { frames := 3, cells := 0, slots := 0, locals := 77 } [.ref (ad 0), .int (oi x1)] σ (f_X7_isOnce x1 σ) := by
  refine ct_I RX7 rfl (by decide) rfl (Nat.le_of_ble_eq_true rfl) (fun p e s m below meth c res X hN hr hlk => ?_)
  show GX7_isOnce p l e s m _ below meth c D ca ad res 0 [(0, .ref (ad 0)), (1, .int (oi x1))] [] σ (f_X7_isOnce x1 σ)
  unfold f_X7_isOnce
  refine q_iload_n X dX7_isOnce_0 1 rfl ?_
  refine q_istore_n X [(2, .int (oi x1)), (0, .ref (ad 0)), (1, .int (oi x1))] dX7_isOnce_1 (by decide) rfl ?_
  refine q_iconst X dX7_isOnce_2 ?_
  refine q_istore_n X [(3, .int (oi 0)), (2, .int (oi x1)), (0, .ref (ad 0)), (1, .int (oi x1))] dX7_isOnce_3 (by decide) rfl ?_
  refine q_sub [(0, .ref (ad 0)), (2, .int (oi x1)), (3, .int (oi 0))] [2, 1, 0] rfl ?_
  exact t_X7_isOnce_4 X hN hr hlk 2000 x1 0 σ hx1 (by decide)

/-! SiteObjectsModel.name(II)I -/
abbrev GX7_name (p : Program) (l : Launch) (e : Env) (s : State) (m : MethodId) (args : Array Value) (below : List Frame) (meth : Method) (c : Code) (D : va_G) (ca : Nat → ClassId) (ad : Nat → Nat) (res : Int × Mm) : Nat → List (Nat × Value) → List Value → Mm → Option (Int × Mm) → Prop := G p l e { frames := 4, cells := 0, slots := 0, locals := 101 } s m args below meth c (MQ below (QcI D vcl ca ad shM s.heap.size res) args s 0 0 (Aw ad shM.length s.heap.size)) 3 D vcl ca ad shM (Aw ad shM.length s.heap.size) res
def f_X7_name (x1 : Int) (x2 : Int) (σ : Mm) : Option (Int × Mm) :=
  (f_X7_in x2 0 4 σ).bind (fun r1 => (if r1 = 0 then some ((-1), σ) else (if (σ.1 0 16) = 0 then some ((-2), σ) else ck (inR ((σ.1 0 29) - 1)) ((f_X7_in x1 0 ((σ.1 0 29) - 1) σ).bind (fun r9 => (if r9 = 0 then some ((-1), σ) else (if x2 = 0 then ck ((0 : Int) ≤ x1 ∧ x1 < ((60 : Nat) : Int)) (some ((σ.1 17 (Int.toNat x1)), σ)) else (if x2 = 1 then ck ((0 : Int) ≤ x1 ∧ x1 < ((60 : Nat) : Int)) (ck ((0 : Int) ≤ (σ.1 17 (Int.toNat x1)) ∧ (σ.1 17 (Int.toNat x1)) < ((90 : Nat) : Int)) (some ((σ.1 10 (Int.toNat (σ.1 17 (Int.toNat x1)))), σ))) else (if x2 = 2 then (f_X7_isRow x1 σ).bind (fun r19 => (if r19 = 0 then some (0, σ) else some (1, σ))) else (if x2 = 3 then ck ((0 : Int) ≤ x1 ∧ x1 < ((60 : Nat) : Int)) (some ((σ.1 18 (Int.toNat x1)), σ)) else ck ((0 : Int) ≤ x1 ∧ x1 < ((60 : Nat) : Int)) ((f_X7_isOnce (σ.1 18 (Int.toNat x1)) σ).bind (fun r26 => (if r26.1 = 0 then some (0, r26.2) else some (1, r26.2))))))))))))))
theorem hd_X7_name : yX7_name.cls = RX7 ∧ yX7_name.cls ≠ "java/lang/invoke/MethodHandle" ∧ yX7_name.cls ≠ "java/lang/invoke/VarHandle" ∧ (parseMethodDescriptor yX7_name.desc).map (fun d => d.parameters.length) = some 2 := by decide +kernel
set_option maxRecDepth 100000 in
set_option maxHeartbeats 4000000 in
theorem c_X7_name {l : Launch} {D : va_G} {ca : Nat → ClassId} {ad : Nat → Nat} {x1 : Int} {x2 : Int} (hx1 : inR x1) (hx2 : inR x2) {σ : Mm} : CtI l D vcl ca ad shM NM yX7_name (Cond.code yX7_name cX7_name 3 (some .int) :: tbG) { frames := 4, cells := 0, slots := 0, locals := 101 } [.ref (ad 0), .int (oi x1), .int (oi x2)] σ (f_X7_name x1 x2 σ) := by
  refine ct_I RX7 rfl (by decide) rfl (Nat.le_of_ble_eq_true rfl) (fun p e s m below meth c res X hN hr hlk => ?_)
  show GX7_name p l e s m _ below meth c D ca ad res 0 [(0, .ref (ad 0)), (1, .int (oi x1)), (2, .int (oi x2))] [] σ (f_X7_name x1 x2 σ)
  unfold f_X7_name
  refine q_iload_n X dX7_name_0 2 rfl ?_
  refine q_iconst X dX7_name_1 ?_
  refine q_iconst X dX7_name_2 ?_
  refine q_callIp X NMok hN Aw_new (c_X7_in hx2 (by decide) (by decide)) (rn_S X (va_cwS 3 X.2.2.2.2.1 (tbG_good _ (tbG_S mw_1008 mw_1009 mw_9 mw_1010)) rfl rfl rfl hd_X7_in ⟨by decide, by decide⟩) rfl rfl (Nat.le_of_ble_eq_true rfl) dX7_name_3) (fun r1 _ h3 => ?_)
  refine q_if_ne X h3 11 dX7_name_6 (by decide) (fun h4 => ?_) (fun h4 => ?_)
  · refine q_iconst X dX7_name_9 ?_
    exact q_iret X (by decide) hr hlk dX7_name_10
  · refine q_aload_n X dX7_name_11 0 rfl ?_
    refine fg_X7_122 X dX7_name_12 (fun h5 => ?_)
    refine q_if_ne X h5 21 dX7_name_15 (by decide) (fun h6 => ?_) (fun h6 => ?_)
    · refine q_bipush X dX7_name_18 (by decide) ?_
      exact q_iret X (by decide) hr hlk dX7_name_20
    · refine q_iload_n X dX7_name_21 1 rfl ?_
      refine q_iconst X dX7_name_22 ?_
      refine q_aload_n X dX7_name_23 0 rfl ?_
      refine fg_X7_167 X dX7_name_24 (fun h7 => ?_)
      refine q_iconst X dX7_name_27 ?_
      refine q_isub X dX7_name_28 ?_
      refine q_ck (fun h8 => ?_)
      refine q_callIp X NMok hN Aw_new (c_X7_in hx1 (by decide) h8) (rn_S X (va_cwS 3 X.2.2.2.2.1 (tbG_good _ (tbG_S mw_1008 mw_1009 mw_9 mw_1010)) rfl rfl rfl hd_X7_in ⟨by decide, by decide⟩) rfl rfl (Nat.le_of_ble_eq_true rfl) dX7_name_29) (fun r9 _ h11 => ?_)
      refine q_if_ne X h11 37 dX7_name_32 (by decide) (fun h12 => ?_) (fun h12 => ?_)
      · refine q_iconst X dX7_name_35 ?_
        exact q_iret X (by decide) hr hlk dX7_name_36
      · refine q_iload_n X dX7_name_37 2 rfl ?_
        refine q_ite (fun h13 => ?_) (fun h13 => ?_)
        · refine q_tswIn X hx2 0 30 68 h13 dX7_name_38 (by decide) rfl (by decide) ?_
          refine q_aload_n X dX7_name_68 0 rfl ?_
          refine fg_X7_63 X dX7_name_69 ?_
          refine q_iload_n X dX7_name_72 1 rfl ?_
          refine q_iald X hM17 (by decide) dX7_name_73 (fun h14 => ?_)
          exact q_iret X h14 hr hlk dX7_name_74
        · refine q_ite (fun h15 => ?_) (fun h15 => ?_)
          · refine q_tswIn X hx2 1 37 75 h15 dX7_name_38 (by decide) rfl (by decide) ?_
            refine q_aload_n X dX7_name_75 0 rfl ?_
            refine fg_X7_41 X dX7_name_76 ?_
            refine q_aload_n X dX7_name_79 0 rfl ?_
            refine fg_X7_63 X dX7_name_80 ?_
            refine q_iload_n X dX7_name_83 1 rfl ?_
            refine q_iald X hM17 (by decide) dX7_name_84 (fun h16 => ?_)
            refine q_iald X hM10 (by decide) dX7_name_85 (fun h17 => ?_)
            exact q_iret X h17 hr hlk dX7_name_86
          · refine q_ite (fun h18 => ?_) (fun h18 => ?_)
            · refine q_tswIn X hx2 2 49 87 h18 dX7_name_38 (by decide) rfl (by decide) ?_
              refine q_aload_n X dX7_name_87 0 rfl ?_
              refine q_iload_n X dX7_name_88 1 rfl ?_
              refine q_callIp X NMok hN Aw_new (c_X7_isRow hx1) (rn_V X (cwV 1 X.2.2.2.2.1 (tbG_good _ (tbG_V mw_1066 mw_1068 mp_4_12 mw_9 mw_1069)) rfl rfl rfl hd_X7_isRow ⟨by decide, by decide⟩) hM0 rfl rfl rfl (Nat.le_of_ble_eq_true rfl) dX7_name_89) (fun r19 _ h21 => ?_)
              refine q_if_eq X h21 99 dX7_name_92 (by decide) (fun h22 => ?_) (fun h22 => ?_)
              · refine q_iconst X dX7_name_99 ?_
                exact q_iret X (by decide) hr hlk dX7_name_100
              · refine q_iconst X dX7_name_95 ?_
                refine q_goto X 100 dX7_name_96 (by decide) ?_
                exact q_iret X (by decide) hr hlk dX7_name_100
            · refine q_ite (fun h23 => ?_) (fun h23 => ?_)
              · refine q_tswIn X hx2 3 63 101 h23 dX7_name_38 (by decide) rfl (by decide) ?_
                refine q_aload_n X dX7_name_101 0 rfl ?_
                refine fg_X7_66 X dX7_name_102 ?_
                refine q_iload_n X dX7_name_105 1 rfl ?_
                refine q_iald X hM18 (by decide) dX7_name_106 (fun h24 => ?_)
                exact q_iret X h24 hr hlk dX7_name_107
              · refine q_tswOut X hx2 108 (by omega) dX7_name_38 (by decide) ?_
                refine q_aload_n X dX7_name_108 0 rfl ?_
                refine q_aload_n X dX7_name_109 0 rfl ?_
                refine fg_X7_66 X dX7_name_110 ?_
                refine q_iload_n X dX7_name_113 1 rfl ?_
                refine q_iald X hM18 (by decide) dX7_name_114 (fun h25 => ?_)
                refine q_callI X NMok hN Aw_new (c_X7_isOnce h25) (rn_V X (cwV 1 X.2.2.2.2.1 (tbG_good _ (tbG_V mw_1111 mw_1113 mp_5_6 mw_9 mw_1114)) rfl rfl rfl hd_X7_isOnce ⟨by decide, by decide⟩) hM0 rfl rfl rfl (Nat.le_of_ble_eq_true rfl) dX7_name_115) (fun r26 _ h28 => ?_)
                refine q_if_eq X h28 125 dX7_name_118 (by decide) (fun h29 => ?_) (fun h29 => ?_)
                · refine q_iconst X dX7_name_125 ?_
                  exact q_iret X (by decide) hr hlk dX7_name_126
                · refine q_iconst X dX7_name_121 ?_
                  refine q_goto X 126 dX7_name_122 (by decide) ?_
                  exact q_iret X (by decide) hr hlk dX7_name_126

/-! SiteObjectsModel.node(II)I -/
abbrev GX7_node (p : Program) (l : Launch) (e : Env) (s : State) (m : MethodId) (args : Array Value) (below : List Frame) (meth : Method) (c : Code) (D : va_G) (ca : Nat → ClassId) (ad : Nat → Nat) (res : Int × Mm) : Nat → List (Nat × Value) → List Value → Mm → Option (Int × Mm) → Prop := G p l e { frames := 4, cells := 0, slots := 0, locals := 101 } s m args below meth c (MQ below (QcI D vcl ca ad shM s.heap.size res) args s 0 0 (Aw ad shM.length s.heap.size)) 3 D vcl ca ad shM (Aw ad shM.length s.heap.size) res
def f_X7_node (x1 : Int) (x2 : Int) (σ : Mm) : Option (Int × Mm) :=
  (f_X7_in x2 0 4 σ).bind (fun r1 => (if r1 = 0 then some ((-1), σ) else (if (σ.1 0 16) = 0 then some ((-2), σ) else ck (inR ((σ.1 0 24) - 1)) ((f_X7_in x1 0 ((σ.1 0 24) - 1) σ).bind (fun r9 => (if r9 = 0 then some ((-1), σ) else (if x2 = 0 then ck ((0 : Int) ≤ x1 ∧ x1 < ((80 : Nat) : Int)) (some ((σ.1 13 (Int.toNat x1)), σ)) else (if x2 = 1 then ck ((0 : Int) ≤ x1 ∧ x1 < ((80 : Nat) : Int)) ((if 0 ≤ (σ.1 14 (Int.toNat x1)) then ck ((0 : Int) ≤ x1 ∧ x1 < ((80 : Nat) : Int)) (some ((σ.1 14 (Int.toNat x1)), σ)) else some ((-9), σ))) else (if x2 = 2 then ck ((0 : Int) ≤ x1 ∧ x1 < ((80 : Nat) : Int)) ((if 0 ≤ (σ.1 15 (Int.toNat x1)) then ck ((0 : Int) ≤ x1 ∧ x1 < ((80 : Nat) : Int)) (some ((σ.1 15 (Int.toNat x1)), σ)) else some ((-9), σ))) else (if x2 = 3 then (f_X7_isOnce x1 σ).bind (fun r24 => (if r24.1 = 0 then some (0, r24.2) else some (1, r24.2))) else (f_X7_ledBy x1 σ).bind (fun r28 => some (r28.1, r28.2))))))))))))
theorem hd_X7_node : yX7_node.cls = RX7 ∧ yX7_node.cls ≠ "java/lang/invoke/MethodHandle" ∧ yX7_node.cls ≠ "java/lang/invoke/VarHandle" ∧ (parseMethodDescriptor yX7_node.desc).map (fun d => d.parameters.length) = some 2 := by decide +kernel
set_option maxRecDepth 100000 in
set_option maxHeartbeats 4000000 in
theorem c_X7_node {l : Launch} {D : va_G} {ca : Nat → ClassId} {ad : Nat → Nat} {x1 : Int} {x2 : Int} (hx1 : inR x1) (hx2 : inR x2) {σ : Mm} : CtI l D vcl ca ad shM NM yX7_node (Cond.code yX7_node cX7_node 3 (some .int) :: tbG) { frames := 4, cells := 0, slots := 0, locals := 101 } [.ref (ad 0), .int (oi x1), .int (oi x2)] σ (f_X7_node x1 x2 σ) := by
  refine ct_I RX7 rfl (by decide) rfl (Nat.le_of_ble_eq_true rfl) (fun p e s m below meth c res X hN hr hlk => ?_)
  show GX7_node p l e s m _ below meth c D ca ad res 0 [(0, .ref (ad 0)), (1, .int (oi x1)), (2, .int (oi x2))] [] σ (f_X7_node x1 x2 σ)
  unfold f_X7_node
  refine q_iload_n X dX7_node_0 2 rfl ?_
  refine q_iconst X dX7_node_1 ?_
  refine q_iconst X dX7_node_2 ?_
  refine q_callIp X NMok hN Aw_new (c_X7_in hx2 (by decide) (by decide)) (rn_S X (va_cwS 3 X.2.2.2.2.1 (tbG_good _ (tbG_S mw_1008 mw_1009 mw_9 mw_1010)) rfl rfl rfl hd_X7_in ⟨by decide, by decide⟩) rfl rfl (Nat.le_of_ble_eq_true rfl) dX7_node_3) (fun r1 _ h3 => ?_)
  refine q_if_ne X h3 11 dX7_node_6 (by decide) (fun h4 => ?_) (fun h4 => ?_)
  · refine q_iconst X dX7_node_9 ?_
    exact q_iret X (by decide) hr hlk dX7_node_10
  · refine q_aload_n X dX7_node_11 0 rfl ?_
    refine fg_X7_122 X dX7_node_12 (fun h5 => ?_)
    refine q_if_ne X h5 21 dX7_node_15 (by decide) (fun h6 => ?_) (fun h6 => ?_)
    · refine q_bipush X dX7_node_18 (by decide) ?_
      exact q_iret X (by decide) hr hlk dX7_node_20
    · refine q_iload_n X dX7_node_21 1 rfl ?_
      refine q_iconst X dX7_node_22 ?_
      refine q_aload_n X dX7_node_23 0 rfl ?_
      refine fg_X7_108 X dX7_node_24 (fun h7 => ?_)
      refine q_iconst X dX7_node_27 ?_
      refine q_isub X dX7_node_28 ?_
      refine q_ck (fun h8 => ?_)
      refine q_callIp X NMok hN Aw_new (c_X7_in hx1 (by decide) h8) (rn_S X (va_cwS 3 X.2.2.2.2.1 (tbG_good _ (tbG_S mw_1008 mw_1009 mw_9 mw_1010)) rfl rfl rfl hd_X7_in ⟨by decide, by decide⟩) rfl rfl (Nat.le_of_ble_eq_true rfl) dX7_node_29) (fun r9 _ h11 => ?_)
      refine q_if_ne X h11 37 dX7_node_32 (by decide) (fun h12 => ?_) (fun h12 => ?_)
      · refine q_iconst X dX7_node_35 ?_
        exact q_iret X (by decide) hr hlk dX7_node_36
      · refine q_iload_n X dX7_node_37 2 rfl ?_
        refine q_ite (fun h13 => ?_) (fun h13 => ?_)
        · refine q_tswIn X hx2 0 30 68 h13 dX7_node_38 (by decide) rfl (by decide) ?_
          refine q_aload_n X dX7_node_68 0 rfl ?_
          refine fg_X7_50 X dX7_node_69 ?_
          refine q_iload_n X dX7_node_72 1 rfl ?_
          refine q_iald X hM13 (by decide) dX7_node_73 (fun h14 => ?_)
          exact q_iret X h14 hr hlk dX7_node_74
        · refine q_ite (fun h15 => ?_) (fun h15 => ?_)
          · refine q_tswIn X hx2 1 37 75 h15 dX7_node_38 (by decide) rfl (by decide) ?_
            refine q_aload_n X dX7_node_75 0 rfl ?_
            refine fg_X7_53 X dX7_node_76 ?_
            refine q_iload_n X dX7_node_79 1 rfl ?_
            refine q_iald X hM14 (by decide) dX7_node_80 (fun h16 => ?_)
            refine q_if_ge X h16 89 dX7_node_81 (by decide) (fun h17 => ?_) (fun h17 => ?_)
            · refine q_aload_n X dX7_node_89 0 rfl ?_
              refine fg_X7_53 X dX7_node_90 ?_
              refine q_iload_n X dX7_node_93 1 rfl ?_
              refine q_iald X hM14 (by decide) dX7_node_94 (fun h18 => ?_)
              exact q_iret X h18 hr hlk dX7_node_95
            · refine q_bipush X dX7_node_84 (by decide) ?_
              refine q_goto X 95 dX7_node_86 (by decide) ?_
              exact q_iret X (by decide) hr hlk dX7_node_95
          · refine q_ite (fun h19 => ?_) (fun h19 => ?_)
            · refine q_tswIn X hx2 2 58 96 h19 dX7_node_38 (by decide) rfl (by decide) ?_
              refine q_aload_n X dX7_node_96 0 rfl ?_
              refine fg_X7_56 X dX7_node_97 ?_
              refine q_iload_n X dX7_node_100 1 rfl ?_
              refine q_iald X hM15 (by decide) dX7_node_101 (fun h20 => ?_)
              refine q_if_ge X h20 110 dX7_node_102 (by decide) (fun h21 => ?_) (fun h21 => ?_)
              · refine q_aload_n X dX7_node_110 0 rfl ?_
                refine fg_X7_56 X dX7_node_111 ?_
                refine q_iload_n X dX7_node_114 1 rfl ?_
                refine q_iald X hM15 (by decide) dX7_node_115 (fun h22 => ?_)
                exact q_iret X h22 hr hlk dX7_node_116
              · refine q_bipush X dX7_node_105 (by decide) ?_
                refine q_goto X 116 dX7_node_107 (by decide) ?_
                exact q_iret X (by decide) hr hlk dX7_node_116
            · refine q_ite (fun h23 => ?_) (fun h23 => ?_)
              · refine q_tswIn X hx2 3 79 117 h23 dX7_node_38 (by decide) rfl (by decide) ?_
                refine q_aload_n X dX7_node_117 0 rfl ?_
                refine q_iload_n X dX7_node_118 1 rfl ?_
                refine q_callI X NMok hN Aw_new (c_X7_isOnce hx1) (rn_V X (cwV 1 X.2.2.2.2.1 (tbG_good _ (tbG_V mw_1111 mw_1113 mp_5_6 mw_9 mw_1114)) rfl rfl rfl hd_X7_isOnce ⟨by decide, by decide⟩) hM0 rfl rfl rfl (Nat.le_of_ble_eq_true rfl) dX7_node_119) (fun r24 _ h26 => ?_)
                refine q_if_eq X h26 129 dX7_node_122 (by decide) (fun h27 => ?_) (fun h27 => ?_)
                · refine q_iconst X dX7_node_129 ?_
                  exact q_iret X (by decide) hr hlk dX7_node_130
                · refine q_iconst X dX7_node_125 ?_
                  refine q_goto X 130 dX7_node_126 (by decide) ?_
                  exact q_iret X (by decide) hr hlk dX7_node_130
              · refine q_tswOut X hx2 131 (by omega) dX7_node_38 (by decide) ?_
                refine q_aload_n X dX7_node_131 0 rfl ?_
                refine q_iload_n X dX7_node_132 1 rfl ?_
                refine q_callI X NMok hN Aw_new (c_X7_ledBy hx1) (rn_V X (cwV 1 X.2.2.2.2.1 (tbG_good _ (tbG_V mw_1115 mw_1117 mp_5_7 mw_9 mw_1118)) rfl rfl rfl hd_X7_ledBy ⟨by decide, by decide⟩) hM0 rfl rfl rfl (Nat.le_of_ble_eq_true rfl) dX7_node_133) (fun r28 _ h30 => ?_)
                exact q_iret X h30 hr hlk dX7_node_136

/-! SiteObjectsModel.held(II)J -/
abbrev GX7_held (p : Program) (l : Launch) (e : Env) (s : State) (m : MethodId) (args : Array Value) (below : List Frame) (meth : Method) (c : Code) (D : va_G) (ca : Nat → ClassId) (ad : Nat → Nat) (σ : Mm) (res : Int64) : Nat → List (Nat × Value) → List Value → Mm → Option (Int64) → Prop := G p l e { frames := 1, cells := 0, slots := 0, locals := 22 } s m args below meth c (MQ below (QcL D vcl ca ad shM s.heap.size (res, σ)) args s 0 0 (Aw ad shM.length s.heap.size)) 3 D vcl ca ad shM (Aw ad shM.length s.heap.size) res
def f_X7_held (x1 : Int) (x2 : Int) (σ : Mm) : Option (Int64) :=
  (f_X7_in x2 0 7 σ).bind (fun r1 => (if r1 = 0 then some (-1) else (if (σ.1 0 16) = 0 then some (-2) else ck (inR ((σ.1 0 24) - 1)) ((f_X7_in x1 0 ((σ.1 0 24) - 1) σ).bind (fun r9 => (if r9 = 0 then some (-1) else ck ((0 : Int) ≤ ((8 * x1) + x2) ∧ ((8 * x1) + x2) < ((640 : Nat) : Int)) (some (σ.2 16 (Int.toNat ((8 * x1) + x2))))))))))
theorem hd_X7_held : yX7_held.cls = RX7 ∧ yX7_held.cls ≠ "java/lang/invoke/MethodHandle" ∧ yX7_held.cls ≠ "java/lang/invoke/VarHandle" ∧ (parseMethodDescriptor yX7_held.desc).map (fun d => d.parameters.length) = some 2 := by decide +kernel
set_option maxRecDepth 100000 in
set_option maxHeartbeats 4000000 in
theorem c_X7_held {l : Launch} {D : va_G} {ca : Nat → ClassId} {ad : Nat → Nat} {x1 : Int} {x2 : Int} (hx1 : inR x1) (hx2 : inR x2) {σ : Mm} : CtL l D vcl ca ad shM NM yX7_held (Cond.code yX7_held cX7_held 3 (some .long) :: tbG) { frames := 1, cells := 0, slots := 0, locals := 22 } [.ref (ad 0), .int (oi x1), .int (oi x2)] σ ((f_X7_held x1 x2 σ).map (fun r => (r, σ))) := by
  refine ct_Lp RX7 rfl (by decide) rfl (Nat.le_of_ble_eq_true rfl) (fun p e s m below meth c res X hN hr hlk => ?_)
  show GX7_held p l e s m _ below meth c D ca ad σ res 0 [(0, .ref (ad 0)), (1, .int (oi x1)), (2, .int (oi x2))] [] σ (f_X7_held x1 x2 σ)
  unfold f_X7_held
  refine q_iload_n X dX7_held_0 2 rfl ?_
  refine q_iconst X dX7_held_1 ?_
  refine q_bipush X dX7_held_2 (by decide) ?_
  refine q_callIp X NMok hN Aw_new (c_X7_in hx2 (by decide) (by decide)) (rn_S X (va_cwS 3 X.2.2.2.2.1 (tbG_good _ (tbG_S mw_1008 mw_1009 mw_9 mw_1010)) rfl rfl rfl hd_X7_in ⟨by decide, by decide⟩) rfl rfl (Nat.le_of_ble_eq_true rfl) dX7_held_4) (fun r1 _ h3 => ?_)
  refine q_if_ne X h3 16 dX7_held_7 (by decide) (fun h4 => ?_) (fun h4 => ?_)
  · refine q_ldc2 X (-1) dX7_held_10 (List.mem_cons_of_mem _ mw_1106) ?_
    refine q_goto X 60 dX7_held_13 (by decide) ?_
    exact q_lretp X hr hlk dX7_held_60
  · refine q_aload_n X dX7_held_16 0 rfl ?_
    refine fg_X7_122 X dX7_held_17 (fun h5 => ?_)
    refine q_if_ne X h5 29 dX7_held_20 (by decide) (fun h6 => ?_) (fun h6 => ?_)
    · refine q_ldc2 X (-2) dX7_held_23 (List.mem_cons_of_mem _ mw_1131) ?_
      refine q_goto X 60 dX7_held_26 (by decide) ?_
      exact q_lretp X hr hlk dX7_held_60
    · refine q_iload_n X dX7_held_29 1 rfl ?_
      refine q_iconst X dX7_held_30 ?_
      refine q_aload_n X dX7_held_31 0 rfl ?_
      refine fg_X7_108 X dX7_held_32 (fun h7 => ?_)
      refine q_iconst X dX7_held_35 ?_
      refine q_isub X dX7_held_36 ?_
      refine q_ck (fun h8 => ?_)
      refine q_callIp X NMok hN Aw_new (c_X7_in hx1 (by decide) h8) (rn_S X (va_cwS 3 X.2.2.2.2.1 (tbG_good _ (tbG_S mw_1008 mw_1009 mw_9 mw_1010)) rfl rfl rfl hd_X7_in ⟨by decide, by decide⟩) rfl rfl (Nat.le_of_ble_eq_true rfl) dX7_held_37) (fun r9 _ h11 => ?_)
      refine q_if_ne X h11 49 dX7_held_40 (by decide) (fun h12 => ?_) (fun h12 => ?_)
      · refine q_ldc2 X (-1) dX7_held_43 (List.mem_cons_of_mem _ mw_1106) ?_
        refine q_goto X 60 dX7_held_46 (by decide) ?_
        exact q_lretp X hr hlk dX7_held_60
      · refine q_aload_n X dX7_held_49 0 rfl ?_
        refine fg_X7_59 X dX7_held_50 ?_
        refine q_bipush X dX7_held_53 (by decide) ?_
        refine q_iload_n X dX7_held_55 1 rfl ?_
        refine q_imul X dX7_held_56 ?_
        refine q_iload_n X dX7_held_57 2 rfl ?_
        refine q_iadd X dX7_held_58 ?_
        refine q_lald X hM16 (by decide) dX7_held_59 ?_
        exact q_lretp X hr hlk dX7_held_60

/-! SiteObjectsModel.inside(II)J -/
abbrev GX7_inside (p : Program) (l : Launch) (e : Env) (s : State) (m : MethodId) (args : Array Value) (below : List Frame) (meth : Method) (c : Code) (D : va_G) (ca : Nat → ClassId) (ad : Nat → Nat) (σ : Mm) (res : Int64) : Nat → List (Nat × Value) → List Value → Mm → Option (Int64) → Prop := G p l e { frames := 1, cells := 0, slots := 0, locals := 22 } s m args below meth c (MQ below (QcL D vcl ca ad shM s.heap.size (res, σ)) args s 0 0 (Aw ad shM.length s.heap.size)) 3 D vcl ca ad shM (Aw ad shM.length s.heap.size) res
def f_X7_inside (x1 : Int) (x2 : Int) (σ : Mm) : Option (Int64) :=
  (f_X7_in x2 0 4 σ).bind (fun r1 => (if r1 = 0 then some (-1) else (if (σ.1 0 16) = 0 then some (-2) else ck (inR ((σ.1 0 29) - 1)) ((f_X7_in x1 0 ((σ.1 0 29) - 1) σ).bind (fun r9 => (if r9 = 0 then some (-1) else ck ((0 : Int) ≤ ((5 * x1) + x2) ∧ ((5 * x1) + x2) < ((300 : Nat) : Int)) (some (σ.2 19 (Int.toNat ((5 * x1) + x2))))))))))
theorem hd_X7_inside : yX7_inside.cls = RX7 ∧ yX7_inside.cls ≠ "java/lang/invoke/MethodHandle" ∧ yX7_inside.cls ≠ "java/lang/invoke/VarHandle" ∧ (parseMethodDescriptor yX7_inside.desc).map (fun d => d.parameters.length) = some 2 := by decide +kernel
set_option maxRecDepth 100000 in
set_option maxHeartbeats 4000000 in
theorem c_X7_inside {l : Launch} {D : va_G} {ca : Nat → ClassId} {ad : Nat → Nat} {x1 : Int} {x2 : Int} (hx1 : inR x1) (hx2 : inR x2) {σ : Mm} : CtL l D vcl ca ad shM NM yX7_inside (Cond.code yX7_inside cX7_inside 3 (some .long) :: tbG) { frames := 1, cells := 0, slots := 0, locals := 22 } [.ref (ad 0), .int (oi x1), .int (oi x2)] σ ((f_X7_inside x1 x2 σ).map (fun r => (r, σ))) := by
  refine ct_Lp RX7 rfl (by decide) rfl (Nat.le_of_ble_eq_true rfl) (fun p e s m below meth c res X hN hr hlk => ?_)
  show GX7_inside p l e s m _ below meth c D ca ad σ res 0 [(0, .ref (ad 0)), (1, .int (oi x1)), (2, .int (oi x2))] [] σ (f_X7_inside x1 x2 σ)
  unfold f_X7_inside
  refine q_iload_n X dX7_inside_0 2 rfl ?_
  refine q_iconst X dX7_inside_1 ?_
  refine q_iconst X dX7_inside_2 ?_
  refine q_callIp X NMok hN Aw_new (c_X7_in hx2 (by decide) (by decide)) (rn_S X (va_cwS 3 X.2.2.2.2.1 (tbG_good _ (tbG_S mw_1008 mw_1009 mw_9 mw_1010)) rfl rfl rfl hd_X7_in ⟨by decide, by decide⟩) rfl rfl (Nat.le_of_ble_eq_true rfl) dX7_inside_3) (fun r1 _ h3 => ?_)
  refine q_if_ne X h3 15 dX7_inside_6 (by decide) (fun h4 => ?_) (fun h4 => ?_)
  · refine q_ldc2 X (-1) dX7_inside_9 (List.mem_cons_of_mem _ mw_1106) ?_
    refine q_goto X 58 dX7_inside_12 (by decide) ?_
    exact q_lretp X hr hlk dX7_inside_58
  · refine q_aload_n X dX7_inside_15 0 rfl ?_
    refine fg_X7_122 X dX7_inside_16 (fun h5 => ?_)
    refine q_if_ne X h5 28 dX7_inside_19 (by decide) (fun h6 => ?_) (fun h6 => ?_)
    · refine q_ldc2 X (-2) dX7_inside_22 (List.mem_cons_of_mem _ mw_1131) ?_
      refine q_goto X 58 dX7_inside_25 (by decide) ?_
      exact q_lretp X hr hlk dX7_inside_58
    · refine q_iload_n X dX7_inside_28 1 rfl ?_
      refine q_iconst X dX7_inside_29 ?_
      refine q_aload_n X dX7_inside_30 0 rfl ?_
      refine fg_X7_167 X dX7_inside_31 (fun h7 => ?_)
      refine q_iconst X dX7_inside_34 ?_
      refine q_isub X dX7_inside_35 ?_
      refine q_ck (fun h8 => ?_)
      refine q_callIp X NMok hN Aw_new (c_X7_in hx1 (by decide) h8) (rn_S X (va_cwS 3 X.2.2.2.2.1 (tbG_good _ (tbG_S mw_1008 mw_1009 mw_9 mw_1010)) rfl rfl rfl hd_X7_in ⟨by decide, by decide⟩) rfl rfl (Nat.le_of_ble_eq_true rfl) dX7_inside_36) (fun r9 _ h11 => ?_)
      refine q_if_ne X h11 48 dX7_inside_39 (by decide) (fun h12 => ?_) (fun h12 => ?_)
      · refine q_ldc2 X (-1) dX7_inside_42 (List.mem_cons_of_mem _ mw_1106) ?_
        refine q_goto X 58 dX7_inside_45 (by decide) ?_
        exact q_lretp X hr hlk dX7_inside_58
      · refine q_aload_n X dX7_inside_48 0 rfl ?_
        refine fg_X7_69 X dX7_inside_49 ?_
        refine q_iconst X dX7_inside_52 ?_
        refine q_iload_n X dX7_inside_53 1 rfl ?_
        refine q_imul X dX7_inside_54 ?_
        refine q_iload_n X dX7_inside_55 2 rfl ?_
        refine q_iadd X dX7_inside_56 ?_
        refine q_lald X hM19 (by decide) dX7_inside_57 ?_
        exact q_lretp X hr hlk dX7_inside_58

/-! SiteObjectsModel.global(I)J -/
abbrev GX7_global (p : Program) (l : Launch) (e : Env) (s : State) (m : MethodId) (args : Array Value) (below : List Frame) (meth : Method) (c : Code) (D : va_G) (ca : Nat → ClassId) (ad : Nat → Nat) (σ : Mm) (res : Int64) : Nat → List (Nat × Value) → List Value → Mm → Option (Int64) → Prop := G p l e { frames := 1, cells := 0, slots := 0, locals := 22 } s m args below meth c (MQ below (QcL D vcl ca ad shM s.heap.size (res, σ)) args s 0 0 (Aw ad shM.length s.heap.size)) 2 D vcl ca ad shM (Aw ad shM.length s.heap.size) res
def f_X7_global (x1 : Int) (σ : Mm) : Option (Int64) :=
  (f_X7_in x1 0 3 σ).bind (fun r1 => (if r1 = 0 then some (-1) else (if (σ.1 0 16) = 0 then some (-2) else ck ((0 : Int) ≤ x1 ∧ x1 < ((4 : Nat) : Int)) (some (σ.2 20 (Int.toNat x1))))))
theorem hd_X7_global : yX7_global.cls = RX7 ∧ yX7_global.cls ≠ "java/lang/invoke/MethodHandle" ∧ yX7_global.cls ≠ "java/lang/invoke/VarHandle" ∧ (parseMethodDescriptor yX7_global.desc).map (fun d => d.parameters.length) = some 1 := by decide +kernel
set_option maxRecDepth 100000 in
set_option maxHeartbeats 4000000 in
theorem c_X7_global {l : Launch} {D : va_G} {ca : Nat → ClassId} {ad : Nat → Nat} {x1 : Int} (hx1 : inR x1) {σ : Mm} : CtL l D vcl ca ad shM NM yX7_global (Cond.code yX7_global cX7_global 2 (some .long) :: tbG) { frames := 1, cells := 0, slots := 0, locals := 22 } [.ref (ad 0), .int (oi x1)] σ ((f_X7_global x1 σ).map (fun r => (r, σ))) := by
  refine ct_Lp RX7 rfl (by decide) rfl (Nat.le_of_ble_eq_true rfl) (fun p e s m below meth c res X hN hr hlk => ?_)
  show GX7_global p l e s m _ below meth c D ca ad σ res 0 [(0, .ref (ad 0)), (1, .int (oi x1))] [] σ (f_X7_global x1 σ)
  unfold f_X7_global
  refine q_iload_n X dX7_global_0 1 rfl ?_
  refine q_iconst X dX7_global_1 ?_
  refine q_iconst X dX7_global_2 ?_
  refine q_callIp X NMok hN Aw_new (c_X7_in hx1 (by decide) (by decide)) (rn_S X (va_cwS 3 X.2.2.2.2.1 (tbG_good _ (tbG_S mw_1008 mw_1009 mw_9 mw_1010)) rfl rfl rfl hd_X7_in ⟨by decide, by decide⟩) rfl rfl (Nat.le_of_ble_eq_true rfl) dX7_global_3) (fun r1 _ h3 => ?_)
  refine q_if_ne X h3 15 dX7_global_6 (by decide) (fun h4 => ?_) (fun h4 => ?_)
  · refine q_ldc2 X (-1) dX7_global_9 (List.mem_cons_of_mem _ mw_1106) ?_
    refine q_goto X 34 dX7_global_12 (by decide) ?_
    exact q_lretp X hr hlk dX7_global_34
  · refine q_aload_n X dX7_global_15 0 rfl ?_
    refine fg_X7_122 X dX7_global_16 (fun h5 => ?_)
    refine q_if_ne X h5 28 dX7_global_19 (by decide) (fun h6 => ?_) (fun h6 => ?_)
    · refine q_ldc2 X (-2) dX7_global_22 (List.mem_cons_of_mem _ mw_1131) ?_
      refine q_goto X 34 dX7_global_25 (by decide) ?_
      exact q_lretp X hr hlk dX7_global_34
    · refine q_aload_n X dX7_global_28 0 rfl ?_
      refine fg_X7_72 X dX7_global_29 ?_
      refine q_iload_n X dX7_global_32 1 rfl ?_
      refine q_lald X hM20 (by decide) dX7_global_33 ?_
      exact q_lretp X hr hlk dX7_global_34

/-! SiteObjectsModel.leads(III)I -/
abbrev GX7_leads (p : Program) (l : Launch) (e : Env) (s : State) (m : MethodId) (args : Array Value) (below : List Frame) (meth : Method) (c : Code) (D : va_G) (ca : Nat → ClassId) (ad : Nat → Nat) (res : Int × Mm) : Nat → List (Nat × Value) → List Value → Mm → Option (Int × Mm) → Prop := G p l e { frames := 2, cells := 0, slots := 0, locals := 52 } s m args below meth c (MQ below (QcI D vcl ca ad shM s.heap.size res) args s 0 0 (Aw ad shM.length s.heap.size)) 6 D vcl ca ad shM (Aw ad shM.length s.heap.size) res
def f_X7_leads_85 : Nat → Int → Int → Int → Int → Int → Mm → Option (Int × Mm)
  | 0, _, _, _, _, _, _ => none
  | n + 1, x1, x2, x3, x4, x5, σ => (if (σ.1 0 24) ≤ x5 then some ((-9), σ) else (if x3 < 0 then some ((-9), σ) else (f_X7_isLed x1 x2 x5 σ).bind (fun r4 => (if r4.1 = 0 then ck (inR (x5 + 1)) (f_X7_leads_85 n x1 x2 x3 x4 (x5 + 1) r4.2) else (if x4 = 0 then some (x5, r4.2) else ck (inR (x4 + (-1))) (ck (inR (x5 + 1)) (f_X7_leads_85 n x1 x2 x3 (x4 + (-1)) (x5 + 1) r4.2)))))))
set_option maxRecDepth 100000 in
set_option maxHeartbeats 4000000 in
theorem t_X7_leads_85 {p : Program} {l : Launch} {e : Env} {s : State} {m : MethodId} {args : Array Value} {below : List Frame} {meth : Method} {c : Code} {D : va_G} {ca : Nat → ClassId} {ad : Nat → Nat} {res : Int × Mm} (X : Cx p s m args c cX7_leads 6 RX7 (Cond.code yX7_leads cX7_leads 6 (some .int) :: tbG) D vcl ca) (hN : NM s) (hr : meth.sig.returnType = (some .int)) (hlk : meth.locks = false) : ∀ (n : Nat) (x1 : Int) (x2 : Int) (x3 : Int) (x4 : Int) (x5 : Int) (σ : Mm), inR x1 → inR x2 → inR x3 → inR x4 → inR x5 → GX7_leads p l e s m args below meth c D ca ad res 85 [(0, .ref (ad 0)), (1, .int (oi x1)), (2, .int (oi x2)), (3, .int (oi x3)), (4, .int (oi x4)), (5, .int (oi x5))] [] σ (f_X7_leads_85 n x1 x2 x3 x4 x5 σ)
  := by
  intro n
  induction n with
  | zero => intro x1 x2 x3 x4 x5 σ hx1 hx2 hx3 hx4 hx5 h; cases h
  | succ n ih =>
    intro x1 x2 x3 x4 x5 σ hx1 hx2 hx3 hx4 hx5
    rw [f_X7_leads_85]
    refine q_iload X dX7_leads_85 5 rfl ?_
    refine q_aload_n X dX7_leads_87 0 rfl ?_
    refine fg_X7_108 X dX7_leads_88 (fun h1 => ?_)
    refine q_icmp_ge X hx5 h1 126 dX7_leads_91 (by decide) (fun h2 => ?_) (fun h2 => ?_)
    · refine q_bipush X dX7_leads_126 (by decide) ?_
      exact q_iret X (by decide) hr hlk dX7_leads_128
    · refine q_iload_n X dX7_leads_94 3 rfl ?_
      refine q_if_lt X hx3 126 dX7_leads_95 (by decide) (fun h3 => ?_) (fun h3 => ?_)
      · refine q_bipush X dX7_leads_126 (by decide) ?_
        exact q_iret X (by decide) hr hlk dX7_leads_128
      · refine q_aload_n X dX7_leads_98 0 rfl ?_
        refine q_iload_n X dX7_leads_99 1 rfl ?_
        refine q_iload_n X dX7_leads_100 2 rfl ?_
        refine q_iload X dX7_leads_101 5 rfl ?_
        refine q_callI X NMok hN Aw_new (c_X7_isLed hx1 hx2 hx5) (rn_V X (cwV 3 X.2.2.2.2.1 (tbG_good _ (tbG_V mw_1119 mw_1121 mp_5_8 mw_9 mw_1122)) rfl rfl rfl hd_X7_isLed ⟨by decide, by decide⟩) hM0 rfl rfl rfl (Nat.le_of_ble_eq_true rfl) dX7_leads_103) (fun r4 _ h6 => ?_)
        refine q_if_eq X h6 120 dX7_leads_106 (by decide) (fun h7 => ?_) (fun h7 => ?_)
        · refine q_iinc X [(5, .int (oi (x5 + 1))), (0, .ref (ad 0)), (1, .int (oi x1)), (2, .int (oi x2)), (3, .int (oi x3)), (4, .int (oi x4))] dX7_leads_120 (by decide) 5 rfl rfl (fun h8 => ?_)
          refine q_goto X 85 dX7_leads_123 (by decide) ?_
          refine q_sub [(0, .ref (ad 0)), (1, .int (oi x1)), (2, .int (oi x2)), (3, .int (oi x3)), (4, .int (oi x4)), (5, .int (oi (x5 + 1)))] [1, 2, 3, 4, 5, 0] rfl ?_
          exact ih x1 x2 x3 x4 (x5 + 1) r4.2 hx1 hx2 hx3 hx4 h8
        · refine q_iload X dX7_leads_109 4 rfl ?_
          refine q_if_ne X hx4 117 dX7_leads_111 (by decide) (fun h9 => ?_) (fun h9 => ?_)
          · refine q_iload X dX7_leads_114 5 rfl ?_
            exact q_iret X hx5 hr hlk dX7_leads_116
          · refine q_iinc X [(4, .int (oi (x4 + (-1)))), (0, .ref (ad 0)), (1, .int (oi x1)), (2, .int (oi x2)), (3, .int (oi x3)), (5, .int (oi x5))] dX7_leads_117 (by decide) 4 rfl rfl (fun h10 => ?_)
            refine q_iinc X [(5, .int (oi (x5 + 1))), (4, .int (oi (x4 + (-1)))), (0, .ref (ad 0)), (1, .int (oi x1)), (2, .int (oi x2)), (3, .int (oi x3))] dX7_leads_120 (by decide) 5 rfl rfl (fun h11 => ?_)
            refine q_goto X 85 dX7_leads_123 (by decide) ?_
            refine q_sub [(0, .ref (ad 0)), (1, .int (oi x1)), (2, .int (oi x2)), (3, .int (oi x3)), (4, .int (oi (x4 + (-1)))), (5, .int (oi (x5 + 1)))] [2, 3, 4, 5, 1, 0] rfl ?_
            exact ih x1 x2 x3 (x4 + (-1)) (x5 + 1) r4.2 hx1 hx2 hx3 h10 h11
def f_X7_leads_38 (x1 : Int) (x2 : Int) (x3 : Int) (σ : Mm) : Option (Int × Mm) :=
  (if (σ.1 0 16) = 0 then some ((-2), σ) else ck (inR ((σ.1 0 24) - 1)) ((f_X7_in x1 0 ((σ.1 0 24) - 1) σ).bind (fun r16 => (if r16 = 0 then some ((-1), σ) else ck ((0 : Int) ≤ x2 ∧ x2 < ((90 : Nat) : Int)) (ck ((0 : Int) ≤ x1 ∧ x1 < ((80 : Nat) : Int)) ((if (σ.1 6 (Int.toNat x2)) = (σ.1 13 (Int.toNat x1)) then f_X7_leads_85 2000 x1 x2 x3 x3 0 σ else some ((-1), σ))))))))
set_option maxRecDepth 100000 in
set_option maxHeartbeats 4000000 in
theorem t_X7_leads_38 {p : Program} {l : Launch} {e : Env} {s : State} {m : MethodId} {args : Array Value} {below : List Frame} {meth : Method} {c : Code} {D : va_G} {ca : Nat → ClassId} {ad : Nat → Nat} {res : Int × Mm} (X : Cx p s m args c cX7_leads 6 RX7 (Cond.code yX7_leads cX7_leads 6 (some .int) :: tbG) D vcl ca) (hN : NM s) (hr : meth.sig.returnType = (some .int)) (hlk : meth.locks = false) : ∀ (x1 : Int) (x2 : Int) (x3 : Int) (σ : Mm), inR x1 → inR x2 → inR x3 → GX7_leads p l e s m args below meth c D ca ad res 38 [(0, .ref (ad 0)), (1, .int (oi x1)), (2, .int (oi x2)), (3, .int (oi x3))] [] σ (f_X7_leads_38 x1 x2 x3 σ) := by
  intro x1 x2 x3 σ hx1 hx2 hx3
  unfold f_X7_leads_38
  refine q_aload_n X dX7_leads_38 0 rfl ?_
  refine fg_X7_122 X dX7_leads_39 (fun h12 => ?_)
  refine q_if_ne X h12 48 dX7_leads_42 (by decide) (fun h13 => ?_) (fun h13 => ?_)
  · refine q_bipush X dX7_leads_45 (by decide) ?_
    exact q_iret X (by decide) hr hlk dX7_leads_47
  · refine q_iload_n X dX7_leads_48 1 rfl ?_
    refine q_iconst X dX7_leads_49 ?_
    refine q_aload_n X dX7_leads_50 0 rfl ?_
    refine fg_X7_108 X dX7_leads_51 (fun h14 => ?_)
    refine q_iconst X dX7_leads_54 ?_
    refine q_isub X dX7_leads_55 ?_
    refine q_ck (fun h15 => ?_)
    refine q_callIp X NMok hN Aw_new (c_X7_in hx1 (by decide) h15) (rn_S X (va_cwS 3 X.2.2.2.2.1 (tbG_good _ (tbG_S mw_1008 mw_1009 mw_9 mw_1010)) rfl rfl rfl hd_X7_in ⟨by decide, by decide⟩) rfl rfl (Nat.le_of_ble_eq_true rfl) dX7_leads_56) (fun r16 _ h18 => ?_)
    refine q_if_eq X h18 77 dX7_leads_59 (by decide) (fun h19 => ?_) (fun h19 => ?_)
    · refine q_iconst X dX7_leads_77 ?_
      exact q_iret X (by decide) hr hlk dX7_leads_78
    · refine q_aload_n X dX7_leads_62 0 rfl ?_
      refine fg_X7_29 X dX7_leads_63 ?_
      refine q_iload_n X dX7_leads_66 2 rfl ?_
      refine q_iald X hM6 (by decide) dX7_leads_67 (fun h20 => ?_)
      refine q_aload_n X dX7_leads_68 0 rfl ?_
      refine fg_X7_50 X dX7_leads_69 ?_
      refine q_iload_n X dX7_leads_72 1 rfl ?_
      refine q_iald X hM13 (by decide) dX7_leads_73 (fun h21 => ?_)
      refine q_icmp_eq X h20 h21 79 dX7_leads_74 (by decide) (fun h22 => ?_) (fun h22 => ?_)
      · refine q_iload_n X dX7_leads_79 3 rfl ?_
        refine q_istore X [(4, .int (oi x3)), (0, .ref (ad 0)), (1, .int (oi x1)), (2, .int (oi x2)), (3, .int (oi x3))] dX7_leads_80 (by decide) rfl ?_
        refine q_iconst X dX7_leads_82 ?_
        refine q_istore X [(5, .int (oi 0)), (4, .int (oi x3)), (0, .ref (ad 0)), (1, .int (oi x1)), (2, .int (oi x2)), (3, .int (oi x3))] dX7_leads_83 (by decide) rfl ?_
        refine q_sub [(0, .ref (ad 0)), (1, .int (oi x1)), (2, .int (oi x2)), (3, .int (oi x3)), (4, .int (oi x3)), (5, .int (oi 0))] [2, 3, 4, 5, 1, 0] rfl ?_
        exact t_X7_leads_85 X hN hr hlk 2000 x1 x2 x3 x3 0 σ hx1 hx2 hx3 hx3 (by decide)
      · refine q_iconst X dX7_leads_77 ?_
        exact q_iret X (by decide) hr hlk dX7_leads_78
def f_X7_leads (x1 : Int) (x2 : Int) (x3 : Int) (σ : Mm) : Option (Int × Mm) :=
  ck (inR ((σ.1 0 7) - 1)) ((f_X7_in x2 0 ((σ.1 0 7) - 1) σ).bind (fun r25 => (if r25 = 0 then some ((-1), σ) else ck ((0 : Int) ≤ x2 ∧ x2 < ((90 : Nat) : Int)) ((if (σ.1 8 (Int.toNat x2)) = 9 then f_X7_leads_38 x1 x2 x3 σ else ck ((0 : Int) ≤ x2 ∧ x2 < ((90 : Nat) : Int)) ((if (σ.1 8 (Int.toNat x2)) = 10 then f_X7_leads_38 x1 x2 x3 σ else some ((-1), σ))))))))
theorem hd_X7_leads : yX7_leads.cls = RX7 ∧ yX7_leads.cls ≠ "java/lang/invoke/MethodHandle" ∧ yX7_leads.cls ≠ "java/lang/invoke/VarHandle" ∧ (parseMethodDescriptor yX7_leads.desc).map (fun d => d.parameters.length) = some 3 := by decide +kernel
set_option maxRecDepth 100000 in
set_option maxHeartbeats 4000000 in
theorem c_X7_leads {l : Launch} {D : va_G} {ca : Nat → ClassId} {ad : Nat → Nat} {x1 : Int} {x2 : Int} {x3 : Int} (hx1 : inR x1) (hx2 : inR x2) (hx3 : inR x3) {σ : Mm} : CtI l D vcl ca ad shM NM yX7_leads (Cond.code yX7_leads cX7_leads 6 (some .int) :: tbG) { frames := 2, cells := 0, slots := 0, locals := 52 } [.ref (ad 0), .int (oi x1), .int (oi x2), .int (oi x3)] σ (f_X7_leads x1 x2 x3 σ) := by
  refine ct_I RX7 rfl (by decide) rfl (Nat.le_of_ble_eq_true rfl) (fun p e s m below meth c res X hN hr hlk => ?_)
  show GX7_leads p l e s m _ below meth c D ca ad res 0 [(0, .ref (ad 0)), (1, .int (oi x1)), (2, .int (oi x2)), (3, .int (oi x3))] [] σ (f_X7_leads x1 x2 x3 σ)
  unfold f_X7_leads
  refine q_iload_n X dX7_leads_0 2 rfl ?_
  refine q_iconst X dX7_leads_1 ?_
  refine q_aload_n X dX7_leads_2 0 rfl ?_
  refine fg_X7_139 X dX7_leads_3 (fun h23 => ?_)
  refine q_iconst X dX7_leads_6 ?_
  refine q_isub X dX7_leads_7 ?_
  refine q_ck (fun h24 => ?_)
  refine q_callIp X NMok hN Aw_new (c_X7_in hx2 (by decide) h24) (rn_S X (va_cwS 3 X.2.2.2.2.1 (tbG_good _ (tbG_S mw_1008 mw_1009 mw_9 mw_1010)) rfl rfl rfl hd_X7_in ⟨by decide, by decide⟩) rfl rfl (Nat.le_of_ble_eq_true rfl) dX7_leads_8) (fun r25 _ h27 => ?_)
  refine q_if_eq X h27 36 dX7_leads_11 (by decide) (fun h28 => ?_) (fun h28 => ?_)
  · refine q_iconst X dX7_leads_36 ?_
    exact q_iret X (by decide) hr hlk dX7_leads_37
  · refine q_aload_n X dX7_leads_14 0 rfl ?_
    refine fg_X7_35 X dX7_leads_15 ?_
    refine q_iload_n X dX7_leads_18 2 rfl ?_
    refine q_iald X hM8 (by decide) dX7_leads_19 (fun h29 => ?_)
    refine q_bipush X dX7_leads_20 (by decide) ?_
    refine q_icmp_eq X h29 (by decide) 38 dX7_leads_22 (by decide) (fun h30 => ?_) (fun h30 => ?_)
    · refine q_sub [(0, .ref (ad 0)), (1, .int (oi x1)), (2, .int (oi x2)), (3, .int (oi x3))] [0, 1, 2, 3] rfl ?_
      exact t_X7_leads_38 X hN hr hlk x1 x2 x3 σ hx1 hx2 hx3
    · refine q_aload_n X dX7_leads_25 0 rfl ?_
      refine fg_X7_35 X dX7_leads_26 ?_
      refine q_iload_n X dX7_leads_29 2 rfl ?_
      refine q_iald X hM8 (by decide) dX7_leads_30 (fun h31 => ?_)
      refine q_bipush X dX7_leads_31 (by decide) ?_
      refine q_icmp_eq X h31 (by decide) 38 dX7_leads_33 (by decide) (fun h32 => ?_) (fun h32 => ?_)
      · refine q_sub [(0, .ref (ad 0)), (1, .int (oi x1)), (2, .int (oi x2)), (3, .int (oi x3))] [0, 1, 2, 3] rfl ?_
        exact t_X7_leads_38 X hN hr hlk x1 x2 x3 σ hx1 hx2 hx3
      · refine q_iconst X dX7_leads_36 ?_
        exact q_iret X (by decide) hr hlk dX7_leads_37

/-! SiteObjectsModel.fails(II)V -/
abbrev GX7_fails (p : Program) (l : Launch) (e : Env) (s : State) (m : MethodId) (args : Array Value) (below : List Frame) (meth : Method) (c : Code) (D : va_G) (ca : Nat → ClassId) (ad : Nat → Nat) (res : Mm) : Nat → List (Nat × Value) → List Value → Mm → Option (Mm) → Prop := G p l e { frames := 0, cells := 0, slots := 0, locals := 0 } s m args below meth c (MQ below (QcV D vcl ca ad shM s.heap.size res) args s 0 0 (Aw ad shM.length s.heap.size)) 3 D vcl ca ad shM (Aw ad shM.length s.heap.size) res
def f_X7_fails (x1 : Int) (x2 : Int) (σ : Mm) : Option (Mm) :=
  some (stI (stI σ 0 38 x1) 0 41 x2)
theorem hd_X7_fails : yX7_fails.cls = RX7 ∧ yX7_fails.cls ≠ "java/lang/invoke/MethodHandle" ∧ yX7_fails.cls ≠ "java/lang/invoke/VarHandle" ∧ (parseMethodDescriptor yX7_fails.desc).map (fun d => d.parameters.length) = some 2 := by decide +kernel
set_option maxRecDepth 100000 in
set_option maxHeartbeats 4000000 in
theorem c_X7_fails {l : Launch} {D : va_G} {ca : Nat → ClassId} {ad : Nat → Nat} {x1 : Int} {x2 : Int} (hx1 : inR x1) (hx2 : inR x2) {σ : Mm} : CtV l D vcl ca ad shM NM yX7_fails (Cond.code yX7_fails cX7_fails 3 none :: tbG) { frames := 0, cells := 0, slots := 0, locals := 0 } [.ref (ad 0), .int (oi x1), .int (oi x2)] σ (f_X7_fails x1 x2 σ) := by
  refine ct_V RX7 rfl (by decide) rfl (Nat.le_of_ble_eq_true rfl) (fun p e s m below meth c res X hN hr hlk => ?_)
  show GX7_fails p l e s m _ below meth c D ca ad res 0 [(0, .ref (ad 0)), (1, .int (oi x1)), (2, .int (oi x2))] [] σ (f_X7_fails x1 x2 σ)
  unfold f_X7_fails
  refine q_aload_n X dX7_fails_0 0 rfl ?_
  refine q_iload_n X dX7_fails_1 1 rfl ?_
  refine fp_X7_252 X hx1 dX7_fails_2 ?_
  refine q_aload_n X dX7_fails_5 0 rfl ?_
  refine q_iload_n X dX7_fails_6 2 rfl ?_
  refine fp_X7_255 X hx2 dX7_fails_7 ?_
  exact q_vret X hr hlk dX7_fails_10

/-! SiteObjectsModel.counts(IJ)V -/
abbrev GX7_counts (p : Program) (l : Launch) (e : Env) (s : State) (m : MethodId) (args : Array Value) (below : List Frame) (meth : Method) (c : Code) (D : va_G) (ca : Nat → ClassId) (ad : Nat → Nat) (res : Mm) : Nat → List (Nat × Value) → List Value → Mm → Option (Mm) → Prop := G p l e { frames := 0, cells := 0, slots := 0, locals := 0 } s m args below meth c (MQ below (QcV D vcl ca ad shM s.heap.size res) args s 0 0 (Aw ad shM.length s.heap.size)) 4 D vcl ca ad shM (Aw ad shM.length s.heap.size) res
def f_X7_counts (x1 : Int) (x2 : Int64) (σ : Mm) : Option (Mm) :=
  (if x1 < 0 then some σ else ck (inR ((σ.1 0 44) + 1)) (ck ((0 : Int) ≤ x1 ∧ x1 < ((300 : Nat) : Int)) ((if ((stI σ 0 44 ((σ.1 0 44) + 1)).1 0 29) ≤ ((stI σ 0 44 ((σ.1 0 44) + 1)).1 22 (Int.toNat x1)) then ck (inR (((stI σ 0 44 ((σ.1 0 44) + 1)).1 0 45) + 1)) ((some (stI (stI σ 0 44 ((σ.1 0 44) + 1)) 0 45 (((stI σ 0 44 ((σ.1 0 44) + 1)).1 0 45) + 1))).bind (fun σ9 => some σ9)) else ck ((0 : Int) ≤ x1 ∧ x1 < ((300 : Nat) : Int)) ((if ((lShr x2 ((stI σ 0 44 ((σ.1 0 44) + 1)).1 22 (Int.toNat x1))) &&& 1) = 1 then ck (inR (((stI σ 0 44 ((σ.1 0 44) + 1)).1 0 45) + 0)) ((some (stI (stI σ 0 44 ((σ.1 0 44) + 1)) 0 45 (((stI σ 0 44 ((σ.1 0 44) + 1)).1 0 45) + 0))).bind (fun σ13 => some σ13)) else ck (inR (((stI σ 0 44 ((σ.1 0 44) + 1)).1 0 45) + 1)) ((some (stI (stI σ 0 44 ((σ.1 0 44) + 1)) 0 45 (((stI σ 0 44 ((σ.1 0 44) + 1)).1 0 45) + 1))).bind (fun σ15 => some σ15))))))))
theorem hd_X7_counts : yX7_counts.cls = RX7 ∧ yX7_counts.cls ≠ "java/lang/invoke/MethodHandle" ∧ yX7_counts.cls ≠ "java/lang/invoke/VarHandle" ∧ (parseMethodDescriptor yX7_counts.desc).map (fun d => d.parameters.length) = some 2 := by decide +kernel
set_option maxRecDepth 100000 in
set_option maxHeartbeats 4000000 in
theorem c_X7_counts {l : Launch} {D : va_G} {ca : Nat → ClassId} {ad : Nat → Nat} {x1 : Int} {x2 : Int64} (hx1 : inR x1) {σ : Mm} : CtV l D vcl ca ad shM NM yX7_counts (Cond.code yX7_counts cX7_counts 4 none :: tbG) { frames := 0, cells := 0, slots := 0, locals := 0 } [.ref (ad 0), .int (oi x1), .long x2] σ (f_X7_counts x1 x2 σ) := by
  refine ct_V RX7 rfl (by decide) rfl (Nat.le_of_ble_eq_true rfl) (fun p e s m below meth c res X hN hr hlk => ?_)
  show GX7_counts p l e s m _ below meth c D ca ad res 0 [(0, .ref (ad 0)), (1, .int (oi x1)), (2, .long x2)] [] σ (f_X7_counts x1 x2 σ)
  unfold f_X7_counts
  refine q_iload_n X dX7_counts_0 1 rfl ?_
  refine q_if_lt X hx1 56 dX7_counts_1 (by decide) (fun h1 => ?_) (fun h1 => ?_)
  · exact q_vret X hr hlk dX7_counts_56
  · refine q_aload_n X dX7_counts_4 0 rfl ?_
    refine q_dup X dX7_counts_5 rfl ?_
    refine fg_X7_258 X dX7_counts_6 (fun h2 => ?_)
    refine q_iconst X dX7_counts_9 ?_
    refine q_iadd X dX7_counts_10 ?_
    refine q_ck (fun h3 => ?_)
    refine fp_X7_258 X h3 dX7_counts_11 ?_
    refine q_aload_n X dX7_counts_14 0 rfl ?_
    refine q_dup X dX7_counts_15 rfl ?_
    refine fg_X7_261 X dX7_counts_16 (fun h4 => ?_)
    refine q_aload_n X dX7_counts_19 0 rfl ?_
    refine fg_X7_78 X dX7_counts_20 ?_
    refine q_iload_n X dX7_counts_23 1 rfl ?_
    refine q_iald X hM22 (by decide) dX7_counts_24 (fun h5 => ?_)
    refine q_aload_n X dX7_counts_25 0 rfl ?_
    refine fg_X7_167 X dX7_counts_26 (fun h6 => ?_)
    refine q_icmp_ge X h5 h6 51 dX7_counts_29 (by decide) (fun h7 => ?_) (fun h7 => ?_)
    · refine q_iconst X dX7_counts_51 ?_
      refine q_iadd X dX7_counts_52 ?_
      refine q_ck (fun h8 => ?_)
      refine fp_X7_261 X h8 dX7_counts_53 ?_
      refine q_nm (fun σ9 => ?_)
      exact q_vret X hr hlk dX7_counts_56
    · refine q_lload_n X dX7_counts_32 2 rfl ?_
      refine q_aload_n X dX7_counts_33 0 rfl ?_
      refine fg_X7_78 X dX7_counts_34 ?_
      refine q_iload_n X dX7_counts_37 1 rfl ?_
      refine q_iald X hM22 (by decide) dX7_counts_38 (fun h10 => ?_)
      refine q_lshr X dX7_counts_39 ?_
      refine q_lconst X 1 dX7_counts_40 rfl ?_
      refine q_land X dX7_counts_41 ?_
      refine q_lconst X 1 dX7_counts_42 rfl ?_
      refine q_lcmp_ne X 51 dX7_counts_43 dX7_counts_44 (by decide) (fun h11 => ?_) (fun h11 => ?_)
      · refine q_iconst X dX7_counts_47 ?_
        refine q_goto X 52 dX7_counts_48 (by decide) ?_
        refine q_iadd X dX7_counts_52 ?_
        refine q_ck (fun h12 => ?_)
        refine fp_X7_261 X h12 dX7_counts_53 ?_
        refine q_nm (fun σ13 => ?_)
        exact q_vret X hr hlk dX7_counts_56
      · refine q_iconst X dX7_counts_51 ?_
        refine q_iadd X dX7_counts_52 ?_
        refine q_ck (fun h14 => ?_)
        refine fp_X7_261 X h14 dX7_counts_53 ?_
        refine q_nm (fun σ15 => ?_)
        exact q_vret X hr hlk dX7_counts_56

/-! SiteObjectsModel.becomes(II)V -/
abbrev GX7_becomes (p : Program) (l : Launch) (e : Env) (s : State) (m : MethodId) (args : Array Value) (below : List Frame) (meth : Method) (c : Code) (D : va_G) (ca : Nat → ClassId) (ad : Nat → Nat) (res : Mm) : Nat → List (Nat × Value) → List Value → Mm → Option (Mm) → Prop := G p l e { frames := 1, cells := 0, slots := 0, locals := 23 } s m args below meth c (MQ below (QcV D vcl ca ad shM s.heap.size res) args s 0 0 (Aw ad shM.length s.heap.size)) 3 D vcl ca ad shM (Aw ad shM.length s.heap.size) res
def f_X7_becomes (x1 : Int) (x2 : Int) (σ : Mm) : Option (Mm) :=
  ck ((0 : Int) ≤ ((6 * ((σ.1 0 52) - 1)) + x1) ∧ ((6 * ((σ.1 0 52) - 1)) + x1) < ((150 : Nat) : Int)) (ck ((0 : Int) ≤ (((stI σ 28 (Int.toNat ((6 * ((σ.1 0 52) - 1)) + x1)) x2).1 0 52) - 1) ∧ (((stI σ 28 (Int.toNat ((6 * ((σ.1 0 52) - 1)) + x1)) x2).1 0 52) - 1) < ((25 : Nat) : Int)) (ck ((0 : Int) ≤ ((8 * ((stI σ 28 (Int.toNat ((6 * ((σ.1 0 52) - 1)) + x1)) x2).1 26 (Int.toNat (((stI σ 28 (Int.toNat ((6 * ((σ.1 0 52) - 1)) + x1)) x2).1 0 52) - 1)))) + x1) ∧ ((8 * ((stI σ 28 (Int.toNat ((6 * ((σ.1 0 52) - 1)) + x1)) x2).1 26 (Int.toNat (((stI σ 28 (Int.toNat ((6 * ((σ.1 0 52) - 1)) + x1)) x2).1 0 52) - 1)))) + x1) < ((640 : Nat) : Int)) ((f_X7_counts x2 ((stI σ 28 (Int.toNat ((6 * ((σ.1 0 52) - 1)) + x1)) x2).2 16 (Int.toNat ((8 * ((stI σ 28 (Int.toNat ((6 * ((σ.1 0 52) - 1)) + x1)) x2).1 26 (Int.toNat (((stI σ 28 (Int.toNat ((6 * ((σ.1 0 52) - 1)) + x1)) x2).1 0 52) - 1)))) + x1))) (stI σ 28 (Int.toNat ((6 * ((σ.1 0 52) - 1)) + x1)) x2)).bind (fun r4 => some r4))))
theorem hd_X7_becomes : yX7_becomes.cls = RX7 ∧ yX7_becomes.cls ≠ "java/lang/invoke/MethodHandle" ∧ yX7_becomes.cls ≠ "java/lang/invoke/VarHandle" ∧ (parseMethodDescriptor yX7_becomes.desc).map (fun d => d.parameters.length) = some 2 := by decide +kernel
set_option maxRecDepth 100000 in
set_option maxHeartbeats 4000000 in
theorem c_X7_becomes {l : Launch} {D : va_G} {ca : Nat → ClassId} {ad : Nat → Nat} {x1 : Int} {x2 : Int} (hx1 : inR x1) (hx2 : inR x2) {σ : Mm} : CtV l D vcl ca ad shM NM yX7_becomes (Cond.code yX7_becomes cX7_becomes 3 none :: tbG) { frames := 1, cells := 0, slots := 0, locals := 23 } [.ref (ad 0), .int (oi x1), .int (oi x2)] σ (f_X7_becomes x1 x2 σ) := by
  refine ct_V RX7 rfl (by decide) rfl (Nat.le_of_ble_eq_true rfl) (fun p e s m below meth c res X hN hr hlk => ?_)
  show GX7_becomes p l e s m _ below meth c D ca ad res 0 [(0, .ref (ad 0)), (1, .int (oi x1)), (2, .int (oi x2))] [] σ (f_X7_becomes x1 x2 σ)
  unfold f_X7_becomes
  refine q_aload_n X dX7_becomes_0 0 rfl ?_
  refine fg_X7_96 X dX7_becomes_1 ?_
  refine q_bipush X dX7_becomes_4 (by decide) ?_
  refine q_aload_n X dX7_becomes_6 0 rfl ?_
  refine fg_X7_264 X dX7_becomes_7 (fun h1 => ?_)
  refine q_iconst X dX7_becomes_10 ?_
  refine q_isub X dX7_becomes_11 ?_
  refine q_imul X dX7_becomes_12 ?_
  refine q_iload_n X dX7_becomes_13 1 rfl ?_
  refine q_iadd X dX7_becomes_14 ?_
  refine q_iload_n X dX7_becomes_15 2 rfl ?_
  refine q_iast X hM28 (by decide) hx2 dX7_becomes_16 ?_
  refine q_aload_n X dX7_becomes_17 0 rfl ?_
  refine q_iload_n X dX7_becomes_18 2 rfl ?_
  refine q_aload_n X dX7_becomes_19 0 rfl ?_
  refine fg_X7_59 X dX7_becomes_20 ?_
  refine q_bipush X dX7_becomes_23 (by decide) ?_
  refine q_aload_n X dX7_becomes_25 0 rfl ?_
  refine fg_X7_90 X dX7_becomes_26 ?_
  refine q_aload_n X dX7_becomes_29 0 rfl ?_
  refine fg_X7_264 X dX7_becomes_30 (fun h2 => ?_)
  refine q_iconst X dX7_becomes_33 ?_
  refine q_isub X dX7_becomes_34 ?_
  refine q_iald X hM26 (by decide) dX7_becomes_35 (fun h3 => ?_)
  refine q_imul X dX7_becomes_36 ?_
  refine q_iload_n X dX7_becomes_37 1 rfl ?_
  refine q_iadd X dX7_becomes_38 ?_
  refine q_lald X hM16 (by decide) dX7_becomes_39 ?_
  refine q_callV X NMok hN Aw_new (c_X7_counts hx2) (rn_V X (cwV 2 X.2.2.2.2.1 (tbG_good _ (tbG_V mw_1160 mw_1162 mp_5_12 mw_9 mw_1163)) rfl rfl rfl hd_X7_counts ⟨by decide, by decide⟩) hM0 rfl rfl rfl (Nat.le_of_ble_eq_true rfl) dX7_becomes_40) (fun r4 _ => ?_)
  exact q_vret X hr hlk dX7_becomes_43

/-! SiteObjectsModel.var(I)I -/
abbrev GX7_var (p : Program) (l : Launch) (e : Env) (s : State) (m : MethodId) (args : Array Value) (below : List Frame) (meth : Method) (c : Code) (D : va_G) (ca : Nat → ClassId) (ad : Nat → Nat) (σ : Mm) (res : Int) : Nat → List (Nat × Value) → List Value → Mm → Option (Int) → Prop := G p l e { frames := 0, cells := 0, slots := 0, locals := 0 } s m args below meth c (MQ below (QcI D vcl ca ad shM s.heap.size (res, σ)) args s 0 0 (Aw ad shM.length s.heap.size)) 2 D vcl ca ad shM (Aw ad shM.length s.heap.size) res
def f_X7_var (x1 : Int) (σ : Mm) : Option (Int) :=
  ck ((0 : Int) ≤ ((6 * ((σ.1 0 52) - 1)) + x1) ∧ ((6 * ((σ.1 0 52) - 1)) + x1) < ((150 : Nat) : Int)) (some (σ.1 28 (Int.toNat ((6 * ((σ.1 0 52) - 1)) + x1))))
theorem hd_X7_var : yX7_var.cls = RX7 ∧ yX7_var.cls ≠ "java/lang/invoke/MethodHandle" ∧ yX7_var.cls ≠ "java/lang/invoke/VarHandle" ∧ (parseMethodDescriptor yX7_var.desc).map (fun d => d.parameters.length) = some 1 := by decide +kernel
set_option maxRecDepth 100000 in
set_option maxHeartbeats 4000000 in
theorem c_X7_var {l : Launch} {D : va_G} {ca : Nat → ClassId} {ad : Nat → Nat} {x1 : Int} (hx1 : inR x1) {σ : Mm} : CtI l D vcl ca ad shM NM yX7_var (Cond.code yX7_var cX7_var 2 (some .int) :: tbG) { frames := 0, cells := 0, slots := 0, locals := 0 } [.ref (ad 0), .int (oi x1)] σ ((f_X7_var x1 σ).map (fun r => (r, σ))) := by
  refine ct_Ip RX7 rfl (by decide) rfl (Nat.le_of_ble_eq_true rfl) (fun p e s m below meth c res X hN hr hlk => ?_)
  show GX7_var p l e s m _ below meth c D ca ad σ res 0 [(0, .ref (ad 0)), (1, .int (oi x1))] [] σ (f_X7_var x1 σ)
  unfold f_X7_var
  refine q_aload_n X dX7_var_0 0 rfl ?_
  refine fg_X7_96 X dX7_var_1 ?_
  refine q_bipush X dX7_var_4 (by decide) ?_
  refine q_aload_n X dX7_var_6 0 rfl ?_
  refine fg_X7_264 X dX7_var_7 (fun h1 => ?_)
  refine q_iconst X dX7_var_10 ?_
  refine q_isub X dX7_var_11 ?_
  refine q_imul X dX7_var_12 ?_
  refine q_iload_n X dX7_var_13 1 rfl ?_
  refine q_iadd X dX7_var_14 ?_
  refine q_iald X hM28 (by decide) dX7_var_15 (fun h2 => ?_)
  exact q_iretp X h2 hr hlk dX7_var_16

/-! SiteObjectsModel.begins(I)Z -/
abbrev GX7_begins (p : Program) (l : Launch) (e : Env) (s : State) (m : MethodId) (args : Array Value) (below : List Frame) (meth : Method) (c : Code) (D : va_G) (ca : Nat → ClassId) (ad : Nat → Nat) (res : Int × Mm) : Nat → List (Nat × Value) → List Value → Mm → Option (Int × Mm) → Prop := G p l e { frames := 0, cells := 0, slots := 0, locals := 0 } s m args below meth c (MQ below (QcI D vcl ca ad shM s.heap.size res) args s 0 0 (Aw ad shM.length s.heap.size)) 3 D vcl ca ad shM (Aw ad shM.length s.heap.size) res
def f_X7_begins_33 : Nat → Int → Mm → Option (Int × Mm)
  | 0, _, _ => none
  | n + 1, x2, σ => (if 6 ≤ x2 then ck (inR ((σ.1 0 52) + 1)) ((if ((stI σ 0 52 ((σ.1 0 52) + 1)).1 0 52) ≤ ((stI σ 0 52 ((σ.1 0 52) + 1)).1 0 40) then (some (stI (stI σ 0 52 ((σ.1 0 52) + 1)) 0 40 ((stI σ 0 52 ((σ.1 0 52) + 1)).1 0 40))).bind (fun σ8 => some (1, σ8)) else (some (stI (stI σ 0 52 ((σ.1 0 52) + 1)) 0 40 ((stI σ 0 52 ((σ.1 0 52) + 1)).1 0 52))).bind (fun σ10 => some (1, σ10)))) else ck ((0 : Int) ≤ ((6 * (σ.1 0 52)) + x2) ∧ ((6 * (σ.1 0 52)) + x2) < ((150 : Nat) : Int)) (ck (inR (x2 + 1)) (f_X7_begins_33 n (x2 + 1) (stI σ 28 (Int.toNat ((6 * (σ.1 0 52)) + x2)) (-1)))))
set_option maxRecDepth 100000 in
set_option maxHeartbeats 4000000 in
theorem t_X7_begins_33 {p : Program} {l : Launch} {e : Env} {s : State} {m : MethodId} {args : Array Value} {below : List Frame} {meth : Method} {c : Code} {D : va_G} {ca : Nat → ClassId} {ad : Nat → Nat} {res : Int × Mm} (X : Cx p s m args c cX7_begins 3 RX7 (Cond.code yX7_begins cX7_begins 3 (some .boolean) :: tbG) D vcl ca) (hN : NM s) (hr : meth.sig.returnType = (some .boolean)) (hlk : meth.locks = false) : ∀ (n : Nat) (x2 : Int) (σ : Mm), inR x2 → GX7_begins p l e s m args below meth c D ca ad res 33 [(0, .ref (ad 0)), (2, .int (oi x2))] [] σ (f_X7_begins_33 n x2 σ)
  := by
  intro n
  induction n with
  | zero => intro x2 σ hx2 h; cases h
  | succ n ih =>
    intro x2 σ hx2
    rw [f_X7_begins_33]
    refine q_iload_n X dX7_begins_33 1 rfl ?_
    refine q_bipush X dX7_begins_34 (by decide) ?_
    refine q_icmp_ge X hx2 (by decide) 60 dX7_begins_36 (by decide) (fun h1 => ?_) (fun h1 => ?_)
    · refine q_aload_n X dX7_begins_60 0 rfl ?_
      refine q_dup X dX7_begins_61 rfl ?_
      refine fg_X7_264 X dX7_begins_62 (fun h2 => ?_)
      refine q_iconst X dX7_begins_65 ?_
      refine q_iadd X dX7_begins_66 ?_
      refine q_ck (fun h3 => ?_)
      refine fp_X7_264 X h3 dX7_begins_67 ?_
      refine q_aload_n X dX7_begins_70 0 rfl ?_
      refine q_aload_n X dX7_begins_71 0 rfl ?_
      refine fg_X7_264 X dX7_begins_72 (fun h4 => ?_)
      refine q_aload_n X dX7_begins_75 0 rfl ?_
      refine fg_X7_271 X dX7_begins_76 (fun h5 => ?_)
      refine q_icmp_le X h4 h5 89 dX7_begins_79 (by decide) (fun h6 => ?_) (fun h6 => ?_)
      · refine q_aload_n X dX7_begins_89 0 rfl ?_
        refine fg_X7_271 X dX7_begins_90 (fun h7 => ?_)
        refine fp_X7_271 X h7 dX7_begins_93 ?_
        refine q_nm (fun σ8 => ?_)
        refine q_iconst X dX7_begins_96 ?_
        exact q_zret X (Or.inr rfl) hr hlk dX7_begins_97
      · refine q_aload_n X dX7_begins_82 0 rfl ?_
        refine fg_X7_264 X dX7_begins_83 (fun h9 => ?_)
        refine q_goto X 93 dX7_begins_86 (by decide) ?_
        refine fp_X7_271 X h9 dX7_begins_93 ?_
        refine q_nm (fun σ10 => ?_)
        refine q_iconst X dX7_begins_96 ?_
        exact q_zret X (Or.inr rfl) hr hlk dX7_begins_97
    · refine q_aload_n X dX7_begins_39 0 rfl ?_
      refine fg_X7_96 X dX7_begins_40 ?_
      refine q_bipush X dX7_begins_43 (by decide) ?_
      refine q_aload_n X dX7_begins_45 0 rfl ?_
      refine fg_X7_264 X dX7_begins_46 (fun h11 => ?_)
      refine q_imul X dX7_begins_49 ?_
      refine q_iload_n X dX7_begins_50 1 rfl ?_
      refine q_iadd X dX7_begins_51 ?_
      refine q_iconst X dX7_begins_52 ?_
      refine q_iast X hM28 (by decide) (by decide) dX7_begins_53 ?_
      refine q_iinc X [(2, .int (oi (x2 + 1))), (0, .ref (ad 0))] dX7_begins_54 (by decide) 1 rfl rfl (fun h12 => ?_)
      refine q_goto X 33 dX7_begins_57 (by decide) ?_
      refine q_sub [(0, .ref (ad 0)), (2, .int (oi (x2 + 1)))] [1, 0] rfl ?_
      exact ih (x2 + 1) (stI σ 28 (Int.toNat ((6 * (σ.1 0 52)) + x2)) (-1)) h12
def f_X7_begins (x1 : Int) (σ : Mm) : Option (Int × Mm) :=
  (if (σ.1 0 52) = 25 then some (0, σ) else ck ((0 : Int) ≤ (σ.1 0 52) ∧ (σ.1 0 52) < ((25 : Nat) : Int)) (ck ((0 : Int) ≤ ((stI σ 26 (Int.toNat (σ.1 0 52)) x1).1 0 52) ∧ ((stI σ 26 (Int.toNat (σ.1 0 52)) x1).1 0 52) < ((25 : Nat) : Int)) ((some (stI (stI σ 26 (Int.toNat (σ.1 0 52)) x1) 27 (Int.toNat ((stI σ 26 (Int.toNat (σ.1 0 52)) x1).1 0 52)) 0)).bind (fun σ17 => f_X7_begins_33 2000 0 σ17))))
theorem hd_X7_begins : yX7_begins.cls = RX7 ∧ yX7_begins.cls ≠ "java/lang/invoke/MethodHandle" ∧ yX7_begins.cls ≠ "java/lang/invoke/VarHandle" ∧ (parseMethodDescriptor yX7_begins.desc).map (fun d => d.parameters.length) = some 1 := by decide +kernel
set_option maxRecDepth 100000 in
set_option maxHeartbeats 4000000 in
theorem c_X7_begins {l : Launch} {D : va_G} {ca : Nat → ClassId} {ad : Nat → Nat} {x1 : Int} (hx1 : inR x1) {σ : Mm} : CtI l D vcl ca ad shM NM yX7_begins (Cond.code yX7_begins cX7_begins 3 (some .boolean) :: tbG) { frames := 0, cells := 0, slots := 0, locals := 0 } [.ref (ad 0), .int (oi x1)] σ (f_X7_begins x1 σ) := by
  refine ct_I RX7 rfl (by decide) rfl (Nat.le_of_ble_eq_true rfl) (fun p e s m below meth c res X hN hr hlk => ?_)
  show GX7_begins p l e s m _ below meth c D ca ad res 0 [(0, .ref (ad 0)), (1, .int (oi x1))] [] σ (f_X7_begins x1 σ)
  unfold f_X7_begins
  refine q_aload_n X dX7_begins_0 0 rfl ?_
  refine fg_X7_264 X dX7_begins_1 (fun h13 => ?_)
  refine q_bipush X dX7_begins_4 (by decide) ?_
  refine q_icmp_ne X h13 (by decide) 11 dX7_begins_6 (by decide) (fun h14 => ?_) (fun h14 => ?_)
  · refine q_iconst X dX7_begins_9 ?_
    exact q_zret X (Or.inl rfl) hr hlk dX7_begins_10
  · refine q_aload_n X dX7_begins_11 0 rfl ?_
    refine fg_X7_90 X dX7_begins_12 ?_
    refine q_aload_n X dX7_begins_15 0 rfl ?_
    refine fg_X7_264 X dX7_begins_16 (fun h15 => ?_)
    refine q_iload_n X dX7_begins_19 1 rfl ?_
    refine q_iast X hM26 (by decide) hx1 dX7_begins_20 ?_
    refine q_aload_n X dX7_begins_21 0 rfl ?_
    refine fg_X7_93 X dX7_begins_22 ?_
    refine q_aload_n X dX7_begins_25 0 rfl ?_
    refine fg_X7_264 X dX7_begins_26 (fun h16 => ?_)
    refine q_iconst X dX7_begins_29 ?_
    refine q_iast X hM27 (by decide) (by decide) dX7_begins_30 ?_
    refine q_nm (fun σ17 => ?_)
    refine q_iconst X dX7_begins_31 ?_
    refine q_istore_n X [(2, .int (oi 0)), (0, .ref (ad 0)), (1, .int (oi x1))] dX7_begins_32 (by decide) rfl ?_
    refine q_sub [(0, .ref (ad 0)), (2, .int (oi 0))] [1, 0] rfl ?_
    exact t_X7_begins_33 X hN hr hlk 2000 0 σ17 (by decide)

/-! SiteObjectsModel.ends(I)V -/
abbrev GX7_ends (p : Program) (l : Launch) (e : Env) (s : State) (m : MethodId) (args : Array Value) (below : List Frame) (meth : Method) (c : Code) (D : va_G) (ca : Nat → ClassId) (ad : Nat → Nat) (res : Mm) : Nat → List (Nat × Value) → List Value → Mm → Option (Mm) → Prop := G p l e { frames := 2, cells := 0, slots := 0, locals := 45 } s m args below meth c (MQ below (QcV D vcl ca ad shM s.heap.size res) args s 0 0 (Aw ad shM.length s.heap.size)) 3 D vcl ca ad shM (Aw ad shM.length s.heap.size) res
def f_X7_ends (x1 : Int) (σ : Mm) : Option (Mm) :=
  ck (inR ((σ.1 0 52) - 1)) ((if ((stI σ 0 52 ((σ.1 0 52) - 1)).1 0 52) = 0 then some (stI (stI σ 0 52 ((σ.1 0 52) - 1)) 0 42 x1) else ck ((0 : Int) ≤ (((stI σ 0 52 ((σ.1 0 52) - 1)).1 0 52) - 1) ∧ (((stI σ 0 52 ((σ.1 0 52) - 1)).1 0 52) - 1) < ((25 : Nat) : Int)) (ck ((0 : Int) ≤ ((stI σ 0 52 ((σ.1 0 52) - 1)).1 26 (Int.toNat (((stI σ 0 52 ((σ.1 0 52) - 1)).1 0 52) - 1))) ∧ ((stI σ 0 52 ((σ.1 0 52) - 1)).1 26 (Int.toNat (((stI σ 0 52 ((σ.1 0 52) - 1)).1 0 52) - 1))) < ((80 : Nat) : Int)) (ck ((0 : Int) ≤ (((stI σ 0 52 ((σ.1 0 52) - 1)).1 0 52) - 1) ∧ (((stI σ 0 52 ((σ.1 0 52) - 1)).1 0 52) - 1) < ((25 : Nat) : Int)) (ck ((0 : Int) ≤ (((90 * ((stI σ 0 52 ((σ.1 0 52) - 1)).1 13 (Int.toNat ((stI σ 0 52 ((σ.1 0 52) - 1)).1 26 (Int.toNat (((stI σ 0 52 ((σ.1 0 52) - 1)).1 0 52) - 1)))))) + ((stI σ 0 52 ((σ.1 0 52) - 1)).1 27 (Int.toNat (((stI σ 0 52 ((σ.1 0 52) - 1)).1 0 52) - 1)))) - 1) ∧ (((90 * ((stI σ 0 52 ((σ.1 0 52) - 1)).1 13 (Int.toNat ((stI σ 0 52 ((σ.1 0 52) - 1)).1 26 (Int.toNat (((stI σ 0 52 ((σ.1 0 52) - 1)).1 0 52) - 1)))))) + ((stI σ 0 52 ((σ.1 0 52) - 1)).1 27 (Int.toNat (((stI σ 0 52 ((σ.1 0 52) - 1)).1 0 52) - 1)))) - 1) < ((1080 : Nat) : Int)) (ck ((0 : Int) ≤ ((stI σ 0 52 ((σ.1 0 52) - 1)).1 5 (Int.toNat (((90 * ((stI σ 0 52 ((σ.1 0 52) - 1)).1 13 (Int.toNat ((stI σ 0 52 ((σ.1 0 52) - 1)).1 26 (Int.toNat (((stI σ 0 52 ((σ.1 0 52) - 1)).1 0 52) - 1)))))) + ((stI σ 0 52 ((σ.1 0 52) - 1)).1 27 (Int.toNat (((stI σ 0 52 ((σ.1 0 52) - 1)).1 0 52) - 1)))) - 1))) ∧ ((stI σ 0 52 ((σ.1 0 52) - 1)).1 5 (Int.toNat (((90 * ((stI σ 0 52 ((σ.1 0 52) - 1)).1 13 (Int.toNat ((stI σ 0 52 ((σ.1 0 52) - 1)).1 26 (Int.toNat (((stI σ 0 52 ((σ.1 0 52) - 1)).1 0 52) - 1)))))) + ((stI σ 0 52 ((σ.1 0 52) - 1)).1 27 (Int.toNat (((stI σ 0 52 ((σ.1 0 52) - 1)).1 0 52) - 1)))) - 1))) < ((90 : Nat) : Int)) ((f_X7_becomes ((stI σ 0 52 ((σ.1 0 52) - 1)).1 9 (Int.toNat ((stI σ 0 52 ((σ.1 0 52) - 1)).1 5 (Int.toNat (((90 * ((stI σ 0 52 ((σ.1 0 52) - 1)).1 13 (Int.toNat ((stI σ 0 52 ((σ.1 0 52) - 1)).1 26 (Int.toNat (((stI σ 0 52 ((σ.1 0 52) - 1)).1 0 52) - 1)))))) + ((stI σ 0 52 ((σ.1 0 52) - 1)).1 27 (Int.toNat (((stI σ 0 52 ((σ.1 0 52) - 1)).1 0 52) - 1)))) - 1))))) x1 (stI σ 0 52 ((σ.1 0 52) - 1))).bind (fun r12 => some r12))))))))
theorem hd_X7_ends : yX7_ends.cls = RX7 ∧ yX7_ends.cls ≠ "java/lang/invoke/MethodHandle" ∧ yX7_ends.cls ≠ "java/lang/invoke/VarHandle" ∧ (parseMethodDescriptor yX7_ends.desc).map (fun d => d.parameters.length) = some 1 := by decide +kernel
set_option maxRecDepth 100000 in
set_option maxHeartbeats 4000000 in
theorem c_X7_ends {l : Launch} {D : va_G} {ca : Nat → ClassId} {ad : Nat → Nat} {x1 : Int} (hx1 : inR x1) {σ : Mm} : CtV l D vcl ca ad shM NM yX7_ends (Cond.code yX7_ends cX7_ends 3 none :: tbG) { frames := 2, cells := 0, slots := 0, locals := 45 } [.ref (ad 0), .int (oi x1)] σ (f_X7_ends x1 σ) := by
  refine ct_V RX7 rfl (by decide) rfl (Nat.le_of_ble_eq_true rfl) (fun p e s m below meth c res X hN hr hlk => ?_)
  show GX7_ends p l e s m _ below meth c D ca ad res 0 [(0, .ref (ad 0)), (1, .int (oi x1))] [] σ (f_X7_ends x1 σ)
  unfold f_X7_ends
  refine q_aload_n X dX7_ends_0 0 rfl ?_
  refine q_dup X dX7_ends_1 rfl ?_
  refine fg_X7_264 X dX7_ends_2 (fun h1 => ?_)
  refine q_iconst X dX7_ends_5 ?_
  refine q_isub X dX7_ends_6 ?_
  refine q_ck (fun h2 => ?_)
  refine fp_X7_264 X h2 dX7_ends_7 ?_
  refine q_aload_n X dX7_ends_10 0 rfl ?_
  refine fg_X7_264 X dX7_ends_11 (fun h3 => ?_)
  refine q_if_ne X h3 23 dX7_ends_14 (by decide) (fun h4 => ?_) (fun h4 => ?_)
  · refine q_aload_n X dX7_ends_17 0 rfl ?_
    refine q_iload_n X dX7_ends_18 1 rfl ?_
    refine fp_X7_274 X hx1 dX7_ends_19 ?_
    exact q_vret X hr hlk dX7_ends_22
  · refine q_aload_n X dX7_ends_23 0 rfl ?_
    refine fg_X7_50 X dX7_ends_24 ?_
    refine q_aload_n X dX7_ends_27 0 rfl ?_
    refine fg_X7_90 X dX7_ends_28 ?_
    refine q_aload_n X dX7_ends_31 0 rfl ?_
    refine fg_X7_264 X dX7_ends_32 (fun h5 => ?_)
    refine q_iconst X dX7_ends_35 ?_
    refine q_isub X dX7_ends_36 ?_
    refine q_iald X hM26 (by decide) dX7_ends_37 (fun h6 => ?_)
    refine q_iald X hM13 (by decide) dX7_ends_38 (fun h7 => ?_)
    refine q_istore_n X [(2, .int (oi ((stI σ 0 52 ((σ.1 0 52) - 1)).1 13 (Int.toNat ((stI σ 0 52 ((σ.1 0 52) - 1)).1 26 (Int.toNat (((stI σ 0 52 ((σ.1 0 52) - 1)).1 0 52) - 1))))))), (0, .ref (ad 0)), (1, .int (oi x1))] dX7_ends_39 (by decide) rfl ?_
    refine q_aload_n X dX7_ends_40 1 rfl ?_
    refine q_aload_n X dX7_ends_41 1 rfl ?_
    refine fg_X7_38 X dX7_ends_42 ?_
    refine q_aload_n X dX7_ends_45 1 rfl ?_
    refine fg_X7_26 X dX7_ends_46 ?_
    refine q_bipush X dX7_ends_49 (by decide) ?_
    refine q_iload_n X dX7_ends_51 0 rfl ?_
    refine q_imul X dX7_ends_52 ?_
    refine q_aload_n X dX7_ends_53 1 rfl ?_
    refine fg_X7_93 X dX7_ends_54 ?_
    refine q_aload_n X dX7_ends_57 1 rfl ?_
    refine fg_X7_264 X dX7_ends_58 (fun h8 => ?_)
    refine q_iconst X dX7_ends_61 ?_
    refine q_isub X dX7_ends_62 ?_
    refine q_iald X hM27 (by decide) dX7_ends_63 (fun h9 => ?_)
    refine q_iadd X dX7_ends_64 ?_
    refine q_iconst X dX7_ends_65 ?_
    refine q_isub X dX7_ends_66 ?_
    refine q_iald X hM5 (by decide) dX7_ends_67 (fun h10 => ?_)
    refine q_iald X hM9 (by decide) dX7_ends_68 (fun h11 => ?_)
    refine q_iload_n X dX7_ends_69 2 rfl ?_
    refine q_callV X NMok hN Aw_new (c_X7_becomes h11 hx1) (rn_V X (cwV 2 X.2.2.2.2.1 (tbG_good _ (tbG_V mw_1156 mw_1158 mp_5_11 mw_9 mw_1159)) rfl rfl rfl hd_X7_becomes ⟨by decide, by decide⟩) hM0 rfl rfl rfl (Nat.le_of_ble_eq_true rfl) dX7_ends_70) (fun r12 _ => ?_)
    exact q_vret X hr hlk dX7_ends_73

/-! SiteObjectsModel.isObjectBelow(II)Z -/
abbrev GX7_isObjectBelow (p : Program) (l : Launch) (e : Env) (s : State) (m : MethodId) (args : Array Value) (below : List Frame) (meth : Method) (c : Code) (D : va_G) (ca : Nat → ClassId) (ad : Nat → Nat) (σ : Mm) (res : Int) : Nat → List (Nat × Value) → List Value → Mm → Option (Int) → Prop := G p l e { frames := 1, cells := 0, slots := 0, locals := 23 } s m args below meth c (MQ below (QcI D vcl ca ad shM s.heap.size (res, σ)) args s 0 0 (Aw ad shM.length s.heap.size)) 3 D vcl ca ad shM (Aw ad shM.length s.heap.size) res
def f_X7_isObjectBelow (x1 : Int) (x2 : Int) (σ : Mm) : Option (Int) :=
  ck ((0 : Int) ≤ x1 ∧ x1 < ((300 : Nat) : Int)) ((f_X7_isBelow (σ.1 29 (Int.toNat x1)) x2 σ).bind (fun r2 => ck (r2 = 0 ∨ r2 = 1) (some r2)))
theorem hd_X7_isObjectBelow : yX7_isObjectBelow.cls = RX7 ∧ yX7_isObjectBelow.cls ≠ "java/lang/invoke/MethodHandle" ∧ yX7_isObjectBelow.cls ≠ "java/lang/invoke/VarHandle" ∧ (parseMethodDescriptor yX7_isObjectBelow.desc).map (fun d => d.parameters.length) = some 2 := by decide +kernel
set_option maxRecDepth 100000 in
set_option maxHeartbeats 4000000 in
theorem c_X7_isObjectBelow {l : Launch} {D : va_G} {ca : Nat → ClassId} {ad : Nat → Nat} {x1 : Int} {x2 : Int} (hx1 : inR x1) (hx2 : inR x2) {σ : Mm} : CtI l D vcl ca ad shM NM yX7_isObjectBelow (Cond.code yX7_isObjectBelow cX7_isObjectBelow 3 (some .boolean) :: tbG) { frames := 1, cells := 0, slots := 0, locals := 23 } [.ref (ad 0), .int (oi x1), .int (oi x2)] σ ((f_X7_isObjectBelow x1 x2 σ).map (fun r => (r, σ))) := by
  refine ct_Ip RX7 rfl (by decide) rfl (Nat.le_of_ble_eq_true rfl) (fun p e s m below meth c res X hN hr hlk => ?_)
  show GX7_isObjectBelow p l e s m _ below meth c D ca ad σ res 0 [(0, .ref (ad 0)), (1, .int (oi x1)), (2, .int (oi x2))] [] σ (f_X7_isObjectBelow x1 x2 σ)
  unfold f_X7_isObjectBelow
  refine q_aload_n X dX7_isObjectBelow_0 0 rfl ?_
  refine q_aload_n X dX7_isObjectBelow_1 0 rfl ?_
  refine fg_X7_99 X dX7_isObjectBelow_2 ?_
  refine q_iload_n X dX7_isObjectBelow_5 1 rfl ?_
  refine q_iald X hM29 (by decide) dX7_isObjectBelow_6 (fun h1 => ?_)
  refine q_iload_n X dX7_isObjectBelow_7 2 rfl ?_
  refine q_callIp X NMok hN Aw_new (c_X7_isBelow h1 hx2) (rn_V X (cwV 2 X.2.2.2.2.1 (tbG_good _ (tbG_V mw_1082 mw_1084 mp_5_0 mw_9 mw_1085)) rfl rfl rfl hd_X7_isBelow ⟨by decide, by decide⟩) hM0 rfl rfl rfl (Nat.le_of_ble_eq_true rfl) dX7_isObjectBelow_8) (fun r2 _ h4 => ?_)
  refine q_ck (fun h5 => ?_)
  exact q_zretp X h5 hr hlk dX7_isObjectBelow_11

/-! SiteObjectsModel.raises(II)V -/
abbrev GX7_raises (p : Program) (l : Launch) (e : Env) (s : State) (m : MethodId) (args : Array Value) (below : List Frame) (meth : Method) (c : Code) (D : va_G) (ca : Nat → ClassId) (ad : Nat → Nat) (res : Mm) : Nat → List (Nat × Value) → List Value → Mm → Option (Mm) → Prop := G p l e { frames := 2, cells := 0, slots := 0, locals := 45 } s m args below meth c (MQ below (QcV D vcl ca ad shM s.heap.size res) args s 0 0 (Aw ad shM.length s.heap.size)) 7 D vcl ca ad shM (Aw ad shM.length s.heap.size) res
def f_X7_raises_45 (k0 : Int → Int → Mm → Option (Mm)) : Nat → Int → Int → Int → Int → Int → Mm → Option (Mm)
  | 0, _, _, _, _, _, _ => none
  | n + 1, x1, x2, x3, x4, x5, σ => (if x5 < 0 then ck (inR ((σ.1 0 52) - 1)) (k0 x1 x2 (stI σ 0 52 ((σ.1 0 52) - 1))) else ck ((0 : Int) ≤ ((90 * x3) + x5) ∧ ((90 * x3) + x5) < ((1080 : Nat) : Int)) ((f_X7_covers (σ.1 5 (Int.toNat ((90 * x3) + x5))) x4 σ).bind (fun r5 => (if r5 = 0 then ck (inR (x5 + (-1))) (f_X7_raises_45 k0 n x1 x2 x3 x4 (x5 + (-1)) σ) else ck ((0 : Int) ≤ (σ.1 5 (Int.toNat ((90 * x3) + x5))) ∧ (σ.1 5 (Int.toNat ((90 * x3) + x5))) < ((90 : Nat) : Int)) ((f_X7_isObjectBelow x1 (σ.1 11 (Int.toNat (σ.1 5 (Int.toNat ((90 * x3) + x5))))) σ).bind (fun r11 => (if r11 = 0 then ck (inR (x5 + (-1))) (f_X7_raises_45 k0 n x1 x2 x3 x4 (x5 + (-1)) σ) else ck ((0 : Int) ≤ (σ.1 5 (Int.toNat ((90 * x3) + x5))) ∧ (σ.1 5 (Int.toNat ((90 * x3) + x5))) < ((90 : Nat) : Int)) ((f_X7_becomes (σ.1 9 (Int.toNat (σ.1 5 (Int.toNat ((90 * x3) + x5))))) x1 σ).bind (fun r17 => ck ((0 : Int) ≤ (σ.1 5 (Int.toNat ((90 * x3) + x5))) ∧ (σ.1 5 (Int.toNat ((90 * x3) + x5))) < ((90 : Nat) : Int)) (ck (inR ((x5 + (r17.1 10 (Int.toNat (σ.1 5 (Int.toNat ((90 * x3) + x5)))))) + 1)) (ck ((0 : Int) ≤ ((r17.1 0 52) - 1) ∧ ((r17.1 0 52) - 1) < ((25 : Nat) : Int)) ((some (stI r17 27 (Int.toNat ((r17.1 0 52) - 1)) ((x5 + (r17.1 10 (Int.toNat (σ.1 5 (Int.toNat ((90 * x3) + x5)))))) + 1))).bind (fun σ23 => some σ23)))))))))))))
set_option maxRecDepth 100000 in
set_option maxHeartbeats 4000000 in
theorem t_X7_raises_45 {p : Program} {l : Launch} {e : Env} {s : State} {m : MethodId} {args : Array Value} {below : List Frame} {meth : Method} {c : Code} {D : va_G} {ca : Nat → ClassId} {ad : Nat → Nat} {res : Mm} {k0 : Int → Int → Mm → Option (Mm)} (X : Cx p s m args c cX7_raises 7 RX7 (Cond.code yX7_raises cX7_raises 7 none :: tbG) D vcl ca) (hN : NM s) (hr : meth.sig.returnType = none) (hlk : meth.locks = false) (hk0 : ∀ (x1 : Int) (x2 : Int) (σ : Mm), inR x1 → inR x2 → GX7_raises p l e s m args below meth c D ca ad res 0 [(0, .ref (ad 0)), (1, .int (oi x1)), (2, .int (oi x2))] [] σ (k0 x1 x2 σ)) : ∀ (n : Nat) (x1 : Int) (x2 : Int) (x3 : Int) (x4 : Int) (x5 : Int) (σ : Mm), inR x1 → inR x2 → inR x3 → inR x4 → inR x5 → GX7_raises p l e s m args below meth c D ca ad res 45 [(0, .ref (ad 0)), (1, .int (oi x1)), (2, .int (oi x2)), (3, .int (oi x3)), (4, .int (oi x4)), (5, .int (oi x5))] [] σ (f_X7_raises_45 k0 n x1 x2 x3 x4 x5 σ)
  := by
  intro n
  induction n with
  | zero => intro x1 x2 x3 x4 x5 σ hx1 hx2 hx3 hx4 hx5 h; cases h
  | succ n ih =>
    intro x1 x2 x3 x4 x5 σ hx1 hx2 hx3 hx4 hx5
    rw [f_X7_raises_45]
    refine q_iload X dX7_raises_45 5 rfl ?_
    refine q_if_lt X hx5 132 dX7_raises_47 (by decide) (fun h1 => ?_) (fun h1 => ?_)
    · refine q_aload_n X dX7_raises_132 0 rfl ?_
      refine q_dup X dX7_raises_133 rfl ?_
      refine fg_X7_264 X dX7_raises_134 (fun h2 => ?_)
      refine q_iconst X dX7_raises_137 ?_
      refine q_isub X dX7_raises_138 ?_
      refine q_ck (fun h3 => ?_)
      refine fp_X7_264 X h3 dX7_raises_139 ?_
      refine q_goto X 0 dX7_raises_142 (by decide) ?_
      refine q_sub [(0, .ref (ad 0)), (1, .int (oi x1)), (2, .int (oi x2))] [0, 1, 2] rfl ?_
      exact hk0 x1 x2 (stI σ 0 52 ((σ.1 0 52) - 1)) hx1 hx2
    · refine q_aload_n X dX7_raises_50 0 rfl ?_
      refine fg_X7_26 X dX7_raises_51 ?_
      refine q_bipush X dX7_raises_54 (by decide) ?_
      refine q_iload_n X dX7_raises_56 3 rfl ?_
      refine q_imul X dX7_raises_57 ?_
      refine q_iload X dX7_raises_58 5 rfl ?_
      refine q_iadd X dX7_raises_60 ?_
      refine q_iald X hM5 (by decide) dX7_raises_61 (fun h4 => ?_)
      refine q_istore X [(6, .int (oi (σ.1 5 (Int.toNat ((90 * x3) + x5))))), (0, .ref (ad 0)), (1, .int (oi x1)), (2, .int (oi x2)), (3, .int (oi x3)), (4, .int (oi x4)), (5, .int (oi x5))] dX7_raises_62 (by decide) rfl ?_
      refine q_aload_n X dX7_raises_64 1 rfl ?_
      refine q_iload X dX7_raises_65 0 rfl ?_
      refine q_iload X dX7_raises_67 5 rfl ?_
      refine q_callIp X NMok hN Aw_new (c_X7_covers h4 hx4) (rn_V X (cwV 2 X.2.2.2.2.1 (tbG_good _ (tbG_V mw_1102 mw_1104 mp_5_5 mw_9 mw_1105)) rfl rfl rfl hd_X7_covers ⟨by decide, by decide⟩) hM0 rfl rfl rfl (Nat.le_of_ble_eq_true rfl) dX7_raises_69) (fun r5 _ h7 => ?_)
      refine q_if_eq X h7 126 dX7_raises_72 (by decide) (fun h8 => ?_) (fun h8 => ?_)
      · refine q_iinc X [(5, .int (oi (x5 + (-1)))), (6, .int (oi (σ.1 5 (Int.toNat ((90 * x3) + x5))))), (0, .ref (ad 0)), (1, .int (oi x1)), (2, .int (oi x2)), (3, .int (oi x3)), (4, .int (oi x4))] dX7_raises_126 (by decide) 6 rfl rfl (fun h9 => ?_)
        refine q_goto X 45 dX7_raises_129 (by decide) ?_
        refine q_sub [(0, .ref (ad 0)), (1, .int (oi x1)), (2, .int (oi x2)), (3, .int (oi x3)), (4, .int (oi x4)), (5, .int (oi (x5 + (-1))))] [2, 3, 4, 5, 6, 0] rfl ?_
        exact ih x1 x2 x3 x4 (x5 + (-1)) σ hx1 hx2 hx3 hx4 h9
      · refine q_aload_n X dX7_raises_75 1 rfl ?_
        refine q_iload_n X dX7_raises_76 2 rfl ?_
        refine q_aload_n X dX7_raises_77 1 rfl ?_
        refine fg_X7_44 X dX7_raises_78 ?_
        refine q_iload X dX7_raises_81 0 rfl ?_
        refine q_iald X hM11 (by decide) dX7_raises_83 (fun h10 => ?_)
        refine q_callIp X NMok hN Aw_new (c_X7_isObjectBelow hx1 h10) (rn_V X (cwV 2 X.2.2.2.2.1 (tbG_good _ (tbG_V mw_1196 mw_1198 mp_6_5 mw_9 mw_1199)) rfl rfl rfl hd_X7_isObjectBelow ⟨by decide, by decide⟩) hM0 rfl rfl rfl (Nat.le_of_ble_eq_true rfl) dX7_raises_84) (fun r11 _ h13 => ?_)
        refine q_if_eq X h13 126 dX7_raises_87 (by decide) (fun h14 => ?_) (fun h14 => ?_)
        · refine q_iinc X [(5, .int (oi (x5 + (-1)))), (6, .int (oi (σ.1 5 (Int.toNat ((90 * x3) + x5))))), (0, .ref (ad 0)), (1, .int (oi x1)), (2, .int (oi x2)), (3, .int (oi x3)), (4, .int (oi x4))] dX7_raises_126 (by decide) 6 rfl rfl (fun h15 => ?_)
          refine q_goto X 45 dX7_raises_129 (by decide) ?_
          refine q_sub [(0, .ref (ad 0)), (1, .int (oi x1)), (2, .int (oi x2)), (3, .int (oi x3)), (4, .int (oi x4)), (5, .int (oi (x5 + (-1))))] [2, 3, 4, 5, 6, 0] rfl ?_
          exact ih x1 x2 x3 x4 (x5 + (-1)) σ hx1 hx2 hx3 hx4 h15
        · refine q_aload_n X dX7_raises_90 1 rfl ?_
          refine q_aload_n X dX7_raises_91 1 rfl ?_
          refine fg_X7_38 X dX7_raises_92 ?_
          refine q_iload X dX7_raises_95 0 rfl ?_
          refine q_iald X hM9 (by decide) dX7_raises_97 (fun h16 => ?_)
          refine q_iload_n X dX7_raises_98 2 rfl ?_
          refine q_callV X NMok hN Aw_new (c_X7_becomes h16 hx1) (rn_V X (cwV 2 X.2.2.2.2.1 (tbG_good _ (tbG_V mw_1156 mw_1158 mp_5_11 mw_9 mw_1159)) rfl rfl rfl hd_X7_becomes ⟨by decide, by decide⟩) hM0 rfl rfl rfl (Nat.le_of_ble_eq_true rfl) dX7_raises_99) (fun r17 _ => ?_)
          refine q_aload_n X dX7_raises_102 1 rfl ?_
          refine fg_X7_93 X dX7_raises_103 ?_
          refine q_aload_n X dX7_raises_106 1 rfl ?_
          refine fg_X7_264 X dX7_raises_107 (fun h20 => ?_)
          refine q_iconst X dX7_raises_110 ?_
          refine q_isub X dX7_raises_111 ?_
          refine q_iload X dX7_raises_112 6 rfl ?_
          refine q_aload_n X dX7_raises_114 1 rfl ?_
          refine fg_X7_41 X dX7_raises_115 ?_
          refine q_iload X dX7_raises_118 0 rfl ?_
          refine q_iald X hM10 (by decide) dX7_raises_120 (fun h21 => ?_)
          refine q_iadd X dX7_raises_121 ?_
          refine q_iconst X dX7_raises_122 ?_
          refine q_iadd X dX7_raises_123 ?_
          refine q_ck (fun h22 => ?_)
          refine q_iast X hM27 (by decide) h22 dX7_raises_124 ?_
          refine q_nm (fun σ23 => ?_)
          exact q_vret X hr hlk dX7_raises_125
def f_X7_raises_0 : Nat → Int → Int → Mm → Option (Mm)
  | 0, _, _, _ => none
  | n + 1, x1, x2, σ => (if (σ.1 0 52) ≤ 0 then (f_X7_fails 7 x2 (stI σ 0 42 x1)).bind (fun r26 => some r26) else ck ((0 : Int) ≤ ((σ.1 0 52) - 1) ∧ ((σ.1 0 52) - 1) < ((25 : Nat) : Int)) (ck ((0 : Int) ≤ (σ.1 26 (Int.toNat ((σ.1 0 52) - 1))) ∧ (σ.1 26 (Int.toNat ((σ.1 0 52) - 1))) < ((80 : Nat) : Int)) (ck ((0 : Int) ≤ ((σ.1 0 52) - 1) ∧ ((σ.1 0 52) - 1) < ((25 : Nat) : Int)) (ck (inR ((σ.1 27 (Int.toNat ((σ.1 0 52) - 1))) - 1)) (ck (inR (((σ.1 27 (Int.toNat ((σ.1 0 52) - 1))) - 1) - 1)) (f_X7_raises_45 (f_X7_raises_0 n) 2000 x1 x2 (σ.1 13 (Int.toNat (σ.1 26 (Int.toNat ((σ.1 0 52) - 1))))) ((σ.1 27 (Int.toNat ((σ.1 0 52) - 1))) - 1) (((σ.1 27 (Int.toNat ((σ.1 0 52) - 1))) - 1) - 1) σ))))))
set_option maxRecDepth 100000 in
set_option maxHeartbeats 4000000 in
theorem t_X7_raises_0 {p : Program} {l : Launch} {e : Env} {s : State} {m : MethodId} {args : Array Value} {below : List Frame} {meth : Method} {c : Code} {D : va_G} {ca : Nat → ClassId} {ad : Nat → Nat} {res : Mm} (X : Cx p s m args c cX7_raises 7 RX7 (Cond.code yX7_raises cX7_raises 7 none :: tbG) D vcl ca) (hN : NM s) (hr : meth.sig.returnType = none) (hlk : meth.locks = false) : ∀ (n : Nat) (x1 : Int) (x2 : Int) (σ : Mm), inR x1 → inR x2 → GX7_raises p l e s m args below meth c D ca ad res 0 [(0, .ref (ad 0)), (1, .int (oi x1)), (2, .int (oi x2))] [] σ (f_X7_raises_0 n x1 x2 σ)
  := by
  intro n
  induction n with
  | zero => intro x1 x2 σ hx1 hx2 h; cases h
  | succ n ih =>
    intro x1 x2 σ hx1 hx2
    rw [f_X7_raises_0]
    refine q_aload_n X dX7_raises_0 0 rfl ?_
    refine fg_X7_264 X dX7_raises_1 (fun h24 => ?_)
    refine q_if_le X h24 145 dX7_raises_4 (by decide) (fun h25 => ?_) (fun h25 => ?_)
    · refine q_aload_n X dX7_raises_145 0 rfl ?_
      refine q_iload_n X dX7_raises_146 1 rfl ?_
      refine fp_X7_274 X hx1 dX7_raises_147 ?_
      refine q_aload_n X dX7_raises_150 0 rfl ?_
      refine q_bipush X dX7_raises_151 (by decide) ?_
      refine q_iload_n X dX7_raises_153 2 rfl ?_
      refine q_callV X NMok hN Aw_new (c_X7_fails (by decide) hx2) (rn_V X (cwV 2 X.2.2.2.2.1 (tbG_good _ (tbG_V mw_1164 mw_1166 mp_5_13 mw_9 mw_1167)) rfl rfl rfl hd_X7_fails ⟨by decide, by decide⟩) hM0 rfl rfl rfl (Nat.le_of_ble_eq_true rfl) dX7_raises_154) (fun r26 _ => ?_)
      exact q_vret X hr hlk dX7_raises_157
    · refine q_aload_n X dX7_raises_7 0 rfl ?_
      refine fg_X7_50 X dX7_raises_8 ?_
      refine q_aload_n X dX7_raises_11 0 rfl ?_
      refine fg_X7_90 X dX7_raises_12 ?_
      refine q_aload_n X dX7_raises_15 0 rfl ?_
      refine fg_X7_264 X dX7_raises_16 (fun h29 => ?_)
      refine q_iconst X dX7_raises_19 ?_
      refine q_isub X dX7_raises_20 ?_
      refine q_iald X hM26 (by decide) dX7_raises_21 (fun h30 => ?_)
      refine q_iald X hM13 (by decide) dX7_raises_22 (fun h31 => ?_)
      refine q_istore_n X [(3, .int (oi (σ.1 13 (Int.toNat (σ.1 26 (Int.toNat ((σ.1 0 52) - 1))))))), (0, .ref (ad 0)), (1, .int (oi x1)), (2, .int (oi x2))] dX7_raises_23 (by decide) rfl ?_
      refine q_aload_n X dX7_raises_24 1 rfl ?_
      refine fg_X7_93 X dX7_raises_25 ?_
      refine q_aload_n X dX7_raises_28 1 rfl ?_
      refine fg_X7_264 X dX7_raises_29 (fun h32 => ?_)
      refine q_iconst X dX7_raises_32 ?_
      refine q_isub X dX7_raises_33 ?_
      refine q_iald X hM27 (by decide) dX7_raises_34 (fun h33 => ?_)
      refine q_iconst X dX7_raises_35 ?_
      refine q_isub X dX7_raises_36 ?_
      refine q_ck (fun h34 => ?_)
      refine q_istore X [(4, .int (oi ((σ.1 27 (Int.toNat ((σ.1 0 52) - 1))) - 1))), (3, .int (oi (σ.1 13 (Int.toNat (σ.1 26 (Int.toNat ((σ.1 0 52) - 1))))))), (0, .ref (ad 0)), (1, .int (oi x1)), (2, .int (oi x2))] dX7_raises_37 (by decide) rfl ?_
      refine q_iload X dX7_raises_39 0 rfl ?_
      refine q_iconst X dX7_raises_41 ?_
      refine q_isub X dX7_raises_42 ?_
      refine q_ck (fun h35 => ?_)
      refine q_istore X [(5, .int (oi (((σ.1 27 (Int.toNat ((σ.1 0 52) - 1))) - 1) - 1))), (4, .int (oi ((σ.1 27 (Int.toNat ((σ.1 0 52) - 1))) - 1))), (3, .int (oi (σ.1 13 (Int.toNat (σ.1 26 (Int.toNat ((σ.1 0 52) - 1))))))), (0, .ref (ad 0)), (1, .int (oi x1)), (2, .int (oi x2))] dX7_raises_43 (by decide) rfl ?_
      refine q_sub [(0, .ref (ad 0)), (1, .int (oi x1)), (2, .int (oi x2)), (3, .int (oi (σ.1 13 (Int.toNat (σ.1 26 (Int.toNat ((σ.1 0 52) - 1))))))), (4, .int (oi ((σ.1 27 (Int.toNat ((σ.1 0 52) - 1))) - 1))), (5, .int (oi (((σ.1 27 (Int.toNat ((σ.1 0 52) - 1))) - 1) - 1)))] [3, 4, 5, 2, 1, 0] rfl ?_
      exact t_X7_raises_45 X hN hr hlk ih 2000 x1 x2 (σ.1 13 (Int.toNat (σ.1 26 (Int.toNat ((σ.1 0 52) - 1))))) ((σ.1 27 (Int.toNat ((σ.1 0 52) - 1))) - 1) (((σ.1 27 (Int.toNat ((σ.1 0 52) - 1))) - 1) - 1) σ hx1 hx2 h31 h34 h35
def f_X7_raises (x1 : Int) (x2 : Int) (σ : Mm) : Option (Mm) :=
  f_X7_raises_0 2000 x1 x2 σ
theorem hd_X7_raises : yX7_raises.cls = RX7 ∧ yX7_raises.cls ≠ "java/lang/invoke/MethodHandle" ∧ yX7_raises.cls ≠ "java/lang/invoke/VarHandle" ∧ (parseMethodDescriptor yX7_raises.desc).map (fun d => d.parameters.length) = some 2 := by decide +kernel
set_option maxRecDepth 100000 in
set_option maxHeartbeats 4000000 in
theorem c_X7_raises {l : Launch} {D : va_G} {ca : Nat → ClassId} {ad : Nat → Nat} {x1 : Int} {x2 : Int} (hx1 : inR x1) (hx2 : inR x2) {σ : Mm} : CtV l D vcl ca ad shM NM yX7_raises (Cond.code yX7_raises cX7_raises 7 none :: tbG) { frames := 2, cells := 0, slots := 0, locals := 45 } [.ref (ad 0), .int (oi x1), .int (oi x2)] σ (f_X7_raises x1 x2 σ) := by
  refine ct_V RX7 rfl (by decide) rfl (Nat.le_of_ble_eq_true rfl) (fun p e s m below meth c res X hN hr hlk => ?_)
  show GX7_raises p l e s m _ below meth c D ca ad res 0 [(0, .ref (ad 0)), (1, .int (oi x1)), (2, .int (oi x2))] [] σ (f_X7_raises x1 x2 σ)
  unfold f_X7_raises
  refine q_sub [(0, .ref (ad 0)), (1, .int (oi x1)), (2, .int (oi x2))] [0, 1, 2] rfl ?_
  exact t_X7_raises_0 X hN hr hlk 2000 x1 x2 σ hx1 hx2

/-! SiteObjectsModel.makes(II)V -/
abbrev GX7_makes (p : Program) (l : Launch) (e : Env) (s : State) (m : MethodId) (args : Array Value) (below : List Frame) (meth : Method) (c : Code) (D : va_G) (ca : Nat → ClassId) (ad : Nat → Nat) (res : Mm) : Nat → List (Nat × Value) → List Value → Mm → Option (Mm) → Prop := G p l e { frames := 2, cells := 0, slots := 0, locals := 45 } s m args below meth c (MQ below (QcV D vcl ca ad shM s.heap.size res) args s 0 0 (Aw ad shM.length s.heap.size)) 5 D vcl ca ad shM (Aw ad shM.length s.heap.size) res
def f_X7_makes_79 : Nat → Int → Int → Mm → Option (Mm)
  | 0, _, _, _ => none
  | n + 1, x1, x4, σ => (if 5 ≤ x4 then ck (inR ((σ.1 0 46) + 1)) (ck (inR (((stI σ 0 46 ((σ.1 0 46) + 1)).1 0 46) - 1)) ((f_X7_becomes x1 (((stI σ 0 46 ((σ.1 0 46) + 1)).1 0 46) - 1) (stI σ 0 46 ((σ.1 0 46) + 1))).bind (fun r6 => some r6))) else ck ((0 : Int) ≤ ((5 * (σ.1 0 46)) + x4) ∧ ((5 * (σ.1 0 46)) + x4) < ((1500 : Nat) : Int)) (ck (inR (x4 + 1)) (f_X7_makes_79 n x1 (x4 + 1) (stI σ 24 (Int.toNat ((5 * (σ.1 0 46)) + x4)) (-1)))))
set_option maxRecDepth 100000 in
set_option maxHeartbeats 4000000 in
theorem t_X7_makes_79 {p : Program} {l : Launch} {e : Env} {s : State} {m : MethodId} {args : Array Value} {below : List Frame} {meth : Method} {c : Code} {D : va_G} {ca : Nat → ClassId} {ad : Nat → Nat} {res : Mm} (X : Cx p s m args c cX7_makes 5 RX7 (Cond.code yX7_makes cX7_makes 5 none :: tbG) D vcl ca) (hN : NM s) (hr : meth.sig.returnType = none) (hlk : meth.locks = false) : ∀ (n : Nat) (x1 : Int) (x4 : Int) (σ : Mm), inR x1 → inR x4 → GX7_makes p l e s m args below meth c D ca ad res 79 [(0, .ref (ad 0)), (1, .int (oi x1)), (4, .int (oi x4))] [] σ (f_X7_makes_79 n x1 x4 σ)
  := by
  intro n
  induction n with
  | zero => intro x1 x4 σ hx1 hx4 h; cases h
  | succ n ih =>
    intro x1 x4 σ hx1 hx4
    rw [f_X7_makes_79]
    refine q_iload X dX7_makes_79 2 rfl ?_
    refine q_iconst X dX7_makes_81 ?_
    refine q_icmp_ge X hx4 (by decide) 106 dX7_makes_82 (by decide) (fun h1 => ?_) (fun h1 => ?_)
    · refine q_aload_n X dX7_makes_106 0 rfl ?_
      refine q_dup X dX7_makes_107 rfl ?_
      refine fg_X7_286 X dX7_makes_108 (fun h2 => ?_)
      refine q_iconst X dX7_makes_111 ?_
      refine q_iadd X dX7_makes_112 ?_
      refine q_ck (fun h3 => ?_)
      refine fp_X7_286 X h3 dX7_makes_113 ?_
      refine q_aload_n X dX7_makes_116 0 rfl ?_
      refine q_iload_n X dX7_makes_117 1 rfl ?_
      refine q_aload_n X dX7_makes_118 0 rfl ?_
      refine fg_X7_286 X dX7_makes_119 (fun h4 => ?_)
      refine q_iconst X dX7_makes_122 ?_
      refine q_isub X dX7_makes_123 ?_
      refine q_ck (fun h5 => ?_)
      refine q_callV X NMok hN Aw_new (c_X7_becomes hx1 h5) (rn_V X (cwV 2 X.2.2.2.2.1 (tbG_good _ (tbG_V mw_1156 mw_1158 mp_5_11 mw_9 mw_1159)) rfl rfl rfl hd_X7_becomes ⟨by decide, by decide⟩) hM0 rfl rfl rfl (Nat.le_of_ble_eq_true rfl) dX7_makes_124) (fun r6 _ => ?_)
      exact q_vret X hr hlk dX7_makes_127
    · refine q_aload_n X dX7_makes_85 0 rfl ?_
      refine fg_X7_84 X dX7_makes_86 ?_
      refine q_iconst X dX7_makes_89 ?_
      refine q_aload_n X dX7_makes_90 0 rfl ?_
      refine fg_X7_286 X dX7_makes_91 (fun h9 => ?_)
      refine q_imul X dX7_makes_94 ?_
      refine q_iload X dX7_makes_95 2 rfl ?_
      refine q_iadd X dX7_makes_97 ?_
      refine q_iconst X dX7_makes_98 ?_
      refine q_iast X hM24 (by decide) (by decide) dX7_makes_99 ?_
      refine q_iinc X [(4, .int (oi (x4 + 1))), (0, .ref (ad 0)), (1, .int (oi x1))] dX7_makes_100 (by decide) 2 rfl rfl (fun h10 => ?_)
      refine q_goto X 79 dX7_makes_103 (by decide) ?_
      refine q_sub [(0, .ref (ad 0)), (1, .int (oi x1)), (4, .int (oi (x4 + 1)))] [1, 2, 0] rfl ?_
      exact ih x1 (x4 + 1) (stI σ 24 (Int.toNat ((5 * (σ.1 0 46)) + x4)) (-1)) hx1 h10
def f_X7_makes (x1 : Int) (x2 : Int) (σ : Mm) : Option (Mm) :=
  ck ((0 : Int) ≤ ((σ.1 0 52) - 1) ∧ ((σ.1 0 52) - 1) < ((25 : Nat) : Int)) (ck ((0 : Int) ≤ (σ.1 0 46) ∧ (σ.1 0 46) < ((300 : Nat) : Int)) (ck ((0 : Int) ≤ ((stI σ 21 (Int.toNat (σ.1 0 46)) x2).1 0 46) ∧ ((stI σ 21 (Int.toNat (σ.1 0 46)) x2).1 0 46) < ((300 : Nat) : Int)) ((some (stI (stI σ 21 (Int.toNat (σ.1 0 46)) x2) 23 (Int.toNat ((stI σ 21 (Int.toNat (σ.1 0 46)) x2).1 0 46)) (σ.1 26 (Int.toNat ((σ.1 0 52) - 1))))).bind (fun σ15 => (f_X7_nameOf x2 (σ.1 26 (Int.toNat ((σ.1 0 52) - 1))) σ15).bind (fun r17 => ck ((0 : Int) ≤ (σ15.1 0 46) ∧ (σ15.1 0 46) < ((300 : Nat) : Int)) (ck ((0 : Int) ≤ x2 ∧ x2 < ((90 : Nat) : Int)) ((if ((stI σ15 22 (Int.toNat (σ15.1 0 46)) r17).1 8 (Int.toNat x2)) = 1 then ck ((0 : Int) ≤ ((stI σ15 22 (Int.toNat (σ15.1 0 46)) r17).1 0 46) ∧ ((stI σ15 22 (Int.toNat (σ15.1 0 46)) r17).1 0 46) < ((300 : Nat) : Int)) ((some (stI (stI σ15 22 (Int.toNat (σ15.1 0 46)) r17) 29 (Int.toNat ((stI σ15 22 (Int.toNat (σ15.1 0 46)) r17).1 0 46)) 0)).bind (fun σ23 => f_X7_makes_79 2000 x1 0 σ23)) else ck ((0 : Int) ≤ x2 ∧ x2 < ((90 : Nat) : Int)) (ck ((0 : Int) ≤ ((stI σ15 22 (Int.toNat (σ15.1 0 46)) r17).1 0 46) ∧ ((stI σ15 22 (Int.toNat (σ15.1 0 46)) r17).1 0 46) < ((300 : Nat) : Int)) ((some (stI (stI σ15 22 (Int.toNat (σ15.1 0 46)) r17) 29 (Int.toNat ((stI σ15 22 (Int.toNat (σ15.1 0 46)) r17).1 0 46)) ((stI σ15 22 (Int.toNat (σ15.1 0 46)) r17).1 10 (Int.toNat x2)))).bind (fun σ25 => f_X7_makes_79 2000 x1 0 σ25)))))))))))
theorem hd_X7_makes : yX7_makes.cls = RX7 ∧ yX7_makes.cls ≠ "java/lang/invoke/MethodHandle" ∧ yX7_makes.cls ≠ "java/lang/invoke/VarHandle" ∧ (parseMethodDescriptor yX7_makes.desc).map (fun d => d.parameters.length) = some 2 := by decide +kernel
set_option maxRecDepth 100000 in
set_option maxHeartbeats 4000000 in
theorem c_X7_makes {l : Launch} {D : va_G} {ca : Nat → ClassId} {ad : Nat → Nat} {x1 : Int} {x2 : Int} (hx1 : inR x1) (hx2 : inR x2) {σ : Mm} : CtV l D vcl ca ad shM NM yX7_makes (Cond.code yX7_makes cX7_makes 5 none :: tbG) { frames := 2, cells := 0, slots := 0, locals := 45 } [.ref (ad 0), .int (oi x1), .int (oi x2)] σ (f_X7_makes x1 x2 σ) := by
  refine ct_V RX7 rfl (by decide) rfl (Nat.le_of_ble_eq_true rfl) (fun p e s m below meth c res X hN hr hlk => ?_)
  show GX7_makes p l e s m _ below meth c D ca ad res 0 [(0, .ref (ad 0)), (1, .int (oi x1)), (2, .int (oi x2))] [] σ (f_X7_makes x1 x2 σ)
  unfold f_X7_makes
  refine q_aload_n X dX7_makes_0 0 rfl ?_
  refine fg_X7_90 X dX7_makes_1 ?_
  refine q_aload_n X dX7_makes_4 0 rfl ?_
  refine fg_X7_264 X dX7_makes_5 (fun h11 => ?_)
  refine q_iconst X dX7_makes_8 ?_
  refine q_isub X dX7_makes_9 ?_
  refine q_iald X hM26 (by decide) dX7_makes_10 (fun h12 => ?_)
  refine q_istore_n X [(3, .int (oi (σ.1 26 (Int.toNat ((σ.1 0 52) - 1))))), (0, .ref (ad 0)), (1, .int (oi x1)), (2, .int (oi x2))] dX7_makes_11 (by decide) rfl ?_
  refine q_aload_n X dX7_makes_12 1 rfl ?_
  refine fg_X7_75 X dX7_makes_13 ?_
  refine q_aload_n X dX7_makes_16 1 rfl ?_
  refine fg_X7_286 X dX7_makes_17 (fun h13 => ?_)
  refine q_iload_n X dX7_makes_20 3 rfl ?_
  refine q_iast X hM21 (by decide) hx2 dX7_makes_21 ?_
  refine q_aload_n X dX7_makes_22 1 rfl ?_
  refine fg_X7_81 X dX7_makes_23 ?_
  refine q_aload_n X dX7_makes_26 1 rfl ?_
  refine fg_X7_286 X dX7_makes_27 (fun h14 => ?_)
  refine q_iload_n X dX7_makes_30 0 rfl ?_
  refine q_iast X hM23 (by decide) h12 dX7_makes_31 ?_
  refine q_nm (fun σ15 => ?_)
  refine q_aload_n X dX7_makes_32 1 rfl ?_
  refine fg_X7_78 X dX7_makes_33 ?_
  refine q_aload_n X dX7_makes_36 1 rfl ?_
  refine fg_X7_286 X dX7_makes_37 (fun h16 => ?_)
  refine q_aload_n X dX7_makes_40 1 rfl ?_
  refine q_iload_n X dX7_makes_41 3 rfl ?_
  refine q_iload_n X dX7_makes_42 0 rfl ?_
  refine q_callIp X NMok hN Aw_new (c_X7_nameOf hx2 h12) (rn_V X (cwV 2 X.2.2.2.2.1 (tbG_good _ (tbG_V mw_1058 mw_1060 mp_4_10 mw_9 mw_1061)) rfl rfl rfl hd_X7_nameOf ⟨by decide, by decide⟩) hM0 rfl rfl rfl (Nat.le_of_ble_eq_true rfl) dX7_makes_43) (fun r17 _ h19 => ?_)
  refine q_iast X hM22 (by decide) h19 dX7_makes_46 ?_
  refine q_aload_n X dX7_makes_47 1 rfl ?_
  refine fg_X7_99 X dX7_makes_48 ?_
  refine q_aload_n X dX7_makes_51 1 rfl ?_
  refine fg_X7_286 X dX7_makes_52 (fun h20 => ?_)
  refine q_aload_n X dX7_makes_55 1 rfl ?_
  refine fg_X7_35 X dX7_makes_56 ?_
  refine q_iload_n X dX7_makes_59 3 rfl ?_
  refine q_iald X hM8 (by decide) dX7_makes_60 (fun h21 => ?_)
  refine q_iconst X dX7_makes_61 ?_
  refine q_icmp_ne X h21 (by decide) 69 dX7_makes_62 (by decide) (fun h22 => ?_) (fun h22 => ?_)
  · refine q_iconst X dX7_makes_65 ?_
    refine q_goto X 75 dX7_makes_66 (by decide) ?_
    refine q_iast X hM29 (by decide) (by decide) dX7_makes_75 ?_
    refine q_nm (fun σ23 => ?_)
    refine q_iconst X dX7_makes_76 ?_
    refine q_istore X [(4, .int (oi 0)), (3, .int (oi (σ.1 26 (Int.toNat ((σ.1 0 52) - 1))))), (0, .ref (ad 0)), (1, .int (oi x1)), (2, .int (oi x2))] dX7_makes_77 (by decide) rfl ?_
    refine q_sub [(0, .ref (ad 0)), (1, .int (oi x1)), (4, .int (oi 0))] [2, 3, 0] rfl ?_
    exact t_X7_makes_79 X hN hr hlk 2000 x1 0 σ23 hx1 (by decide)
  · refine q_aload_n X dX7_makes_69 1 rfl ?_
    refine fg_X7_41 X dX7_makes_70 ?_
    refine q_iload_n X dX7_makes_73 3 rfl ?_
    refine q_iald X hM10 (by decide) dX7_makes_74 (fun h24 => ?_)
    refine q_iast X hM29 (by decide) h24 dX7_makes_75 ?_
    refine q_nm (fun σ25 => ?_)
    refine q_iconst X dX7_makes_76 ?_
    refine q_istore X [(4, .int (oi 0)), (3, .int (oi (σ.1 26 (Int.toNat ((σ.1 0 52) - 1))))), (0, .ref (ad 0)), (1, .int (oi x1)), (2, .int (oi x2))] dX7_makes_77 (by decide) rfl ?_
    refine q_sub [(0, .ref (ad 0)), (1, .int (oi x1)), (4, .int (oi 0))] [2, 3, 0] rfl ?_
    exact t_X7_makes_79 X hN hr hlk 2000 x1 0 σ25 hx1 (by decide)

/-! SiteObjectsModel.isRowNow(I)Z -/
abbrev GX7_isRowNow (p : Program) (l : Launch) (e : Env) (s : State) (m : MethodId) (args : Array Value) (below : List Frame) (meth : Method) (c : Code) (D : va_G) (ca : Nat → ClassId) (ad : Nat → Nat) (σ : Mm) (res : Int) : Nat → List (Nat × Value) → List Value → Mm → Option (Int) → Prop := G p l e { frames := 0, cells := 0, slots := 0, locals := 0 } s m args below meth c (MQ below (QcI D vcl ca ad shM s.heap.size (res, σ)) args s 0 0 (Aw ad shM.length s.heap.size)) 2 D vcl ca ad shM (Aw ad shM.length s.heap.size) res
def f_X7_isRowNow (x1 : Int) (σ : Mm) : Option (Int) :=
  ck ((0 : Int) ≤ x1 ∧ x1 < ((300 : Nat) : Int)) (ck ((0 : Int) ≤ (σ.1 21 (Int.toNat x1)) ∧ (σ.1 21 (Int.toNat x1)) < ((90 : Nat) : Int)) ((if (σ.1 8 (Int.toNat (σ.1 21 (Int.toNat x1)))) = 1 then some 1 else some 0)))
theorem hd_X7_isRowNow : yX7_isRowNow.cls = RX7 ∧ yX7_isRowNow.cls ≠ "java/lang/invoke/MethodHandle" ∧ yX7_isRowNow.cls ≠ "java/lang/invoke/VarHandle" ∧ (parseMethodDescriptor yX7_isRowNow.desc).map (fun d => d.parameters.length) = some 1 := by decide +kernel
set_option maxRecDepth 100000 in
set_option maxHeartbeats 4000000 in
theorem c_X7_isRowNow {l : Launch} {D : va_G} {ca : Nat → ClassId} {ad : Nat → Nat} {x1 : Int} (hx1 : inR x1) {σ : Mm} : CtI l D vcl ca ad shM NM yX7_isRowNow (Cond.code yX7_isRowNow cX7_isRowNow 2 (some .boolean) :: tbG) { frames := 0, cells := 0, slots := 0, locals := 0 } [.ref (ad 0), .int (oi x1)] σ ((f_X7_isRowNow x1 σ).map (fun r => (r, σ))) := by
  refine ct_Ip RX7 rfl (by decide) rfl (Nat.le_of_ble_eq_true rfl) (fun p e s m below meth c res X hN hr hlk => ?_)
  show GX7_isRowNow p l e s m _ below meth c D ca ad σ res 0 [(0, .ref (ad 0)), (1, .int (oi x1))] [] σ (f_X7_isRowNow x1 σ)
  unfold f_X7_isRowNow
  refine q_aload_n X dX7_isRowNow_0 0 rfl ?_
  refine fg_X7_35 X dX7_isRowNow_1 ?_
  refine q_aload_n X dX7_isRowNow_4 0 rfl ?_
  refine fg_X7_75 X dX7_isRowNow_5 ?_
  refine q_iload_n X dX7_isRowNow_8 1 rfl ?_
  refine q_iald X hM21 (by decide) dX7_isRowNow_9 (fun h1 => ?_)
  refine q_iald X hM8 (by decide) dX7_isRowNow_10 (fun h2 => ?_)
  refine q_iconst X dX7_isRowNow_11 ?_
  refine q_icmp_ne X h2 (by decide) 19 dX7_isRowNow_12 (by decide) (fun h3 => ?_) (fun h3 => ?_)
  · refine q_iconst X dX7_isRowNow_15 ?_
    refine q_goto X 20 dX7_isRowNow_16 (by decide) ?_
    exact q_zretp X (Or.inr rfl) hr hlk dX7_isRowNow_20
  · refine q_iconst X dX7_isRowNow_19 ?_
    exact q_zretp X (Or.inl rfl) hr hlk dX7_isRowNow_20

/-! SiteObjectsModel.against(IZI)I -/
abbrev GX7_against (p : Program) (l : Launch) (e : Env) (s : State) (m : MethodId) (args : Array Value) (below : List Frame) (meth : Method) (c : Code) (D : va_G) (ca : Nat → ClassId) (ad : Nat → Nat) (σ : Mm) (res : Int) : Nat → List (Nat × Value) → List Value → Mm → Option (Int) → Prop := G p l e { frames := 1, cells := 0, slots := 0, locals := 21 } s m args below meth c (MQ below (QcI D vcl ca ad shM s.heap.size (res, σ)) args s 0 0 (Aw ad shM.length s.heap.size)) 4 D vcl ca ad shM (Aw ad shM.length s.heap.size) res
def f_X7_against (x1 : Int) (x2 : Int) (x3 : Int) (σ : Mm) : Option (Int) :=
  (if 0 ≤ x1 then (f_X7_isRowNow x1 σ).bind (fun r2 => (if r2 = x2 then (if x2 = 0 then some 0 else ck ((0 : Int) ≤ x1 ∧ x1 < ((300 : Nat) : Int)) (ck ((0 : Int) ≤ (σ.1 21 (Int.toNat x1)) ∧ (σ.1 21 (Int.toNat x1)) < ((90 : Nat) : Int)) ((if x3 < (σ.1 11 (Int.toNat (σ.1 21 (Int.toNat x1)))) then some 0 else some 3)))) else some 2)) else some 1)
theorem hd_X7_against : yX7_against.cls = RX7 ∧ yX7_against.cls ≠ "java/lang/invoke/MethodHandle" ∧ yX7_against.cls ≠ "java/lang/invoke/VarHandle" ∧ (parseMethodDescriptor yX7_against.desc).map (fun d => d.parameters.length) = some 3 := by decide +kernel
set_option maxRecDepth 100000 in
set_option maxHeartbeats 4000000 in
theorem c_X7_against {l : Launch} {D : va_G} {ca : Nat → ClassId} {ad : Nat → Nat} {x1 : Int} {x2 : Int} {x3 : Int} (hx1 : inR x1) (hx2 : x2 = 0 ∨ x2 = 1) (hx3 : inR x3) {σ : Mm} : CtI l D vcl ca ad shM NM yX7_against (Cond.code yX7_against cX7_against 4 (some .int) :: tbG) { frames := 1, cells := 0, slots := 0, locals := 21 } [.ref (ad 0), .int (oi x1), .int (oi x2), .int (oi x3)] σ ((f_X7_against x1 x2 x3 σ).map (fun r => (r, σ))) := by
  refine ct_Ip RX7 rfl (by decide) rfl (Nat.le_of_ble_eq_true rfl) (fun p e s m below meth c res X hN hr hlk => ?_)
  show GX7_against p l e s m _ below meth c D ca ad σ res 0 [(0, .ref (ad 0)), (1, .int (oi x1)), (2, .int (oi x2)), (3, .int (oi x3))] [] σ (f_X7_against x1 x2 x3 σ)
  unfold f_X7_against
  refine q_iload_n X dX7_against_0 1 rfl ?_
  refine q_if_ge X hx1 6 dX7_against_1 (by decide) (fun h1 => ?_) (fun h1 => ?_)
  · refine q_aload_n X dX7_against_6 0 rfl ?_
    refine q_iload_n X dX7_against_7 1 rfl ?_
    refine q_callIp X NMok hN Aw_new (c_X7_isRowNow hx1) (rn_V X (cwV 1 X.2.2.2.2.1 (tbG_good _ (tbG_V mw_1188 mw_1190 mp_6_3 mw_9 mw_1191)) rfl rfl rfl hd_X7_isRowNow ⟨by decide, by decide⟩) hM0 rfl rfl rfl (Nat.le_of_ble_eq_true rfl) dX7_against_8) (fun r2 _ h4 => ?_)
    refine q_iload_n X dX7_against_11 2 rfl ?_
    refine q_icmp_eq X h4 (inR_z hx2) 17 dX7_against_12 (by decide) (fun h5 => ?_) (fun h5 => ?_)
    · refine q_iload_n X dX7_against_17 2 rfl ?_
      refine q_if_eq X (inR_z hx2) 40 dX7_against_18 (by decide) (fun h6 => ?_) (fun h6 => ?_)
      · refine q_iconst X dX7_against_40 ?_
        exact q_iretp X (by decide) hr hlk dX7_against_41
      · refine q_iload_n X dX7_against_21 3 rfl ?_
        refine q_aload_n X dX7_against_22 0 rfl ?_
        refine fg_X7_44 X dX7_against_23 ?_
        refine q_aload_n X dX7_against_26 0 rfl ?_
        refine fg_X7_75 X dX7_against_27 ?_
        refine q_iload_n X dX7_against_30 1 rfl ?_
        refine q_iald X hM21 (by decide) dX7_against_31 (fun h7 => ?_)
        refine q_iald X hM11 (by decide) dX7_against_32 (fun h8 => ?_)
        refine q_icmp_lt X hx3 h8 40 dX7_against_33 (by decide) (fun h9 => ?_) (fun h9 => ?_)
        · refine q_iconst X dX7_against_40 ?_
          exact q_iretp X (by decide) hr hlk dX7_against_41
        · refine q_iconst X dX7_against_36 ?_
          refine q_goto X 41 dX7_against_37 (by decide) ?_
          exact q_iretp X (by decide) hr hlk dX7_against_41
    · refine q_iconst X dX7_against_15 ?_
      exact q_iretp X (by decide) hr hlk dX7_against_16
  · refine q_iconst X dX7_against_4 ?_
    exact q_iretp X (by decide) hr hlk dX7_against_5

/-! SiteObjectsModel.reads(IZ)V -/
abbrev GX7_reads (p : Program) (l : Launch) (e : Env) (s : State) (m : MethodId) (args : Array Value) (below : List Frame) (meth : Method) (c : Code) (D : va_G) (ca : Nat → ClassId) (ad : Nat → Nat) (res : Mm) : Nat → List (Nat × Value) → List Value → Mm → Option (Mm) → Prop := G p l e { frames := 2, cells := 0, slots := 0, locals := 45 } s m args below meth c (MQ below (QcV D vcl ca ad shM s.heap.size res) args s 0 0 (Aw ad shM.length s.heap.size)) 5 D vcl ca ad shM (Aw ad shM.length s.heap.size) res
def f_X7_reads (x1 : Int) (x2 : Int) (σ : Mm) : Option (Mm) :=
  ck ((0 : Int) ≤ x1 ∧ x1 < ((90 : Nat) : Int)) ((f_X7_var (σ.1 10 (Int.toNat x1)) σ).bind (fun r2 => ck ((0 : Int) ≤ x1 ∧ x1 < ((90 : Nat) : Int)) ((f_X7_against r2 x2 (σ.1 11 (Int.toNat x1)) σ).bind (fun r6 => (if r6 ≤ 0 then ck ((0 : Int) ≤ x1 ∧ x1 < ((90 : Nat) : Int)) (ck ((0 : Int) ≤ x1 ∧ x1 < ((90 : Nat) : Int)) (ck ((0 : Int) ≤ ((5 * r2) + (σ.1 11 (Int.toNat x1))) ∧ ((5 * r2) + (σ.1 11 (Int.toNat x1))) < ((1500 : Nat) : Int)) ((f_X7_becomes (σ.1 9 (Int.toNat x1)) (σ.1 24 (Int.toNat ((5 * r2) + (σ.1 11 (Int.toNat x1))))) σ).bind (fun r13 => some r13)))) else (f_X7_fails r6 x1 σ).bind (fun r16 => some r16))))))
theorem hd_X7_reads : yX7_reads.cls = RX7 ∧ yX7_reads.cls ≠ "java/lang/invoke/MethodHandle" ∧ yX7_reads.cls ≠ "java/lang/invoke/VarHandle" ∧ (parseMethodDescriptor yX7_reads.desc).map (fun d => d.parameters.length) = some 2 := by decide +kernel
set_option maxRecDepth 100000 in
set_option maxHeartbeats 4000000 in
theorem c_X7_reads {l : Launch} {D : va_G} {ca : Nat → ClassId} {ad : Nat → Nat} {x1 : Int} {x2 : Int} (hx1 : inR x1) (hx2 : x2 = 0 ∨ x2 = 1) {σ : Mm} : CtV l D vcl ca ad shM NM yX7_reads (Cond.code yX7_reads cX7_reads 5 none :: tbG) { frames := 2, cells := 0, slots := 0, locals := 45 } [.ref (ad 0), .int (oi x1), .int (oi x2)] σ (f_X7_reads x1 x2 σ) := by
  refine ct_V RX7 rfl (by decide) rfl (Nat.le_of_ble_eq_true rfl) (fun p e s m below meth c res X hN hr hlk => ?_)
  show GX7_reads p l e s m _ below meth c D ca ad res 0 [(0, .ref (ad 0)), (1, .int (oi x1)), (2, .int (oi x2))] [] σ (f_X7_reads x1 x2 σ)
  unfold f_X7_reads
  refine q_aload_n X dX7_reads_0 0 rfl ?_
  refine q_aload_n X dX7_reads_1 0 rfl ?_
  refine fg_X7_41 X dX7_reads_2 ?_
  refine q_iload_n X dX7_reads_5 1 rfl ?_
  refine q_iald X hM10 (by decide) dX7_reads_6 (fun h1 => ?_)
  refine q_callIp X NMok hN Aw_new (c_X7_var h1) (rn_V X (cwV 1 X.2.2.2.2.1 (tbG_good _ (tbG_V mw_1176 mw_1178 mp_6_0 mw_9 mw_1179)) rfl rfl rfl hd_X7_var ⟨by decide, by decide⟩) hM0 rfl rfl rfl (Nat.le_of_ble_eq_true rfl) dX7_reads_7) (fun r2 _ h4 => ?_)
  refine q_istore_n X [(3, .int (oi r2)), (0, .ref (ad 0)), (1, .int (oi x1)), (2, .int (oi x2))] dX7_reads_10 (by decide) rfl ?_
  refine q_aload_n X dX7_reads_11 1 rfl ?_
  refine q_iload_n X dX7_reads_12 0 rfl ?_
  refine q_iload_n X dX7_reads_13 3 rfl ?_
  refine q_aload_n X dX7_reads_14 1 rfl ?_
  refine fg_X7_44 X dX7_reads_15 ?_
  refine q_iload_n X dX7_reads_18 2 rfl ?_
  refine q_iald X hM11 (by decide) dX7_reads_19 (fun h5 => ?_)
  refine q_callIp X NMok hN Aw_new (c_X7_against h4 hx2 h5) (rn_V X (cwV 3 X.2.2.2.2.1 (tbG_good _ (tbG_V mw_1184 mw_1186 mp_6_2 mw_9 mw_1187)) rfl rfl rfl hd_X7_against ⟨by decide, by decide⟩) hM0 rfl rfl rfl (Nat.le_of_ble_eq_true rfl) dX7_reads_20) (fun r6 _ h8 => ?_)
  refine q_istore X [(4, .int (oi r6)), (3, .int (oi r2)), (0, .ref (ad 0)), (1, .int (oi x1)), (2, .int (oi x2))] dX7_reads_23 (by decide) rfl ?_
  refine q_iload X dX7_reads_25 0 rfl ?_
  refine q_if_le X h8 40 dX7_reads_27 (by decide) (fun h9 => ?_) (fun h9 => ?_)
  · refine q_aload_n X dX7_reads_40 2 rfl ?_
    refine q_aload_n X dX7_reads_41 2 rfl ?_
    refine fg_X7_38 X dX7_reads_42 ?_
    refine q_iload_n X dX7_reads_45 3 rfl ?_
    refine q_iald X hM9 (by decide) dX7_reads_46 (fun h10 => ?_)
    refine q_aload_n X dX7_reads_47 2 rfl ?_
    refine fg_X7_84 X dX7_reads_48 ?_
    refine q_iconst X dX7_reads_51 ?_
    refine q_iload_n X dX7_reads_52 1 rfl ?_
    refine q_imul X dX7_reads_53 ?_
    refine q_aload_n X dX7_reads_54 2 rfl ?_
    refine fg_X7_44 X dX7_reads_55 ?_
    refine q_iload_n X dX7_reads_58 3 rfl ?_
    refine q_iald X hM11 (by decide) dX7_reads_59 (fun h11 => ?_)
    refine q_iadd X dX7_reads_60 ?_
    refine q_iald X hM24 (by decide) dX7_reads_61 (fun h12 => ?_)
    refine q_callV X NMok hN Aw_new (c_X7_becomes h10 h12) (rn_V X (cwV 2 X.2.2.2.2.1 (tbG_good _ (tbG_V mw_1156 mw_1158 mp_5_11 mw_9 mw_1159)) rfl rfl rfl hd_X7_becomes ⟨by decide, by decide⟩) hM0 rfl rfl rfl (Nat.le_of_ble_eq_true rfl) dX7_reads_62) (fun r13 _ => ?_)
    exact q_vret X hr hlk dX7_reads_65
  · refine q_aload_n X dX7_reads_30 2 rfl ?_
    refine q_iload X dX7_reads_31 0 rfl ?_
    refine q_iload_n X dX7_reads_33 3 rfl ?_
    refine q_callV X NMok hN Aw_new (c_X7_fails h8 hx1) (rn_V X (cwV 2 X.2.2.2.2.1 (tbG_good _ (tbG_V mw_1164 mw_1166 mp_5_13 mw_9 mw_1167)) rfl rfl rfl hd_X7_fails ⟨by decide, by decide⟩) hM0 rfl rfl rfl (Nat.le_of_ble_eq_true rfl) dX7_reads_34) (fun r16 _ => ?_)
    refine q_goto X 65 dX7_reads_37 (by decide) ?_
    exact q_vret X hr hlk dX7_reads_65

/-! SiteObjectsModel.writes(IZ)V -/
abbrev GX7_writes (p : Program) (l : Launch) (e : Env) (s : State) (m : MethodId) (args : Array Value) (below : List Frame) (meth : Method) (c : Code) (D : va_G) (ca : Nat → ClassId) (ad : Nat → Nat) (res : Mm) : Nat → List (Nat × Value) → List Value → Mm → Option (Mm) → Prop := G p l e { frames := 2, cells := 0, slots := 0, locals := 45 } s m args below meth c (MQ below (QcV D vcl ca ad shM s.heap.size res) args s 0 0 (Aw ad shM.length s.heap.size)) 7 D vcl ca ad shM (Aw ad shM.length s.heap.size) res
def f_X7_writes_74 (x1 : Int) (x2 : Int) (x3 : Int) (x4 : Int) (x5 : Int) (σ : Mm) : Option (Mm) :=
  (if x5 ≤ 0 then ck ((0 : Int) ≤ x1 ∧ x1 < ((90 : Nat) : Int)) (ck ((0 : Int) ≤ ((5 * x3) + (σ.1 11 (Int.toNat x1))) ∧ ((5 * x3) + (σ.1 11 (Int.toNat x1))) < ((1500 : Nat) : Int)) ((some (stI σ 24 (Int.toNat ((5 * x3) + (σ.1 11 (Int.toNat x1)))) x4)).bind (fun σ3 => ck ((0 : Int) ≤ x3 ∧ x3 < ((300 : Nat) : Int)) ((if (σ3.1 0 29) ≤ (σ3.1 22 (Int.toNat x3)) then (f_X7_counts x4 0 σ3).bind (fun r7 => some r7) else (if x2 = 0 then ck ((0 : Int) ≤ x1 ∧ x1 < ((90 : Nat) : Int)) (ck ((0 : Int) ≤ ((5 * (σ3.1 22 (Int.toNat x3))) + (σ3.1 11 (Int.toNat x1))) ∧ ((5 * (σ3.1 22 (Int.toNat x3))) + (σ3.1 11 (Int.toNat x1))) < ((300 : Nat) : Int)) ((f_X7_counts x4 (σ3.2 19 (Int.toNat ((5 * (σ3.1 22 (Int.toNat x3))) + (σ3.1 11 (Int.toNat x1))))) σ3).bind (fun r12 => some r12))) else ck ((0 : Int) ≤ ((5 * (σ3.1 22 (Int.toNat x3))) + 4) ∧ ((5 * (σ3.1 22 (Int.toNat x3))) + 4) < ((300 : Nat) : Int)) ((f_X7_counts x4 (σ3.2 19 (Int.toNat ((5 * (σ3.1 22 (Int.toNat x3))) + 4))) σ3).bind (fun r15 => some r15)))))))) else (f_X7_fails x5 x1 σ).bind (fun r18 => some r18))
set_option maxRecDepth 100000 in
set_option maxHeartbeats 4000000 in
theorem t_X7_writes_74 {p : Program} {l : Launch} {e : Env} {s : State} {m : MethodId} {args : Array Value} {below : List Frame} {meth : Method} {c : Code} {D : va_G} {ca : Nat → ClassId} {ad : Nat → Nat} {res : Mm} (X : Cx p s m args c cX7_writes 7 RX7 (Cond.code yX7_writes cX7_writes 7 none :: tbG) D vcl ca) (hN : NM s) (hr : meth.sig.returnType = none) (hlk : meth.locks = false) : ∀ (x1 : Int) (x2 : Int) (x3 : Int) (x4 : Int) (x5 : Int) (σ : Mm), inR x1 → inR x2 → inR x3 → inR x4 → inR x5 → GX7_writes p l e s m args below meth c D ca ad res 74 [(0, .ref (ad 0)), (1, .int (oi x1)), (2, .int (oi x2)), (3, .int (oi x3)), (4, .int (oi x4)), (5, .int (oi x5))] [] σ (f_X7_writes_74 x1 x2 x3 x4 x5 σ) := by
  intro x1 x2 x3 x4 x5 σ hx1 hx2 hx3 hx4 hx5
  unfold f_X7_writes_74
  refine q_iload X dX7_writes_74 5 rfl ?_
  refine q_if_le X hx5 87 dX7_writes_76 (by decide) (fun h1 => ?_) (fun h1 => ?_)
  · refine q_aload_n X dX7_writes_87 0 rfl ?_
    refine fg_X7_84 X dX7_writes_88 ?_
    refine q_iconst X dX7_writes_91 ?_
    refine q_iload_n X dX7_writes_92 3 rfl ?_
    refine q_imul X dX7_writes_93 ?_
    refine q_aload_n X dX7_writes_94 0 rfl ?_
    refine fg_X7_44 X dX7_writes_95 ?_
    refine q_iload_n X dX7_writes_98 1 rfl ?_
    refine q_iald X hM11 (by decide) dX7_writes_99 (fun h2 => ?_)
    refine q_iadd X dX7_writes_100 ?_
    refine q_iload X dX7_writes_101 4 rfl ?_
    refine q_iast X hM24 (by decide) hx4 dX7_writes_103 ?_
    refine q_nm (fun σ3 => ?_)
    refine q_aload_n X dX7_writes_104 0 rfl ?_
    refine fg_X7_78 X dX7_writes_105 ?_
    refine q_iload_n X dX7_writes_108 3 rfl ?_
    refine q_iald X hM22 (by decide) dX7_writes_109 (fun h4 => ?_)
    refine q_istore X [(6, .int (oi (σ3.1 22 (Int.toNat x3)))), (0, .ref (ad 0)), (1, .int (oi x1)), (2, .int (oi x2)), (3, .int (oi x3)), (4, .int (oi x4)), (5, .int (oi x5))] dX7_writes_110 (by decide) rfl ?_
    refine q_aload_n X dX7_writes_112 1 rfl ?_
    refine q_iload X dX7_writes_113 5 rfl ?_
    refine q_iload X dX7_writes_115 0 rfl ?_
    refine q_aload_n X dX7_writes_117 1 rfl ?_
    refine fg_X7_167 X dX7_writes_118 (fun h5 => ?_)
    refine q_icmp_ge X h4 h5 151 dX7_writes_121 (by decide) (fun h6 => ?_) (fun h6 => ?_)
    · refine q_lconst X 0 dX7_writes_151 rfl ?_
      refine q_callV X NMok hN Aw_new (c_X7_counts hx4) (rn_V X (cwV 2 X.2.2.2.2.1 (tbG_good _ (tbG_V mw_1160 mw_1162 mp_5_12 mw_9 mw_1163)) rfl rfl rfl hd_X7_counts ⟨by decide, by decide⟩) hM0 rfl rfl rfl (Nat.le_of_ble_eq_true rfl) dX7_writes_152) (fun r7 _ => ?_)
      exact q_vret X hr hlk dX7_writes_155
    · refine q_aload_n X dX7_writes_124 1 rfl ?_
      refine fg_X7_69 X dX7_writes_125 ?_
      refine q_iconst X dX7_writes_128 ?_
      refine q_iload X dX7_writes_129 0 rfl ?_
      refine q_imul X dX7_writes_131 ?_
      refine q_iload_n X dX7_writes_132 3 rfl ?_
      refine q_if_eq X hx2 140 dX7_writes_133 (by decide) (fun h10 => ?_) (fun h10 => ?_)
      · refine q_aload_n X dX7_writes_140 1 rfl ?_
        refine fg_X7_44 X dX7_writes_141 ?_
        refine q_iload_n X dX7_writes_144 2 rfl ?_
        refine q_iald X hM11 (by decide) dX7_writes_145 (fun h11 => ?_)
        refine q_iadd X dX7_writes_146 ?_
        refine q_lald X hM19 (by decide) dX7_writes_147 ?_
        refine q_goto X 152 dX7_writes_148 (by decide) ?_
        refine q_callV X NMok hN Aw_new (c_X7_counts hx4) (rn_V X (cwV 2 X.2.2.2.2.1 (tbG_good _ (tbG_V mw_1160 mw_1162 mp_5_12 mw_9 mw_1163)) rfl rfl rfl hd_X7_counts ⟨by decide, by decide⟩) hM0 rfl rfl rfl (Nat.le_of_ble_eq_true rfl) dX7_writes_152) (fun r12 _ => ?_)
        exact q_vret X hr hlk dX7_writes_155
      · refine q_iconst X dX7_writes_136 ?_
        refine q_goto X 146 dX7_writes_137 (by decide) ?_
        refine q_iadd X dX7_writes_146 ?_
        refine q_lald X hM19 (by decide) dX7_writes_147 ?_
        refine q_goto X 152 dX7_writes_148 (by decide) ?_
        refine q_callV X NMok hN Aw_new (c_X7_counts hx4) (rn_V X (cwV 2 X.2.2.2.2.1 (tbG_good _ (tbG_V mw_1160 mw_1162 mp_5_12 mw_9 mw_1163)) rfl rfl rfl hd_X7_counts ⟨by decide, by decide⟩) hM0 rfl rfl rfl (Nat.le_of_ble_eq_true rfl) dX7_writes_152) (fun r15 _ => ?_)
        exact q_vret X hr hlk dX7_writes_155
  · refine q_aload_n X dX7_writes_79 0 rfl ?_
    refine q_iload X dX7_writes_80 5 rfl ?_
    refine q_iload_n X dX7_writes_82 1 rfl ?_
    refine q_callV X NMok hN Aw_new (c_X7_fails hx5 hx1) (rn_V X (cwV 2 X.2.2.2.2.1 (tbG_good _ (tbG_V mw_1164 mw_1166 mp_5_13 mw_9 mw_1167)) rfl rfl rfl hd_X7_fails ⟨by decide, by decide⟩) hM0 rfl rfl rfl (Nat.le_of_ble_eq_true rfl) dX7_writes_83) (fun r18 _ => ?_)
    exact q_vret X hr hlk dX7_writes_86
def f_X7_writes (x1 : Int) (x2 : Int) (σ : Mm) : Option (Mm) :=
  ck ((0 : Int) ≤ x1 ∧ x1 < ((90 : Nat) : Int)) ((f_X7_var (σ.1 9 (Int.toNat x1)) σ).bind (fun r22 => ck ((0 : Int) ≤ x1 ∧ x1 < ((90 : Nat) : Int)) ((f_X7_var (σ.1 10 (Int.toNat x1)) σ).bind (fun r26 => ck ((0 : Int) ≤ x1 ∧ x1 < ((90 : Nat) : Int)) ((f_X7_against r22 x2 (σ.1 11 (Int.toNat x1)) σ).bind (fun r30 => (if r30 = 0 then (if x2 = 0 then f_X7_writes_74 x1 x2 r22 r26 r30 σ else (if r26 < 0 then f_X7_writes_74 x1 x2 r22 r26 r30 σ else ck ((0 : Int) ≤ r22 ∧ r22 < ((300 : Nat) : Int)) (ck ((0 : Int) ≤ (σ.1 21 (Int.toNat r22)) ∧ (σ.1 21 (Int.toNat r22)) < ((90 : Nat) : Int)) ((f_X7_isObjectBelow r26 (σ.1 10 (Int.toNat (σ.1 21 (Int.toNat r22)))) σ).bind (fun r38 => (if r38 = 0 then f_X7_writes_74 x1 x2 r22 r26 4 σ else f_X7_writes_74 x1 x2 r22 r26 r30 σ)))))) else f_X7_writes_74 x1 x2 r22 r26 r30 σ)))))))
theorem hd_X7_writes : yX7_writes.cls = RX7 ∧ yX7_writes.cls ≠ "java/lang/invoke/MethodHandle" ∧ yX7_writes.cls ≠ "java/lang/invoke/VarHandle" ∧ (parseMethodDescriptor yX7_writes.desc).map (fun d => d.parameters.length) = some 2 := by decide +kernel
set_option maxRecDepth 100000 in
set_option maxHeartbeats 4000000 in
theorem c_X7_writes {l : Launch} {D : va_G} {ca : Nat → ClassId} {ad : Nat → Nat} {x1 : Int} {x2 : Int} (hx1 : inR x1) (hx2 : x2 = 0 ∨ x2 = 1) {σ : Mm} : CtV l D vcl ca ad shM NM yX7_writes (Cond.code yX7_writes cX7_writes 7 none :: tbG) { frames := 2, cells := 0, slots := 0, locals := 45 } [.ref (ad 0), .int (oi x1), .int (oi x2)] σ (f_X7_writes x1 x2 σ) := by
  refine ct_V RX7 rfl (by decide) rfl (Nat.le_of_ble_eq_true rfl) (fun p e s m below meth c res X hN hr hlk => ?_)
  show GX7_writes p l e s m _ below meth c D ca ad res 0 [(0, .ref (ad 0)), (1, .int (oi x1)), (2, .int (oi x2))] [] σ (f_X7_writes x1 x2 σ)
  unfold f_X7_writes
  refine q_aload_n X dX7_writes_0 0 rfl ?_
  refine q_aload_n X dX7_writes_1 0 rfl ?_
  refine fg_X7_38 X dX7_writes_2 ?_
  refine q_iload_n X dX7_writes_5 1 rfl ?_
  refine q_iald X hM9 (by decide) dX7_writes_6 (fun h21 => ?_)
  refine q_callIp X NMok hN Aw_new (c_X7_var h21) (rn_V X (cwV 1 X.2.2.2.2.1 (tbG_good _ (tbG_V mw_1176 mw_1178 mp_6_0 mw_9 mw_1179)) rfl rfl rfl hd_X7_var ⟨by decide, by decide⟩) hM0 rfl rfl rfl (Nat.le_of_ble_eq_true rfl) dX7_writes_7) (fun r22 _ h24 => ?_)
  refine q_istore_n X [(3, .int (oi r22)), (0, .ref (ad 0)), (1, .int (oi x1)), (2, .int (oi x2))] dX7_writes_10 (by decide) rfl ?_
  refine q_aload_n X dX7_writes_11 1 rfl ?_
  refine q_aload_n X dX7_writes_12 1 rfl ?_
  refine fg_X7_41 X dX7_writes_13 ?_
  refine q_iload_n X dX7_writes_16 2 rfl ?_
  refine q_iald X hM10 (by decide) dX7_writes_17 (fun h25 => ?_)
  refine q_callIp X NMok hN Aw_new (c_X7_var h25) (rn_V X (cwV 1 X.2.2.2.2.1 (tbG_good _ (tbG_V mw_1176 mw_1178 mp_6_0 mw_9 mw_1179)) rfl rfl rfl hd_X7_var ⟨by decide, by decide⟩) hM0 rfl rfl rfl (Nat.le_of_ble_eq_true rfl) dX7_writes_18) (fun r26 _ h28 => ?_)
  refine q_istore X [(4, .int (oi r26)), (3, .int (oi r22)), (0, .ref (ad 0)), (1, .int (oi x1)), (2, .int (oi x2))] dX7_writes_21 (by decide) rfl ?_
  refine q_aload_n X dX7_writes_23 2 rfl ?_
  refine q_iload_n X dX7_writes_24 1 rfl ?_
  refine q_iload_n X dX7_writes_25 4 rfl ?_
  refine q_aload_n X dX7_writes_26 2 rfl ?_
  refine fg_X7_44 X dX7_writes_27 ?_
  refine q_iload_n X dX7_writes_30 3 rfl ?_
  refine q_iald X hM11 (by decide) dX7_writes_31 (fun h29 => ?_)
  refine q_callIp X NMok hN Aw_new (c_X7_against h24 hx2 h29) (rn_V X (cwV 3 X.2.2.2.2.1 (tbG_good _ (tbG_V mw_1184 mw_1186 mp_6_2 mw_9 mw_1187)) rfl rfl rfl hd_X7_against ⟨by decide, by decide⟩) hM0 rfl rfl rfl (Nat.le_of_ble_eq_true rfl) dX7_writes_32) (fun r30 _ h32 => ?_)
  refine q_istore X [(5, .int (oi r30)), (4, .int (oi r26)), (3, .int (oi r22)), (0, .ref (ad 0)), (1, .int (oi x1)), (2, .int (oi x2))] dX7_writes_35 (by decide) rfl ?_
  refine q_iload X dX7_writes_37 0 rfl ?_
  refine q_if_ne X h32 74 dX7_writes_39 (by decide) (fun h33 => ?_) (fun h33 => ?_)
  · refine q_iload_n X dX7_writes_42 5 rfl ?_
    refine q_if_eq X (inR_z hx2) 74 dX7_writes_43 (by decide) (fun h34 => ?_) (fun h34 => ?_)
    · refine q_sub [(0, .ref (ad 0)), (1, .int (oi x1)), (2, .int (oi x2)), (3, .int (oi r22)), (4, .int (oi r26)), (5, .int (oi r30))] [3, 4, 5, 2, 1, 0] rfl ?_
      exact t_X7_writes_74 X hN hr hlk x1 x2 r22 r26 r30 σ hx1 (inR_z hx2) h24 h28 h32
    · refine q_iload X dX7_writes_46 1 rfl ?_
      refine q_if_lt X h28 74 dX7_writes_48 (by decide) (fun h35 => ?_) (fun h35 => ?_)
      · refine q_sub [(0, .ref (ad 0)), (1, .int (oi x1)), (2, .int (oi x2)), (3, .int (oi r22)), (4, .int (oi r26)), (5, .int (oi r30))] [3, 4, 5, 2, 1, 0] rfl ?_
        exact t_X7_writes_74 X hN hr hlk x1 x2 r22 r26 r30 σ hx1 (inR_z hx2) h24 h28 h32
      · refine q_aload_n X dX7_writes_51 3 rfl ?_
        refine q_iload X dX7_writes_52 1 rfl ?_
        refine q_aload_n X dX7_writes_54 3 rfl ?_
        refine fg_X7_41 X dX7_writes_55 ?_
        refine q_aload_n X dX7_writes_58 3 rfl ?_
        refine fg_X7_75 X dX7_writes_59 ?_
        refine q_iload_n X dX7_writes_62 2 rfl ?_
        refine q_iald X hM21 (by decide) dX7_writes_63 (fun h36 => ?_)
        refine q_iald X hM10 (by decide) dX7_writes_64 (fun h37 => ?_)
        refine q_callIp X NMok hN Aw_new (c_X7_isObjectBelow h28 h37) (rn_V X (cwV 2 X.2.2.2.2.1 (tbG_good _ (tbG_V mw_1196 mw_1198 mp_6_5 mw_9 mw_1199)) rfl rfl rfl hd_X7_isObjectBelow ⟨by decide, by decide⟩) hM0 rfl rfl rfl (Nat.le_of_ble_eq_true rfl) dX7_writes_65) (fun r38 _ h40 => ?_)
        refine q_if_ne X h40 74 dX7_writes_68 (by decide) (fun h41 => ?_) (fun h41 => ?_)
        · refine q_iconst X dX7_writes_71 ?_
          refine q_istore X [(5, .int (oi 4)), (4, .int (oi r26)), (3, .int (oi r22)), (0, .ref (ad 0)), (1, .int (oi x1)), (2, .int (oi x2))] dX7_writes_72 (by decide) rfl ?_
          refine q_sub [(0, .ref (ad 0)), (1, .int (oi x1)), (2, .int (oi x2)), (3, .int (oi r22)), (4, .int (oi r26)), (5, .int (oi 4))] [3, 4, 5, 2, 1, 0] rfl ?_
          exact t_X7_writes_74 X hN hr hlk x1 x2 r22 r26 4 σ hx1 (inR_z hx2) h24 h28 (by decide)
        · refine q_sub [(0, .ref (ad 0)), (1, .int (oi x1)), (2, .int (oi x2)), (3, .int (oi r22)), (4, .int (oi r26)), (5, .int (oi r30))] [3, 4, 5, 2, 1, 0] rfl ?_
          exact t_X7_writes_74 X hN hr hlk x1 x2 r22 r26 r30 σ hx1 (inR_z hx2) h24 h28 h32
  · refine q_sub [(0, .ref (ad 0)), (1, .int (oi x1)), (2, .int (oi x2)), (3, .int (oi r22)), (4, .int (oi r26)), (5, .int (oi r30))] [3, 4, 5, 2, 1, 0] rfl ?_
    exact t_X7_writes_74 X hN hr hlk x1 x2 r22 r26 r30 σ hx1 (inR_z hx2) h24 h28 h32

/-! SiteObjectsModel.asks(I)V -/
abbrev GX7_asks (p : Program) (l : Launch) (e : Env) (s : State) (m : MethodId) (args : Array Value) (below : List Frame) (meth : Method) (c : Code) (D : va_G) (ca : Nat → ClassId) (ad : Nat → Nat) (res : Mm) : Nat → List (Nat × Value) → List Value → Mm → Option (Mm) → Prop := G p l e { frames := 2, cells := 0, slots := 0, locals := 45 } s m args below meth c (MQ below (QcV D vcl ca ad shM s.heap.size res) args s 0 0 (Aw ad shM.length s.heap.size)) 5 D vcl ca ad shM (Aw ad shM.length s.heap.size) res
def f_X7_asks (x1 : Int) (σ : Mm) : Option (Mm) :=
  ck ((0 : Int) ≤ x1 ∧ x1 < ((90 : Nat) : Int)) ((f_X7_var (σ.1 10 (Int.toNat x1)) σ).bind (fun r2 => ck ((0 : Int) ≤ x1 ∧ x1 < ((90 : Nat) : Int)) ((f_X7_var (σ.1 12 (Int.toNat x1)) σ).bind (fun r6 => (if 0 ≤ r2 then ck ((0 : Int) ≤ r2 ∧ r2 < ((300 : Nat) : Int)) (ck ((0 : Int) ≤ x1 ∧ x1 < ((90 : Nat) : Int)) ((f_X7_methodFor (σ.1 29 (Int.toNat r2)) (σ.1 11 (Int.toNat x1)) σ).bind (fun r12 => (if 0 ≤ r12 then ck ((0 : Int) ≤ ((σ.1 0 52) - 1) ∧ ((σ.1 0 52) - 1) < ((25 : Nat) : Int)) (ck ((0 : Int) ≤ r2 ∧ r2 < ((300 : Nat) : Int)) ((f_X7_context (σ.1 26 (Int.toNat ((σ.1 0 52) - 1))) x1 (σ.1 22 (Int.toNat r2)) σ).bind (fun r19 => (f_X7_nodeOf r12 r19).bind (fun r22 => (f_X7_begins r22 r19).bind (fun r25 => (if r25.1 = 0 then (f_X7_fails 8 x1 r25.2).bind (fun r29 => some r29) else (f_X7_becomes 0 r2 r25.2).bind (fun r32 => (f_X7_becomes 1 r6 r32).bind (fun r35 => some r35)))))))) else (f_X7_fails 6 x1 σ).bind (fun r38 => some r38))))) else (f_X7_fails 1 x1 σ).bind (fun r41 => some r41))))))
theorem hd_X7_asks : yX7_asks.cls = RX7 ∧ yX7_asks.cls ≠ "java/lang/invoke/MethodHandle" ∧ yX7_asks.cls ≠ "java/lang/invoke/VarHandle" ∧ (parseMethodDescriptor yX7_asks.desc).map (fun d => d.parameters.length) = some 1 := by decide +kernel
set_option maxRecDepth 100000 in
set_option maxHeartbeats 4000000 in
theorem c_X7_asks {l : Launch} {D : va_G} {ca : Nat → ClassId} {ad : Nat → Nat} {x1 : Int} (hx1 : inR x1) {σ : Mm} : CtV l D vcl ca ad shM NM yX7_asks (Cond.code yX7_asks cX7_asks 5 none :: tbG) { frames := 2, cells := 0, slots := 0, locals := 45 } [.ref (ad 0), .int (oi x1)] σ (f_X7_asks x1 σ) := by
  refine ct_V RX7 rfl (by decide) rfl (Nat.le_of_ble_eq_true rfl) (fun p e s m below meth c res X hN hr hlk => ?_)
  show GX7_asks p l e s m _ below meth c D ca ad res 0 [(0, .ref (ad 0)), (1, .int (oi x1))] [] σ (f_X7_asks x1 σ)
  unfold f_X7_asks
  refine q_aload_n X dX7_asks_0 0 rfl ?_
  refine q_aload_n X dX7_asks_1 0 rfl ?_
  refine fg_X7_41 X dX7_asks_2 ?_
  refine q_iload_n X dX7_asks_5 1 rfl ?_
  refine q_iald X hM10 (by decide) dX7_asks_6 (fun h1 => ?_)
  refine q_callIp X NMok hN Aw_new (c_X7_var h1) (rn_V X (cwV 1 X.2.2.2.2.1 (tbG_good _ (tbG_V mw_1176 mw_1178 mp_6_0 mw_9 mw_1179)) rfl rfl rfl hd_X7_var ⟨by decide, by decide⟩) hM0 rfl rfl rfl (Nat.le_of_ble_eq_true rfl) dX7_asks_7) (fun r2 _ h4 => ?_)
  refine q_istore_n X [(2, .int (oi r2)), (0, .ref (ad 0)), (1, .int (oi x1))] dX7_asks_10 (by decide) rfl ?_
  refine q_aload_n X dX7_asks_11 1 rfl ?_
  refine q_aload_n X dX7_asks_12 1 rfl ?_
  refine fg_X7_47 X dX7_asks_13 ?_
  refine q_iload_n X dX7_asks_16 2 rfl ?_
  refine q_iald X hM12 (by decide) dX7_asks_17 (fun h5 => ?_)
  refine q_callIp X NMok hN Aw_new (c_X7_var h5) (rn_V X (cwV 1 X.2.2.2.2.1 (tbG_good _ (tbG_V mw_1176 mw_1178 mp_6_0 mw_9 mw_1179)) rfl rfl rfl hd_X7_var ⟨by decide, by decide⟩) hM0 rfl rfl rfl (Nat.le_of_ble_eq_true rfl) dX7_asks_18) (fun r6 _ h8 => ?_)
  refine q_istore_n X [(3, .int (oi r6)), (2, .int (oi r2)), (0, .ref (ad 0)), (1, .int (oi x1))] dX7_asks_21 (by decide) rfl ?_
  refine q_iload_n X dX7_asks_22 1 rfl ?_
  refine q_if_ge X h4 33 dX7_asks_23 (by decide) (fun h9 => ?_) (fun h9 => ?_)
  · refine q_aload_n X dX7_asks_33 2 rfl ?_
    refine q_aload_n X dX7_asks_34 2 rfl ?_
    refine fg_X7_99 X dX7_asks_35 ?_
    refine q_iload_n X dX7_asks_38 1 rfl ?_
    refine q_iald X hM29 (by decide) dX7_asks_39 (fun h10 => ?_)
    refine q_aload_n X dX7_asks_40 2 rfl ?_
    refine fg_X7_44 X dX7_asks_41 ?_
    refine q_iload_n X dX7_asks_44 3 rfl ?_
    refine q_iald X hM11 (by decide) dX7_asks_45 (fun h11 => ?_)
    refine q_callIp X NMok hN Aw_new (c_X7_methodFor h10 h11) (rn_V X (cwV 2 X.2.2.2.2.1 (tbG_good _ (tbG_V mw_1086 mw_1088 mp_5_1 mw_9 mw_1089)) rfl rfl rfl hd_X7_methodFor ⟨by decide, by decide⟩) hM0 rfl rfl rfl (Nat.le_of_ble_eq_true rfl) dX7_asks_46) (fun r12 _ h14 => ?_)
    refine q_istore X [(4, .int (oi r12)), (3, .int (oi r6)), (2, .int (oi r2)), (0, .ref (ad 0)), (1, .int (oi x1))] dX7_asks_49 (by decide) rfl ?_
    refine q_iload X dX7_asks_51 0 rfl ?_
    refine q_if_ge X h14 64 dX7_asks_53 (by decide) (fun h15 => ?_) (fun h15 => ?_)
    · refine q_aload_n X dX7_asks_64 3 rfl ?_
      refine q_aload_n X dX7_asks_65 3 rfl ?_
      refine fg_X7_90 X dX7_asks_66 ?_
      refine q_aload_n X dX7_asks_69 3 rfl ?_
      refine fg_X7_264 X dX7_asks_70 (fun h16 => ?_)
      refine q_iconst X dX7_asks_73 ?_
      refine q_isub X dX7_asks_74 ?_
      refine q_iald X hM26 (by decide) dX7_asks_75 (fun h17 => ?_)
      refine q_iload_n X dX7_asks_76 4 rfl ?_
      refine q_aload_n X dX7_asks_77 3 rfl ?_
      refine fg_X7_78 X dX7_asks_78 ?_
      refine q_iload_n X dX7_asks_81 2 rfl ?_
      refine q_iald X hM22 (by decide) dX7_asks_82 (fun h18 => ?_)
      refine q_callV X NMok hN Aw_new (c_X7_context h17 hx1 h18) (rn_V X (cwV 3 X.2.2.2.2.1 (tbG_good _ (tbG_V mw_1090 mw_1092 mp_5_2 mw_9 mw_1093)) rfl rfl rfl hd_X7_context ⟨by decide, by decide⟩) hM0 rfl rfl rfl (Nat.le_of_ble_eq_true rfl) dX7_asks_83) (fun r19 _ => ?_)
      refine q_aload_n X dX7_asks_86 3 rfl ?_
      refine q_aload_n X dX7_asks_87 3 rfl ?_
      refine q_iload X dX7_asks_88 0 rfl ?_
      refine q_callIp X NMok hN Aw_new (c_X7_nodeOf h14) (rn_V X (cwV 1 X.2.2.2.2.1 (tbG_good _ (tbG_V mw_1046 mw_1048 mp_4_7 mw_9 mw_1049)) rfl rfl rfl hd_X7_nodeOf ⟨by decide, by decide⟩) hM0 rfl rfl rfl (Nat.le_of_ble_eq_true rfl) dX7_asks_90) (fun r22 _ h24 => ?_)
      refine q_callI X NMok hN Aw_new (c_X7_begins h24) (rn_V X (cwV 1 X.2.2.2.2.1 (tbG_good _ (tbG_V mw_1148 mw_1150 mp_5_9 mw_9 mw_1151)) rfl rfl rfl hd_X7_begins ⟨by decide, by decide⟩) hM0 rfl rfl rfl (Nat.le_of_ble_eq_true rfl) dX7_asks_93) (fun r25 _ h27 => ?_)
      refine q_if_ne X h27 107 dX7_asks_96 (by decide) (fun h28 => ?_) (fun h28 => ?_)
      · refine q_aload_n X dX7_asks_99 3 rfl ?_
        refine q_bipush X dX7_asks_100 (by decide) ?_
        refine q_iload_n X dX7_asks_102 4 rfl ?_
        refine q_callV X NMok hN Aw_new (c_X7_fails (by decide) hx1) (rn_V X (cwV 2 X.2.2.2.2.1 (tbG_good _ (tbG_V mw_1164 mw_1166 mp_5_13 mw_9 mw_1167)) rfl rfl rfl hd_X7_fails ⟨by decide, by decide⟩) hM0 rfl rfl rfl (Nat.le_of_ble_eq_true rfl) dX7_asks_103) (fun r29 _ => ?_)
        exact q_vret X hr hlk dX7_asks_106
      · refine q_aload_n X dX7_asks_107 3 rfl ?_
        refine q_iconst X dX7_asks_108 ?_
        refine q_iload_n X dX7_asks_109 2 rfl ?_
        refine q_callV X NMok hN Aw_new (c_X7_becomes (by decide) h4) (rn_V X (cwV 2 X.2.2.2.2.1 (tbG_good _ (tbG_V mw_1156 mw_1158 mp_5_11 mw_9 mw_1159)) rfl rfl rfl hd_X7_becomes ⟨by decide, by decide⟩) hM0 rfl rfl rfl (Nat.le_of_ble_eq_true rfl) dX7_asks_110) (fun r32 _ => ?_)
        refine q_aload_n X dX7_asks_113 3 rfl ?_
        refine q_iconst X dX7_asks_114 ?_
        refine q_iload_n X dX7_asks_115 1 rfl ?_
        refine q_callV X NMok hN Aw_new (c_X7_becomes (by decide) h8) (rn_V X (cwV 2 X.2.2.2.2.1 (tbG_good _ (tbG_V mw_1156 mw_1158 mp_5_11 mw_9 mw_1159)) rfl rfl rfl hd_X7_becomes ⟨by decide, by decide⟩) hM0 rfl rfl rfl (Nat.le_of_ble_eq_true rfl) dX7_asks_116) (fun r35 _ => ?_)
        exact q_vret X hr hlk dX7_asks_119
    · refine q_aload_n X dX7_asks_56 3 rfl ?_
      refine q_bipush X dX7_asks_57 (by decide) ?_
      refine q_iload_n X dX7_asks_59 4 rfl ?_
      refine q_callV X NMok hN Aw_new (c_X7_fails (by decide) hx1) (rn_V X (cwV 2 X.2.2.2.2.1 (tbG_good _ (tbG_V mw_1164 mw_1166 mp_5_13 mw_9 mw_1167)) rfl rfl rfl hd_X7_fails ⟨by decide, by decide⟩) hM0 rfl rfl rfl (Nat.le_of_ble_eq_true rfl) dX7_asks_60) (fun r38 _ => ?_)
      exact q_vret X hr hlk dX7_asks_63
  · refine q_aload_n X dX7_asks_26 2 rfl ?_
    refine q_iconst X dX7_asks_27 ?_
    refine q_iload_n X dX7_asks_28 3 rfl ?_
    refine q_callV X NMok hN Aw_new (c_X7_fails (by decide) hx1) (rn_V X (cwV 2 X.2.2.2.2.1 (tbG_good _ (tbG_V mw_1164 mw_1166 mp_5_13 mw_9 mw_1167)) rfl rfl rfl hd_X7_fails ⟨by decide, by decide⟩) hM0 rfl rfl rfl (Nat.le_of_ble_eq_true rfl) dX7_asks_29) (fun r41 _ => ?_)
    exact q_vret X hr hlk dX7_asks_32

/-! SiteObjectsModel.calls(I)V -/
abbrev GX7_calls (p : Program) (l : Launch) (e : Env) (s : State) (m : MethodId) (args : Array Value) (below : List Frame) (meth : Method) (c : Code) (D : va_G) (ca : Nat → ClassId) (ad : Nat → Nat) (res : Mm) : Nat → List (Nat × Value) → List Value → Mm → Option (Mm) → Prop := G p l e { frames := 2, cells := 0, slots := 0, locals := 45 } s m args below meth c (MQ below (QcV D vcl ca ad shM s.heap.size res) args s 0 0 (Aw ad shM.length s.heap.size)) 3 D vcl ca ad shM (Aw ad shM.length s.heap.size) res
def f_X7_calls (x1 : Int) (σ : Mm) : Option (Mm) :=
  ck ((0 : Int) ≤ x1 ∧ x1 < ((90 : Nat) : Int)) ((f_X7_var (σ.1 12 (Int.toNat x1)) σ).bind (fun r2 => ck ((0 : Int) ≤ ((σ.1 0 52) - 1) ∧ ((σ.1 0 52) - 1) < ((25 : Nat) : Int)) ((f_X7_context (σ.1 26 (Int.toNat ((σ.1 0 52) - 1))) x1 (-1) σ).bind (fun r7 => ck ((0 : Int) ≤ x1 ∧ x1 < ((90 : Nat) : Int)) ((f_X7_nodeOf (r7.1 11 (Int.toNat x1)) r7).bind (fun r11 => (f_X7_begins r11 r7).bind (fun r14 => (if r14.1 = 0 then (f_X7_fails 8 x1 r14.2).bind (fun r18 => some r18) else (f_X7_becomes 1 r2 r14.2).bind (fun r21 => some r21)))))))))
theorem hd_X7_calls : yX7_calls.cls = RX7 ∧ yX7_calls.cls ≠ "java/lang/invoke/MethodHandle" ∧ yX7_calls.cls ≠ "java/lang/invoke/VarHandle" ∧ (parseMethodDescriptor yX7_calls.desc).map (fun d => d.parameters.length) = some 1 := by decide +kernel
set_option maxRecDepth 100000 in
set_option maxHeartbeats 4000000 in
theorem c_X7_calls {l : Launch} {D : va_G} {ca : Nat → ClassId} {ad : Nat → Nat} {x1 : Int} (hx1 : inR x1) {σ : Mm} : CtV l D vcl ca ad shM NM yX7_calls (Cond.code yX7_calls cX7_calls 3 none :: tbG) { frames := 2, cells := 0, slots := 0, locals := 45 } [.ref (ad 0), .int (oi x1)] σ (f_X7_calls x1 σ) := by
  refine ct_V RX7 rfl (by decide) rfl (Nat.le_of_ble_eq_true rfl) (fun p e s m below meth c res X hN hr hlk => ?_)
  show GX7_calls p l e s m _ below meth c D ca ad res 0 [(0, .ref (ad 0)), (1, .int (oi x1))] [] σ (f_X7_calls x1 σ)
  unfold f_X7_calls
  refine q_aload_n X dX7_calls_0 0 rfl ?_
  refine q_aload_n X dX7_calls_1 0 rfl ?_
  refine fg_X7_47 X dX7_calls_2 ?_
  refine q_iload_n X dX7_calls_5 1 rfl ?_
  refine q_iald X hM12 (by decide) dX7_calls_6 (fun h1 => ?_)
  refine q_callIp X NMok hN Aw_new (c_X7_var h1) (rn_V X (cwV 1 X.2.2.2.2.1 (tbG_good _ (tbG_V mw_1176 mw_1178 mp_6_0 mw_9 mw_1179)) rfl rfl rfl hd_X7_var ⟨by decide, by decide⟩) hM0 rfl rfl rfl (Nat.le_of_ble_eq_true rfl) dX7_calls_7) (fun r2 _ h4 => ?_)
  refine q_istore_n X [(2, .int (oi r2)), (0, .ref (ad 0)), (1, .int (oi x1))] dX7_calls_10 (by decide) rfl ?_
  refine q_aload_n X dX7_calls_11 1 rfl ?_
  refine q_aload_n X dX7_calls_12 1 rfl ?_
  refine fg_X7_90 X dX7_calls_13 ?_
  refine q_aload_n X dX7_calls_16 1 rfl ?_
  refine fg_X7_264 X dX7_calls_17 (fun h5 => ?_)
  refine q_iconst X dX7_calls_20 ?_
  refine q_isub X dX7_calls_21 ?_
  refine q_iald X hM26 (by decide) dX7_calls_22 (fun h6 => ?_)
  refine q_iload_n X dX7_calls_23 2 rfl ?_
  refine q_iconst X dX7_calls_24 ?_
  refine q_callV X NMok hN Aw_new (c_X7_context h6 hx1 (by decide)) (rn_V X (cwV 3 X.2.2.2.2.1 (tbG_good _ (tbG_V mw_1090 mw_1092 mp_5_2 mw_9 mw_1093)) rfl rfl rfl hd_X7_context ⟨by decide, by decide⟩) hM0 rfl rfl rfl (Nat.le_of_ble_eq_true rfl) dX7_calls_25) (fun r7 _ => ?_)
  refine q_aload_n X dX7_calls_28 1 rfl ?_
  refine q_aload_n X dX7_calls_29 1 rfl ?_
  refine q_aload_n X dX7_calls_30 1 rfl ?_
  refine fg_X7_44 X dX7_calls_31 ?_
  refine q_iload_n X dX7_calls_34 2 rfl ?_
  refine q_iald X hM11 (by decide) dX7_calls_35 (fun h10 => ?_)
  refine q_callIp X NMok hN Aw_new (c_X7_nodeOf h10) (rn_V X (cwV 1 X.2.2.2.2.1 (tbG_good _ (tbG_V mw_1046 mw_1048 mp_4_7 mw_9 mw_1049)) rfl rfl rfl hd_X7_nodeOf ⟨by decide, by decide⟩) hM0 rfl rfl rfl (Nat.le_of_ble_eq_true rfl) dX7_calls_36) (fun r11 _ h13 => ?_)
  refine q_callI X NMok hN Aw_new (c_X7_begins h13) (rn_V X (cwV 1 X.2.2.2.2.1 (tbG_good _ (tbG_V mw_1148 mw_1150 mp_5_9 mw_9 mw_1151)) rfl rfl rfl hd_X7_begins ⟨by decide, by decide⟩) hM0 rfl rfl rfl (Nat.le_of_ble_eq_true rfl) dX7_calls_39) (fun r14 _ h16 => ?_)
  refine q_if_eq X h16 54 dX7_calls_42 (by decide) (fun h17 => ?_) (fun h17 => ?_)
  · refine q_aload_n X dX7_calls_54 1 rfl ?_
    refine q_bipush X dX7_calls_55 (by decide) ?_
    refine q_iload_n X dX7_calls_57 2 rfl ?_
    refine q_callV X NMok hN Aw_new (c_X7_fails (by decide) hx1) (rn_V X (cwV 2 X.2.2.2.2.1 (tbG_good _ (tbG_V mw_1164 mw_1166 mp_5_13 mw_9 mw_1167)) rfl rfl rfl hd_X7_fails ⟨by decide, by decide⟩) hM0 rfl rfl rfl (Nat.le_of_ble_eq_true rfl) dX7_calls_58) (fun r18 _ => ?_)
    exact q_vret X hr hlk dX7_calls_61
  · refine q_aload_n X dX7_calls_45 1 rfl ?_
    refine q_iconst X dX7_calls_46 ?_
    refine q_iload_n X dX7_calls_47 0 rfl ?_
    refine q_callV X NMok hN Aw_new (c_X7_becomes (by decide) h4) (rn_V X (cwV 2 X.2.2.2.2.1 (tbG_good _ (tbG_V mw_1156 mw_1158 mp_5_11 mw_9 mw_1159)) rfl rfl rfl hd_X7_becomes ⟨by decide, by decide⟩) hM0 rfl rfl rfl (Nat.le_of_ble_eq_true rfl) dX7_calls_48) (fun r21 _ => ?_)
    refine q_goto X 61 dX7_calls_51 (by decide) ?_
    exact q_vret X hr hlk dX7_calls_61

/-! SiteObjectsModel.does(IJ)V -/
abbrev GX7_does (p : Program) (l : Launch) (e : Env) (s : State) (m : MethodId) (args : Array Value) (below : List Frame) (meth : Method) (c : Code) (D : va_G) (ca : Nat → ClassId) (ad : Nat → Nat) (res : Mm) : Nat → List (Nat × Value) → List Value → Mm → Option (Mm) → Prop := G p l e { frames := 3, cells := 0, slots := 0, locals := 71 } s m args below meth c (MQ below (QcV D vcl ca ad shM s.heap.size res) args s 0 0 (Aw ad shM.length s.heap.size)) 7 D vcl ca ad shM (Aw ad shM.length s.heap.size) res
def f_X7_does_287 (x1 : Int) (s0 : Int) (σ : Mm) : Option (Mm) :=
  ck (inR ((σ.1 0 43) + 1)) (ck ((0 : Int) ≤ (((stI σ 0 43 ((σ.1 0 43) + 1)).1 0 52) - 1) ∧ (((stI σ 0 43 ((σ.1 0 43) + 1)).1 0 52) - 1) < ((25 : Nat) : Int)) ((if s0 = 0 then ck (inR (((stI σ 0 43 ((σ.1 0 43) + 1)).1 27 (Int.toNat (((stI σ 0 43 ((σ.1 0 43) + 1)).1 0 52) - 1))) + 0)) (ck ((0 : Int) ≤ (((stI σ 0 43 ((σ.1 0 43) + 1)).1 0 52) - 1) ∧ (((stI σ 0 43 ((σ.1 0 43) + 1)).1 0 52) - 1) < ((25 : Nat) : Int)) ((some (stI (stI σ 0 43 ((σ.1 0 43) + 1)) 27 (Int.toNat (((stI σ 0 43 ((σ.1 0 43) + 1)).1 0 52) - 1)) (((stI σ 0 43 ((σ.1 0 43) + 1)).1 27 (Int.toNat (((stI σ 0 43 ((σ.1 0 43) + 1)).1 0 52) - 1))) + 0))).bind (fun σ7 => some σ7))) else ck ((0 : Int) ≤ x1 ∧ x1 < ((90 : Nat) : Int)) (ck (inR (((stI σ 0 43 ((σ.1 0 43) + 1)).1 27 (Int.toNat (((stI σ 0 43 ((σ.1 0 43) + 1)).1 0 52) - 1))) + ((stI σ 0 43 ((σ.1 0 43) + 1)).1 10 (Int.toNat x1)))) (ck ((0 : Int) ≤ (((stI σ 0 43 ((σ.1 0 43) + 1)).1 0 52) - 1) ∧ (((stI σ 0 43 ((σ.1 0 43) + 1)).1 0 52) - 1) < ((25 : Nat) : Int)) ((some (stI (stI σ 0 43 ((σ.1 0 43) + 1)) 27 (Int.toNat (((stI σ 0 43 ((σ.1 0 43) + 1)).1 0 52) - 1)) (((stI σ 0 43 ((σ.1 0 43) + 1)).1 27 (Int.toNat (((stI σ 0 43 ((σ.1 0 43) + 1)).1 0 52) - 1))) + ((stI σ 0 43 ((σ.1 0 43) + 1)).1 10 (Int.toNat x1))))).bind (fun σ10 => some σ10)))))))
set_option maxRecDepth 100000 in
set_option maxHeartbeats 4000000 in
theorem t_X7_does_287 {p : Program} {l : Launch} {e : Env} {s : State} {m : MethodId} {args : Array Value} {below : List Frame} {meth : Method} {c : Code} {D : va_G} {ca : Nat → ClassId} {ad : Nat → Nat} {res : Mm} (X : Cx p s m args c cX7_does 7 RX7 (Cond.code yX7_does cX7_does 7 none :: tbG) D vcl ca) (hN : NM s) (hr : meth.sig.returnType = none) (hlk : meth.locks = false) : ∀ (x1 : Int) (s0 : Int) (σ : Mm), inR x1 → inR s0 → GX7_does p l e s m args below meth c D ca ad res 287 [(0, .ref (ad 0)), (1, .int (oi x1))] [.int (oi s0)] σ (f_X7_does_287 x1 s0 σ) := by
  intro x1 s0 σ hx1 hs0
  unfold f_X7_does_287
  refine q_istore X [(6, .int (oi s0)), (0, .ref (ad 0)), (1, .int (oi x1))] dX7_does_287 (by decide) rfl ?_
  refine q_aload_n X dX7_does_289 1 rfl ?_
  refine q_dup X dX7_does_290 rfl ?_
  refine fg_X7_321 X dX7_does_291 (fun h1 => ?_)
  refine q_iconst X dX7_does_294 ?_
  refine q_iadd X dX7_does_295 ?_
  refine q_ck (fun h2 => ?_)
  refine fp_X7_321 X h2 dX7_does_296 ?_
  refine q_aload_n X dX7_does_299 1 rfl ?_
  refine fg_X7_93 X dX7_does_300 ?_
  refine q_aload_n X dX7_does_303 1 rfl ?_
  refine fg_X7_264 X dX7_does_304 (fun h3 => ?_)
  refine q_iconst X dX7_does_307 ?_
  refine q_isub X dX7_does_308 ?_
  refine q_dup2 X dX7_does_309 rfl rfl ?_
  refine q_iald X hM27 (by decide) dX7_does_310 (fun h4 => ?_)
  refine q_iload X dX7_does_311 0 rfl ?_
  refine q_if_eq X hs0 325 dX7_does_313 (by decide) (fun h5 => ?_) (fun h5 => ?_)
  · refine q_iconst X dX7_does_325 ?_
    refine q_iadd X dX7_does_326 ?_
    refine q_ck (fun h6 => ?_)
    refine q_iast X hM27 (by decide) h6 dX7_does_327 ?_
    refine q_nm (fun σ7 => ?_)
    refine q_goto X 424 dX7_does_328 (by decide) ?_
    exact q_vret X hr hlk dX7_does_424
  · refine q_aload_n X dX7_does_316 1 rfl ?_
    refine fg_X7_41 X dX7_does_317 ?_
    refine q_iload_n X dX7_does_320 2 rfl ?_
    refine q_iald X hM10 (by decide) dX7_does_321 (fun h8 => ?_)
    refine q_goto X 326 dX7_does_322 (by decide) ?_
    refine q_iadd X dX7_does_326 ?_
    refine q_ck (fun h9 => ?_)
    refine q_iast X hM27 (by decide) h9 dX7_does_327 ?_
    refine q_nm (fun σ10 => ?_)
    refine q_goto X 424 dX7_does_328 (by decide) ?_
    exact q_vret X hr hlk dX7_does_424
def f_X7_does (x1 : Int) (x2 : Int64) (σ : Mm) : Option (Mm) :=
  ck ((0 : Int) ≤ x1 ∧ x1 < ((90 : Nat) : Int)) (ck ((0 : Int) ≤ x1 ∧ x1 < ((90 : Nat) : Int)) ((if (σ.1 8 (Int.toNat x1)) = 0 then (f_X7_makes (σ.1 9 (Int.toNat x1)) x1 σ).bind (fun r14 => some r14) else (if (σ.1 8 (Int.toNat x1)) = 1 then (f_X7_makes (σ.1 9 (Int.toNat x1)) x1 σ).bind (fun r18 => some r18) else (if (σ.1 8 (Int.toNat x1)) = 2 then ck ((0 : Int) ≤ x1 ∧ x1 < ((90 : Nat) : Int)) ((f_X7_var (σ.1 10 (Int.toNat x1)) σ).bind (fun r23 => (f_X7_becomes (σ.1 9 (Int.toNat x1)) r23 σ).bind (fun r26 => some r26))) else (if (σ.1 8 (Int.toNat x1)) = 3 then (f_X7_becomes (σ.1 9 (Int.toNat x1)) (-1) σ).bind (fun r30 => some r30) else (if (σ.1 8 (Int.toNat x1)) = 4 then ck ((0 : Int) ≤ x1 ∧ x1 < ((90 : Nat) : Int)) ((if (σ.1 8 (Int.toNat x1)) = 6 then (f_X7_reads x1 1 σ).bind (fun r36 => some r36) else (f_X7_reads x1 0 σ).bind (fun r39 => some r39))) else (if (σ.1 8 (Int.toNat x1)) = 5 then ck ((0 : Int) ≤ x1 ∧ x1 < ((90 : Nat) : Int)) ((if (σ.1 8 (Int.toNat x1)) = 7 then (f_X7_writes x1 1 σ).bind (fun r45 => some r45) else (f_X7_writes x1 0 σ).bind (fun r48 => some r48))) else (if (σ.1 8 (Int.toNat x1)) = 6 then ck ((0 : Int) ≤ x1 ∧ x1 < ((90 : Nat) : Int)) ((if (σ.1 8 (Int.toNat x1)) = 6 then (f_X7_reads x1 1 σ).bind (fun r54 => some r54) else (f_X7_reads x1 0 σ).bind (fun r57 => some r57))) else (if (σ.1 8 (Int.toNat x1)) = 7 then ck ((0 : Int) ≤ x1 ∧ x1 < ((90 : Nat) : Int)) ((if (σ.1 8 (Int.toNat x1)) = 7 then (f_X7_writes x1 1 σ).bind (fun r63 => some r63) else (f_X7_writes x1 0 σ).bind (fun r66 => some r66))) else (if (σ.1 8 (Int.toNat x1)) = 8 then ck ((0 : Int) ≤ x1 ∧ x1 < ((90 : Nat) : Int)) ((f_X7_var (σ.1 10 (Int.toNat x1)) σ).bind (fun r71 => (if r71 < 0 then (f_X7_becomes (σ.1 9 (Int.toNat x1)) r71 σ).bind (fun r75 => some r75) else ck ((0 : Int) ≤ x1 ∧ x1 < ((90 : Nat) : Int)) ((f_X7_isObjectBelow r71 (σ.1 11 (Int.toNat x1)) σ).bind (fun r79 => (if r79 = 0 then (f_X7_fails 5 x1 σ).bind (fun r83 => some r83) else (f_X7_becomes (σ.1 9 (Int.toNat x1)) r71 σ).bind (fun r86 => some r86))))))) else (if (σ.1 8 (Int.toNat x1)) = 9 then (f_X7_asks x1 σ).bind (fun r90 => some r90) else (if (σ.1 8 (Int.toNat x1)) = 10 then (f_X7_calls x1 σ).bind (fun r94 => some r94) else (if (σ.1 8 (Int.toNat x1)) = 11 then (f_X7_var (σ.1 9 (Int.toNat x1)) σ).bind (fun r98 => (f_X7_ends r98 σ).bind (fun r101 => some r101)) else (if (σ.1 8 (Int.toNat x1)) = 12 then (if 64 ≤ (σ.1 0 43) then f_X7_does_287 x1 0 σ else (if ((lShr x2 (σ.1 0 43)) &&& 1) = 1 then f_X7_does_287 x1 1 σ else f_X7_does_287 x1 0 σ)) else (if (σ.1 8 (Int.toNat x1)) = 13 then ck ((0 : Int) ≤ x1 ∧ x1 < ((90 : Nat) : Int)) ((f_X7_var (σ.1 9 (Int.toNat x1)) σ).bind (fun r111 => ck ((0 : Int) ≤ (σ.1 11 (Int.toNat x1)) ∧ (σ.1 11 (Int.toNat x1)) < ((4 : Nat) : Int)) ((f_X7_var (σ.1 9 (Int.toNat x1)) (stI σ 25 (Int.toNat (σ.1 11 (Int.toNat x1))) r111)).bind (fun r114 => ck ((0 : Int) ≤ x1 ∧ x1 < ((90 : Nat) : Int)) (ck ((0 : Int) ≤ ((stI σ 25 (Int.toNat (σ.1 11 (Int.toNat x1))) r111).1 11 (Int.toNat x1)) ∧ ((stI σ 25 (Int.toNat (σ.1 11 (Int.toNat x1))) r111).1 11 (Int.toNat x1)) < ((4 : Nat) : Int)) ((f_X7_counts r114 ((stI σ 25 (Int.toNat (σ.1 11 (Int.toNat x1))) r111).2 20 (Int.toNat ((stI σ 25 (Int.toNat (σ.1 11 (Int.toNat x1))) r111).1 11 (Int.toNat x1)))) (stI σ 25 (Int.toNat (σ.1 11 (Int.toNat x1))) r111)).bind (fun r118 => some r118))))))) else (if (σ.1 8 (Int.toNat x1)) = 14 then ck ((0 : Int) ≤ x1 ∧ x1 < ((90 : Nat) : Int)) (ck ((0 : Int) ≤ (σ.1 11 (Int.toNat x1)) ∧ (σ.1 11 (Int.toNat x1)) < ((4 : Nat) : Int)) ((f_X7_becomes (σ.1 9 (Int.toNat x1)) (σ.1 25 (Int.toNat (σ.1 11 (Int.toNat x1)))) σ).bind (fun r124 => some r124))) else (if (σ.1 8 (Int.toNat x1)) = 15 then (f_X7_var (σ.1 9 (Int.toNat x1)) σ).bind (fun r128 => (if 0 ≤ r128 then (f_X7_var (σ.1 9 (Int.toNat x1)) σ).bind (fun r132 => (f_X7_raises r132 x1 σ).bind (fun r135 => some r135)) else (f_X7_fails 1 x1 σ).bind (fun r138 => some r138))) else some σ))))))))))))))))))
theorem hd_X7_does : yX7_does.cls = RX7 ∧ yX7_does.cls ≠ "java/lang/invoke/MethodHandle" ∧ yX7_does.cls ≠ "java/lang/invoke/VarHandle" ∧ (parseMethodDescriptor yX7_does.desc).map (fun d => d.parameters.length) = some 2 := by decide +kernel
set_option maxRecDepth 100000 in
set_option maxHeartbeats 4000000 in
theorem c_X7_does {l : Launch} {D : va_G} {ca : Nat → ClassId} {ad : Nat → Nat} {x1 : Int} {x2 : Int64} (hx1 : inR x1) {σ : Mm} : CtV l D vcl ca ad shM NM yX7_does (Cond.code yX7_does cX7_does 7 none :: tbG) { frames := 3, cells := 0, slots := 0, locals := 71 } [.ref (ad 0), .int (oi x1), .long x2] σ (f_X7_does x1 x2 σ) := by
  refine ct_V RX7 rfl (by decide) rfl (Nat.le_of_ble_eq_true rfl) (fun p e s m below meth c res X hN hr hlk => ?_)
  show GX7_does p l e s m _ below meth c D ca ad res 0 [(0, .ref (ad 0)), (1, .int (oi x1)), (2, .long x2)] [] σ (f_X7_does x1 x2 σ)
  unfold f_X7_does
  refine q_aload_n X dX7_does_0 0 rfl ?_
  refine fg_X7_38 X dX7_does_1 ?_
  refine q_iload_n X dX7_does_4 1 rfl ?_
  refine q_iald X hM9 (by decide) dX7_does_5 (fun h11 => ?_)
  refine q_istore X [(4, .int (oi (σ.1 9 (Int.toNat x1)))), (0, .ref (ad 0)), (1, .int (oi x1)), (2, .long x2)] dX7_does_6 (by decide) rfl ?_
  refine q_aload_n X dX7_does_8 1 rfl ?_
  refine fg_X7_35 X dX7_does_9 ?_
  refine q_iload_n X dX7_does_12 2 rfl ?_
  refine q_iald X hM8 (by decide) dX7_does_13 (fun h12 => ?_)
  refine q_ite (fun h13 => ?_) (fun h13 => ?_)
  · refine q_tswIn X h12 0 78 92 h13 dX7_does_14 (by decide) rfl (by decide) ?_
    refine q_aload_n X dX7_does_92 1 rfl ?_
    refine q_iload X dX7_does_93 0 rfl ?_
    refine q_iload_n X dX7_does_95 2 rfl ?_
    refine q_callV X NMok hN Aw_new (c_X7_makes h11 hx1) (rn_V X (cwV 2 X.2.2.2.2.1 (tbG_good _ (tbG_V mw_1172 mw_1174 mp_5_15 mw_9 mw_1175)) rfl rfl rfl hd_X7_makes ⟨by decide, by decide⟩) hM0 rfl rfl rfl (Nat.le_of_ble_eq_true rfl) dX7_does_96) (fun r14 _ => ?_)
    refine q_goto X 424 dX7_does_99 (by decide) ?_
    exact q_vret X hr hlk dX7_does_424
  · refine q_ite (fun h17 => ?_) (fun h17 => ?_)
    · refine q_tswIn X h12 1 78 92 h17 dX7_does_14 (by decide) rfl (by decide) ?_
      refine q_aload_n X dX7_does_92 1 rfl ?_
      refine q_iload X dX7_does_93 0 rfl ?_
      refine q_iload_n X dX7_does_95 2 rfl ?_
      refine q_callV X NMok hN Aw_new (c_X7_makes h11 hx1) (rn_V X (cwV 2 X.2.2.2.2.1 (tbG_good _ (tbG_V mw_1172 mw_1174 mp_5_15 mw_9 mw_1175)) rfl rfl rfl hd_X7_makes ⟨by decide, by decide⟩) hM0 rfl rfl rfl (Nat.le_of_ble_eq_true rfl) dX7_does_96) (fun r18 _ => ?_)
      refine q_goto X 424 dX7_does_99 (by decide) ?_
      exact q_vret X hr hlk dX7_does_424
    · refine q_ite (fun h21 => ?_) (fun h21 => ?_)
      · refine q_tswIn X h12 2 88 102 h21 dX7_does_14 (by decide) rfl (by decide) ?_
        refine q_aload_n X dX7_does_102 1 rfl ?_
        refine q_iload X dX7_does_103 0 rfl ?_
        refine q_aload_n X dX7_does_105 1 rfl ?_
        refine q_aload_n X dX7_does_106 1 rfl ?_
        refine fg_X7_41 X dX7_does_107 ?_
        refine q_iload_n X dX7_does_110 2 rfl ?_
        refine q_iald X hM10 (by decide) dX7_does_111 (fun h22 => ?_)
        refine q_callIp X NMok hN Aw_new (c_X7_var h22) (rn_V X (cwV 1 X.2.2.2.2.1 (tbG_good _ (tbG_V mw_1176 mw_1178 mp_6_0 mw_9 mw_1179)) rfl rfl rfl hd_X7_var ⟨by decide, by decide⟩) hM0 rfl rfl rfl (Nat.le_of_ble_eq_true rfl) dX7_does_112) (fun r23 _ h25 => ?_)
        refine q_callV X NMok hN Aw_new (c_X7_becomes h11 h25) (rn_V X (cwV 2 X.2.2.2.2.1 (tbG_good _ (tbG_V mw_1156 mw_1158 mp_5_11 mw_9 mw_1159)) rfl rfl rfl hd_X7_becomes ⟨by decide, by decide⟩) hM0 rfl rfl rfl (Nat.le_of_ble_eq_true rfl) dX7_does_115) (fun r26 _ => ?_)
        refine q_goto X 424 dX7_does_118 (by decide) ?_
        exact q_vret X hr hlk dX7_does_424
      · refine q_ite (fun h29 => ?_) (fun h29 => ?_)
        · refine q_tswIn X h12 3 107 121 h29 dX7_does_14 (by decide) rfl (by decide) ?_
          refine q_aload_n X dX7_does_121 1 rfl ?_
          refine q_iload X dX7_does_122 0 rfl ?_
          refine q_iconst X dX7_does_124 ?_
          refine q_callV X NMok hN Aw_new (c_X7_becomes h11 (by decide)) (rn_V X (cwV 2 X.2.2.2.2.1 (tbG_good _ (tbG_V mw_1156 mw_1158 mp_5_11 mw_9 mw_1159)) rfl rfl rfl hd_X7_becomes ⟨by decide, by decide⟩) hM0 rfl rfl rfl (Nat.le_of_ble_eq_true rfl) dX7_does_125) (fun r30 _ => ?_)
          refine q_goto X 424 dX7_does_128 (by decide) ?_
          exact q_vret X hr hlk dX7_does_424
        · refine q_ite (fun h33 => ?_) (fun h33 => ?_)
          · refine q_tswIn X h12 4 117 131 h33 dX7_does_14 (by decide) rfl (by decide) ?_
            refine q_aload_n X dX7_does_131 1 rfl ?_
            refine q_iload_n X dX7_does_132 2 rfl ?_
            refine q_aload_n X dX7_does_133 1 rfl ?_
            refine fg_X7_35 X dX7_does_134 ?_
            refine q_iload_n X dX7_does_137 2 rfl ?_
            refine q_iald X hM8 (by decide) dX7_does_138 (fun h34 => ?_)
            refine q_bipush X dX7_does_139 (by decide) ?_
            refine q_icmp_ne X h34 (by decide) 148 dX7_does_141 (by decide) (fun h35 => ?_) (fun h35 => ?_)
            · refine q_iconst X dX7_does_144 ?_
              refine q_goto X 149 dX7_does_145 (by decide) ?_
              refine q_callV X NMok hN Aw_new (c_X7_reads hx1 (Or.inr rfl)) (rn_V X (cwV 2 X.2.2.2.2.1 (tbG_good _ (tbG_V mw_1180 mw_1182 mp_6_1 mw_9 mw_1183)) rfl rfl rfl hd_X7_reads ⟨by decide, by decide⟩) hM0 rfl rfl rfl (Nat.le_of_ble_eq_true rfl) dX7_does_149) (fun r36 _ => ?_)
              refine q_goto X 424 dX7_does_152 (by decide) ?_
              exact q_vret X hr hlk dX7_does_424
            · refine q_iconst X dX7_does_148 ?_
              refine q_callV X NMok hN Aw_new (c_X7_reads hx1 (Or.inl rfl)) (rn_V X (cwV 2 X.2.2.2.2.1 (tbG_good _ (tbG_V mw_1180 mw_1182 mp_6_1 mw_9 mw_1183)) rfl rfl rfl hd_X7_reads ⟨by decide, by decide⟩) hM0 rfl rfl rfl (Nat.le_of_ble_eq_true rfl) dX7_does_149) (fun r39 _ => ?_)
              refine q_goto X 424 dX7_does_152 (by decide) ?_
              exact q_vret X hr hlk dX7_does_424
          · refine q_ite (fun h42 => ?_) (fun h42 => ?_)
            · refine q_tswIn X h12 5 141 155 h42 dX7_does_14 (by decide) rfl (by decide) ?_
              refine q_aload_n X dX7_does_155 1 rfl ?_
              refine q_iload_n X dX7_does_156 2 rfl ?_
              refine q_aload_n X dX7_does_157 1 rfl ?_
              refine fg_X7_35 X dX7_does_158 ?_
              refine q_iload_n X dX7_does_161 2 rfl ?_
              refine q_iald X hM8 (by decide) dX7_does_162 (fun h43 => ?_)
              refine q_bipush X dX7_does_163 (by decide) ?_
              refine q_icmp_ne X h43 (by decide) 172 dX7_does_165 (by decide) (fun h44 => ?_) (fun h44 => ?_)
              · refine q_iconst X dX7_does_168 ?_
                refine q_goto X 173 dX7_does_169 (by decide) ?_
                refine q_callV X NMok hN Aw_new (c_X7_writes hx1 (Or.inr rfl)) (rn_V X (cwV 2 X.2.2.2.2.1 (tbG_good _ (tbG_V mw_1192 mw_1194 mp_6_4 mw_9 mw_1195)) rfl rfl rfl hd_X7_writes ⟨by decide, by decide⟩) hM0 rfl rfl rfl (Nat.le_of_ble_eq_true rfl) dX7_does_173) (fun r45 _ => ?_)
                refine q_goto X 424 dX7_does_176 (by decide) ?_
                exact q_vret X hr hlk dX7_does_424
              · refine q_iconst X dX7_does_172 ?_
                refine q_callV X NMok hN Aw_new (c_X7_writes hx1 (Or.inl rfl)) (rn_V X (cwV 2 X.2.2.2.2.1 (tbG_good _ (tbG_V mw_1192 mw_1194 mp_6_4 mw_9 mw_1195)) rfl rfl rfl hd_X7_writes ⟨by decide, by decide⟩) hM0 rfl rfl rfl (Nat.le_of_ble_eq_true rfl) dX7_does_173) (fun r48 _ => ?_)
                refine q_goto X 424 dX7_does_176 (by decide) ?_
                exact q_vret X hr hlk dX7_does_424
            · refine q_ite (fun h51 => ?_) (fun h51 => ?_)
              · refine q_tswIn X h12 6 117 131 h51 dX7_does_14 (by decide) rfl (by decide) ?_
                refine q_aload_n X dX7_does_131 1 rfl ?_
                refine q_iload_n X dX7_does_132 2 rfl ?_
                refine q_aload_n X dX7_does_133 1 rfl ?_
                refine fg_X7_35 X dX7_does_134 ?_
                refine q_iload_n X dX7_does_137 2 rfl ?_
                refine q_iald X hM8 (by decide) dX7_does_138 (fun h52 => ?_)
                refine q_bipush X dX7_does_139 (by decide) ?_
                refine q_icmp_ne X h52 (by decide) 148 dX7_does_141 (by decide) (fun h53 => ?_) (fun h53 => ?_)
                · refine q_iconst X dX7_does_144 ?_
                  refine q_goto X 149 dX7_does_145 (by decide) ?_
                  refine q_callV X NMok hN Aw_new (c_X7_reads hx1 (Or.inr rfl)) (rn_V X (cwV 2 X.2.2.2.2.1 (tbG_good _ (tbG_V mw_1180 mw_1182 mp_6_1 mw_9 mw_1183)) rfl rfl rfl hd_X7_reads ⟨by decide, by decide⟩) hM0 rfl rfl rfl (Nat.le_of_ble_eq_true rfl) dX7_does_149) (fun r54 _ => ?_)
                  refine q_goto X 424 dX7_does_152 (by decide) ?_
                  exact q_vret X hr hlk dX7_does_424
                · refine q_iconst X dX7_does_148 ?_
                  refine q_callV X NMok hN Aw_new (c_X7_reads hx1 (Or.inl rfl)) (rn_V X (cwV 2 X.2.2.2.2.1 (tbG_good _ (tbG_V mw_1180 mw_1182 mp_6_1 mw_9 mw_1183)) rfl rfl rfl hd_X7_reads ⟨by decide, by decide⟩) hM0 rfl rfl rfl (Nat.le_of_ble_eq_true rfl) dX7_does_149) (fun r57 _ => ?_)
                  refine q_goto X 424 dX7_does_152 (by decide) ?_
                  exact q_vret X hr hlk dX7_does_424
              · refine q_ite (fun h60 => ?_) (fun h60 => ?_)
                · refine q_tswIn X h12 7 141 155 h60 dX7_does_14 (by decide) rfl (by decide) ?_
                  refine q_aload_n X dX7_does_155 1 rfl ?_
                  refine q_iload_n X dX7_does_156 2 rfl ?_
                  refine q_aload_n X dX7_does_157 1 rfl ?_
                  refine fg_X7_35 X dX7_does_158 ?_
                  refine q_iload_n X dX7_does_161 2 rfl ?_
                  refine q_iald X hM8 (by decide) dX7_does_162 (fun h61 => ?_)
                  refine q_bipush X dX7_does_163 (by decide) ?_
                  refine q_icmp_ne X h61 (by decide) 172 dX7_does_165 (by decide) (fun h62 => ?_) (fun h62 => ?_)
                  · refine q_iconst X dX7_does_168 ?_
                    refine q_goto X 173 dX7_does_169 (by decide) ?_
                    refine q_callV X NMok hN Aw_new (c_X7_writes hx1 (Or.inr rfl)) (rn_V X (cwV 2 X.2.2.2.2.1 (tbG_good _ (tbG_V mw_1192 mw_1194 mp_6_4 mw_9 mw_1195)) rfl rfl rfl hd_X7_writes ⟨by decide, by decide⟩) hM0 rfl rfl rfl (Nat.le_of_ble_eq_true rfl) dX7_does_173) (fun r63 _ => ?_)
                    refine q_goto X 424 dX7_does_176 (by decide) ?_
                    exact q_vret X hr hlk dX7_does_424
                  · refine q_iconst X dX7_does_172 ?_
                    refine q_callV X NMok hN Aw_new (c_X7_writes hx1 (Or.inl rfl)) (rn_V X (cwV 2 X.2.2.2.2.1 (tbG_good _ (tbG_V mw_1192 mw_1194 mp_6_4 mw_9 mw_1195)) rfl rfl rfl hd_X7_writes ⟨by decide, by decide⟩) hM0 rfl rfl rfl (Nat.le_of_ble_eq_true rfl) dX7_does_173) (fun r66 _ => ?_)
                    refine q_goto X 424 dX7_does_176 (by decide) ?_
                    exact q_vret X hr hlk dX7_does_424
                · refine q_ite (fun h69 => ?_) (fun h69 => ?_)
                  · refine q_tswIn X h12 8 165 179 h69 dX7_does_14 (by decide) rfl (by decide) ?_
                    refine q_aload_n X dX7_does_179 1 rfl ?_
                    refine q_aload_n X dX7_does_180 1 rfl ?_
                    refine fg_X7_41 X dX7_does_181 ?_
                    refine q_iload_n X dX7_does_184 2 rfl ?_
                    refine q_iald X hM10 (by decide) dX7_does_185 (fun h70 => ?_)
                    refine q_callIp X NMok hN Aw_new (c_X7_var h70) (rn_V X (cwV 1 X.2.2.2.2.1 (tbG_good _ (tbG_V mw_1176 mw_1178 mp_6_0 mw_9 mw_1179)) rfl rfl rfl hd_X7_var ⟨by decide, by decide⟩) hM0 rfl rfl rfl (Nat.le_of_ble_eq_true rfl) dX7_does_186) (fun r71 _ h73 => ?_)
                    refine q_istore X [(5, .int (oi r71)), (4, .int (oi (σ.1 9 (Int.toNat x1)))), (0, .ref (ad 0)), (1, .int (oi x1)), (2, .long x2)] dX7_does_189 (by decide) rfl ?_
                    refine q_iload X dX7_does_191 0 rfl ?_
                    refine q_if_lt X h73 220 dX7_does_193 (by decide) (fun h74 => ?_) (fun h74 => ?_)
                    · refine q_aload_n X dX7_does_220 2 rfl ?_
                      refine q_iload X dX7_does_221 1 rfl ?_
                      refine q_iload X dX7_does_223 0 rfl ?_
                      refine q_callV X NMok hN Aw_new (c_X7_becomes h11 h73) (rn_V X (cwV 2 X.2.2.2.2.1 (tbG_good _ (tbG_V mw_1156 mw_1158 mp_5_11 mw_9 mw_1159)) rfl rfl rfl hd_X7_becomes ⟨by decide, by decide⟩) hM0 rfl rfl rfl (Nat.le_of_ble_eq_true rfl) dX7_does_225) (fun r75 _ => ?_)
                      refine q_goto X 424 dX7_does_228 (by decide) ?_
                      exact q_vret X hr hlk dX7_does_424
                    · refine q_aload_n X dX7_does_196 2 rfl ?_
                      refine q_iload X dX7_does_197 0 rfl ?_
                      refine q_aload_n X dX7_does_199 2 rfl ?_
                      refine fg_X7_44 X dX7_does_200 ?_
                      refine q_iload_n X dX7_does_203 3 rfl ?_
                      refine q_iald X hM11 (by decide) dX7_does_204 (fun h78 => ?_)
                      refine q_callIp X NMok hN Aw_new (c_X7_isObjectBelow h73 h78) (rn_V X (cwV 2 X.2.2.2.2.1 (tbG_good _ (tbG_V mw_1196 mw_1198 mp_6_5 mw_9 mw_1199)) rfl rfl rfl hd_X7_isObjectBelow ⟨by decide, by decide⟩) hM0 rfl rfl rfl (Nat.le_of_ble_eq_true rfl) dX7_does_205) (fun r79 _ h81 => ?_)
                      refine q_if_ne X h81 220 dX7_does_208 (by decide) (fun h82 => ?_) (fun h82 => ?_)
                      · refine q_aload_n X dX7_does_211 2 rfl ?_
                        refine q_iconst X dX7_does_212 ?_
                        refine q_iload_n X dX7_does_213 3 rfl ?_
                        refine q_callV X NMok hN Aw_new (c_X7_fails (by decide) hx1) (rn_V X (cwV 2 X.2.2.2.2.1 (tbG_good _ (tbG_V mw_1164 mw_1166 mp_5_13 mw_9 mw_1167)) rfl rfl rfl hd_X7_fails ⟨by decide, by decide⟩) hM0 rfl rfl rfl (Nat.le_of_ble_eq_true rfl) dX7_does_214) (fun r83 _ => ?_)
                        refine q_goto X 424 dX7_does_217 (by decide) ?_
                        exact q_vret X hr hlk dX7_does_424
                      · refine q_aload_n X dX7_does_220 2 rfl ?_
                        refine q_iload X dX7_does_221 1 rfl ?_
                        refine q_iload X dX7_does_223 0 rfl ?_
                        refine q_callV X NMok hN Aw_new (c_X7_becomes h11 h73) (rn_V X (cwV 2 X.2.2.2.2.1 (tbG_good _ (tbG_V mw_1156 mw_1158 mp_5_11 mw_9 mw_1159)) rfl rfl rfl hd_X7_becomes ⟨by decide, by decide⟩) hM0 rfl rfl rfl (Nat.le_of_ble_eq_true rfl) dX7_does_225) (fun r86 _ => ?_)
                        refine q_goto X 424 dX7_does_228 (by decide) ?_
                        exact q_vret X hr hlk dX7_does_424
                  · refine q_ite (fun h89 => ?_) (fun h89 => ?_)
                    · refine q_tswIn X h12 9 217 231 h89 dX7_does_14 (by decide) rfl (by decide) ?_
                      refine q_aload_n X dX7_does_231 1 rfl ?_
                      refine q_iload_n X dX7_does_232 2 rfl ?_
                      refine q_callV X NMok hN Aw_new (c_X7_asks hx1) (rn_V X (cwV 1 X.2.2.2.2.1 (tbG_good _ (tbG_V mw_1200 mw_1202 mp_6_6 mw_9 mw_1203)) rfl rfl rfl hd_X7_asks ⟨by decide, by decide⟩) hM0 rfl rfl rfl (Nat.le_of_ble_eq_true rfl) dX7_does_233) (fun r90 _ => ?_)
                      refine q_goto X 424 dX7_does_236 (by decide) ?_
                      exact q_vret X hr hlk dX7_does_424
                    · refine q_ite (fun h93 => ?_) (fun h93 => ?_)
                      · refine q_tswIn X h12 10 225 239 h93 dX7_does_14 (by decide) rfl (by decide) ?_
                        refine q_aload_n X dX7_does_239 1 rfl ?_
                        refine q_iload_n X dX7_does_240 2 rfl ?_
                        refine q_callV X NMok hN Aw_new (c_X7_calls hx1) (rn_V X (cwV 1 X.2.2.2.2.1 (tbG_good _ (tbG_V mw_1204 mw_1206 mp_6_7 mw_9 mw_1207)) rfl rfl rfl hd_X7_calls ⟨by decide, by decide⟩) hM0 rfl rfl rfl (Nat.le_of_ble_eq_true rfl) dX7_does_241) (fun r94 _ => ?_)
                        refine q_goto X 424 dX7_does_244 (by decide) ?_
                        exact q_vret X hr hlk dX7_does_424
                      · refine q_ite (fun h97 => ?_) (fun h97 => ?_)
                        · refine q_tswIn X h12 11 233 247 h97 dX7_does_14 (by decide) rfl (by decide) ?_
                          refine q_aload_n X dX7_does_247 1 rfl ?_
                          refine q_aload_n X dX7_does_248 1 rfl ?_
                          refine q_iload X dX7_does_249 0 rfl ?_
                          refine q_callIp X NMok hN Aw_new (c_X7_var h11) (rn_V X (cwV 1 X.2.2.2.2.1 (tbG_good _ (tbG_V mw_1176 mw_1178 mp_6_0 mw_9 mw_1179)) rfl rfl rfl hd_X7_var ⟨by decide, by decide⟩) hM0 rfl rfl rfl (Nat.le_of_ble_eq_true rfl) dX7_does_251) (fun r98 _ h100 => ?_)
                          refine q_callV X NMok hN Aw_new (c_X7_ends h100) (rn_V X (cwV 1 X.2.2.2.2.1 (tbG_good _ (tbG_V mw_1152 mw_1154 mp_5_10 mw_9 mw_1155)) rfl rfl rfl hd_X7_ends ⟨by decide, by decide⟩) hM0 rfl rfl rfl (Nat.le_of_ble_eq_true rfl) dX7_does_254) (fun r101 _ => ?_)
                          refine q_goto X 424 dX7_does_257 (by decide) ?_
                          exact q_vret X hr hlk dX7_does_424
                        · refine q_ite (fun h104 => ?_) (fun h104 => ?_)
                          · refine q_tswIn X h12 12 246 260 h104 dX7_does_14 (by decide) rfl (by decide) ?_
                            refine q_aload_n X dX7_does_260 1 rfl ?_
                            refine fg_X7_321 X dX7_does_261 (fun h105 => ?_)
                            refine q_bipush X dX7_does_264 (by decide) ?_
                            refine q_icmp_ge X h105 (by decide) 286 dX7_does_266 (by decide) (fun h106 => ?_) (fun h106 => ?_)
                            · refine q_iconst X dX7_does_286 ?_
                              refine q_sub [(0, .ref (ad 0)), (1, .int (oi x1))] [1, 2] rfl ?_
                              exact t_X7_does_287 X hN hr hlk x1 0 σ hx1 (by decide)
                            · refine q_lload_n X dX7_does_269 3 rfl ?_
                              refine q_aload_n X dX7_does_270 1 rfl ?_
                              refine fg_X7_321 X dX7_does_271 (fun h107 => ?_)
                              refine q_lshr X dX7_does_274 ?_
                              refine q_lconst X 1 dX7_does_275 rfl ?_
                              refine q_land X dX7_does_276 ?_
                              refine q_lconst X 1 dX7_does_277 rfl ?_
                              refine q_lcmp_ne X 286 dX7_does_278 dX7_does_279 (by decide) (fun h108 => ?_) (fun h108 => ?_)
                              · refine q_iconst X dX7_does_282 ?_
                                refine q_goto X 287 dX7_does_283 (by decide) ?_
                                refine q_sub [(0, .ref (ad 0)), (1, .int (oi x1))] [1, 2] rfl ?_
                                exact t_X7_does_287 X hN hr hlk x1 1 σ hx1 (by decide)
                              · refine q_iconst X dX7_does_286 ?_
                                refine q_sub [(0, .ref (ad 0)), (1, .int (oi x1))] [1, 2] rfl ?_
                                exact t_X7_does_287 X hN hr hlk x1 0 σ hx1 (by decide)
                          · refine q_ite (fun h109 => ?_) (fun h109 => ?_)
                            · refine q_tswIn X h12 13 317 331 h109 dX7_does_14 (by decide) rfl (by decide) ?_
                              refine q_aload_n X dX7_does_331 1 rfl ?_
                              refine fg_X7_87 X dX7_does_332 ?_
                              refine q_aload_n X dX7_does_335 1 rfl ?_
                              refine fg_X7_44 X dX7_does_336 ?_
                              refine q_iload_n X dX7_does_339 2 rfl ?_
                              refine q_iald X hM11 (by decide) dX7_does_340 (fun h110 => ?_)
                              refine q_aload_n X dX7_does_341 1 rfl ?_
                              refine q_iload X dX7_does_342 0 rfl ?_
                              refine q_callIp X NMok hN Aw_new (c_X7_var h11) (rn_V X (cwV 1 X.2.2.2.2.1 (tbG_good _ (tbG_V mw_1176 mw_1178 mp_6_0 mw_9 mw_1179)) rfl rfl rfl hd_X7_var ⟨by decide, by decide⟩) hM0 rfl rfl rfl (Nat.le_of_ble_eq_true rfl) dX7_does_344) (fun r111 _ h113 => ?_)
                              refine q_iast X hM25 (by decide) h113 dX7_does_347 ?_
                              refine q_aload_n X dX7_does_348 1 rfl ?_
                              refine q_aload_n X dX7_does_349 1 rfl ?_
                              refine q_iload X dX7_does_350 0 rfl ?_
                              refine q_callIp X NMok hN Aw_new (c_X7_var h11) (rn_V X (cwV 1 X.2.2.2.2.1 (tbG_good _ (tbG_V mw_1176 mw_1178 mp_6_0 mw_9 mw_1179)) rfl rfl rfl hd_X7_var ⟨by decide, by decide⟩) hM0 rfl rfl rfl (Nat.le_of_ble_eq_true rfl) dX7_does_352) (fun r114 _ h116 => ?_)
                              refine q_aload_n X dX7_does_355 1 rfl ?_
                              refine fg_X7_72 X dX7_does_356 ?_
                              refine q_aload_n X dX7_does_359 1 rfl ?_
                              refine fg_X7_44 X dX7_does_360 ?_
                              refine q_iload_n X dX7_does_363 2 rfl ?_
                              refine q_iald X hM11 (by decide) dX7_does_364 (fun h117 => ?_)
                              refine q_lald X hM20 (by decide) dX7_does_365 ?_
                              refine q_callV X NMok hN Aw_new (c_X7_counts h116) (rn_V X (cwV 2 X.2.2.2.2.1 (tbG_good _ (tbG_V mw_1160 mw_1162 mp_5_12 mw_9 mw_1163)) rfl rfl rfl hd_X7_counts ⟨by decide, by decide⟩) hM0 rfl rfl rfl (Nat.le_of_ble_eq_true rfl) dX7_does_366) (fun r118 _ => ?_)
                              refine q_goto X 424 dX7_does_369 (by decide) ?_
                              exact q_vret X hr hlk dX7_does_424
                            · refine q_ite (fun h121 => ?_) (fun h121 => ?_)
                              · refine q_tswIn X h12 14 358 372 h121 dX7_does_14 (by decide) rfl (by decide) ?_
                                refine q_aload_n X dX7_does_372 1 rfl ?_
                                refine q_iload X dX7_does_373 0 rfl ?_
                                refine q_aload_n X dX7_does_375 1 rfl ?_
                                refine fg_X7_87 X dX7_does_376 ?_
                                refine q_aload_n X dX7_does_379 1 rfl ?_
                                refine fg_X7_44 X dX7_does_380 ?_
                                refine q_iload_n X dX7_does_383 2 rfl ?_
                                refine q_iald X hM11 (by decide) dX7_does_384 (fun h122 => ?_)
                                refine q_iald X hM25 (by decide) dX7_does_385 (fun h123 => ?_)
                                refine q_callV X NMok hN Aw_new (c_X7_becomes h11 h123) (rn_V X (cwV 2 X.2.2.2.2.1 (tbG_good _ (tbG_V mw_1156 mw_1158 mp_5_11 mw_9 mw_1159)) rfl rfl rfl hd_X7_becomes ⟨by decide, by decide⟩) hM0 rfl rfl rfl (Nat.le_of_ble_eq_true rfl) dX7_does_386) (fun r124 _ => ?_)
                                refine q_goto X 424 dX7_does_389 (by decide) ?_
                                exact q_vret X hr hlk dX7_does_424
                              · refine q_ite (fun h127 => ?_) (fun h127 => ?_)
                                · refine q_tswIn X h12 15 378 392 h127 dX7_does_14 (by decide) rfl (by decide) ?_
                                  refine q_aload_n X dX7_does_392 1 rfl ?_
                                  refine q_iload X dX7_does_393 0 rfl ?_
                                  refine q_callIp X NMok hN Aw_new (c_X7_var h11) (rn_V X (cwV 1 X.2.2.2.2.1 (tbG_good _ (tbG_V mw_1176 mw_1178 mp_6_0 mw_9 mw_1179)) rfl rfl rfl hd_X7_var ⟨by decide, by decide⟩) hM0 rfl rfl rfl (Nat.le_of_ble_eq_true rfl) dX7_does_395) (fun r128 _ h130 => ?_)
                                  refine q_if_ge X h130 410 dX7_does_398 (by decide) (fun h131 => ?_) (fun h131 => ?_)
                                  · refine q_aload_n X dX7_does_410 1 rfl ?_
                                    refine q_aload_n X dX7_does_411 1 rfl ?_
                                    refine q_iload X dX7_does_412 0 rfl ?_
                                    refine q_callIp X NMok hN Aw_new (c_X7_var h11) (rn_V X (cwV 1 X.2.2.2.2.1 (tbG_good _ (tbG_V mw_1176 mw_1178 mp_6_0 mw_9 mw_1179)) rfl rfl rfl hd_X7_var ⟨by decide, by decide⟩) hM0 rfl rfl rfl (Nat.le_of_ble_eq_true rfl) dX7_does_414) (fun r132 _ h134 => ?_)
                                    refine q_iload_n X dX7_does_417 2 rfl ?_
                                    refine q_callV X NMok hN Aw_new (c_X7_raises h134 hx1) (rn_V X (cwV 2 X.2.2.2.2.1 (tbG_good _ (tbG_V mw_1208 mw_1210 mp_6_8 mw_9 mw_1211)) rfl rfl rfl hd_X7_raises ⟨by decide, by decide⟩) hM0 rfl rfl rfl (Nat.le_of_ble_eq_true rfl) dX7_does_418) (fun r135 _ => ?_)
                                    refine q_goto X 424 dX7_does_421 (by decide) ?_
                                    exact q_vret X hr hlk dX7_does_424
                                  · refine q_aload_n X dX7_does_401 1 rfl ?_
                                    refine q_iconst X dX7_does_402 ?_
                                    refine q_iload_n X dX7_does_403 2 rfl ?_
                                    refine q_callV X NMok hN Aw_new (c_X7_fails (by decide) hx1) (rn_V X (cwV 2 X.2.2.2.2.1 (tbG_good _ (tbG_V mw_1164 mw_1166 mp_5_13 mw_9 mw_1167)) rfl rfl rfl hd_X7_fails ⟨by decide, by decide⟩) hM0 rfl rfl rfl (Nat.le_of_ble_eq_true rfl) dX7_does_404) (fun r138 _ => ?_)
                                    refine q_goto X 424 dX7_does_407 (by decide) ?_
                                    exact q_vret X hr hlk dX7_does_424
                                · refine q_tswOut X h12 424 (by omega) dX7_does_14 (by decide) ?_
                                  exact q_vret X hr hlk dX7_does_424

/-! SiteObjectsModel.run(JI)I -/
abbrev GX7_run (p : Program) (l : Launch) (e : Env) (s : State) (m : MethodId) (args : Array Value) (below : List Frame) (meth : Method) (c : Code) (D : va_G) (ca : Nat → ClassId) (ad : Nat → Nat) (res : Int × Mm) : Nat → List (Nat × Value) → List Value → Mm → Option (Int × Mm) → Prop := G p l e { frames := 4, cells := 0, slots := 0, locals := 97 } s m args below meth c (MQ below (QcI D vcl ca ad shM s.heap.size res) args s 0 0 (Aw ad shM.length s.heap.size)) 7 D vcl ca ad shM (Aw ad shM.length s.heap.size) res
def f_X7_run_109 : Nat → Int64 → Int → Mm → Option (Int × Mm)
  | 0, _, _, _ => none
  | n + 1, x1, x3, σ => (if (σ.1 0 52) ≤ 0 then some ((σ.1 0 38), σ) else (if (σ.1 0 38) = 0 then ck ((0 : Int) ≤ ((σ.1 0 52) - 1) ∧ ((σ.1 0 52) - 1) < ((25 : Nat) : Int)) (ck ((0 : Int) ≤ (σ.1 26 (Int.toNat ((σ.1 0 52) - 1))) ∧ (σ.1 26 (Int.toNat ((σ.1 0 52) - 1))) < ((80 : Nat) : Int)) (ck ((0 : Int) ≤ ((σ.1 0 52) - 1) ∧ ((σ.1 0 52) - 1) < ((25 : Nat) : Int)) (ck ((0 : Int) ≤ (σ.1 13 (Int.toNat (σ.1 26 (Int.toNat ((σ.1 0 52) - 1))))) ∧ (σ.1 13 (Int.toNat (σ.1 26 (Int.toNat ((σ.1 0 52) - 1))))) < ((12 : Nat) : Int)) ((if (σ.1 27 (Int.toNat ((σ.1 0 52) - 1))) < (σ.1 4 (Int.toNat (σ.1 13 (Int.toNat (σ.1 26 (Int.toNat ((σ.1 0 52) - 1))))))) then (if (σ.1 0 39) = x3 then ck ((0 : Int) ≤ ((90 * (σ.1 13 (Int.toNat (σ.1 26 (Int.toNat ((σ.1 0 52) - 1)))))) + (σ.1 27 (Int.toNat ((σ.1 0 52) - 1)))) ∧ ((90 * (σ.1 13 (Int.toNat (σ.1 26 (Int.toNat ((σ.1 0 52) - 1)))))) + (σ.1 27 (Int.toNat ((σ.1 0 52) - 1)))) < ((1080 : Nat) : Int)) ((f_X7_fails 9 (σ.1 5 (Int.toNat ((90 * (σ.1 13 (Int.toNat (σ.1 26 (Int.toNat ((σ.1 0 52) - 1)))))) + (σ.1 27 (Int.toNat ((σ.1 0 52) - 1)))))) σ).bind (fun r16 => f_X7_run_109 n x1 x3 r16)) else ck (inR ((σ.1 0 39) + 1)) (ck ((0 : Int) ≤ (((stI σ 0 39 ((σ.1 0 39) + 1)).1 0 52) - 1) ∧ (((stI σ 0 39 ((σ.1 0 39) + 1)).1 0 52) - 1) < ((25 : Nat) : Int)) (ck (inR (((stI σ 0 39 ((σ.1 0 39) + 1)).1 27 (Int.toNat (((stI σ 0 39 ((σ.1 0 39) + 1)).1 0 52) - 1))) + 1)) (ck ((0 : Int) ≤ (((stI σ 0 39 ((σ.1 0 39) + 1)).1 0 52) - 1) ∧ (((stI σ 0 39 ((σ.1 0 39) + 1)).1 0 52) - 1) < ((25 : Nat) : Int)) ((some (stI (stI σ 0 39 ((σ.1 0 39) + 1)) 27 (Int.toNat (((stI σ 0 39 ((σ.1 0 39) + 1)).1 0 52) - 1)) (((stI σ 0 39 ((σ.1 0 39) + 1)).1 27 (Int.toNat (((stI σ 0 39 ((σ.1 0 39) + 1)).1 0 52) - 1))) + 1))).bind (fun σ24 => ck ((0 : Int) ≤ ((90 * (σ.1 13 (Int.toNat (σ.1 26 (Int.toNat ((σ.1 0 52) - 1)))))) + (σ.1 27 (Int.toNat ((σ.1 0 52) - 1)))) ∧ ((90 * (σ.1 13 (Int.toNat (σ.1 26 (Int.toNat ((σ.1 0 52) - 1)))))) + (σ.1 27 (Int.toNat ((σ.1 0 52) - 1)))) < ((1080 : Nat) : Int)) ((f_X7_does (σ24.1 5 (Int.toNat ((90 * (σ.1 13 (Int.toNat (σ.1 26 (Int.toNat ((σ.1 0 52) - 1)))))) + (σ.1 27 (Int.toNat ((σ.1 0 52) - 1)))))) x1 σ24).bind (fun r26 => f_X7_run_109 n x1 x3 r26)))))))) else (f_X7_ends (-1) σ).bind (fun r29 => f_X7_run_109 n x1 x3 r29)))))) else some ((σ.1 0 38), σ)))
set_option maxRecDepth 100000 in
set_option maxHeartbeats 4000000 in
theorem t_X7_run_109 {p : Program} {l : Launch} {e : Env} {s : State} {m : MethodId} {args : Array Value} {below : List Frame} {meth : Method} {c : Code} {D : va_G} {ca : Nat → ClassId} {ad : Nat → Nat} {res : Int × Mm} (X : Cx p s m args c cX7_run 7 RX7 (Cond.code yX7_run cX7_run 7 (some .int) :: tbG) D vcl ca) (hN : NM s) (hr : meth.sig.returnType = (some .int)) (hlk : meth.locks = false) : ∀ (n : Nat) (x1 : Int64) (x3 : Int) (σ : Mm), inR x3 → GX7_run p l e s m args below meth c D ca ad res 109 [(0, .ref (ad 0)), (1, .long x1), (3, .int (oi x3))] [] σ (f_X7_run_109 n x1 x3 σ)
  := by
  intro n
  induction n with
  | zero => intro x1 x3 σ hx3 h; cases h
  | succ n ih =>
    intro x1 x3 σ hx3
    rw [f_X7_run_109]
    refine q_aload_n X dX7_run_109 0 rfl ?_
    refine fg_X7_264 X dX7_run_110 (fun h1 => ?_)
    refine q_if_le X h1 250 dX7_run_113 (by decide) (fun h2 => ?_) (fun h2 => ?_)
    · refine q_aload_n X dX7_run_250 0 rfl ?_
      refine fg_X7_252 X dX7_run_251 (fun h3 => ?_)
      exact q_iret X h3 hr hlk dX7_run_254
    · refine q_aload_n X dX7_run_116 0 rfl ?_
      refine fg_X7_252 X dX7_run_117 (fun h4 => ?_)
      refine q_if_ne X h4 250 dX7_run_120 (by decide) (fun h5 => ?_) (fun h5 => ?_)
      · refine q_aload_n X dX7_run_123 0 rfl ?_
        refine fg_X7_50 X dX7_run_124 ?_
        refine q_aload_n X dX7_run_127 0 rfl ?_
        refine fg_X7_90 X dX7_run_128 ?_
        refine q_aload_n X dX7_run_131 0 rfl ?_
        refine fg_X7_264 X dX7_run_132 (fun h6 => ?_)
        refine q_iconst X dX7_run_135 ?_
        refine q_isub X dX7_run_136 ?_
        refine q_iald X hM26 (by decide) dX7_run_137 (fun h7 => ?_)
        refine q_iald X hM13 (by decide) dX7_run_138 (fun h8 => ?_)
        refine q_istore X [(5, .int (oi (σ.1 13 (Int.toNat (σ.1 26 (Int.toNat ((σ.1 0 52) - 1))))))), (0, .ref (ad 0)), (1, .long x1), (3, .int (oi x3))] dX7_run_139 (by decide) rfl ?_
        refine q_aload_n X dX7_run_141 1 rfl ?_
        refine fg_X7_93 X dX7_run_142 ?_
        refine q_aload_n X dX7_run_145 1 rfl ?_
        refine fg_X7_264 X dX7_run_146 (fun h9 => ?_)
        refine q_iconst X dX7_run_149 ?_
        refine q_isub X dX7_run_150 ?_
        refine q_iald X hM27 (by decide) dX7_run_151 (fun h10 => ?_)
        refine q_istore X [(6, .int (oi (σ.1 27 (Int.toNat ((σ.1 0 52) - 1))))), (5, .int (oi (σ.1 13 (Int.toNat (σ.1 26 (Int.toNat ((σ.1 0 52) - 1))))))), (0, .ref (ad 0)), (1, .long x1), (3, .int (oi x3))] dX7_run_152 (by decide) rfl ?_
        refine q_iload X dX7_run_154 0 rfl ?_
        refine q_aload_n X dX7_run_156 2 rfl ?_
        refine fg_X7_23 X dX7_run_157 ?_
        refine q_iload X dX7_run_160 1 rfl ?_
        refine q_iald X hM4 (by decide) dX7_run_162 (fun h11 => ?_)
        refine q_icmp_lt X h10 h11 174 dX7_run_163 (by decide) (fun h12 => ?_) (fun h12 => ?_)
        · refine q_aload_n X dX7_run_174 2 rfl ?_
          refine fg_X7_327 X dX7_run_175 (fun h13 => ?_)
          refine q_iload_n X dX7_run_178 4 rfl ?_
          refine q_icmp_ne X h13 hx3 204 dX7_run_179 (by decide) (fun h14 => ?_) (fun h14 => ?_)
          · refine q_aload_n X dX7_run_182 2 rfl ?_
            refine q_bipush X dX7_run_183 (by decide) ?_
            refine q_aload_n X dX7_run_185 2 rfl ?_
            refine fg_X7_26 X dX7_run_186 ?_
            refine q_bipush X dX7_run_189 (by decide) ?_
            refine q_iload X dX7_run_191 1 rfl ?_
            refine q_imul X dX7_run_193 ?_
            refine q_iload X dX7_run_194 0 rfl ?_
            refine q_iadd X dX7_run_196 ?_
            refine q_iald X hM5 (by decide) dX7_run_197 (fun h15 => ?_)
            refine q_callV X NMok hN Aw_new (c_X7_fails (by decide) h15) (rn_V X (cwV 2 X.2.2.2.2.1 (tbG_good _ (tbG_V mw_1164 mw_1166 mp_5_13 mw_9 mw_1167)) rfl rfl rfl hd_X7_fails ⟨by decide, by decide⟩) hM0 rfl rfl rfl (Nat.le_of_ble_eq_true rfl) dX7_run_198) (fun r16 _ => ?_)
            refine q_goto X 247 dX7_run_201 (by decide) ?_
            refine q_goto X 109 dX7_run_247 (by decide) ?_
            refine q_sub [(0, .ref (ad 0)), (1, .long x1), (3, .int (oi x3))] [2, 3, 4] rfl ?_
            exact ih x1 x3 r16 hx3
          · refine q_aload_n X dX7_run_204 2 rfl ?_
            refine q_dup X dX7_run_205 rfl ?_
            refine fg_X7_327 X dX7_run_206 (fun h19 => ?_)
            refine q_iconst X dX7_run_209 ?_
            refine q_iadd X dX7_run_210 ?_
            refine q_ck (fun h20 => ?_)
            refine fp_X7_327 X h20 dX7_run_211 ?_
            refine q_aload_n X dX7_run_214 2 rfl ?_
            refine fg_X7_93 X dX7_run_215 ?_
            refine q_aload_n X dX7_run_218 2 rfl ?_
            refine fg_X7_264 X dX7_run_219 (fun h21 => ?_)
            refine q_iconst X dX7_run_222 ?_
            refine q_isub X dX7_run_223 ?_
            refine q_dup2 X dX7_run_224 rfl rfl ?_
            refine q_iald X hM27 (by decide) dX7_run_225 (fun h22 => ?_)
            refine q_iconst X dX7_run_226 ?_
            refine q_iadd X dX7_run_227 ?_
            refine q_ck (fun h23 => ?_)
            refine q_iast X hM27 (by decide) h23 dX7_run_228 ?_
            refine q_nm (fun σ24 => ?_)
            refine q_aload_n X dX7_run_229 2 rfl ?_
            refine q_aload_n X dX7_run_230 2 rfl ?_
            refine fg_X7_26 X dX7_run_231 ?_
            refine q_bipush X dX7_run_234 (by decide) ?_
            refine q_iload X dX7_run_236 1 rfl ?_
            refine q_imul X dX7_run_238 ?_
            refine q_iload X dX7_run_239 0 rfl ?_
            refine q_iadd X dX7_run_241 ?_
            refine q_iald X hM5 (by decide) dX7_run_242 (fun h25 => ?_)
            refine q_lload_n X dX7_run_243 3 rfl ?_
            refine q_callV X NMok hN Aw_new (c_X7_does h25) (rn_V X (cwV 2 X.2.2.2.2.1 (tbG_good _ (tbG_V mw_1168 mw_1170 mp_5_14 mw_9 mw_1171)) rfl rfl rfl hd_X7_does ⟨by decide, by decide⟩) hM0 rfl rfl rfl (Nat.le_of_ble_eq_true rfl) dX7_run_244) (fun r26 _ => ?_)
            refine q_goto X 109 dX7_run_247 (by decide) ?_
            refine q_sub [(0, .ref (ad 0)), (1, .long x1), (3, .int (oi x3))] [2, 3, 4] rfl ?_
            exact ih x1 x3 r26 hx3
        · refine q_aload_n X dX7_run_166 2 rfl ?_
          refine q_iconst X dX7_run_167 ?_
          refine q_callV X NMok hN Aw_new (c_X7_ends (by decide)) (rn_V X (cwV 1 X.2.2.2.2.1 (tbG_good _ (tbG_V mw_1152 mw_1154 mp_5_10 mw_9 mw_1155)) rfl rfl rfl hd_X7_ends ⟨by decide, by decide⟩) hM0 rfl rfl rfl (Nat.le_of_ble_eq_true rfl) dX7_run_168) (fun r29 _ => ?_)
          refine q_goto X 247 dX7_run_171 (by decide) ?_
          refine q_goto X 109 dX7_run_247 (by decide) ?_
          refine q_sub [(0, .ref (ad 0)), (1, .long x1), (3, .int (oi x3))] [2, 3, 4] rfl ?_
          exact ih x1 x3 r29 hx3
      · refine q_aload_n X dX7_run_250 0 rfl ?_
        refine fg_X7_252 X dX7_run_251 (fun h32 => ?_)
        exact q_iret X h32 hr hlk dX7_run_254
def f_X7_run_82 : Nat → Int64 → Int → Int → Mm → Option (Int × Mm)
  | 0, _, _, _, _ => none
  | n + 1, x1, x3, x4, σ => (if 4 ≤ x4 then (f_X7_begins 0 σ).bind (fun r34 => f_X7_run_109 2000 x1 x3 r34.2) else ck ((0 : Int) ≤ x4 ∧ x4 < ((4 : Nat) : Int)) (ck (inR (x4 + 1)) (f_X7_run_82 n x1 x3 (x4 + 1) (stI σ 25 (Int.toNat x4) (-1)))))
set_option maxRecDepth 100000 in
set_option maxHeartbeats 4000000 in
theorem t_X7_run_82 {p : Program} {l : Launch} {e : Env} {s : State} {m : MethodId} {args : Array Value} {below : List Frame} {meth : Method} {c : Code} {D : va_G} {ca : Nat → ClassId} {ad : Nat → Nat} {res : Int × Mm} (X : Cx p s m args c cX7_run 7 RX7 (Cond.code yX7_run cX7_run 7 (some .int) :: tbG) D vcl ca) (hN : NM s) (hr : meth.sig.returnType = (some .int)) (hlk : meth.locks = false) : ∀ (n : Nat) (x1 : Int64) (x3 : Int) (x4 : Int) (σ : Mm), inR x3 → inR x4 → GX7_run p l e s m args below meth c D ca ad res 82 [(0, .ref (ad 0)), (1, .long x1), (3, .int (oi x3)), (4, .int (oi x4))] [] σ (f_X7_run_82 n x1 x3 x4 σ)
  := by
  intro n
  induction n with
  | zero => intro x1 x3 x4 σ hx3 hx4 h; cases h
  | succ n ih =>
    intro x1 x3 x4 σ hx3 hx4
    rw [f_X7_run_82]
    refine q_iload X dX7_run_82 3 rfl ?_
    refine q_iconst X dX7_run_84 ?_
    refine q_icmp_ge X hx4 (by decide) 102 dX7_run_85 (by decide) (fun h33 => ?_) (fun h33 => ?_)
    · refine q_aload_n X dX7_run_102 0 rfl ?_
      refine q_iconst X dX7_run_103 ?_
      refine q_callI X NMok hN Aw_new (c_X7_begins (by decide)) (rn_V X (cwV 1 X.2.2.2.2.1 (tbG_good _ (tbG_V mw_1148 mw_1150 mp_5_9 mw_9 mw_1151)) rfl rfl rfl hd_X7_begins ⟨by decide, by decide⟩) hM0 rfl rfl rfl (Nat.le_of_ble_eq_true rfl) dX7_run_104) (fun r34 _ h36 => ?_)
      refine q_istore X [(4, .int (oi r34.1)), (0, .ref (ad 0)), (1, .long x1), (3, .int (oi x3))] dX7_run_107 (by decide) rfl ?_
      refine q_sub [(0, .ref (ad 0)), (1, .long x1), (3, .int (oi x3))] [1, 2, 3] rfl ?_
      exact t_X7_run_109 X hN hr hlk 2000 x1 x3 r34.2 hx3
    · refine q_aload_n X dX7_run_88 0 rfl ?_
      refine fg_X7_87 X dX7_run_89 ?_
      refine q_iload X dX7_run_92 3 rfl ?_
      refine q_iconst X dX7_run_94 ?_
      refine q_iast X hM25 (by decide) (by decide) dX7_run_95 ?_
      refine q_iinc X [(4, .int (oi (x4 + 1))), (0, .ref (ad 0)), (1, .long x1), (3, .int (oi x3))] dX7_run_96 (by decide) 3 rfl rfl (fun h37 => ?_)
      refine q_goto X 82 dX7_run_99 (by decide) ?_
      refine q_sub [(0, .ref (ad 0)), (1, .long x1), (3, .int (oi x3)), (4, .int (oi (x4 + 1)))] [1, 2, 3, 0] rfl ?_
      exact ih x1 x3 (x4 + 1) (stI σ 25 (Int.toNat x4) (-1)) hx3 h37
def f_X7_run (x1 : Int64) (x3 : Int) (σ : Mm) : Option (Int × Mm) :=
  (f_X7_in x3 1 300 σ).bind (fun r38 => (if r38 = 0 then some ((-1), σ) else (if (σ.1 0 16) = 0 then some ((-2), σ) else (some (stI (stI (stI (stI (stI σ 0 37 1) 0 38 0) 0 39 0) 0 40 0) 0 41 (-9))).bind (fun σ44 => (some (stI (stI (stI (stI (stI σ44 0 42 (-1)) 0 43 0) 0 44 0) 0 45 0) 0 46 0)).bind (fun σ45 => f_X7_run_82 2000 x1 x3 0 (stI σ45 0 52 0))))))
theorem hd_X7_run : yX7_run.cls = RX7 ∧ yX7_run.cls ≠ "java/lang/invoke/MethodHandle" ∧ yX7_run.cls ≠ "java/lang/invoke/VarHandle" ∧ (parseMethodDescriptor yX7_run.desc).map (fun d => d.parameters.length) = some 2 := by decide +kernel
set_option maxRecDepth 100000 in
set_option maxHeartbeats 4000000 in
theorem c_X7_run {l : Launch} {D : va_G} {ca : Nat → ClassId} {ad : Nat → Nat} {x1 : Int64} {x3 : Int} (hx3 : inR x3) {σ : Mm} : CtI l D vcl ca ad shM NM yX7_run (Cond.code yX7_run cX7_run 7 (some .int) :: tbG) { frames := 4, cells := 0, slots := 0, locals := 97 } [.ref (ad 0), .long x1, .int (oi x3)] σ (f_X7_run x1 x3 σ) := by
  refine ct_I RX7 rfl (by decide) rfl (Nat.le_of_ble_eq_true rfl) (fun p e s m below meth c res X hN hr hlk => ?_)
  show GX7_run p l e s m _ below meth c D ca ad res 0 [(0, .ref (ad 0)), (1, .long x1), (3, .int (oi x3))] [] σ (f_X7_run x1 x3 σ)
  unfold f_X7_run
  refine q_iload_n X dX7_run_0 2 rfl ?_
  refine q_iconst X dX7_run_1 ?_
  refine q_sipush X dX7_run_2 (by decide) ?_
  refine q_callIp X NMok hN Aw_new (c_X7_in hx3 (by decide) (by decide)) (rn_S X (va_cwS 3 X.2.2.2.2.1 (tbG_good _ (tbG_S mw_1008 mw_1009 mw_9 mw_1010)) rfl rfl rfl hd_X7_in ⟨by decide, by decide⟩) rfl rfl (Nat.le_of_ble_eq_true rfl) dX7_run_5) (fun r38 _ h40 => ?_)
  refine q_if_ne X h40 13 dX7_run_8 (by decide) (fun h41 => ?_) (fun h41 => ?_)
  · refine q_iconst X dX7_run_11 ?_
    exact q_iret X (by decide) hr hlk dX7_run_12
  · refine q_aload_n X dX7_run_13 0 rfl ?_
    refine fg_X7_122 X dX7_run_14 (fun h42 => ?_)
    refine q_if_ne X h42 23 dX7_run_17 (by decide) (fun h43 => ?_) (fun h43 => ?_)
    · refine q_bipush X dX7_run_20 (by decide) ?_
      exact q_iret X (by decide) hr hlk dX7_run_22
    · refine q_aload_n X dX7_run_23 0 rfl ?_
      refine q_iconst X dX7_run_24 ?_
      refine fp_X7_126 X (Or.inr rfl) dX7_run_25 ?_
      refine q_aload_n X dX7_run_28 0 rfl ?_
      refine q_iconst X dX7_run_29 ?_
      refine fp_X7_252 X (by decide) dX7_run_30 ?_
      refine q_aload_n X dX7_run_33 0 rfl ?_
      refine q_iconst X dX7_run_34 ?_
      refine fp_X7_327 X (by decide) dX7_run_35 ?_
      refine q_aload_n X dX7_run_38 0 rfl ?_
      refine q_iconst X dX7_run_39 ?_
      refine fp_X7_271 X (by decide) dX7_run_40 ?_
      refine q_aload_n X dX7_run_43 0 rfl ?_
      refine q_bipush X dX7_run_44 (by decide) ?_
      refine fp_X7_255 X (by decide) dX7_run_46 ?_
      refine q_nm (fun σ44 => ?_)
      refine q_aload_n X dX7_run_49 0 rfl ?_
      refine q_iconst X dX7_run_50 ?_
      refine fp_X7_274 X (by decide) dX7_run_51 ?_
      refine q_aload_n X dX7_run_54 0 rfl ?_
      refine q_iconst X dX7_run_55 ?_
      refine fp_X7_321 X (by decide) dX7_run_56 ?_
      refine q_aload_n X dX7_run_59 0 rfl ?_
      refine q_iconst X dX7_run_60 ?_
      refine fp_X7_258 X (by decide) dX7_run_61 ?_
      refine q_aload_n X dX7_run_64 0 rfl ?_
      refine q_iconst X dX7_run_65 ?_
      refine fp_X7_261 X (by decide) dX7_run_66 ?_
      refine q_aload_n X dX7_run_69 0 rfl ?_
      refine q_iconst X dX7_run_70 ?_
      refine fp_X7_286 X (by decide) dX7_run_71 ?_
      refine q_nm (fun σ45 => ?_)
      refine q_aload_n X dX7_run_74 0 rfl ?_
      refine q_iconst X dX7_run_75 ?_
      refine fp_X7_264 X (by decide) dX7_run_76 ?_
      refine q_iconst X dX7_run_79 ?_
      refine q_istore X [(4, .int (oi 0)), (0, .ref (ad 0)), (1, .long x1), (3, .int (oi x3))] dX7_run_80 (by decide) rfl ?_
      refine q_sub [(0, .ref (ad 0)), (1, .long x1), (3, .int (oi x3)), (4, .int (oi 0))] [1, 2, 3, 0] rfl ?_
      exact t_X7_run_82 X hN hr hlk 2000 x1 x3 0 (stI σ45 0 52 0) hx3 (by decide)

/-! SiteObjectsModel.or(I)I -/
abbrev GX7_or (p : Program) (l : Launch) (e : Env) (s : State) (m : MethodId) (args : Array Value) (below : List Frame) (meth : Method) (c : Code) (D : va_G) (ca : Nat → ClassId) (ad : Nat → Nat) (σ : Mm) (res : Int) : Nat → List (Nat × Value) → List Value → Mm → Option (Int) → Prop := G p l e { frames := 0, cells := 0, slots := 0, locals := 0 } s m args below meth c (MQ below (QcI D vcl ca ad shM s.heap.size (res, σ)) args s 0 0 (Aw ad shM.length s.heap.size)) 1 D vcl ca ad shM (Aw ad shM.length s.heap.size) res
def f_X7_or (x0 : Int) (σ : Mm) : Option (Int) :=
  (if 0 ≤ x0 then some x0 else some (-9))
theorem hd_X7_or : yX7_or.cls ≠ "java/lang/invoke/MethodHandle" ∧ yX7_or.cls ≠ "java/lang/invoke/VarHandle" ∧ (parseMethodDescriptor yX7_or.desc).map (fun d => d.parameters.length) = some 1 := by decide +kernel
set_option maxRecDepth 100000 in
set_option maxHeartbeats 4000000 in
theorem c_X7_or {l : Launch} {D : va_G} {ca : Nat → ClassId} {ad : Nat → Nat} {x0 : Int} (hx0 : inR x0) {σ : Mm} : CtI l D vcl ca ad shM NM yX7_or (Cond.code yX7_or cX7_or 1 (some .int) :: tbG) { frames := 0, cells := 0, slots := 0, locals := 0 } [.int (oi x0)] σ ((f_X7_or x0 σ).map (fun r => (r, σ))) := by
  refine ct_Ip RX7 rfl (by decide) rfl (Nat.le_of_ble_eq_true rfl) (fun p e s m below meth c res X hN hr hlk => ?_)
  show GX7_or p l e s m _ below meth c D ca ad σ res 0 [(0, .int (oi x0))] [] σ (f_X7_or x0 σ)
  unfold f_X7_or
  refine q_iload_n X dX7_or_0 0 rfl ?_
  refine q_if_ge X hx0 9 dX7_or_1 (by decide) (fun h1 => ?_) (fun h1 => ?_)
  · refine q_iload_n X dX7_or_9 0 rfl ?_
    exact q_iretp X hx0 hr hlk dX7_or_10
  · refine q_bipush X dX7_or_4 (by decide) ?_
    refine q_goto X 10 dX7_or_6 (by decide) ?_
    exact q_iretp X (by decide) hr hlk dX7_or_10

/-! SiteObjectsModel.ran(I)I -/
abbrev GX7_ran (p : Program) (l : Launch) (e : Env) (s : State) (m : MethodId) (args : Array Value) (below : List Frame) (meth : Method) (c : Code) (D : va_G) (ca : Nat → ClassId) (ad : Nat → Nat) (σ : Mm) (res : Int) : Nat → List (Nat × Value) → List Value → Mm → Option (Int) → Prop := G p l e { frames := 1, cells := 0, slots := 0, locals := 22 } s m args below meth c (MQ below (QcI D vcl ca ad shM s.heap.size (res, σ)) args s 0 0 (Aw ad shM.length s.heap.size)) 2 D vcl ca ad shM (Aw ad shM.length s.heap.size) res
def f_X7_ran (x1 : Int) (σ : Mm) : Option (Int) :=
  (f_X7_in x1 0 8 σ).bind (fun r1 => (if r1 = 0 then some (-1) else (if (σ.1 0 37) = 0 then some (-9) else (if x1 = 0 then some (σ.1 0 38) else (if x1 = 1 then some (σ.1 0 39) else (if x1 = 2 then some (σ.1 0 46) else (if x1 = 3 then some (σ.1 0 44) else (if x1 = 4 then some (σ.1 0 45) else (if x1 = 5 then some (σ.1 0 40) else (if x1 = 6 then some (σ.1 0 41) else (if x1 = 7 then (f_X7_or (σ.1 0 42) σ).bind (fun r23 => some r23) else some (σ.1 0 43))))))))))))
theorem hd_X7_ran : yX7_ran.cls = RX7 ∧ yX7_ran.cls ≠ "java/lang/invoke/MethodHandle" ∧ yX7_ran.cls ≠ "java/lang/invoke/VarHandle" ∧ (parseMethodDescriptor yX7_ran.desc).map (fun d => d.parameters.length) = some 1 := by decide +kernel
set_option maxRecDepth 100000 in
set_option maxHeartbeats 4000000 in
theorem c_X7_ran {l : Launch} {D : va_G} {ca : Nat → ClassId} {ad : Nat → Nat} {x1 : Int} (hx1 : inR x1) {σ : Mm} : CtI l D vcl ca ad shM NM yX7_ran (Cond.code yX7_ran cX7_ran 2 (some .int) :: tbG) { frames := 1, cells := 0, slots := 0, locals := 22 } [.ref (ad 0), .int (oi x1)] σ ((f_X7_ran x1 σ).map (fun r => (r, σ))) := by
  refine ct_Ip RX7 rfl (by decide) rfl (Nat.le_of_ble_eq_true rfl) (fun p e s m below meth c res X hN hr hlk => ?_)
  show GX7_ran p l e s m _ below meth c D ca ad σ res 0 [(0, .ref (ad 0)), (1, .int (oi x1))] [] σ (f_X7_ran x1 σ)
  unfold f_X7_ran
  refine q_iload_n X dX7_ran_0 1 rfl ?_
  refine q_iconst X dX7_ran_1 ?_
  refine q_bipush X dX7_ran_2 (by decide) ?_
  refine q_callIp X NMok hN Aw_new (c_X7_in hx1 (by decide) (by decide)) (rn_S X (va_cwS 3 X.2.2.2.2.1 (tbG_good _ (tbG_S mw_1008 mw_1009 mw_9 mw_1010)) rfl rfl rfl hd_X7_in ⟨by decide, by decide⟩) rfl rfl (Nat.le_of_ble_eq_true rfl) dX7_ran_4) (fun r1 _ h3 => ?_)
  refine q_if_ne X h3 12 dX7_ran_7 (by decide) (fun h4 => ?_) (fun h4 => ?_)
  · refine q_iconst X dX7_ran_10 ?_
    exact q_iretp X (by decide) hr hlk dX7_ran_11
  · refine q_aload_n X dX7_ran_12 0 rfl ?_
    refine fg_X7_126 X dX7_ran_13 (fun h5 => ?_)
    refine q_if_ne X h5 22 dX7_ran_16 (by decide) (fun h6 => ?_) (fun h6 => ?_)
    · refine q_bipush X dX7_ran_19 (by decide) ?_
      exact q_iretp X (by decide) hr hlk dX7_ran_21
    · refine q_iload_n X dX7_ran_22 1 rfl ?_
      refine q_ite (fun h7 => ?_) (fun h7 => ?_)
      · refine q_tswIn X hx1 0 45 68 h7 dX7_ran_23 (by decide) rfl (by decide) ?_
        refine q_aload_n X dX7_ran_68 0 rfl ?_
        refine fg_X7_252 X dX7_ran_69 (fun h8 => ?_)
        exact q_iretp X h8 hr hlk dX7_ran_72
      · refine q_ite (fun h9 => ?_) (fun h9 => ?_)
        · refine q_tswIn X hx1 1 50 73 h9 dX7_ran_23 (by decide) rfl (by decide) ?_
          refine q_aload_n X dX7_ran_73 0 rfl ?_
          refine fg_X7_327 X dX7_ran_74 (fun h10 => ?_)
          exact q_iretp X h10 hr hlk dX7_ran_77
        · refine q_ite (fun h11 => ?_) (fun h11 => ?_)
          · refine q_tswIn X hx1 2 55 78 h11 dX7_ran_23 (by decide) rfl (by decide) ?_
            refine q_aload_n X dX7_ran_78 0 rfl ?_
            refine fg_X7_286 X dX7_ran_79 (fun h12 => ?_)
            exact q_iretp X h12 hr hlk dX7_ran_82
          · refine q_ite (fun h13 => ?_) (fun h13 => ?_)
            · refine q_tswIn X hx1 3 60 83 h13 dX7_ran_23 (by decide) rfl (by decide) ?_
              refine q_aload_n X dX7_ran_83 0 rfl ?_
              refine fg_X7_258 X dX7_ran_84 (fun h14 => ?_)
              exact q_iretp X h14 hr hlk dX7_ran_87
            · refine q_ite (fun h15 => ?_) (fun h15 => ?_)
              · refine q_tswIn X hx1 4 65 88 h15 dX7_ran_23 (by decide) rfl (by decide) ?_
                refine q_aload_n X dX7_ran_88 0 rfl ?_
                refine fg_X7_261 X dX7_ran_89 (fun h16 => ?_)
                exact q_iretp X h16 hr hlk dX7_ran_92
              · refine q_ite (fun h17 => ?_) (fun h17 => ?_)
                · refine q_tswIn X hx1 5 70 93 h17 dX7_ran_23 (by decide) rfl (by decide) ?_
                  refine q_aload_n X dX7_ran_93 0 rfl ?_
                  refine fg_X7_271 X dX7_ran_94 (fun h18 => ?_)
                  exact q_iretp X h18 hr hlk dX7_ran_97
                · refine q_ite (fun h19 => ?_) (fun h19 => ?_)
                  · refine q_tswIn X hx1 6 75 98 h19 dX7_ran_23 (by decide) rfl (by decide) ?_
                    refine q_aload_n X dX7_ran_98 0 rfl ?_
                    refine fg_X7_255 X dX7_ran_99 (fun h20 => ?_)
                    exact q_iretp X h20 hr hlk dX7_ran_102
                  · refine q_ite (fun h21 => ?_) (fun h21 => ?_)
                    · refine q_tswIn X hx1 7 80 103 h21 dX7_ran_23 (by decide) rfl (by decide) ?_
                      refine q_aload_n X dX7_ran_103 0 rfl ?_
                      refine fg_X7_274 X dX7_ran_104 (fun h22 => ?_)
                      refine q_callIp X NMok hN Aw_new (c_X7_or h22) (rn_S X (va_cwS 1 X.2.2.2.2.1 (tbG_good _ (tbG_S mw_1216 mw_1217 mw_9 mw_1218)) rfl rfl rfl hd_X7_or ⟨by decide, by decide⟩) rfl rfl (Nat.le_of_ble_eq_true rfl) dX7_ran_107) (fun r23 _ h25 => ?_)
                      exact q_iretp X h25 hr hlk dX7_ran_110
                    · refine q_tswOut X hx1 111 (by omega) dX7_ran_23 (by decide) ?_
                      refine q_aload_n X dX7_ran_111 0 rfl ?_
                      refine fg_X7_321 X dX7_ran_112 (fun h26 => ?_)
                      exact q_iretp X h26 hr hlk dX7_ran_115

/-! SiteObjectsModel.object(II)I -/
abbrev GX7_object (p : Program) (l : Launch) (e : Env) (s : State) (m : MethodId) (args : Array Value) (below : List Frame) (meth : Method) (c : Code) (D : va_G) (ca : Nat → ClassId) (ad : Nat → Nat) (σ : Mm) (res : Int) : Nat → List (Nat × Value) → List Value → Mm → Option (Int) → Prop := G p l e { frames := 1, cells := 0, slots := 0, locals := 22 } s m args below meth c (MQ below (QcI D vcl ca ad shM s.heap.size (res, σ)) args s 0 0 (Aw ad shM.length s.heap.size)) 6 D vcl ca ad shM (Aw ad shM.length s.heap.size) res
def f_X7_object_72 (x1 : Int) (x3 : Int) (x4 : Int) (s0 : Int) (σ : Mm) : Option (Int) :=
  (if x4 = x3 then ck ((0 : Int) ≤ ((5 * x1) + s0) ∧ ((5 * x1) + s0) < ((1500 : Nat) : Int)) ((f_X7_or (σ.1 24 (Int.toNat ((5 * x1) + s0))) σ).bind (fun r3 => some r3)) else some (-9))
set_option maxRecDepth 100000 in
set_option maxHeartbeats 4000000 in
theorem t_X7_object_72 {p : Program} {l : Launch} {e : Env} {s : State} {m : MethodId} {args : Array Value} {below : List Frame} {meth : Method} {c : Code} {D : va_G} {ca : Nat → ClassId} {ad : Nat → Nat} {σ : Mm} {res : Int} (X : Cx p s m args c cX7_object 6 RX7 (Cond.code yX7_object cX7_object 6 (some .int) :: tbG) D vcl ca) (hN : NM s) (hr : meth.sig.returnType = (some .int)) (hlk : meth.locks = false) : ∀ (x1 : Int) (x3 : Int) (x4 : Int) (s0 : Int), inR x1 → inR x3 → inR x4 → inR s0 → GX7_object p l e s m args below meth c D ca ad σ res 72 [(0, .ref (ad 0)), (1, .int (oi x1)), (3, .int (oi x3)), (4, .int (oi x4))] [.int (oi s0)] σ (f_X7_object_72 x1 x3 x4 s0 σ) := by
  intro x1 x3 x4 s0 hx1 hx3 hx4 hs0
  unfold f_X7_object_72
  refine q_istore X [(5, .int (oi s0)), (0, .ref (ad 0)), (1, .int (oi x1)), (3, .int (oi x3)), (4, .int (oi x4))] dX7_object_72 (by decide) rfl ?_
  refine q_iload X dX7_object_74 4 rfl ?_
  refine q_iload_n X dX7_object_76 3 rfl ?_
  refine q_icmp_eq X hx4 hx3 85 dX7_object_77 (by decide) (fun h1 => ?_) (fun h1 => ?_)
  · refine q_aload_n X dX7_object_85 1 rfl ?_
    refine fg_X7_84 X dX7_object_86 ?_
    refine q_iconst X dX7_object_89 ?_
    refine q_iload_n X dX7_object_90 2 rfl ?_
    refine q_imul X dX7_object_91 ?_
    refine q_iload X dX7_object_92 0 rfl ?_
    refine q_iadd X dX7_object_94 ?_
    refine q_iald X hM24 (by decide) dX7_object_95 (fun h2 => ?_)
    refine q_callIp X NMok hN Aw_new (c_X7_or h2) (rn_S X (va_cwS 1 X.2.2.2.2.1 (tbG_good _ (tbG_S mw_1216 mw_1217 mw_9 mw_1218)) rfl rfl rfl hd_X7_or ⟨by decide, by decide⟩) rfl rfl (Nat.le_of_ble_eq_true rfl) dX7_object_96) (fun r3 _ h5 => ?_)
    exact q_iretp X h5 hr hlk dX7_object_99
  · refine q_bipush X dX7_object_80 (by decide) ?_
    refine q_goto X 99 dX7_object_82 (by decide) ?_
    exact q_iretp X (by decide) hr hlk dX7_object_99
def f_X7_object (x1 : Int) (x2 : Int) (σ : Mm) : Option (Int) :=
  (if (σ.1 0 37) = 0 then some (-1) else ck (inR ((σ.1 0 46) - 1)) ((f_X7_in x1 0 ((σ.1 0 46) - 1) σ).bind (fun r10 => (if r10 = 0 then some (-1) else (f_X7_in x2 0 12 σ).bind (fun r14 => (if r14 = 0 then some (-1) else (f_X7_isRowNow x1 σ).bind (fun r18 => (if x2 ≤ 3 then (if x2 = 0 then ck ((0 : Int) ≤ x1 ∧ x1 < ((300 : Nat) : Int)) (some (σ.1 21 (Int.toNat x1))) else (if x2 = 1 then ck ((0 : Int) ≤ x1 ∧ x1 < ((300 : Nat) : Int)) (some (σ.1 22 (Int.toNat x1))) else (if x2 = 2 then ck ((0 : Int) ≤ x1 ∧ x1 < ((300 : Nat) : Int)) (some (σ.1 23 (Int.toNat x1))) else ck ((0 : Int) ≤ x1 ∧ x1 < ((300 : Nat) : Int)) (some (σ.1 29 (Int.toNat x1)))))) else (if x2 ≤ 7 then (if (0 : Int) = 0 then ck (inR (x2 - 4)) (f_X7_object_72 x1 r18 0 (x2 - 4) σ) else ck (inR (x2 - 8)) (f_X7_object_72 x1 r18 0 (x2 - 8) σ)) else (if (1 : Int) = 0 then ck (inR (x2 - 4)) (f_X7_object_72 x1 r18 1 (x2 - 4) σ) else ck (inR (x2 - 8)) (f_X7_object_72 x1 r18 1 (x2 - 8) σ)))))))))))
theorem hd_X7_object : yX7_object.cls = RX7 ∧ yX7_object.cls ≠ "java/lang/invoke/MethodHandle" ∧ yX7_object.cls ≠ "java/lang/invoke/VarHandle" ∧ (parseMethodDescriptor yX7_object.desc).map (fun d => d.parameters.length) = some 2 := by decide +kernel
set_option maxRecDepth 100000 in
set_option maxHeartbeats 4000000 in
theorem c_X7_object {l : Launch} {D : va_G} {ca : Nat → ClassId} {ad : Nat → Nat} {x1 : Int} {x2 : Int} (hx1 : inR x1) (hx2 : inR x2) {σ : Mm} : CtI l D vcl ca ad shM NM yX7_object (Cond.code yX7_object cX7_object 6 (some .int) :: tbG) { frames := 1, cells := 0, slots := 0, locals := 22 } [.ref (ad 0), .int (oi x1), .int (oi x2)] σ ((f_X7_object x1 x2 σ).map (fun r => (r, σ))) := by
  refine ct_Ip RX7 rfl (by decide) rfl (Nat.le_of_ble_eq_true rfl) (fun p e s m below meth c res X hN hr hlk => ?_)
  show GX7_object p l e s m _ below meth c D ca ad σ res 0 [(0, .ref (ad 0)), (1, .int (oi x1)), (2, .int (oi x2))] [] σ (f_X7_object x1 x2 σ)
  unfold f_X7_object
  refine q_aload_n X dX7_object_0 0 rfl ?_
  refine fg_X7_126 X dX7_object_1 (fun h6 => ?_)
  refine q_if_eq X h6 31 dX7_object_4 (by decide) (fun h7 => ?_) (fun h7 => ?_)
  · refine q_iconst X dX7_object_31 ?_
    exact q_iretp X (by decide) hr hlk dX7_object_32
  · refine q_iload_n X dX7_object_7 1 rfl ?_
    refine q_iconst X dX7_object_8 ?_
    refine q_aload_n X dX7_object_9 0 rfl ?_
    refine fg_X7_286 X dX7_object_10 (fun h8 => ?_)
    refine q_iconst X dX7_object_13 ?_
    refine q_isub X dX7_object_14 ?_
    refine q_ck (fun h9 => ?_)
    refine q_callIp X NMok hN Aw_new (c_X7_in hx1 (by decide) h9) (rn_S X (va_cwS 3 X.2.2.2.2.1 (tbG_good _ (tbG_S mw_1008 mw_1009 mw_9 mw_1010)) rfl rfl rfl hd_X7_in ⟨by decide, by decide⟩) rfl rfl (Nat.le_of_ble_eq_true rfl) dX7_object_15) (fun r10 _ h12 => ?_)
    refine q_if_eq X h12 31 dX7_object_18 (by decide) (fun h13 => ?_) (fun h13 => ?_)
    · refine q_iconst X dX7_object_31 ?_
      exact q_iretp X (by decide) hr hlk dX7_object_32
    · refine q_iload_n X dX7_object_21 2 rfl ?_
      refine q_iconst X dX7_object_22 ?_
      refine q_bipush X dX7_object_23 (by decide) ?_
      refine q_callIp X NMok hN Aw_new (c_X7_in hx2 (by decide) (by decide)) (rn_S X (va_cwS 3 X.2.2.2.2.1 (tbG_good _ (tbG_S mw_1008 mw_1009 mw_9 mw_1010)) rfl rfl rfl hd_X7_in ⟨by decide, by decide⟩) rfl rfl (Nat.le_of_ble_eq_true rfl) dX7_object_25) (fun r14 _ h16 => ?_)
      refine q_if_ne X h16 33 dX7_object_28 (by decide) (fun h17 => ?_) (fun h17 => ?_)
      · refine q_iconst X dX7_object_31 ?_
        exact q_iretp X (by decide) hr hlk dX7_object_32
      · refine q_aload_n X dX7_object_33 0 rfl ?_
        refine q_iload_n X dX7_object_34 1 rfl ?_
        refine q_callIp X NMok hN Aw_new (c_X7_isRowNow hx1) (rn_V X (cwV 1 X.2.2.2.2.1 (tbG_good _ (tbG_V mw_1188 mw_1190 mp_6_3 mw_9 mw_1191)) rfl rfl rfl hd_X7_isRowNow ⟨by decide, by decide⟩) hM0 rfl rfl rfl (Nat.le_of_ble_eq_true rfl) dX7_object_35) (fun r18 _ h20 => ?_)
        refine q_istore_n X [(3, .int (oi r18)), (0, .ref (ad 0)), (1, .int (oi x1)), (2, .int (oi x2))] dX7_object_38 (by decide) rfl ?_
        refine q_iload_n X dX7_object_39 3 rfl ?_
        refine q_iconst X dX7_object_40 ?_
        refine q_icmp_le X hx2 (by decide) 100 dX7_object_41 (by decide) (fun h21 => ?_) (fun h21 => ?_)
        · refine q_iload_n X dX7_object_100 3 rfl ?_
          refine q_if_ne X hx2 113 dX7_object_101 (by decide) (fun h22 => ?_) (fun h22 => ?_)
          · refine q_aload_n X dX7_object_104 1 rfl ?_
            refine fg_X7_75 X dX7_object_105 ?_
            refine q_iload_n X dX7_object_108 2 rfl ?_
            refine q_iald X hM21 (by decide) dX7_object_109 (fun h23 => ?_)
            refine q_goto X 147 dX7_object_110 (by decide) ?_
            exact q_iretp X h23 hr hlk dX7_object_147
          · refine q_iload_n X dX7_object_113 3 rfl ?_
            refine q_iconst X dX7_object_114 ?_
            refine q_icmp_ne X hx2 (by decide) 127 dX7_object_115 (by decide) (fun h24 => ?_) (fun h24 => ?_)
            · refine q_aload_n X dX7_object_118 1 rfl ?_
              refine fg_X7_78 X dX7_object_119 ?_
              refine q_iload_n X dX7_object_122 2 rfl ?_
              refine q_iald X hM22 (by decide) dX7_object_123 (fun h25 => ?_)
              refine q_goto X 147 dX7_object_124 (by decide) ?_
              exact q_iretp X h25 hr hlk dX7_object_147
            · refine q_iload_n X dX7_object_127 3 rfl ?_
              refine q_iconst X dX7_object_128 ?_
              refine q_icmp_ne X hx2 (by decide) 141 dX7_object_129 (by decide) (fun h26 => ?_) (fun h26 => ?_)
              · refine q_aload_n X dX7_object_132 1 rfl ?_
                refine fg_X7_81 X dX7_object_133 ?_
                refine q_iload_n X dX7_object_136 2 rfl ?_
                refine q_iald X hM23 (by decide) dX7_object_137 (fun h27 => ?_)
                refine q_goto X 147 dX7_object_138 (by decide) ?_
                exact q_iretp X h27 hr hlk dX7_object_147
              · refine q_aload_n X dX7_object_141 1 rfl ?_
                refine fg_X7_99 X dX7_object_142 ?_
                refine q_iload_n X dX7_object_145 2 rfl ?_
                refine q_iald X hM29 (by decide) dX7_object_146 (fun h28 => ?_)
                exact q_iretp X h28 hr hlk dX7_object_147
        · refine q_iload_n X dX7_object_44 3 rfl ?_
          refine q_bipush X dX7_object_45 (by decide) ?_
          refine q_icmp_le X hx2 (by decide) 54 dX7_object_47 (by decide) (fun h29 => ?_) (fun h29 => ?_)
          · refine q_iconst X dX7_object_54 ?_
            refine q_istore X [(4, .int (oi 0)), (3, .int (oi r18)), (0, .ref (ad 0)), (1, .int (oi x1)), (2, .int (oi x2))] dX7_object_55 (by decide) rfl ?_
            refine q_iload X dX7_object_57 0 rfl ?_
            refine q_if_eq X (by decide) 69 dX7_object_59 (by decide) (fun h30 => ?_) (fun h30 => ?_)
            · refine q_iload_n X dX7_object_69 4 rfl ?_
              refine q_iconst X dX7_object_70 ?_
              refine q_isub X dX7_object_71 ?_
              refine q_ck (fun h31 => ?_)
              refine q_sub [(0, .ref (ad 0)), (1, .int (oi x1)), (3, .int (oi r18)), (4, .int (oi 0))] [2, 3, 1, 0] rfl ?_
              exact t_X7_object_72 X hN hr hlk x1 r18 0 (x2 - 4) hx1 h20 (by decide) h31
            · refine q_iload_n X dX7_object_62 4 rfl ?_
              refine q_bipush X dX7_object_63 (by decide) ?_
              refine q_isub X dX7_object_65 ?_
              refine q_goto X 72 dX7_object_66 (by decide) ?_
              refine q_ck (fun h32 => ?_)
              refine q_sub [(0, .ref (ad 0)), (1, .int (oi x1)), (3, .int (oi r18)), (4, .int (oi 0))] [2, 3, 1, 0] rfl ?_
              exact t_X7_object_72 X hN hr hlk x1 r18 0 (x2 - 8) hx1 h20 (by decide) h32
          · refine q_iconst X dX7_object_50 ?_
            refine q_goto X 55 dX7_object_51 (by decide) ?_
            refine q_istore X [(4, .int (oi 1)), (3, .int (oi r18)), (0, .ref (ad 0)), (1, .int (oi x1)), (2, .int (oi x2))] dX7_object_55 (by decide) rfl ?_
            refine q_iload X dX7_object_57 0 rfl ?_
            refine q_if_eq X (by decide) 69 dX7_object_59 (by decide) (fun h33 => ?_) (fun h33 => ?_)
            · refine q_iload_n X dX7_object_69 4 rfl ?_
              refine q_iconst X dX7_object_70 ?_
              refine q_isub X dX7_object_71 ?_
              refine q_ck (fun h34 => ?_)
              refine q_sub [(0, .ref (ad 0)), (1, .int (oi x1)), (3, .int (oi r18)), (4, .int (oi 1))] [2, 3, 1, 0] rfl ?_
              exact t_X7_object_72 X hN hr hlk x1 r18 1 (x2 - 4) hx1 h20 (by decide) h34
            · refine q_iload_n X dX7_object_62 4 rfl ?_
              refine q_bipush X dX7_object_63 (by decide) ?_
              refine q_isub X dX7_object_65 ?_
              refine q_goto X 72 dX7_object_66 (by decide) ?_
              refine q_ck (fun h35 => ?_)
              refine q_sub [(0, .ref (ad 0)), (1, .int (oi x1)), (3, .int (oi r18)), (4, .int (oi 1))] [2, 3, 1, 0] rfl ?_
              exact t_X7_object_72 X hN hr hlk x1 r18 1 (x2 - 8) hx1 h20 (by decide) h35

/-! SiteObjectsModel.many(I)I -/
abbrev GX7_many (p : Program) (l : Launch) (e : Env) (s : State) (m : MethodId) (args : Array Value) (below : List Frame) (meth : Method) (c : Code) (D : va_G) (ca : Nat → ClassId) (ad : Nat → Nat) (σ : Mm) (res : Int) : Nat → List (Nat × Value) → List Value → Mm → Option (Int) → Prop := G p l e { frames := 1, cells := 0, slots := 0, locals := 22 } s m args below meth c (MQ below (QcI D vcl ca ad shM s.heap.size (res, σ)) args s 0 0 (Aw ad shM.length s.heap.size)) 4 D vcl ca ad shM (Aw ad shM.length s.heap.size) res
def f_X7_many_40 : Nat → Int → Int → Int → Mm → Option (Int)
  | 0, _, _, _, _ => none
  | n + 1, x1, x2, x3, σ => (if (σ.1 0 46) ≤ x3 then some x2 else ck ((0 : Int) ≤ x3 ∧ x3 < ((300 : Nat) : Int)) ((if (σ.1 22 (Int.toNat x3)) = x1 then ck (inR (x2 + 1)) (ck (inR (x3 + 1)) (f_X7_many_40 n x1 (x2 + 1) (x3 + 1) σ)) else ck (inR (x2 + 0)) (ck (inR (x3 + 1)) (f_X7_many_40 n x1 (x2 + 0) (x3 + 1) σ)))))
set_option maxRecDepth 100000 in
set_option maxHeartbeats 4000000 in
theorem t_X7_many_40 {p : Program} {l : Launch} {e : Env} {s : State} {m : MethodId} {args : Array Value} {below : List Frame} {meth : Method} {c : Code} {D : va_G} {ca : Nat → ClassId} {ad : Nat → Nat} {σ : Mm} {res : Int} (X : Cx p s m args c cX7_many 4 RX7 (Cond.code yX7_many cX7_many 4 (some .int) :: tbG) D vcl ca) (hN : NM s) (hr : meth.sig.returnType = (some .int)) (hlk : meth.locks = false) : ∀ (n : Nat) (x1 : Int) (x2 : Int) (x3 : Int), inR x1 → inR x2 → inR x3 → GX7_many p l e s m args below meth c D ca ad σ res 40 [(0, .ref (ad 0)), (1, .int (oi x1)), (2, .int (oi x2)), (3, .int (oi x3))] [] σ (f_X7_many_40 n x1 x2 x3 σ)
  := by
  intro n
  induction n with
  | zero => intro x1 x2 x3 hx1 hx2 hx3 h; cases h
  | succ n ih =>
    intro x1 x2 x3 hx1 hx2 hx3
    rw [f_X7_many_40]
    refine q_iload_n X dX7_many_40 3 rfl ?_
    refine q_aload_n X dX7_many_41 0 rfl ?_
    refine fg_X7_286 X dX7_many_42 (fun h1 => ?_)
    refine q_icmp_ge X hx3 h1 72 dX7_many_45 (by decide) (fun h2 => ?_) (fun h2 => ?_)
    · refine q_iload_n X dX7_many_72 2 rfl ?_
      exact q_iretp X hx2 hr hlk dX7_many_73
    · refine q_iload_n X dX7_many_48 2 rfl ?_
      refine q_aload_n X dX7_many_49 0 rfl ?_
      refine fg_X7_78 X dX7_many_50 ?_
      refine q_iload_n X dX7_many_53 3 rfl ?_
      refine q_iald X hM22 (by decide) dX7_many_54 (fun h3 => ?_)
      refine q_iload_n X dX7_many_55 1 rfl ?_
      refine q_icmp_ne X h3 hx1 63 dX7_many_56 (by decide) (fun h4 => ?_) (fun h4 => ?_)
      · refine q_iconst X dX7_many_59 ?_
        refine q_goto X 64 dX7_many_60 (by decide) ?_
        refine q_iadd X dX7_many_64 ?_
        refine q_ck (fun h5 => ?_)
        refine q_istore_n X [(2, .int (oi (x2 + 1))), (0, .ref (ad 0)), (1, .int (oi x1)), (3, .int (oi x3))] dX7_many_65 (by decide) rfl ?_
        refine q_iinc X [(3, .int (oi (x3 + 1))), (2, .int (oi (x2 + 1))), (0, .ref (ad 0)), (1, .int (oi x1))] dX7_many_66 (by decide) 3 rfl rfl (fun h6 => ?_)
        refine q_goto X 40 dX7_many_69 (by decide) ?_
        refine q_sub [(0, .ref (ad 0)), (1, .int (oi x1)), (2, .int (oi (x2 + 1))), (3, .int (oi (x3 + 1)))] [2, 3, 1, 0] rfl ?_
        exact ih x1 (x2 + 1) (x3 + 1) hx1 h5 h6
      · refine q_iconst X dX7_many_63 ?_
        refine q_iadd X dX7_many_64 ?_
        refine q_ck (fun h7 => ?_)
        refine q_istore_n X [(2, .int (oi (x2 + 0))), (0, .ref (ad 0)), (1, .int (oi x1)), (3, .int (oi x3))] dX7_many_65 (by decide) rfl ?_
        refine q_iinc X [(3, .int (oi (x3 + 1))), (2, .int (oi (x2 + 0))), (0, .ref (ad 0)), (1, .int (oi x1))] dX7_many_66 (by decide) 3 rfl rfl (fun h8 => ?_)
        refine q_goto X 40 dX7_many_69 (by decide) ?_
        refine q_sub [(0, .ref (ad 0)), (1, .int (oi x1)), (2, .int (oi (x2 + 0))), (3, .int (oi (x3 + 1)))] [2, 3, 1, 0] rfl ?_
        exact ih x1 (x2 + 0) (x3 + 1) hx1 h7 h8
def f_X7_many (x1 : Int) (σ : Mm) : Option (Int) :=
  (if (σ.1 0 16) = 0 then some (-2) else ck (inR ((σ.1 0 29) - 1)) ((f_X7_in x1 0 ((σ.1 0 29) - 1) σ).bind (fun r13 => (if r13 = 0 then some (-1) else (if (σ.1 0 37) = 0 then some (-9) else f_X7_many_40 2000 x1 0 0 σ)))))
theorem hd_X7_many : yX7_many.cls = RX7 ∧ yX7_many.cls ≠ "java/lang/invoke/MethodHandle" ∧ yX7_many.cls ≠ "java/lang/invoke/VarHandle" ∧ (parseMethodDescriptor yX7_many.desc).map (fun d => d.parameters.length) = some 1 := by decide +kernel
set_option maxRecDepth 100000 in
set_option maxHeartbeats 4000000 in
theorem c_X7_many {l : Launch} {D : va_G} {ca : Nat → ClassId} {ad : Nat → Nat} {x1 : Int} (hx1 : inR x1) {σ : Mm} : CtI l D vcl ca ad shM NM yX7_many (Cond.code yX7_many cX7_many 4 (some .int) :: tbG) { frames := 1, cells := 0, slots := 0, locals := 22 } [.ref (ad 0), .int (oi x1)] σ ((f_X7_many x1 σ).map (fun r => (r, σ))) := by
  refine ct_Ip RX7 rfl (by decide) rfl (Nat.le_of_ble_eq_true rfl) (fun p e s m below meth c res X hN hr hlk => ?_)
  show GX7_many p l e s m _ below meth c D ca ad σ res 0 [(0, .ref (ad 0)), (1, .int (oi x1))] [] σ (f_X7_many x1 σ)
  unfold f_X7_many
  refine q_aload_n X dX7_many_0 0 rfl ?_
  refine fg_X7_122 X dX7_many_1 (fun h9 => ?_)
  refine q_if_ne X h9 10 dX7_many_4 (by decide) (fun h10 => ?_) (fun h10 => ?_)
  · refine q_bipush X dX7_many_7 (by decide) ?_
    exact q_iretp X (by decide) hr hlk dX7_many_9
  · refine q_iload_n X dX7_many_10 1 rfl ?_
    refine q_iconst X dX7_many_11 ?_
    refine q_aload_n X dX7_many_12 0 rfl ?_
    refine fg_X7_167 X dX7_many_13 (fun h11 => ?_)
    refine q_iconst X dX7_many_16 ?_
    refine q_isub X dX7_many_17 ?_
    refine q_ck (fun h12 => ?_)
    refine q_callIp X NMok hN Aw_new (c_X7_in hx1 (by decide) h12) (rn_S X (va_cwS 3 X.2.2.2.2.1 (tbG_good _ (tbG_S mw_1008 mw_1009 mw_9 mw_1010)) rfl rfl rfl hd_X7_in ⟨by decide, by decide⟩) rfl rfl (Nat.le_of_ble_eq_true rfl) dX7_many_18) (fun r13 _ h15 => ?_)
    refine q_if_ne X h15 26 dX7_many_21 (by decide) (fun h16 => ?_) (fun h16 => ?_)
    · refine q_iconst X dX7_many_24 ?_
      exact q_iretp X (by decide) hr hlk dX7_many_25
    · refine q_aload_n X dX7_many_26 0 rfl ?_
      refine fg_X7_126 X dX7_many_27 (fun h17 => ?_)
      refine q_if_ne X h17 36 dX7_many_30 (by decide) (fun h18 => ?_) (fun h18 => ?_)
      · refine q_bipush X dX7_many_33 (by decide) ?_
        exact q_iretp X (by decide) hr hlk dX7_many_35
      · refine q_iconst X dX7_many_36 ?_
        refine q_istore_n X [(2, .int (oi 0)), (0, .ref (ad 0)), (1, .int (oi x1))] dX7_many_37 (by decide) rfl ?_
        refine q_iconst X dX7_many_38 ?_
        refine q_istore_n X [(3, .int (oi 0)), (2, .int (oi 0)), (0, .ref (ad 0)), (1, .int (oi x1))] dX7_many_39 (by decide) rfl ?_
        refine q_sub [(0, .ref (ad 0)), (1, .int (oi x1)), (2, .int (oi 0)), (3, .int (oi 0))] [2, 3, 1, 0] rfl ?_
        exact t_X7_many_40 X hN hr hlk 2000 x1 0 0 hx1 (by decide) (by decide)

/-! SiteObjectsModel.count(I)I -/
abbrev GX7_count (p : Program) (l : Launch) (e : Env) (s : State) (m : MethodId) (args : Array Value) (below : List Frame) (meth : Method) (c : Code) (D : va_G) (ca : Nat → ClassId) (ad : Nat → Nat) (σ : Mm) (res : Int) : Nat → List (Nat × Value) → List Value → Mm → Option (Int) → Prop := G p l e { frames := 0, cells := 0, slots := 0, locals := 0 } s m args below meth c (MQ below (QcI D vcl ca ad shM s.heap.size (res, σ)) args s 0 0 (Aw ad shM.length s.heap.size)) 2 D vcl ca ad shM (Aw ad shM.length s.heap.size) res
def f_X7_count (x1 : Int) (σ : Mm) : Option (Int) :=
  (if x1 = 0 then some (σ.1 0 0) else (if x1 = 1 then some (σ.1 0 2) else (if x1 = 2 then some (σ.1 0 7) else (if x1 = 3 then (if (σ.1 0 16) = 0 then some 0 else some (σ.1 0 24)) else (if x1 = 4 then (if (σ.1 0 16) = 0 then some 0 else some (σ.1 0 29)) else (if x1 = 5 then some (σ.1 0 21) else (if x1 = 6 then (if (σ.1 0 16) = 0 then some 0 else some 1) else some (-1))))))))
theorem hd_X7_count : yX7_count.cls = RX7 ∧ yX7_count.cls ≠ "java/lang/invoke/MethodHandle" ∧ yX7_count.cls ≠ "java/lang/invoke/VarHandle" ∧ (parseMethodDescriptor yX7_count.desc).map (fun d => d.parameters.length) = some 1 := by decide +kernel
set_option maxRecDepth 100000 in
set_option maxHeartbeats 4000000 in
theorem c_X7_count {l : Launch} {D : va_G} {ca : Nat → ClassId} {ad : Nat → Nat} {x1 : Int} (hx1 : inR x1) {σ : Mm} : CtI l D vcl ca ad shM NM yX7_count (Cond.code yX7_count cX7_count 2 (some .int) :: tbG) { frames := 0, cells := 0, slots := 0, locals := 0 } [.ref (ad 0), .int (oi x1)] σ ((f_X7_count x1 σ).map (fun r => (r, σ))) := by
  refine ct_Ip RX7 rfl (by decide) rfl (Nat.le_of_ble_eq_true rfl) (fun p e s m below meth c res X hN hr hlk => ?_)
  show GX7_count p l e s m _ below meth c D ca ad σ res 0 [(0, .ref (ad 0)), (1, .int (oi x1))] [] σ (f_X7_count x1 σ)
  unfold f_X7_count
  refine q_iload_n X dX7_count_0 1 rfl ?_
  refine q_ite (fun h1 => ?_) (fun h1 => ?_)
  · refine q_tswIn X hx1 0 43 44 h1 dX7_count_1 (by decide) rfl (by decide) ?_
    refine q_aload_n X dX7_count_44 0 rfl ?_
    refine fg_X7_7 X dX7_count_45 (fun h2 => ?_)
    exact q_iretp X h2 hr hlk dX7_count_48
  · refine q_ite (fun h3 => ?_) (fun h3 => ?_)
    · refine q_tswIn X hx1 1 48 49 h3 dX7_count_1 (by decide) rfl (by decide) ?_
      refine q_aload_n X dX7_count_49 0 rfl ?_
      refine fg_X7_115 X dX7_count_50 (fun h4 => ?_)
      exact q_iretp X h4 hr hlk dX7_count_53
    · refine q_ite (fun h5 => ?_) (fun h5 => ?_)
      · refine q_tswIn X hx1 2 53 54 h5 dX7_count_1 (by decide) rfl (by decide) ?_
        refine q_aload_n X dX7_count_54 0 rfl ?_
        refine fg_X7_139 X dX7_count_55 (fun h6 => ?_)
        exact q_iretp X h6 hr hlk dX7_count_58
      · refine q_ite (fun h7 => ?_) (fun h7 => ?_)
        · refine q_tswIn X hx1 3 58 59 h7 dX7_count_1 (by decide) rfl (by decide) ?_
          refine q_aload_n X dX7_count_59 0 rfl ?_
          refine fg_X7_122 X dX7_count_60 (fun h8 => ?_)
          refine q_if_eq X h8 73 dX7_count_63 (by decide) (fun h9 => ?_) (fun h9 => ?_)
          · refine q_iconst X dX7_count_73 ?_
            exact q_iretp X (by decide) hr hlk dX7_count_74
          · refine q_aload_n X dX7_count_66 0 rfl ?_
            refine fg_X7_108 X dX7_count_67 (fun h10 => ?_)
            refine q_goto X 74 dX7_count_70 (by decide) ?_
            exact q_iretp X h10 hr hlk dX7_count_74
        · refine q_ite (fun h11 => ?_) (fun h11 => ?_)
          · refine q_tswIn X hx1 4 74 75 h11 dX7_count_1 (by decide) rfl (by decide) ?_
            refine q_aload_n X dX7_count_75 0 rfl ?_
            refine fg_X7_122 X dX7_count_76 (fun h12 => ?_)
            refine q_if_eq X h12 89 dX7_count_79 (by decide) (fun h13 => ?_) (fun h13 => ?_)
            · refine q_iconst X dX7_count_89 ?_
              exact q_iretp X (by decide) hr hlk dX7_count_90
            · refine q_aload_n X dX7_count_82 0 rfl ?_
              refine fg_X7_167 X dX7_count_83 (fun h14 => ?_)
              refine q_goto X 90 dX7_count_86 (by decide) ?_
              exact q_iretp X h14 hr hlk dX7_count_90
          · refine q_ite (fun h15 => ?_) (fun h15 => ?_)
            · refine q_tswIn X hx1 5 90 91 h15 dX7_count_1 (by decide) rfl (by decide) ?_
              refine q_aload_n X dX7_count_91 0 rfl ?_
              refine fg_X7_219 X dX7_count_92 (fun h16 => ?_)
              exact q_iretp X h16 hr hlk dX7_count_95
            · refine q_ite (fun h17 => ?_) (fun h17 => ?_)
              · refine q_tswIn X hx1 6 95 96 h17 dX7_count_1 (by decide) rfl (by decide) ?_
                refine q_aload_n X dX7_count_96 0 rfl ?_
                refine fg_X7_122 X dX7_count_97 (fun h18 => ?_)
                refine q_if_eq X h18 107 dX7_count_100 (by decide) (fun h19 => ?_) (fun h19 => ?_)
                · refine q_iconst X dX7_count_107 ?_
                  exact q_iretp X (by decide) hr hlk dX7_count_108
                · refine q_iconst X dX7_count_103 ?_
                  refine q_goto X 108 dX7_count_104 (by decide) ?_
                  exact q_iretp X (by decide) hr hlk dX7_count_108
              · refine q_tswOut X hx1 109 (by omega) dX7_count_1 (by decide) ?_
                refine q_iconst X dX7_count_109 ?_
                exact q_iretp X (by decide) hr hlk dX7_count_110

/-! SiteObjectsModel.bySteps([J)V -/
abbrev GX7_bySteps (p : Program) (l : Launch) (e : Env) (s : State) (m : MethodId) (args : Array Value) (below : List Frame) (meth : Method) (c : Code) (D : va_G) (ca : Nat → ClassId) (ad : Nat → Nat) (res : Mm) : Nat → List (Nat × Value) → List Value → Mm → Option (Mm) → Prop := G p l e { frames := 0, cells := 0, slots := 0, locals := 0 } s m args below meth c (MQ below (QcV D vcl ca ad shM s.heap.size res) args s 0 0 (Aw ad shM.length s.heap.size)) 5 D vcl ca ad shM (Aw ad shM.length s.heap.size) res
def f_X7_bySteps_40 (nq1 : Nat) (q1 : Nat) (k31 : Int → Int → Mm → Option (Mm)) : Nat → Int → Int → Int → Mm → Option (Mm)
  | 0, _, _, _, _ => none
  | n + 1, x2, x3, x4, σ => (if (σ.1 0 29) ≤ x4 then ck (inR (x3 + 1)) (k31 x2 (x3 + 1) σ) else ck ((0 : Int) ≤ ((8 * x2) + x3) ∧ ((8 * x2) + x3) < ((640 : Nat) : Int)) ((if ((lShr (σ.2 16 (Int.toNat ((8 * x2) + x3))) x4) &&& 1) = 1 then ck ((0 : Int) ≤ x2 ∧ x2 < ((80 : Nat) : Int)) (ck ((0 : Int) ≤ x4 ∧ x4 < ((60 : Nat) : Int)) (ck ((0 : Int) ≤ (((12 * (σ.1 13 (Int.toNat x2))) + (2 * x3)) + (iDiv (σ.1 17 (Int.toNat x4)) 60)) ∧ (((12 * (σ.1 13 (Int.toNat x2))) + (2 * x3)) + (iDiv (σ.1 17 (Int.toNat x4)) 60)) < ((nq1 : Nat) : Int)) (ck ((0 : Int) ≤ x4 ∧ x4 < ((60 : Nat) : Int)) (ck ((0 : Int) ≤ (((12 * (σ.1 13 (Int.toNat x2))) + (2 * x3)) + (iDiv (σ.1 17 (Int.toNat x4)) 60)) ∧ (((12 * (σ.1 13 (Int.toNat x2))) + (2 * x3)) + (iDiv (σ.1 17 (Int.toNat x4)) 60)) < ((nq1 : Nat) : Int)) ((some (stL σ q1 (Int.toNat (((12 * (σ.1 13 (Int.toNat x2))) + (2 * x3)) + (iDiv (σ.1 17 (Int.toNat x4)) 60))) ((σ.2 q1 (Int.toNat (((12 * (σ.1 13 (Int.toNat x2))) + (2 * x3)) + (iDiv (σ.1 17 (Int.toNat x4)) 60)))) ||| (lShl 1 (iRem (σ.1 17 (Int.toNat x4)) 60))))).bind (fun σ8 => ck (inR (x4 + 1)) (f_X7_bySteps_40 nq1 q1 k31 n x2 x3 (x4 + 1) σ8))))))) else ck (inR (x4 + 1)) (f_X7_bySteps_40 nq1 q1 k31 n x2 x3 (x4 + 1) σ))))
set_option maxRecDepth 100000 in
set_option maxHeartbeats 4000000 in
theorem t_X7_bySteps_40 {p : Program} {l : Launch} {e : Env} {s : State} {m : MethodId} {args : Array Value} {below : List Frame} {meth : Method} {c : Code} {D : va_G} {ca : Nat → ClassId} {ad : Nat → Nat} {res : Mm} {nq1 : Nat} {q1 : Nat} {k31 : Int → Int → Mm → Option (Mm)} (X : Cx p s m args c cX7_bySteps 5 RX7 (Cond.code yX7_bySteps cX7_bySteps 5 none :: tbG) D vcl ca) (hN : NM s) (hr : meth.sig.returnType = none) (hlk : meth.locks = false) (hq1 : shM[q1]? = some (2, nq1, [])) (hnq1 : nq1 < 2147483648) (hk31 : ∀ (x2 : Int) (x3 : Int) (σ : Mm), inR x2 → inR x3 → GX7_bySteps p l e s m args below meth c D ca ad res 31 [(0, .ref (ad 0)), (1, .ref (ad q1)), (2, .int (oi x2)), (3, .int (oi x3))] [] σ (k31 x2 x3 σ)) : ∀ (n : Nat) (x2 : Int) (x3 : Int) (x4 : Int) (σ : Mm), inR x2 → inR x3 → inR x4 → GX7_bySteps p l e s m args below meth c D ca ad res 40 [(0, .ref (ad 0)), (1, .ref (ad q1)), (2, .int (oi x2)), (3, .int (oi x3)), (4, .int (oi x4))] [] σ (f_X7_bySteps_40 nq1 q1 k31 n x2 x3 x4 σ)
  := by
  intro n
  induction n with
  | zero => intro x2 x3 x4 σ hx2 hx3 hx4 h; cases h
  | succ n ih =>
    intro x2 x3 x4 σ hx2 hx3 hx4
    rw [f_X7_bySteps_40]
    refine q_iload X dX7_bySteps_40 4 rfl ?_
    refine q_aload_n X dX7_bySteps_42 0 rfl ?_
    refine fg_X7_167 X dX7_bySteps_43 (fun h1 => ?_)
    refine q_icmp_ge X hx4 h1 117 dX7_bySteps_46 (by decide) (fun h2 => ?_) (fun h2 => ?_)
    · refine q_iinc X [(3, .int (oi (x3 + 1))), (0, .ref (ad 0)), (1, .ref (ad q1)), (2, .int (oi x2)), (4, .int (oi x4))] dX7_bySteps_117 (by decide) 3 rfl rfl (fun h3 => ?_)
      refine q_goto X 31 dX7_bySteps_120 (by decide) ?_
      refine q_sub [(0, .ref (ad 0)), (1, .ref (ad q1)), (2, .int (oi x2)), (3, .int (oi (x3 + 1)))] [1, 2, 3, 0] rfl ?_
      exact hk31 x2 (x3 + 1) σ hx2 h3
    · refine q_aload_n X dX7_bySteps_49 0 rfl ?_
      refine fg_X7_59 X dX7_bySteps_50 ?_
      refine q_bipush X dX7_bySteps_53 (by decide) ?_
      refine q_iload_n X dX7_bySteps_55 2 rfl ?_
      refine q_imul X dX7_bySteps_56 ?_
      refine q_iload_n X dX7_bySteps_57 3 rfl ?_
      refine q_iadd X dX7_bySteps_58 ?_
      refine q_lald X hM16 (by decide) dX7_bySteps_59 ?_
      refine q_iload X dX7_bySteps_60 4 rfl ?_
      refine q_lshr X dX7_bySteps_62 ?_
      refine q_lconst X 1 dX7_bySteps_63 rfl ?_
      refine q_land X dX7_bySteps_64 ?_
      refine q_lconst X 1 dX7_bySteps_65 rfl ?_
      refine q_lcmp_ne X 111 dX7_bySteps_66 dX7_bySteps_67 (by decide) (fun h4 => ?_) (fun h4 => ?_)
      · refine q_aload_n X dX7_bySteps_70 1 rfl ?_
        refine q_bipush X dX7_bySteps_71 (by decide) ?_
        refine q_aload_n X dX7_bySteps_73 0 rfl ?_
        refine fg_X7_50 X dX7_bySteps_74 ?_
        refine q_iload_n X dX7_bySteps_77 2 rfl ?_
        refine q_iald X hM13 (by decide) dX7_bySteps_78 (fun h5 => ?_)
        refine q_imul X dX7_bySteps_79 ?_
        refine q_iconst X dX7_bySteps_80 ?_
        refine q_iload_n X dX7_bySteps_81 3 rfl ?_
        refine q_imul X dX7_bySteps_82 ?_
        refine q_iadd X dX7_bySteps_83 ?_
        refine q_aload_n X dX7_bySteps_84 0 rfl ?_
        refine fg_X7_63 X dX7_bySteps_85 ?_
        refine q_iload X dX7_bySteps_88 4 rfl ?_
        refine q_iald X hM17 (by decide) dX7_bySteps_90 (fun h6 => ?_)
        refine q_bipush X dX7_bySteps_91 (by decide) ?_
        refine q_idiv X dX7_bySteps_93 (by decide) ?_
        refine q_iadd X dX7_bySteps_94 ?_
        refine q_dup2 X dX7_bySteps_95 rfl rfl ?_
        refine q_lald X hq1 hnq1 dX7_bySteps_96 ?_
        refine q_lconst X 1 dX7_bySteps_97 rfl ?_
        refine q_aload_n X dX7_bySteps_98 0 rfl ?_
        refine fg_X7_63 X dX7_bySteps_99 ?_
        refine q_iload X dX7_bySteps_102 4 rfl ?_
        refine q_iald X hM17 (by decide) dX7_bySteps_104 (fun h7 => ?_)
        refine q_bipush X dX7_bySteps_105 (by decide) ?_
        refine q_irem X dX7_bySteps_107 (by decide) ?_
        refine q_lshl X dX7_bySteps_108 ?_
        refine q_lor X dX7_bySteps_109 ?_
        refine q_last X hq1 hnq1 dX7_bySteps_110 ?_
        refine q_nm (fun σ8 => ?_)
        refine q_iinc X [(4, .int (oi (x4 + 1))), (0, .ref (ad 0)), (1, .ref (ad q1)), (2, .int (oi x2)), (3, .int (oi x3))] dX7_bySteps_111 (by decide) 4 rfl rfl (fun h9 => ?_)
        refine q_goto X 40 dX7_bySteps_114 (by decide) ?_
        refine q_sub [(0, .ref (ad 0)), (1, .ref (ad q1)), (2, .int (oi x2)), (3, .int (oi x3)), (4, .int (oi (x4 + 1)))] [1, 2, 3, 4, 0] rfl ?_
        exact ih x2 x3 (x4 + 1) σ8 hx2 hx3 h9
      · refine q_iinc X [(4, .int (oi (x4 + 1))), (0, .ref (ad 0)), (1, .ref (ad q1)), (2, .int (oi x2)), (3, .int (oi x3))] dX7_bySteps_111 (by decide) 4 rfl rfl (fun h10 => ?_)
        refine q_goto X 40 dX7_bySteps_114 (by decide) ?_
        refine q_sub [(0, .ref (ad 0)), (1, .ref (ad q1)), (2, .int (oi x2)), (3, .int (oi x3)), (4, .int (oi (x4 + 1)))] [1, 2, 3, 4, 0] rfl ?_
        exact ih x2 x3 (x4 + 1) σ hx2 hx3 h10
def f_X7_bySteps_31 (nq1 : Nat) (q1 : Nat) (k21 : Int → Mm → Option (Mm)) : Nat → Int → Int → Mm → Option (Mm)
  | 0, _, _, _ => none
  | n + 1, x2, x3, σ => (if 6 ≤ x3 then ck (inR (x2 + 1)) (k21 (x2 + 1) σ) else f_X7_bySteps_40 nq1 q1 (f_X7_bySteps_31 nq1 q1 k21 n) 2000 x2 x3 0 σ)
set_option maxRecDepth 100000 in
set_option maxHeartbeats 4000000 in
theorem t_X7_bySteps_31 {p : Program} {l : Launch} {e : Env} {s : State} {m : MethodId} {args : Array Value} {below : List Frame} {meth : Method} {c : Code} {D : va_G} {ca : Nat → ClassId} {ad : Nat → Nat} {res : Mm} {nq1 : Nat} {q1 : Nat} {k21 : Int → Mm → Option (Mm)} (X : Cx p s m args c cX7_bySteps 5 RX7 (Cond.code yX7_bySteps cX7_bySteps 5 none :: tbG) D vcl ca) (hN : NM s) (hr : meth.sig.returnType = none) (hlk : meth.locks = false) (hq1 : shM[q1]? = some (2, nq1, [])) (hnq1 : nq1 < 2147483648) (hk21 : ∀ (x2 : Int) (σ : Mm), inR x2 → GX7_bySteps p l e s m args below meth c D ca ad res 21 [(0, .ref (ad 0)), (1, .ref (ad q1)), (2, .int (oi x2))] [] σ (k21 x2 σ)) : ∀ (n : Nat) (x2 : Int) (x3 : Int) (σ : Mm), inR x2 → inR x3 → GX7_bySteps p l e s m args below meth c D ca ad res 31 [(0, .ref (ad 0)), (1, .ref (ad q1)), (2, .int (oi x2)), (3, .int (oi x3))] [] σ (f_X7_bySteps_31 nq1 q1 k21 n x2 x3 σ)
  := by
  intro n
  induction n with
  | zero => intro x2 x3 σ hx2 hx3 h; cases h
  | succ n ih =>
    intro x2 x3 σ hx2 hx3
    rw [f_X7_bySteps_31]
    refine q_iload_n X dX7_bySteps_31 3 rfl ?_
    refine q_bipush X dX7_bySteps_32 (by decide) ?_
    refine q_icmp_ge X hx3 (by decide) 123 dX7_bySteps_34 (by decide) (fun h11 => ?_) (fun h11 => ?_)
    · refine q_iinc X [(2, .int (oi (x2 + 1))), (0, .ref (ad 0)), (1, .ref (ad q1)), (3, .int (oi x3))] dX7_bySteps_123 (by decide) 2 rfl rfl (fun h12 => ?_)
      refine q_goto X 21 dX7_bySteps_126 (by decide) ?_
      refine q_sub [(0, .ref (ad 0)), (1, .ref (ad q1)), (2, .int (oi (x2 + 1)))] [1, 2, 0] rfl ?_
      exact hk21 (x2 + 1) σ h12
    · refine q_iconst X dX7_bySteps_37 ?_
      refine q_istore X [(4, .int (oi 0)), (0, .ref (ad 0)), (1, .ref (ad q1)), (2, .int (oi x2)), (3, .int (oi x3))] dX7_bySteps_38 (by decide) rfl ?_
      refine q_sub [(0, .ref (ad 0)), (1, .ref (ad q1)), (2, .int (oi x2)), (3, .int (oi x3)), (4, .int (oi 0))] [1, 2, 3, 4, 0] rfl ?_
      exact t_X7_bySteps_40 X hN hr hlk hq1 hnq1 ih 2000 x2 x3 0 σ hx2 hx3 (by decide)
def f_X7_bySteps_21 (nq1 : Nat) (q1 : Nat) : Nat → Int → Mm → Option (Mm)
  | 0, _, _ => none
  | n + 1, x2, σ => (if (σ.1 0 24) ≤ x2 then some σ else f_X7_bySteps_31 nq1 q1 (f_X7_bySteps_21 nq1 q1 n) 2000 x2 0 σ)
set_option maxRecDepth 100000 in
set_option maxHeartbeats 4000000 in
theorem t_X7_bySteps_21 {p : Program} {l : Launch} {e : Env} {s : State} {m : MethodId} {args : Array Value} {below : List Frame} {meth : Method} {c : Code} {D : va_G} {ca : Nat → ClassId} {ad : Nat → Nat} {res : Mm} {nq1 : Nat} {q1 : Nat} (X : Cx p s m args c cX7_bySteps 5 RX7 (Cond.code yX7_bySteps cX7_bySteps 5 none :: tbG) D vcl ca) (hN : NM s) (hr : meth.sig.returnType = none) (hlk : meth.locks = false) (hq1 : shM[q1]? = some (2, nq1, [])) (hnq1 : nq1 < 2147483648) : ∀ (n : Nat) (x2 : Int) (σ : Mm), inR x2 → GX7_bySteps p l e s m args below meth c D ca ad res 21 [(0, .ref (ad 0)), (1, .ref (ad q1)), (2, .int (oi x2))] [] σ (f_X7_bySteps_21 nq1 q1 n x2 σ)
  := by
  intro n
  induction n with
  | zero => intro x2 σ hx2 h; cases h
  | succ n ih =>
    intro x2 σ hx2
    rw [f_X7_bySteps_21]
    refine q_iload_n X dX7_bySteps_21 2 rfl ?_
    refine q_aload_n X dX7_bySteps_22 0 rfl ?_
    refine fg_X7_108 X dX7_bySteps_23 (fun h13 => ?_)
    refine q_icmp_ge X hx2 h13 129 dX7_bySteps_26 (by decide) (fun h14 => ?_) (fun h14 => ?_)
    · exact q_vret X hr hlk dX7_bySteps_129
    · refine q_iconst X dX7_bySteps_29 ?_
      refine q_istore_n X [(3, .int (oi 0)), (0, .ref (ad 0)), (1, .ref (ad q1)), (2, .int (oi x2))] dX7_bySteps_30 (by decide) rfl ?_
      refine q_sub [(0, .ref (ad 0)), (1, .ref (ad q1)), (2, .int (oi x2)), (3, .int (oi 0))] [1, 2, 3, 0] rfl ?_
      exact t_X7_bySteps_31 X hN hr hlk hq1 hnq1 ih 2000 x2 0 σ hx2 (by decide)
def f_X7_bySteps_2 (nq1 : Nat) (q1 : Nat) : Nat → Int → Mm → Option (Mm)
  | 0, _, _ => none
  | n + 1, x2, σ => (if 144 ≤ x2 then f_X7_bySteps_21 nq1 q1 2000 0 σ else ck ((0 : Int) ≤ x2 ∧ x2 < ((nq1 : Nat) : Int)) (ck (inR (x2 + 1)) (f_X7_bySteps_2 nq1 q1 n (x2 + 1) (stL σ q1 (Int.toNat x2) 0))))
set_option maxRecDepth 100000 in
set_option maxHeartbeats 4000000 in
theorem t_X7_bySteps_2 {p : Program} {l : Launch} {e : Env} {s : State} {m : MethodId} {args : Array Value} {below : List Frame} {meth : Method} {c : Code} {D : va_G} {ca : Nat → ClassId} {ad : Nat → Nat} {res : Mm} {nq1 : Nat} {q1 : Nat} (X : Cx p s m args c cX7_bySteps 5 RX7 (Cond.code yX7_bySteps cX7_bySteps 5 none :: tbG) D vcl ca) (hN : NM s) (hr : meth.sig.returnType = none) (hlk : meth.locks = false) (hq1 : shM[q1]? = some (2, nq1, [])) (hnq1 : nq1 < 2147483648) : ∀ (n : Nat) (x2 : Int) (σ : Mm), inR x2 → GX7_bySteps p l e s m args below meth c D ca ad res 2 [(0, .ref (ad 0)), (1, .ref (ad q1)), (2, .int (oi x2))] [] σ (f_X7_bySteps_2 nq1 q1 n x2 σ)
  := by
  intro n
  induction n with
  | zero => intro x2 σ hx2 h; cases h
  | succ n ih =>
    intro x2 σ hx2
    rw [f_X7_bySteps_2]
    refine q_iload_n X dX7_bySteps_2 2 rfl ?_
    refine q_sipush X dX7_bySteps_3 (by decide) ?_
    refine q_icmp_ge X hx2 (by decide) 19 dX7_bySteps_6 (by decide) (fun h15 => ?_) (fun h15 => ?_)
    · refine q_iconst X dX7_bySteps_19 ?_
      refine q_istore_n X [(2, .int (oi 0)), (0, .ref (ad 0)), (1, .ref (ad q1))] dX7_bySteps_20 (by decide) rfl ?_
      refine q_sub [(0, .ref (ad 0)), (1, .ref (ad q1)), (2, .int (oi 0))] [1, 2, 0] rfl ?_
      exact t_X7_bySteps_21 X hN hr hlk hq1 hnq1 2000 0 σ (by decide)
    · refine q_aload_n X dX7_bySteps_9 1 rfl ?_
      refine q_iload_n X dX7_bySteps_10 2 rfl ?_
      refine q_lconst X 0 dX7_bySteps_11 rfl ?_
      refine q_last X hq1 hnq1 dX7_bySteps_12 ?_
      refine q_iinc X [(2, .int (oi (x2 + 1))), (0, .ref (ad 0)), (1, .ref (ad q1))] dX7_bySteps_13 (by decide) 2 rfl rfl (fun h16 => ?_)
      refine q_goto X 2 dX7_bySteps_16 (by decide) ?_
      refine q_sub [(0, .ref (ad 0)), (1, .ref (ad q1)), (2, .int (oi (x2 + 1)))] [1, 2, 0] rfl ?_
      exact ih (x2 + 1) (stL σ q1 (Int.toNat x2) 0) h16
def f_X7_bySteps (nq1 : Nat) (q1 : Nat) (σ : Mm) : Option (Mm) :=
  f_X7_bySteps_2 nq1 q1 2000 0 σ
theorem hd_X7_bySteps : yX7_bySteps.cls = RX7 ∧ yX7_bySteps.cls ≠ "java/lang/invoke/MethodHandle" ∧ yX7_bySteps.cls ≠ "java/lang/invoke/VarHandle" ∧ (parseMethodDescriptor yX7_bySteps.desc).map (fun d => d.parameters.length) = some 1 := by decide +kernel
set_option maxRecDepth 100000 in
set_option maxHeartbeats 4000000 in
theorem c_X7_bySteps {l : Launch} {D : va_G} {ca : Nat → ClassId} {ad : Nat → Nat} {nq1 : Nat} {q1 : Nat} (hq1 : shM[q1]? = some (2, nq1, [])) (hnq1 : nq1 < 2147483648) {σ : Mm} : CtV l D vcl ca ad shM NM yX7_bySteps (Cond.code yX7_bySteps cX7_bySteps 5 none :: tbG) { frames := 0, cells := 0, slots := 0, locals := 0 } [.ref (ad 0), .ref (ad q1)] σ (f_X7_bySteps nq1 q1 σ) := by
  refine ct_V RX7 rfl (by decide) rfl (Nat.le_of_ble_eq_true rfl) (fun p e s m below meth c res X hN hr hlk => ?_)
  show GX7_bySteps p l e s m _ below meth c D ca ad res 0 [(0, .ref (ad 0)), (1, .ref (ad q1))] [] σ (f_X7_bySteps nq1 q1 σ)
  unfold f_X7_bySteps
  refine q_iconst X dX7_bySteps_0 ?_
  refine q_istore_n X [(2, .int (oi 0)), (0, .ref (ad 0)), (1, .ref (ad q1))] dX7_bySteps_1 (by decide) rfl ?_
  refine q_sub [(0, .ref (ad 0)), (1, .ref (ad q1)), (2, .int (oi 0))] [1, 2, 0] rfl ?_
  exact t_X7_bySteps_2 X hN hr hlk hq1 hnq1 2000 0 σ (by decide)

/-! SiteObjectsModel.within(II)I -/
abbrev GX7_within (p : Program) (l : Launch) (e : Env) (s : State) (m : MethodId) (args : Array Value) (below : List Frame) (meth : Method) (c : Code) (D : va_G) (ca : Nat → ClassId) (ad : Nat → Nat) (res : Int × Mm) : Nat → List (Nat × Value) → List Value → Mm → Option (Int × Mm) → Prop := G p l e { frames := 7, cells := 0, slots := 0, locals := 181 } s m args below meth c (MQ below (QcI D vcl ca ad shM s.heap.size res) args s 0 0 (Aw ad shM.length s.heap.size)) 6 D vcl ca ad shM (Aw ad shM.length s.heap.size) res
def f_X7_within_72 : Nat → Int → Int → Mm → Option (Int × Mm)
  | 0, _, _, _ => none
  | n + 1, x4, x5, σ => (if 144 ≤ x5 then (if x4 = 0 then some (0, σ) else some (1, σ)) else (if x4 = 0 then ck (inR (x5 + 1)) (f_X7_within_72 n 0 (x5 + 1) σ) else ck ((0 : Int) ≤ x5 ∧ x5 < ((144 : Nat) : Int)) (ck ((0 : Int) ≤ x5 ∧ x5 < ((144 : Nat) : Int)) ((if ((σ.2 31 (Int.toNat x5)) &&& ((σ.2 30 (Int.toNat x5)) ^^^ (-1))) = 0 then ck (inR (x5 + 1)) (f_X7_within_72 n 1 (x5 + 1) σ) else ck (inR (x5 + 1)) (f_X7_within_72 n 0 (x5 + 1) σ))))))
set_option maxRecDepth 100000 in
set_option maxHeartbeats 4000000 in
theorem t_X7_within_72 {p : Program} {l : Launch} {e : Env} {s : State} {m : MethodId} {args : Array Value} {below : List Frame} {meth : Method} {c : Code} {D : va_G} {ca : Nat → ClassId} {ad : Nat → Nat} {res : Int × Mm} (X : Cx p s m args c cX7_within 6 RX7 (Cond.code yX7_within cX7_within 6 (some .int) :: tbG) D vcl ca) (hN : NM s) (hr : meth.sig.returnType = (some .int)) (hlk : meth.locks = false) : ∀ (n : Nat) (x4 : Int) (x5 : Int) (σ : Mm), inR x4 → inR x5 → GX7_within p l e s m args below meth c D ca ad res 72 [(0, .ref (ad 0)), (4, .int (oi x4)), (5, .int (oi x5))] [] σ (f_X7_within_72 n x4 x5 σ)
  := by
  intro n
  induction n with
  | zero => intro x4 x5 σ hx4 hx5 h; cases h
  | succ n ih =>
    intro x4 x5 σ hx4 hx5
    rw [f_X7_within_72]
    refine q_iload X dX7_within_72 2 rfl ?_
    refine q_sipush X dX7_within_74 (by decide) ?_
    refine q_icmp_ge X hx5 (by decide) 122 dX7_within_77 (by decide) (fun h1 => ?_) (fun h1 => ?_)
    · refine q_iload X dX7_within_122 1 rfl ?_
      refine q_if_eq X hx4 131 dX7_within_124 (by decide) (fun h2 => ?_) (fun h2 => ?_)
      · refine q_iconst X dX7_within_131 ?_
        exact q_iret X (by decide) hr hlk dX7_within_132
      · refine q_iconst X dX7_within_127 ?_
        refine q_goto X 132 dX7_within_128 (by decide) ?_
        exact q_iret X (by decide) hr hlk dX7_within_132
    · refine q_iload X dX7_within_80 1 rfl ?_
      refine q_if_eq X hx4 113 dX7_within_82 (by decide) (fun h3 => ?_) (fun h3 => ?_)
      · refine q_iconst X dX7_within_113 ?_
        refine q_istore X [(4, .int (oi 0)), (0, .ref (ad 0)), (5, .int (oi x5))] dX7_within_114 (by decide) rfl ?_
        refine q_iinc X [(5, .int (oi (x5 + 1))), (4, .int (oi 0)), (0, .ref (ad 0))] dX7_within_116 (by decide) 2 rfl rfl (fun h4 => ?_)
        refine q_goto X 72 dX7_within_119 (by decide) ?_
        refine q_sub [(0, .ref (ad 0)), (4, .int (oi 0)), (5, .int (oi (x5 + 1)))] [2, 1, 0] rfl ?_
        exact ih 0 (x5 + 1) σ (by decide) h4
      · refine q_aload_n X dX7_within_85 0 rfl ?_
        refine fg_X7_105 X dX7_within_86 ?_
        refine q_iload X dX7_within_89 2 rfl ?_
        refine q_lald X hM31 (by decide) dX7_within_91 ?_
        refine q_aload_n X dX7_within_92 0 rfl ?_
        refine fg_X7_102 X dX7_within_93 ?_
        refine q_iload X dX7_within_96 2 rfl ?_
        refine q_lald X hM30 (by decide) dX7_within_98 ?_
        refine q_ldc2 X (-1) dX7_within_99 (List.mem_cons_of_mem _ mw_1106) ?_
        refine q_lxor X dX7_within_102 ?_
        refine q_land X dX7_within_103 ?_
        refine q_lconst X 0 dX7_within_104 rfl ?_
        refine q_lcmp_ne X 113 dX7_within_105 dX7_within_106 (by decide) (fun h5 => ?_) (fun h5 => ?_)
        · refine q_iconst X dX7_within_109 ?_
          refine q_goto X 114 dX7_within_110 (by decide) ?_
          refine q_istore X [(4, .int (oi 1)), (0, .ref (ad 0)), (5, .int (oi x5))] dX7_within_114 (by decide) rfl ?_
          refine q_iinc X [(5, .int (oi (x5 + 1))), (4, .int (oi 1)), (0, .ref (ad 0))] dX7_within_116 (by decide) 2 rfl rfl (fun h6 => ?_)
          refine q_goto X 72 dX7_within_119 (by decide) ?_
          refine q_sub [(0, .ref (ad 0)), (4, .int (oi 1)), (5, .int (oi (x5 + 1)))] [2, 1, 0] rfl ?_
          exact ih 1 (x5 + 1) σ (by decide) h6
        · refine q_iconst X dX7_within_113 ?_
          refine q_istore X [(4, .int (oi 0)), (0, .ref (ad 0)), (5, .int (oi x5))] dX7_within_114 (by decide) rfl ?_
          refine q_iinc X [(5, .int (oi (x5 + 1))), (4, .int (oi 0)), (0, .ref (ad 0))] dX7_within_116 (by decide) 2 rfl rfl (fun h7 => ?_)
          refine q_goto X 72 dX7_within_119 (by decide) ?_
          refine q_sub [(0, .ref (ad 0)), (4, .int (oi 0)), (5, .int (oi (x5 + 1)))] [2, 1, 0] rfl ?_
          exact ih 0 (x5 + 1) σ (by decide) h7
def f_X7_within (x1 : Int) (x2 : Int) (σ : Mm) : Option (Int × Mm) :=
  (f_X7_in x1 0 2 σ).bind (fun r8 => (if r8 = 0 then some ((-1), σ) else (f_X7_in x2 0 2 σ).bind (fun r12 => (if r12 = 0 then some ((-1), σ) else (if (σ.1 0 16) = 0 then some ((-2), σ) else (f_X7_bySteps 144 30 σ).bind (fun r19 => (f_X7_findsAll x1 x2 r19).bind (fun r22 => (f_X7_bySteps 144 31 r22).bind (fun r25 => (f_X7_findsAll (σ.1 0 18) (r25.1 0 20) r25).bind (fun r29 => f_X7_within_72 2000 1 0 r29)))))))))
theorem hd_X7_within : yX7_within.cls = RX7 ∧ yX7_within.cls ≠ "java/lang/invoke/MethodHandle" ∧ yX7_within.cls ≠ "java/lang/invoke/VarHandle" ∧ (parseMethodDescriptor yX7_within.desc).map (fun d => d.parameters.length) = some 2 := by decide +kernel
set_option maxRecDepth 100000 in
set_option maxHeartbeats 4000000 in
theorem c_X7_within {l : Launch} {D : va_G} {ca : Nat → ClassId} {ad : Nat → Nat} {x1 : Int} {x2 : Int} (hx1 : inR x1) (hx2 : inR x2) {σ : Mm} : CtI l D vcl ca ad shM NM yX7_within (Cond.code yX7_within cX7_within 6 (some .int) :: tbG) { frames := 7, cells := 0, slots := 0, locals := 181 } [.ref (ad 0), .int (oi x1), .int (oi x2)] σ (f_X7_within x1 x2 σ) := by
  refine ct_I RX7 rfl (by decide) rfl (Nat.le_of_ble_eq_true rfl) (fun p e s m below meth c res X hN hr hlk => ?_)
  show GX7_within p l e s m _ below meth c D ca ad res 0 [(0, .ref (ad 0)), (1, .int (oi x1)), (2, .int (oi x2))] [] σ (f_X7_within x1 x2 σ)
  unfold f_X7_within
  refine q_iload_n X dX7_within_0 1 rfl ?_
  refine q_iconst X dX7_within_1 ?_
  refine q_iconst X dX7_within_2 ?_
  refine q_callIp X NMok hN Aw_new (c_X7_in hx1 (by decide) (by decide)) (rn_S X (va_cwS 3 X.2.2.2.2.1 (tbG_good _ (tbG_S mw_1008 mw_1009 mw_9 mw_1010)) rfl rfl rfl hd_X7_in ⟨by decide, by decide⟩) rfl rfl (Nat.le_of_ble_eq_true rfl) dX7_within_3) (fun r8 _ h10 => ?_)
  refine q_if_eq X h10 18 dX7_within_6 (by decide) (fun h11 => ?_) (fun h11 => ?_)
  · refine q_iconst X dX7_within_18 ?_
    exact q_iret X (by decide) hr hlk dX7_within_19
  · refine q_iload_n X dX7_within_9 2 rfl ?_
    refine q_iconst X dX7_within_10 ?_
    refine q_iconst X dX7_within_11 ?_
    refine q_callIp X NMok hN Aw_new (c_X7_in hx2 (by decide) (by decide)) (rn_S X (va_cwS 3 X.2.2.2.2.1 (tbG_good _ (tbG_S mw_1008 mw_1009 mw_9 mw_1010)) rfl rfl rfl hd_X7_in ⟨by decide, by decide⟩) rfl rfl (Nat.le_of_ble_eq_true rfl) dX7_within_12) (fun r12 _ h14 => ?_)
    refine q_if_ne X h14 20 dX7_within_15 (by decide) (fun h15 => ?_) (fun h15 => ?_)
    · refine q_iconst X dX7_within_18 ?_
      exact q_iret X (by decide) hr hlk dX7_within_19
    · refine q_aload_n X dX7_within_20 0 rfl ?_
      refine fg_X7_122 X dX7_within_21 (fun h16 => ?_)
      refine q_if_ne X h16 30 dX7_within_24 (by decide) (fun h17 => ?_) (fun h17 => ?_)
      · refine q_bipush X dX7_within_27 (by decide) ?_
        exact q_iret X (by decide) hr hlk dX7_within_29
      · refine q_aload_n X dX7_within_30 0 rfl ?_
        refine fg_X7_145 X dX7_within_31 (fun h18 => ?_)
        refine q_istore_n X [(3, .int (oi (σ.1 0 18))), (0, .ref (ad 0)), (1, .int (oi x1)), (2, .int (oi x2))] dX7_within_34 (by decide) rfl ?_
        refine q_aload_n X dX7_within_35 1 rfl ?_
        refine q_aload_n X dX7_within_36 1 rfl ?_
        refine fg_X7_102 X dX7_within_37 ?_
        refine q_callV X NMok hN Aw_new (c_X7_bySteps hM30 (by decide)) (rn_V X (cwV 1 X.2.2.2.2.1 (tbG_good _ (tbG_V mw_1235 mw_1237 mp_6_9 mw_9 mw_1238)) rfl rfl rfl hd_X7_bySteps ⟨by decide, by decide⟩) hM0 rfl rfl rfl (Nat.le_of_ble_eq_true rfl) dX7_within_40) (fun r19 _ => ?_)
        refine q_aload_n X dX7_within_43 1 rfl ?_
        refine q_iload_n X dX7_within_44 2 rfl ?_
        refine q_iload_n X dX7_within_45 3 rfl ?_
        refine q_callV X NMok hN Aw_new (c_X7_findsAll hx1 hx2) (rn_V X (cwV 2 X.2.2.2.2.1 (tbG_good _ (tbG_V mw_1034 mw_1036 mp_4_4 mw_9 mw_1037)) rfl rfl rfl hd_X7_findsAll ⟨by decide, by decide⟩) hM0 rfl rfl rfl (Nat.le_of_ble_eq_true rfl) dX7_within_46) (fun r22 _ => ?_)
        refine q_aload_n X dX7_within_49 1 rfl ?_
        refine q_aload_n X dX7_within_50 1 rfl ?_
        refine fg_X7_105 X dX7_within_51 ?_
        refine q_callV X NMok hN Aw_new (c_X7_bySteps hM31 (by decide)) (rn_V X (cwV 1 X.2.2.2.2.1 (tbG_good _ (tbG_V mw_1235 mw_1237 mp_6_9 mw_9 mw_1238)) rfl rfl rfl hd_X7_bySteps ⟨by decide, by decide⟩) hM0 rfl rfl rfl (Nat.le_of_ble_eq_true rfl) dX7_within_54) (fun r25 _ => ?_)
        refine q_aload_n X dX7_within_57 1 rfl ?_
        refine q_iload_n X dX7_within_58 0 rfl ?_
        refine q_aload_n X dX7_within_59 1 rfl ?_
        refine fg_X7_235 X dX7_within_60 (fun h28 => ?_)
        refine q_callV X NMok hN Aw_new (c_X7_findsAll h18 h28) (rn_V X (cwV 2 X.2.2.2.2.1 (tbG_good _ (tbG_V mw_1034 mw_1036 mp_4_4 mw_9 mw_1037)) rfl rfl rfl hd_X7_findsAll ⟨by decide, by decide⟩) hM0 rfl rfl rfl (Nat.le_of_ble_eq_true rfl) dX7_within_63) (fun r29 _ => ?_)
        refine q_iconst X dX7_within_66 ?_
        refine q_istore X [(4, .int (oi 1)), (3, .int (oi (σ.1 0 18))), (0, .ref (ad 0)), (1, .int (oi x1)), (2, .int (oi x2))] dX7_within_67 (by decide) rfl ?_
        refine q_iconst X dX7_within_69 ?_
        refine q_istore X [(5, .int (oi 0)), (4, .int (oi 1)), (3, .int (oi (σ.1 0 18))), (0, .ref (ad 0)), (1, .int (oi x1)), (2, .int (oi x2))] dX7_within_70 (by decide) rfl ?_
        refine q_sub [(0, .ref (ad 0)), (4, .int (oi 1)), (5, .int (oi 0))] [3, 1, 0] rfl ?_
        exact t_X7_within_72 X hN hr hlk 2000 1 0 r29 (by decide) (by decide)
