/-! java/util/Arrays.fill([JJ)V -/
abbrev GJ7_fill_d0a16 (p : Program) (l : Launch) (e : Env) (s : State) (m : MethodId) (args : Array Value) (below : List Frame) (meth : Method) (c : Code) (D : va_G) (ca : Nat → ClassId) (ad : Nat → Nat) (shs : List Sh) (res : Mm) : Nat → List (Nat × Value) → List Value → Mm → Option (Mm) → Prop := G p l e { frames := 0, cells := 0, slots := 0, locals := 0 } s m args below meth c (MQ below (QcV D vcl ca ad shs s.heap.size res) args s 0 0 (Aw ad shs.length s.heap.size)) 5 D vcl ca ad shs (Aw ad shs.length s.heap.size) res
def f_J7_fill_d0a16_6 (nq1 : Nat) (q1 : Nat) : Nat → Int64 → Int → Int → Mm → Option (Mm)
  | 0, _, _, _, _ => none
  | n + 1, x1, x3, x4, σ => (if x4 ≤ x3 then some σ else ck ((0 : Int) ≤ x3 ∧ x3 < ((nq1 : Nat) : Int)) (ck (inR (x3 + 1)) (f_J7_fill_d0a16_6 nq1 q1 n x1 (x3 + 1) x4 (stL σ q1 (Int.toNat x3) x1))))
set_option maxRecDepth 100000 in
set_option maxHeartbeats 4000000 in
theorem t_J7_fill_d0a16_6 {p : Program} {l : Launch} {e : Env} {s : State} {m : MethodId} {args : Array Value} {below : List Frame} {meth : Method} {c : Code} {D : va_G} {ca : Nat → ClassId} {ad : Nat → Nat} {shs : List Sh} {N : State → Prop} {res : Mm} {nq1 : Nat} {q1 : Nat} (X : Cx p s m args c cJ7_fill_d0a16 5 RJ7 (Cond.code yJ7_fill_d0a16 cJ7_fill_d0a16 5 none :: tbG) D vcl ca) (hN : N s) (hr : meth.sig.returnType = none) (hlk : meth.locks = false) (hq1 : shs[q1]? = some (2, nq1, [])) (hnq1 : nq1 < 2147483648) : ∀ (n : Nat) (x1 : Int64) (x3 : Int) (x4 : Int) (σ : Mm), inR x3 → inR x4 → GJ7_fill_d0a16 p l e s m args below meth c D ca ad shs res 6 [(0, .ref (ad q1)), (1, .long x1), (3, .int (oi x3)), (4, .int (oi x4))] [] σ (f_J7_fill_d0a16_6 nq1 q1 n x1 x3 x4 σ)
  := by
  intro n
  induction n with
  | zero => intro x1 x3 x4 σ hx3 hx4 h; cases h
  | succ n ih =>
    intro x1 x3 x4 σ hx3 hx4
    rw [f_J7_fill_d0a16_6]
    refine q_iload_n X dJ7_fill_d0a16_6 2 rfl ?_
    refine q_iload X dJ7_fill_d0a16_7 3 rfl ?_
    refine q_icmp_ge X hx3 hx4 22 dJ7_fill_d0a16_9 (by decide) (fun h1 => ?_) (fun h1 => ?_)
    · exact q_vret X hr hlk dJ7_fill_d0a16_22
    · refine q_aload_n X dJ7_fill_d0a16_12 0 rfl ?_
      refine q_iload_n X dJ7_fill_d0a16_13 2 rfl ?_
      refine q_lload_n X dJ7_fill_d0a16_14 1 rfl ?_
      refine q_last X hq1 hnq1 dJ7_fill_d0a16_15 ?_
      refine q_iinc X [(3, .int (oi (x3 + 1))), (0, .ref (ad q1)), (1, .long x1), (4, .int (oi x4))] dJ7_fill_d0a16_16 (by decide) 2 rfl rfl (fun h2 => ?_)
      refine q_goto X 6 dJ7_fill_d0a16_19 (by decide) ?_
      refine q_sub [(0, .ref (ad q1)), (1, .long x1), (3, .int (oi (x3 + 1))), (4, .int (oi x4))] [1, 2, 0, 3] rfl ?_
      exact ih x1 (x3 + 1) x4 (stL σ q1 (Int.toNat x3) x1) h2 hx4
def f_J7_fill_d0a16 (nq1 : Nat) (q1 : Nat) (x1 : Int64) (σ : Mm) : Option (Mm) :=
  f_J7_fill_d0a16_6 nq1 q1 2000 x1 0 ((nq1 : Nat) : Int) σ
theorem hd_J7_fill_d0a16 : yJ7_fill_d0a16.cls ≠ "java/lang/invoke/MethodHandle" ∧ yJ7_fill_d0a16.cls ≠ "java/lang/invoke/VarHandle" ∧ (parseMethodDescriptor yJ7_fill_d0a16.desc).map (fun d => d.parameters.length) = some 2 := by decide +kernel
set_option maxRecDepth 100000 in
set_option maxHeartbeats 4000000 in
theorem c_J7_fill_d0a16 {l : Launch} {D : va_G} {ca : Nat → ClassId} {ad : Nat → Nat} {shs : List Sh} {N : State → Prop} {nq1 : Nat} {q1 : Nat} {x1 : Int64} (hq1 : shs[q1]? = some (2, nq1, [])) (hnq1 : nq1 < 2147483648) {σ : Mm} : CtV l D vcl ca ad shs N yJ7_fill_d0a16 (Cond.code yJ7_fill_d0a16 cJ7_fill_d0a16 5 none :: tbG) { frames := 0, cells := 0, slots := 0, locals := 0 } [.ref (ad q1), .long x1] σ (f_J7_fill_d0a16 nq1 q1 x1 σ) := by
  refine ct_V RJ7 rfl (by decide) rfl (Nat.le_of_ble_eq_true rfl) (fun p e s m below meth c res X hN hr hlk => ?_)
  show GJ7_fill_d0a16 p l e s m _ below meth c D ca ad shs res 0 [(0, .ref (ad q1)), (1, .long x1)] [] σ (f_J7_fill_d0a16 nq1 q1 x1 σ)
  unfold f_J7_fill_d0a16
  refine q_iconst X dJ7_fill_d0a16_0 ?_
  refine q_istore_n X [(3, .int (oi 0)), (0, .ref (ad q1)), (1, .long x1)] dJ7_fill_d0a16_1 (by decide) rfl ?_
  refine q_aload_n X dJ7_fill_d0a16_2 1 rfl ?_
  refine q_alen X hq1 (by decide) dJ7_fill_d0a16_3 ?_
  refine q_istore X [(4, .int (oi ((nq1 : Nat) : Int))), (3, .int (oi 0)), (0, .ref (ad q1)), (1, .long x1)] dJ7_fill_d0a16_4 (by decide) rfl ?_
  refine q_sub [(0, .ref (ad q1)), (1, .long x1), (3, .int (oi 0)), (4, .int (oi ((nq1 : Nat) : Int)))] [2, 3, 1, 0] rfl ?_
  exact t_J7_fill_d0a16_6 X hN hr hlk hq1 hnq1 2000 x1 0 ((nq1 : Nat) : Int) σ (by decide) (by omega)

/-! java/util/Arrays.fill([II)V -/
abbrev GJ7_fill_53178 (p : Program) (l : Launch) (e : Env) (s : State) (m : MethodId) (args : Array Value) (below : List Frame) (meth : Method) (c : Code) (D : va_G) (ca : Nat → ClassId) (ad : Nat → Nat) (shs : List Sh) (res : Mm) : Nat → List (Nat × Value) → List Value → Mm → Option (Mm) → Prop := G p l e { frames := 0, cells := 0, slots := 0, locals := 0 } s m args below meth c (MQ below (QcV D vcl ca ad shs s.heap.size res) args s 0 0 (Aw ad shs.length s.heap.size)) 4 D vcl ca ad shs (Aw ad shs.length s.heap.size) res
def f_J7_fill_53178_5 (nq1 : Nat) (q1 : Nat) : Nat → Int → Int → Int → Mm → Option (Mm)
  | 0, _, _, _, _ => none
  | n + 1, x1, x2, x3, σ => (if x3 ≤ x2 then some σ else ck ((0 : Int) ≤ x2 ∧ x2 < ((nq1 : Nat) : Int)) (ck (inR (x2 + 1)) (f_J7_fill_53178_5 nq1 q1 n x1 (x2 + 1) x3 (stI σ q1 (Int.toNat x2) x1))))
set_option maxRecDepth 100000 in
set_option maxHeartbeats 4000000 in
theorem t_J7_fill_53178_5 {p : Program} {l : Launch} {e : Env} {s : State} {m : MethodId} {args : Array Value} {below : List Frame} {meth : Method} {c : Code} {D : va_G} {ca : Nat → ClassId} {ad : Nat → Nat} {shs : List Sh} {N : State → Prop} {res : Mm} {nq1 : Nat} {q1 : Nat} (X : Cx p s m args c cJ7_fill_53178 4 RJ7 (Cond.code yJ7_fill_53178 cJ7_fill_53178 4 none :: tbG) D vcl ca) (hN : N s) (hr : meth.sig.returnType = none) (hlk : meth.locks = false) (hq1 : shs[q1]? = some (1, nq1, [])) (hnq1 : nq1 < 2147483648) : ∀ (n : Nat) (x1 : Int) (x2 : Int) (x3 : Int) (σ : Mm), inR x1 → inR x2 → inR x3 → GJ7_fill_53178 p l e s m args below meth c D ca ad shs res 5 [(0, .ref (ad q1)), (1, .int (oi x1)), (2, .int (oi x2)), (3, .int (oi x3))] [] σ (f_J7_fill_53178_5 nq1 q1 n x1 x2 x3 σ)
  := by
  intro n
  induction n with
  | zero => intro x1 x2 x3 σ hx1 hx2 hx3 h; cases h
  | succ n ih =>
    intro x1 x2 x3 σ hx1 hx2 hx3
    rw [f_J7_fill_53178_5]
    refine q_iload_n X dJ7_fill_53178_5 2 rfl ?_
    refine q_iload_n X dJ7_fill_53178_6 3 rfl ?_
    refine q_icmp_ge X hx2 hx3 20 dJ7_fill_53178_7 (by decide) (fun h1 => ?_) (fun h1 => ?_)
    · exact q_vret X hr hlk dJ7_fill_53178_20
    · refine q_aload_n X dJ7_fill_53178_10 0 rfl ?_
      refine q_iload_n X dJ7_fill_53178_11 2 rfl ?_
      refine q_iload_n X dJ7_fill_53178_12 1 rfl ?_
      refine q_iast X hq1 hnq1 hx1 dJ7_fill_53178_13 ?_
      refine q_iinc X [(2, .int (oi (x2 + 1))), (0, .ref (ad q1)), (1, .int (oi x1)), (3, .int (oi x3))] dJ7_fill_53178_14 (by decide) 2 rfl rfl (fun h2 => ?_)
      refine q_goto X 5 dJ7_fill_53178_17 (by decide) ?_
      refine q_sub [(0, .ref (ad q1)), (1, .int (oi x1)), (2, .int (oi (x2 + 1))), (3, .int (oi x3))] [1, 2, 0, 3] rfl ?_
      exact ih x1 (x2 + 1) x3 (stI σ q1 (Int.toNat x2) x1) hx1 h2 hx3
def f_J7_fill_53178 (nq1 : Nat) (q1 : Nat) (x1 : Int) (σ : Mm) : Option (Mm) :=
  f_J7_fill_53178_5 nq1 q1 2000 x1 0 ((nq1 : Nat) : Int) σ
theorem hd_J7_fill_53178 : yJ7_fill_53178.cls ≠ "java/lang/invoke/MethodHandle" ∧ yJ7_fill_53178.cls ≠ "java/lang/invoke/VarHandle" ∧ (parseMethodDescriptor yJ7_fill_53178.desc).map (fun d => d.parameters.length) = some 2 := by decide +kernel
set_option maxRecDepth 100000 in
set_option maxHeartbeats 4000000 in
theorem c_J7_fill_53178 {l : Launch} {D : va_G} {ca : Nat → ClassId} {ad : Nat → Nat} {shs : List Sh} {N : State → Prop} {nq1 : Nat} {q1 : Nat} {x1 : Int} (hq1 : shs[q1]? = some (1, nq1, [])) (hnq1 : nq1 < 2147483648) (hx1 : inR x1) {σ : Mm} : CtV l D vcl ca ad shs N yJ7_fill_53178 (Cond.code yJ7_fill_53178 cJ7_fill_53178 4 none :: tbG) { frames := 0, cells := 0, slots := 0, locals := 0 } [.ref (ad q1), .int (oi x1)] σ (f_J7_fill_53178 nq1 q1 x1 σ) := by
  refine ct_V RJ7 rfl (by decide) rfl (Nat.le_of_ble_eq_true rfl) (fun p e s m below meth c res X hN hr hlk => ?_)
  show GJ7_fill_53178 p l e s m _ below meth c D ca ad shs res 0 [(0, .ref (ad q1)), (1, .int (oi x1))] [] σ (f_J7_fill_53178 nq1 q1 x1 σ)
  unfold f_J7_fill_53178
  refine q_iconst X dJ7_fill_53178_0 ?_
  refine q_istore_n X [(2, .int (oi 0)), (0, .ref (ad q1)), (1, .int (oi x1))] dJ7_fill_53178_1 (by decide) rfl ?_
  refine q_aload_n X dJ7_fill_53178_2 1 rfl ?_
  refine q_alen X hq1 (by decide) dJ7_fill_53178_3 ?_
  refine q_istore_n X [(3, .int (oi ((nq1 : Nat) : Int))), (2, .int (oi 0)), (0, .ref (ad q1)), (1, .int (oi x1))] dJ7_fill_53178_4 (by decide) rfl ?_
  refine q_sub [(0, .ref (ad q1)), (1, .int (oi x1)), (2, .int (oi 0)), (3, .int (oi ((nq1 : Nat) : Int)))] [2, 3, 1, 0] rfl ?_
  exact t_J7_fill_53178_5 X hN hr hlk hq1 hnq1 2000 x1 0 ((nq1 : Nat) : Int) σ hx1 (by decide) (by omega)
