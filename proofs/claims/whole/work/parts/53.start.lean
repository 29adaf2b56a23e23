theorem ml_113 : (Cond.methodLinkNest "SiteObjects$Finding" 56 ({ cls := "SiteObjects$Sites", name := "<init>", desc := "()V" } : MethodName) "SiteObjects") ∈ lw_tbl := in_t1 (List.mem_of_getElem? (i := 113) rfl)
theorem ml_213 : (Cond.methodLinkNest "SiteObjects$Runner" 11 ({ cls := "SiteObjects$Frames", name := "<init>", desc := "()V" } : MethodName) "SiteObjects") ∈ lw_tbl := in_t1 (List.mem_of_getElem? (i := 213) rfl)
theorem ml_327 : (Cond.methodLinkNest "SiteObjects$Program" 70 ({ cls := "SiteObjects", name := "isIn", desc := "(II)Z" } : MethodName) "SiteObjects") ∈ lw_tbl := in_t2 (List.mem_of_getElem? (i := 87) rfl)
theorem ml_372 : (Cond.laysStatic "SiteObjects" "SORTS" "[I") ∈ lw_tbl := in_t2 (List.mem_of_getElem? (i := 132) rfl)
theorem ml_713 : (Cond.methodLinkNest "SiteObjects$Heap" 56 ({ cls := "SiteObjects", name := "isIn", desc := "(II)Z" } : MethodName) "SiteObjects") ∈ lw_tbl := in_t3 (List.mem_of_getElem? (i := 233) rfl)
def σz : Mm := (fun _ _ => 0, fun _ _ => 0)
theorem σz_z : Zb σz 0 := fun _ _ => ⟨fun _ => rfl, fun _ => rfl⟩
theorem σz_r : Rg σz := fun _ _ => by show inR 0; decide
/-- the static row, out of what the Statement gives of the start -/
theorem law_static {s : State} {b : Nat} (hts : ∀ w ∈ lw_tbl, w.before #[Value.ref b] s = true) (hgv : (Jvm.Cond.and given_1 narrow_1).before #[Value.ref b] s = true) : ∃ tb : Nat, va_Z "SiteObjects" "SORTS" "[I" (.ref tb) (AL s) s s.heap ∧ va_T .int tb 68 (fun j => .int (oi (sortsT j))) (AL s) s s.heap := by
  have hs := flat_of_before _ hgv
  have harr : (Cond.arrayOf (Term.static "SiteObjects" "SORTS" "[I") .int).before #[Value.ref b] s = true := hs _ (by decide +kernel)
  have hlen : (Cond.eq (Term.length (Term.static "SiteObjects" "SORTS" "[I")) (.int (Int32.ofNat 68))).before #[Value.ref b] s = true := hs _ (by decide +kernel)
  have hel : ∀ j, j < 68 → Cond.eq (Term.elem (Term.static "SiteObjects" "SORTS" "[I") (.int (Int32.ofNat j))) (.int (oi (sortsT j))) ∈ flatC (Jvm.Cond.and given_1 narrow_1) := by decide +kernel
  have hA : ∀ a : Nat, a < s.heap.size → ¬ AL s a := fun a h => Nat.not_le.mpr h
  obtain ⟨t, ht, hT⟩ := va_Tof (N := 68) (f := fun j => .int (oi (sortsT j))) (A := AL s) (by decide) harr (va_eqt hlen) (fun j hj => va_eqt (hs _ (hel j hj))) hA
  exact ⟨t, va_Zref (hts _ ml_372) (hts _ (tbG_l mw_1)) ht hA, hT⟩
theorem law_arr {s : State} {b : Nat} {ty : FieldType} (hp : (match ty with | .object _ => false | _ => true) = true) (h : (Cond.arrayClass ty).before #[Value.ref b] s = true) : ∃ cA : ClassId, ArrOfT s cA ty ∧ va_RA s cA ty := by
  obtain ⟨cA, kA, comp, h1, h2, h3⟩ := Cond.arrayClass_spec h
  refine ⟨cA, fun n z => ⟨fun k h => (by cases h), kA, h2, comp, h3⟩, ?_⟩
  cases ty with
  | object C => cases hp
  | _ => exact h1
theorem law_K {s : State} {b : Nat} (hts : ∀ w ∈ lw_tbl, w.before #[Value.ref b] s = true) : ∃ (D : va_G) (ca : Nat → ClassId), va_K D vcl (tysA ca) s := by
  obtain ⟨c0, i0, hK0⟩ := u_known (C := RX0) (T := TX0) (N := 13) (n := 13) hts (fun w h => tbG_l (iX0 w h)) (hts _ (tbG_l mw_106))
  obtain ⟨c1, i1, hK1⟩ := u_known (C := RX1) (T := TX1) (N := 5) (n := 5) hts (fun w h => tbG_l (iX1 w h)) (hts _ (tbG_l mw_212))
  obtain ⟨c2, i2, hK2⟩ := u_known (C := RX2) (T := TX2) (N := 7) (n := 7) hts (fun w h => tbG_l (iX2 w h)) (hts _ (tbG_l mw_235))
  obtain ⟨c3, i3, hK3⟩ := u_known (C := RX3) (T := TX3) (N := 17) (n := 17) hts (fun w h => tbG_l (iX3 w h)) (hts _ (tbG_l mw_21))
  obtain ⟨c4, i4, hK4⟩ := u_known (C := RX4) (T := TX4) (N := 8) (n := 8) hts (fun w h => tbG_l (iX4 w h)) (hts _ (tbG_l mw_206))
  obtain ⟨c5, i5, hK5⟩ := u_known (C := RX5) (T := TX5) (N := 9) (n := 9) hts (fun w h => tbG_l (iX5 w h)) (hts _ (tbG_l mw_112))
  obtain ⟨c6, i6, hK6⟩ := u_known (C := RX6) (T := TX6) (N := 7) (n := 7) hts (fun w h => tbG_l (iX6 w h)) (hts _ (tbG_l mw_13))
  obtain ⟨c7, i7, hK7⟩ := u_known (C := RX7) (T := TX7) (N := 59) (n := 59) hts (fun w h => tbG_l (iX7 w h)) (hts _ (tbG_l mw_817))
  obtain ⟨a0, ha0⟩ := law_arr (ty := .int) rfl (hts _ (tbG_l mw_104))
  obtain ⟨a1, ha1⟩ := law_arr (ty := .long) rfl (hts _ (tbG_l mw_156))
  obtain ⟨a2, ha2⟩ := law_arr (ty := .boolean) rfl (hts _ (tbG_l mw_157))
  refine ⟨(fun k => [c0, c1, c2, c3, c4, c5, c6, c7].getD k c0, fun k => [i0, i1, i2, i3, i4, i5, i6, i7].getD k i0), fun k => [a0, a1, a2].getD k a0, ?_, ?_⟩
  · intro k q hq
    match k, hq with
    | 0, hq => cases hq; exact hK0
    | 1, hq => cases hq; exact hK1
    | 2, hq => cases hq; exact hK2
    | 3, hq => cases hq; exact hK3
    | 4, hq => cases hq; exact hK4
    | 5, hq => cases hq; exact hK5
    | 6, hq => cases hq; exact hK6
    | 7, hq => cases hq; exact hK7
    | k + 8, hq => simp [vcl] at hq
  · intro k q hq
    match k, hq with
    | 0, hq => cases hq; exact ha0
    | 1, hq => cases hq; exact ha1
    | 2, hq => cases hq; exact ha2
    | k + 3, hq => simp [tysA] at hq
set_option maxRecDepth 100000 in
set_option maxHeartbeats 4000000 in
/-- THE WHOLE CLAIM, from what is left to show of the two pure texts -/
theorem whole_open {Inv : Mm → Mm → Prop} (hSt : StAll Inv) (hI0 : Inv (sm_X6_init σz) (sm_X7_init σz)) {p : Program} {e : Env} {s : State} {m : MethodId} {below : List Frame} {meth : Method} {c : Code} (l : Launch) {b L : Nat} {xs : Nat → Int32} (hL : L ≤ 3584) (C0 : lw_At p s m meth c b L xs) : W p l e room_1 s m #[Value.ref b] below meth c s.heap [] 0 0 (lw_Z below #[Value.ref b] s) (entryFrame m ([Value.ref b] : List Value).toArray 4) := by
  obtain ⟨hx, hb, hr, hml, hown, hts, hX, hbl, hlk, hgv⟩ := id C0
  obtain ⟨tb, hZ, hT⟩ := law_static hts hgv
  obtain ⟨D, ca, hK⟩ := law_K hts
  have X : Cx p s m #[Value.ref b] c code 4 R_law lw_tbl D vcl ca := ⟨hx, hb, hml, hown, hts, hK⟩
  have hNI : NI s := ⟨⟨va_tabs (A' := #[]) rfl rfl (hts _ ml_327), va_tabs (A' := #[]) rfl rfl (hts _ ml_713)⟩, va_tabs (A' := #[]) rfl rfl (hts _ ml_113), va_tabs (A' := #[]) rfl rfl (hts _ ml_213)⟩
  have hA : ∀ q, s.heap.size ≤ q → AL s q := fun _ h => h
  have hl := lv_entry ([.ref b]) (n := 4) (Nat.le_of_ble_eq_true rfl)
  rw [lg_entry_eq]
  generalize (lg_sl ([.ref b]) ++ List.replicate (4 - (lg_sl ([.ref b])).length) Slot.unset).toArray = ls at hl ⊢
  have hl : lv_has ls 4 [(0, .ref b)] := hl
  have KC : GN p l e room_1 s m #[Value.ref b] below meth c (lw_Z below #[Value.ref b] s) 4 D vcl ca (AL s) (fun _ => 0) [] σz 0 [(0, .ref b)] [] 0 0 := by
    refine n_new (shs := []) (shs' := sg_0) (fl := fn_X6) (ci := 6) X hA (fun w h => tbG_l (iX6 w h)) tyX6 tyX6_ok (tbG_l mw_12) (tbG_l mw_13) (tbG_l mw_1) rfl (fun _ => new_fs (σz_z.mono (by decide)) rfl fn_X6_ok) (by decide) (by decide) rfl (by decide) (by decide) dL_law_0 (fun ad1 q1 _ hq1 => ?_)
    refine n_dup X dL_law_3 rfl ?_
    have hz1 : Zb σz 1 := σz_z.mono (by decide)
    refine n_callN (shs := sg_0) (shs' := shC) X NIok hNI hA (ci_X6_init hq1 hz1 σz_r) (rnN_I X (cwI 0 hts (tbG_L (tbG_cons mw_16)) rfl rfl rfl (hts _ (tbG_l mw_1)) (hts _ (tbG_l mw_14)) (hts _ (tbG_l mw_15)) rfl hd_X6_init ⟨by decide, by decide⟩) rfl rfl (Nat.le_of_ble_eq_true rfl) dL_law_4 ⟨by decide, by decide⟩) (fun adC hkC => ?_)
    have hqC : adC 0 = q1 := (hkC 0 (by decide)).trans hq1
    subst hqC
    refine n_astore_n X [(1, .ref (adC 0)), (0, .ref b)] dL_law_7 (by decide) rfl ?_
    intro H locs ls hv hP hD hS
    -- the reference's object
    refine va_new (ci := 7) (fs := fds (fun _ => 0) σz 0 0 fn_X7) X.1 X.2.1 X.2.2.2.2.1 (fun w h => tbG_l (iX7 w h)) tyX7 tyX7_ok X.2.2.2.1 (hts _ (tbG_l mw_816)) (hts _ (tbG_l mw_817)) (hts _ (tbG_l mw_9)) hK hP hD hS hA rfl (new_fs (N := 59) (fl := fn_X7) (ty := tyX7) σz_z rfl fn_X7_ok) (by decide) (by decide) dL_law_8 (fun q2 H hP hD hS => ?_)
    have hw : (wl ca adC shC (sm_X6_init σz) ++ [(q2, (.inr (7, fds (fun _ => 0) σz 0 0 fn_X7) : va_E))]) = wl ca adC shC (sm_X6_init σz) ++ wl ca (fun _ => q2) [(0, 7, fn_X7)] σz := by
      have hf : fds (fun _ => 0) σz 0 0 fn_X7 = fds (fun _ => q2) σz 0 0 fn_X7 := fds_ad (n := 0) (fun z hz => absurd hz (Nat.not_lt_zero z)) fn_X7 0 (by decide)
      rw [hf]
      rfl
    rw [hw] at hP hD
    refine lv_dup X.1 X.2.1 dL_law_11 rfl ?_
    have hPc := va_P_r hP
    have hDc := va_D_r hD
    have hF : ∀ q, Aw (fun _ => q2) [((0 : Nat), (7 : Nat), fn_X7)].length H.size q → AL s q := Aw_in hA hDc hS
    have hct := ci_X7_init (l := l) (D := D) (ca := ca) (ad := fun _ => q2) (σ := σz) (a0 := q2) rfl (σz_z.mono (by decide)) σz_r
    refine va_callv (va_runI (As := []) (rest := [.ref q2]) ⟨X.1, X.2.1, X.2.2.1, X.2.2.2.1, X.2.2.2.2.1⟩ (hct H.size) (cwI 0 hts (tbG_L (tbG_cons mw_820)) rfl rfl rfl (hts _ (tbG_l mw_9)) (hts _ (tbG_l mw_818)) (hts _ (tbG_l mw_819)) rfl hd_X7_init ⟨by decide, by decide⟩) ⟨pc_blind NMok, pc_pre X NMok trivial hPc hDc⟩ rfl rfl hv.1 rfl (lv_room (Nat.le_of_ble_eq_true rfl)) dL_law_12 ⟨by decide, by decide⟩) hS (fun q _ h => hF q h) hF (fun adM t H1 locs1 ht hvm hp hB hz1 hk1 hS1 => ?_)
    obtain ⟨hP1, hD1⟩ := hB
    rw [ht] at hP1
    obtain ⟨hP2, hD2⟩ := jn_r hP hD hk1 hF (no_r hP hD) hP1 hD1
    have hqM : adM 0 = q2 := hp 0 (by decide)
    subst hqM
    refine lv_astore_n (lv' := [(2, .ref (adM 0)), (1, .ref (adC 0)), (0, .ref b)]) X.1 X.2.1 dL_law_15 rfl hv (by decide) rfl (fun ls hv => ?_)
    have KL : GL p l e s m below meth c (lw_Z below #[Value.ref b] s) D ca adC adM b 16 [(2, .ref (adM 0)), (1, .ref (adC 0)), (0, .ref b)] [] (sm_X6_init σz) (sm_X7_init σz) := by
      refine l_iconst X dL_law_16 ?_
      refine l_istore_n X [(3, .int (oi 0)), (2, .ref (adM 0)), (1, .ref (adC 0)), (0, .ref b)] dL_law_17 (by decide) rfl ?_
      refine l_sub [(0, .ref b), (1, .ref (adC 0)), (2, .ref (adM 0)), (3, .int (oi 0))] [3, 2, 1, 0] rfl ?_
      exact law_loop X hX hbl (by omega) hr hlk hNI.1 hZ hT hSt hL 600 0 _ _ (by omega) (by omega) (by omega) (ci_X6_init_r σz_r) (ci_X7_init_r σz_r) hI0
    exact KL H1 locs1 ls hv hP2 hD2 hS1
  have hP0 : va_P D vcl (wl ca (fun _ => 0) [] σz) s.heap := fun k q h => by simp [wl] at h
  have hD0 : va_D (AL s) (wl ca (fun _ => 0) [] σz) := ⟨fun i j p q h => by simp [wl] at h, fun k q h => by simp [wl] at h⟩
  exact KC s.heap [] ls hl hP0 hD0 va_S.rf
