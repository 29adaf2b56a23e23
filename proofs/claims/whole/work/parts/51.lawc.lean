/-- promise: cls answers alike -/
def St_cls (Inv : Mm → Mm → Prop) : Prop := ∀ (x1 : Int) (σC σM : Mm), inR x1 → Rg σC → Rg σM → Inv σC σM → ∃ (r : Int) (σC' : Mm) (σM' : Mm), f_X6_cls x1 σC = some (r, σC') ∧ f_X7_cls x1 σM = some (r, σM') ∧ Inv σC' σM'
/-- promise: method answers alike -/
def St_method (Inv : Mm → Mm → Prop) : Prop := ∀ (x1 : Int) (x2 : Int) (σC σM : Mm), inR x1 → inR x2 → Rg σC → Rg σM → Inv σC σM → ∃ (r : Int) (σC' : Mm) (σM' : Mm), f_X6_method x1 x2 σC = some (r, σC') ∧ f_X7_method x1 x2 σM = some (r, σM') ∧ Inv σC' σM'
/-- promise: step answers alike -/
def St_step (Inv : Mm → Mm → Prop) : Prop := ∀ (x1 : Int) (x2 : Int) (x3 : Int) (x4 : Int) (x5 : Int) (x6 : Int) (σC σM : Mm), inR x1 → inR x2 → inR x3 → inR x4 → inR x5 → inR x6 → Rg σC → Rg σM → Inv σC σM → ∃ (r : Int) (σC' : Mm) (σM' : Mm), f_X6_step x1 x2 x3 x4 x5 x6 σC = some (r, σC') ∧ f_X7_step x1 x2 x3 x4 x5 x6 σM = some (r, σM') ∧ Inv σC' σM'
/-- promise: work answers alike -/
def St_work (Inv : Mm → Mm → Prop) : Prop := ∀ (x1 : Int) (x2 : Int) (x3 : Int) (σC σM : Mm), inR x1 → inR x2 → inR x3 → Rg σC → Rg σM → Inv σC σM → ∃ (r : Int) (σC' : Mm) (σM' : Mm), f_X6_work x1 x2 x3 σC = some (r, σC') ∧ f_X7_work x1 x2 x3 σM = some (r, σM') ∧ Inv σC' σM'
/-- promise: name answers alike -/
def St_name (Inv : Mm → Mm → Prop) : Prop := ∀ (x1 : Int) (x2 : Int) (σC σM : Mm), inR x1 → inR x2 → Rg σC → Rg σM → Inv σC σM → ∃ (r : Int) (σM' : Mm), f_X6_name x1 x2 σC = some r ∧ f_X7_name x1 x2 σM = some (r, σM') ∧ Inv σC σM'
/-- promise: node answers alike -/
def St_node (Inv : Mm → Mm → Prop) : Prop := ∀ (x1 : Int) (x2 : Int) (σC σM : Mm), inR x1 → inR x2 → Rg σC → Rg σM → Inv σC σM → ∃ (r : Int) (σM' : Mm), f_X6_node x1 x2 σC = some r ∧ f_X7_node x1 x2 σM = some (r, σM') ∧ Inv σC σM'
/-- promise: held answers alike -/
def St_held (Inv : Mm → Mm → Prop) : Prop := ∀ (x1 : Int) (x2 : Int) (σC σM : Mm), inR x1 → inR x2 → Rg σC → Rg σM → Inv σC σM → ∃ (r : Int64), f_X6_held x1 x2 σC = some r ∧ f_X7_held x1 x2 σM = some r ∧ Inv σC σM
/-- promise: inside answers alike -/
def St_inside (Inv : Mm → Mm → Prop) : Prop := ∀ (x1 : Int) (x2 : Int) (σC σM : Mm), inR x1 → inR x2 → Rg σC → Rg σM → Inv σC σM → ∃ (r : Int64), f_X6_inside x1 x2 σC = some r ∧ f_X7_inside x1 x2 σM = some r ∧ Inv σC σM
/-- promise: global answers alike -/
def St_global (Inv : Mm → Mm → Prop) : Prop := ∀ (x1 : Int) (σC σM : Mm), inR x1 → Rg σC → Rg σM → Inv σC σM → ∃ (r : Int64), f_X6_global x1 σC = some r ∧ f_X7_global x1 σM = some r ∧ Inv σC σM
/-- promise: leads answers alike -/
def St_leads (Inv : Mm → Mm → Prop) : Prop := ∀ (x1 : Int) (x2 : Int) (x3 : Int) (σC σM : Mm), inR x1 → inR x2 → inR x3 → Rg σC → Rg σM → Inv σC σM → ∃ (r : Int) (σC' : Mm) (σM' : Mm), f_X6_leads x1 x2 x3 σC = some (r, σC') ∧ f_X7_leads x1 x2 x3 σM = some (r, σM') ∧ Inv σC' σM'
/-- promise: run answers alike -/
def St_run (Inv : Mm → Mm → Prop) : Prop := ∀ (x1 : Int64) (x3 : Int) (σC σM : Mm), inR x3 → Rg σC → Rg σM → Inv σC σM → ∃ (r : Int) (σC' : Mm) (σM' : Mm), f_X6_run x1 x3 σC = some (r, σC') ∧ f_X7_run x1 x3 σM = some (r, σM') ∧ Inv σC' σM'
/-- promise: ran answers alike -/
def St_ran (Inv : Mm → Mm → Prop) : Prop := ∀ (x1 : Int) (σC σM : Mm), inR x1 → Rg σC → Rg σM → Inv σC σM → ∃ (r : Int), f_X6_ran x1 σC = some r ∧ f_X7_ran x1 σM = some r ∧ Inv σC σM
/-- promise: object answers alike -/
def St_object (Inv : Mm → Mm → Prop) : Prop := ∀ (x1 : Int) (x2 : Int) (σC σM : Mm), inR x1 → inR x2 → Rg σC → Rg σM → Inv σC σM → ∃ (r : Int), f_X6_object x1 x2 σC = some r ∧ f_X7_object x1 x2 σM = some r ∧ Inv σC σM
/-- promise: many answers alike -/
def St_many (Inv : Mm → Mm → Prop) : Prop := ∀ (x1 : Int) (σC σM : Mm), inR x1 → Rg σC → Rg σM → Inv σC σM → ∃ (r : Int), f_X6_many x1 σC = some r ∧ f_X7_many x1 σM = some r ∧ Inv σC σM
/-- promise: count answers alike -/
def St_count (Inv : Mm → Mm → Prop) : Prop := ∀ (x1 : Int) (σC σM : Mm), inR x1 → Rg σC → Rg σM → Inv σC σM → ∃ (r : Int), f_X6_count x1 σC = some r ∧ f_X7_count x1 σM = some r ∧ Inv σC σM
/-- promise: within answers alike -/
def St_within (Inv : Mm → Mm → Prop) : Prop := ∀ (x1 : Int) (x2 : Int) (σC σM : Mm), inR x1 → inR x2 → Rg σC → Rg σM → Inv σC σM → ∃ (r : Int) (σC' : Mm) (σM' : Mm), f_X6_within x1 x2 σC = some (r, σC') ∧ f_X7_within x1 x2 σM = some (r, σM') ∧ Inv σC' σM'
/-- all that is left to show of the two pure texts -/
def StAll (Inv : Mm → Mm → Prop) : Prop := St_cls Inv ∧ St_method Inv ∧ St_step Inv ∧ St_work Inv ∧ St_name Inv ∧ St_node Inv ∧ St_held Inv ∧ St_inside Inv ∧ St_global Inv ∧ St_leads Inv ∧ St_run Inv ∧ St_ran Inv ∧ St_object Inv ∧ St_many Inv ∧ St_count Inv ∧ St_within Inv
theorem NC_L {s : State} (h : NC s) : ∀ (H : Heap) (locs : List Loc) (ad : Nat → Nat) (w : va_W), va_S (AL s) s.heap H locs → va_D (AL s) w → ∀ U : State, U.heap = H → s.WarmedH U.vm → NC U := fun _ _ _ _ _ _ U _ hW => NCok.1 s U hW h
theorem NS_b {ad : Nat → Nat} {tb : Nat} : ∀ (U : State) (g : JFrame) (mk : MethodId) (a : Array Value), NS ad tb U → NS ad tb (U.calling g mk a) := fun U g mk a h => ⟨NCok.2 U g mk a h.1, va_Z.moved (u := U) (U := U.calling g mk a) (Vm.Alike.refl U.vm) h.2.1, va_T.moved (u := U) (U := U.calling g mk a) (Vm.Alike.refl U.vm) h.2.2⟩
theorem NS_L {s : State} {ca : Nat → ClassId} {ad : Nat → Nat} {tb : Nat} {σ : Mm} (h : NC s) (hZ : va_Z "SiteObjects" "SORTS" "[I" (.ref tb) (AL s) s s.heap) (hT : va_T .int tb 68 (fun j => .int (oi (sortsT j))) (AL s) s s.heap) : ∀ (H : Heap) (locs : List Loc), va_S (AL s) s.heap H locs → va_D (AL s) (wl ca ad shC σ) → ∀ U : State, U.heap = H → s.WarmedH U.vm → NS ad tb U := by
  intro H locs hS hD U hU hW
  have hF : ∀ q, Aw ad shC.length U.heap.size q → AL s q := by rw [hU]; exact Aw_in (fun _ h => h) hD hS
  refine ⟨NCok.1 s U hW h, ?_, ?_⟩
  · exact va_Z.moved hW.alike (va_Z.narrow (va_Z.kept hZ (fun a h1 h2 => by rw [hU]; exact hS.2.1 a h1 h2)) hF)
  · exact va_T.moved hW.alike (va_T.narrow (va_T.kept hT (fun a h1 h2 => by rw [hU]; exact hS.2.1 a h1 h2)) hF)
set_option maxRecDepth 100000 in
set_option maxHeartbeats 4000000 in
theorem lc_cls {p : Program} {l : Launch} {e : Env} {s : State} {m : MethodId} {below : List Frame} {meth : Method} {c : Code} {D : va_G} {ca : Nat → ClassId} {adC adM : Nat → Nat} {b L tb : Nat} {xs : Nat → Int32} (X : Cx p s m #[Value.ref b] c code 4 R_law lw_tbl D vcl ca) (hX : va_X b L xs s s.heap) (hbl : b < s.heap.size) (hL : L < 2147483648) (hN : NC s) (hZ : va_Z "SiteObjects" "SORTS" "[I" (.ref tb) (AL s) s s.heap) (hT : va_T .int tb 68 (fun j => .int (oi (sortsT j))) (AL s) s s.heap) {Inv : Mm → Mm → Prop} (hS : St_cls Inv) {i : Int} (hi0 : 0 ≤ i) (hi : i + 7 ≤ (L : Int)) {σC σM : Mm} (h1 : Rg σC) (h2 : Rg σM) (hI0 : Inv σC σM) (hk : ∀ σC σM : Mm, Rg σC → Rg σM → Inv σC σM → GL p l e s m below meth c (lw_Z below #[Value.ref b] s) D ca adC adM b 685 [(0, .ref b), (1, .ref (adC 0)), (2, .ref (adM 0)), (3, .int (oi i))] [] σC σM) : GL p l e s m below meth c (lw_Z below #[Value.ref b] s) D ca adC adM b 112 [(0, .ref b), (1, .ref (adC 0)), (2, .ref (adM 0)), (3, .int (oi i))] [] σC σM := by
  obtain ⟨r, σC', σM', eC, eM, hI⟩ := hS (sv xs (Int.toNat (i + 1))) σC σM (sv_r _ _) h1 h2 hI0
  refine l_aload_n X 1 rfl dL_law_112 ?_
  refine l_aload_n X 0 rfl dL_law_113 ?_
  refine l_iload_n X 3 rfl dL_law_114 ?_
  refine l_iconst X dL_law_115 ?_
  refine l_iadd X dL_law_116 ?_
  refine l_sld X hX hbl hL (by omega) dL_law_117 ?_
  refine l_callCI X (c_X6_cls (sv_r _ _)) eC h1 (cwV 1 X.2.2.2.2.1 (tbG_L (tbG_V mw_319 mw_320 mw_321 mw_1 mw_322)) rfl rfl rfl hd_X6_cls ⟨by decide, by decide⟩) rfl rfl (Nat.le_of_ble_eq_true rfl) dL_law_118 (fun U g mk a h => NCok.2 U g mk a h) (fun H locs h1 h2 U h3 h4 => NCok.1 s U h4 hN) (fun hrC hRC => ?_)
  refine l_aload_n X 2 rfl dL_law_121 ?_
  refine l_aload_n X 0 rfl dL_law_122 ?_
  refine l_iload_n X 3 rfl dL_law_123 ?_
  refine l_iconst X dL_law_124 ?_
  refine l_iadd X dL_law_125 ?_
  refine l_sld X hX hbl hL (by omega) dL_law_126 ?_
  refine l_callMI X (c_X7_cls (sv_r _ _)) eM h2 (cwV 1 X.2.2.2.2.1 (tbG_L (tbG_V mw_1000 mw_1001 mw_1002 mw_9 mw_1003)) rfl rfl rfl hd_X7_cls ⟨by decide, by decide⟩) rfl rfl (Nat.le_of_ble_eq_true rfl) dL_law_127 (fun _ _ _ _ _ => trivial) (fun _ _ _ _ _ _ _ => trivial) (fun hrM hRM => ?_)
  exact l_same X 685 dL_law_130 (by decide) (hk _ _ hRC hRM hI)
set_option maxRecDepth 100000 in
set_option maxHeartbeats 4000000 in
theorem lc_method {p : Program} {l : Launch} {e : Env} {s : State} {m : MethodId} {below : List Frame} {meth : Method} {c : Code} {D : va_G} {ca : Nat → ClassId} {adC adM : Nat → Nat} {b L tb : Nat} {xs : Nat → Int32} (X : Cx p s m #[Value.ref b] c code 4 R_law lw_tbl D vcl ca) (hX : va_X b L xs s s.heap) (hbl : b < s.heap.size) (hL : L < 2147483648) (hN : NC s) (hZ : va_Z "SiteObjects" "SORTS" "[I" (.ref tb) (AL s) s s.heap) (hT : va_T .int tb 68 (fun j => .int (oi (sortsT j))) (AL s) s s.heap) {Inv : Mm → Mm → Prop} (hS : St_method Inv) {i : Int} (hi0 : 0 ≤ i) (hi : i + 7 ≤ (L : Int)) {σC σM : Mm} (h1 : Rg σC) (h2 : Rg σM) (hI0 : Inv σC σM) (hk : ∀ σC σM : Mm, Rg σC → Rg σM → Inv σC σM → GL p l e s m below meth c (lw_Z below #[Value.ref b] s) D ca adC adM b 685 [(0, .ref b), (1, .ref (adC 0)), (2, .ref (adM 0)), (3, .int (oi i))] [] σC σM) : GL p l e s m below meth c (lw_Z below #[Value.ref b] s) D ca adC adM b 135 [(0, .ref b), (1, .ref (adC 0)), (2, .ref (adM 0)), (3, .int (oi i))] [] σC σM := by
  obtain ⟨r, σC', σM', eC, eM, hI⟩ := hS (sv xs (Int.toNat (i + 1))) (sv xs (Int.toNat (i + 2))) σC σM (sv_r _ _) (sv_r _ _) h1 h2 hI0
  refine l_aload_n X 1 rfl dL_law_135 ?_
  refine l_aload_n X 0 rfl dL_law_136 ?_
  refine l_iload_n X 3 rfl dL_law_137 ?_
  refine l_iconst X dL_law_138 ?_
  refine l_iadd X dL_law_139 ?_
  refine l_sld X hX hbl hL (by omega) dL_law_140 ?_
  refine l_aload_n X 0 rfl dL_law_141 ?_
  refine l_iload_n X 3 rfl dL_law_142 ?_
  refine l_iconst X dL_law_143 ?_
  refine l_iadd X dL_law_144 ?_
  refine l_sld X hX hbl hL (by omega) dL_law_145 ?_
  refine l_callCI X (c_X6_method (sv_r _ _) (sv_r _ _)) eC h1 (cwV 2 X.2.2.2.2.1 (tbG_L (tbG_V mw_341 mw_342 mw_343 mw_1 mw_344)) rfl rfl rfl hd_X6_method ⟨by decide, by decide⟩) rfl rfl (Nat.le_of_ble_eq_true rfl) dL_law_146 (fun U g mk a h => NCok.2 U g mk a h) (fun H locs h1 h2 U h3 h4 => NCok.1 s U h4 hN) (fun hrC hRC => ?_)
  refine l_aload_n X 2 rfl dL_law_149 ?_
  refine l_aload_n X 0 rfl dL_law_150 ?_
  refine l_iload_n X 3 rfl dL_law_151 ?_
  refine l_iconst X dL_law_152 ?_
  refine l_iadd X dL_law_153 ?_
  refine l_sld X hX hbl hL (by omega) dL_law_154 ?_
  refine l_aload_n X 0 rfl dL_law_155 ?_
  refine l_iload_n X 3 rfl dL_law_156 ?_
  refine l_iconst X dL_law_157 ?_
  refine l_iadd X dL_law_158 ?_
  refine l_sld X hX hbl hL (by omega) dL_law_159 ?_
  refine l_callMI X (c_X7_method (sv_r _ _) (sv_r _ _)) eM h2 (cwV 2 X.2.2.2.2.1 (tbG_L (tbG_V mw_1011 mw_1012 mw_1013 mw_9 mw_1014)) rfl rfl rfl hd_X7_method ⟨by decide, by decide⟩) rfl rfl (Nat.le_of_ble_eq_true rfl) dL_law_160 (fun _ _ _ _ _ => trivial) (fun _ _ _ _ _ _ _ => trivial) (fun hrM hRM => ?_)
  exact l_same X 685 dL_law_163 (by decide) (hk _ _ hRC hRM hI)
set_option maxRecDepth 100000 in
set_option maxHeartbeats 4000000 in
theorem lc_step {p : Program} {l : Launch} {e : Env} {s : State} {m : MethodId} {below : List Frame} {meth : Method} {c : Code} {D : va_G} {ca : Nat → ClassId} {adC adM : Nat → Nat} {b L tb : Nat} {xs : Nat → Int32} (X : Cx p s m #[Value.ref b] c code 4 R_law lw_tbl D vcl ca) (hX : va_X b L xs s s.heap) (hbl : b < s.heap.size) (hL : L < 2147483648) (hN : NC s) (hZ : va_Z "SiteObjects" "SORTS" "[I" (.ref tb) (AL s) s s.heap) (hT : va_T .int tb 68 (fun j => .int (oi (sortsT j))) (AL s) s s.heap) {Inv : Mm → Mm → Prop} (hS : St_step Inv) {i : Int} (hi0 : 0 ≤ i) (hi : i + 7 ≤ (L : Int)) {σC σM : Mm} (h1 : Rg σC) (h2 : Rg σM) (hI0 : Inv σC σM) (hk : ∀ σC σM : Mm, Rg σC → Rg σM → Inv σC σM → GL p l e s m below meth c (lw_Z below #[Value.ref b] s) D ca adC adM b 685 [(0, .ref b), (1, .ref (adC 0)), (2, .ref (adM 0)), (3, .int (oi i))] [] σC σM) : GL p l e s m below meth c (lw_Z below #[Value.ref b] s) D ca adC adM b 168 [(0, .ref b), (1, .ref (adC 0)), (2, .ref (adM 0)), (3, .int (oi i))] [] σC σM := by
  obtain ⟨r, σC', σM', eC, eM, hI⟩ := hS (sv xs (Int.toNat (i + 1))) (sv xs (Int.toNat (i + 2))) (sv xs (Int.toNat (i + 3))) (sv xs (Int.toNat (i + 4))) (sv xs (Int.toNat (i + 5))) (sv xs (Int.toNat (i + 6))) σC σM (sv_r _ _) (sv_r _ _) (sv_r _ _) (sv_r _ _) (sv_r _ _) (sv_r _ _) h1 h2 hI0
  refine l_aload_n X 1 rfl dL_law_168 ?_
  refine l_aload_n X 0 rfl dL_law_169 ?_
  refine l_iload_n X 3 rfl dL_law_170 ?_
  refine l_iconst X dL_law_171 ?_
  refine l_iadd X dL_law_172 ?_
  refine l_sld X hX hbl hL (by omega) dL_law_173 ?_
  refine l_aload_n X 0 rfl dL_law_174 ?_
  refine l_iload_n X 3 rfl dL_law_175 ?_
  refine l_iconst X dL_law_176 ?_
  refine l_iadd X dL_law_177 ?_
  refine l_sld X hX hbl hL (by omega) dL_law_178 ?_
  refine l_aload_n X 0 rfl dL_law_179 ?_
  refine l_iload_n X 3 rfl dL_law_180 ?_
  refine l_iconst X dL_law_181 ?_
  refine l_iadd X dL_law_182 ?_
  refine l_sld X hX hbl hL (by omega) dL_law_183 ?_
  refine l_aload_n X 0 rfl dL_law_184 ?_
  refine l_iload_n X 3 rfl dL_law_185 ?_
  refine l_iconst X dL_law_186 ?_
  refine l_iadd X dL_law_187 ?_
  refine l_sld X hX hbl hL (by omega) dL_law_188 ?_
  refine l_aload_n X 0 rfl dL_law_189 ?_
  refine l_iload_n X 3 rfl dL_law_190 ?_
  refine l_iconst X dL_law_191 ?_
  refine l_iadd X dL_law_192 ?_
  refine l_sld X hX hbl hL (by omega) dL_law_193 ?_
  refine l_aload_n X 0 rfl dL_law_194 ?_
  refine l_iload_n X 3 rfl dL_law_195 ?_
  refine l_bipush X (by decide) dL_law_196 ?_
  refine l_iadd X dL_law_198 ?_
  refine l_sld X hX hbl hL (by omega) dL_law_199 ?_
  refine l_callCI X (c_X6_step (sv_r _ _) (sv_r _ _) (sv_r _ _) (sv_r _ _) (sv_r _ _) (sv_r _ _)) eC h1 (cwV 6 X.2.2.2.2.1 (tbG_L (tbG_V mw_362 mw_363 mw_364 mw_1 mw_365)) rfl rfl rfl hd_X6_step ⟨by decide, by decide⟩) rfl rfl (Nat.le_of_ble_eq_true rfl) dL_law_200 NS_b (NS_L hN hZ hT) (fun hrC hRC => ?_)
  refine l_aload_n X 2 rfl dL_law_203 ?_
  refine l_aload_n X 0 rfl dL_law_204 ?_
  refine l_iload_n X 3 rfl dL_law_205 ?_
  refine l_iconst X dL_law_206 ?_
  refine l_iadd X dL_law_207 ?_
  refine l_sld X hX hbl hL (by omega) dL_law_208 ?_
  refine l_aload_n X 0 rfl dL_law_209 ?_
  refine l_iload_n X 3 rfl dL_law_210 ?_
  refine l_iconst X dL_law_211 ?_
  refine l_iadd X dL_law_212 ?_
  refine l_sld X hX hbl hL (by omega) dL_law_213 ?_
  refine l_aload_n X 0 rfl dL_law_214 ?_
  refine l_iload_n X 3 rfl dL_law_215 ?_
  refine l_iconst X dL_law_216 ?_
  refine l_iadd X dL_law_217 ?_
  refine l_sld X hX hbl hL (by omega) dL_law_218 ?_
  refine l_aload_n X 0 rfl dL_law_219 ?_
  refine l_iload_n X 3 rfl dL_law_220 ?_
  refine l_iconst X dL_law_221 ?_
  refine l_iadd X dL_law_222 ?_
  refine l_sld X hX hbl hL (by omega) dL_law_223 ?_
  refine l_aload_n X 0 rfl dL_law_224 ?_
  refine l_iload_n X 3 rfl dL_law_225 ?_
  refine l_iconst X dL_law_226 ?_
  refine l_iadd X dL_law_227 ?_
  refine l_sld X hX hbl hL (by omega) dL_law_228 ?_
  refine l_aload_n X 0 rfl dL_law_229 ?_
  refine l_iload_n X 3 rfl dL_law_230 ?_
  refine l_bipush X (by decide) dL_law_231 ?_
  refine l_iadd X dL_law_233 ?_
  refine l_sld X hX hbl hL (by omega) dL_law_234 ?_
  refine l_callMI X (c_X7_step (sv_r _ _) (sv_r _ _) (sv_r _ _) (sv_r _ _) (sv_r _ _) (sv_r _ _)) eM h2 (cwV 6 X.2.2.2.2.1 (tbG_L (tbG_V mw_1015 mw_1016 mw_1017 mw_9 mw_1018)) rfl rfl rfl hd_X7_step ⟨by decide, by decide⟩) rfl rfl (Nat.le_of_ble_eq_true rfl) dL_law_235 (fun _ _ _ _ _ => trivial) (fun _ _ _ _ _ _ _ => trivial) (fun hrM hRM => ?_)
  exact l_same X 685 dL_law_238 (by decide) (hk _ _ hRC hRM hI)
set_option maxRecDepth 100000 in
set_option maxHeartbeats 4000000 in
theorem lc_work {p : Program} {l : Launch} {e : Env} {s : State} {m : MethodId} {below : List Frame} {meth : Method} {c : Code} {D : va_G} {ca : Nat → ClassId} {adC adM : Nat → Nat} {b L tb : Nat} {xs : Nat → Int32} (X : Cx p s m #[Value.ref b] c code 4 R_law lw_tbl D vcl ca) (hX : va_X b L xs s s.heap) (hbl : b < s.heap.size) (hL : L < 2147483648) (hN : NC s) (hZ : va_Z "SiteObjects" "SORTS" "[I" (.ref tb) (AL s) s s.heap) (hT : va_T .int tb 68 (fun j => .int (oi (sortsT j))) (AL s) s s.heap) {Inv : Mm → Mm → Prop} (hS : St_work Inv) {i : Int} (hi0 : 0 ≤ i) (hi : i + 7 ≤ (L : Int)) {σC σM : Mm} (h1 : Rg σC) (h2 : Rg σM) (hI0 : Inv σC σM) (hk : ∀ σC σM : Mm, Rg σC → Rg σM → Inv σC σM → GL p l e s m below meth c (lw_Z below #[Value.ref b] s) D ca adC adM b 685 [(0, .ref b), (1, .ref (adC 0)), (2, .ref (adM 0)), (3, .int (oi i))] [] σC σM) : GL p l e s m below meth c (lw_Z below #[Value.ref b] s) D ca adC adM b 243 [(0, .ref b), (1, .ref (adC 0)), (2, .ref (adM 0)), (3, .int (oi i))] [] σC σM := by
  obtain ⟨r, σC', σM', eC, eM, hI⟩ := hS (sv xs (Int.toNat (i + 1))) (sv xs (Int.toNat (i + 2))) (sv xs (Int.toNat (i + 3))) σC σM (sv_r _ _) (sv_r _ _) (sv_r _ _) h1 h2 hI0
  refine l_aload_n X 1 rfl dL_law_243 ?_
  refine l_aload_n X 0 rfl dL_law_244 ?_
  refine l_iload_n X 3 rfl dL_law_245 ?_
  refine l_iconst X dL_law_246 ?_
  refine l_iadd X dL_law_247 ?_
  refine l_sld X hX hbl hL (by omega) dL_law_248 ?_
  refine l_aload_n X 0 rfl dL_law_249 ?_
  refine l_iload_n X 3 rfl dL_law_250 ?_
  refine l_iconst X dL_law_251 ?_
  refine l_iadd X dL_law_252 ?_
  refine l_sld X hX hbl hL (by omega) dL_law_253 ?_
  refine l_aload_n X 0 rfl dL_law_254 ?_
  refine l_iload_n X 3 rfl dL_law_255 ?_
  refine l_iconst X dL_law_256 ?_
  refine l_iadd X dL_law_257 ?_
  refine l_sld X hX hbl hL (by omega) dL_law_258 ?_
  refine l_callCI X (c_X6_work (sv_r _ _) (sv_r _ _) (sv_r _ _)) eC h1 (cwV 3 X.2.2.2.2.1 (tbG_L (tbG_V mw_394 mw_395 mw_396 mw_1 mw_397)) rfl rfl rfl hd_X6_work ⟨by decide, by decide⟩) rfl rfl (Nat.le_of_ble_eq_true rfl) dL_law_259 (fun U g mk a h => NCok.2 U g mk a h) (fun H locs h1 h2 U h3 h4 => NCok.1 s U h4 hN) (fun hrC hRC => ?_)
  refine l_aload_n X 2 rfl dL_law_262 ?_
  refine l_aload_n X 0 rfl dL_law_263 ?_
  refine l_iload_n X 3 rfl dL_law_264 ?_
  refine l_iconst X dL_law_265 ?_
  refine l_iadd X dL_law_266 ?_
  refine l_sld X hX hbl hL (by omega) dL_law_267 ?_
  refine l_aload_n X 0 rfl dL_law_268 ?_
  refine l_iload_n X 3 rfl dL_law_269 ?_
  refine l_iconst X dL_law_270 ?_
  refine l_iadd X dL_law_271 ?_
  refine l_sld X hX hbl hL (by omega) dL_law_272 ?_
  refine l_aload_n X 0 rfl dL_law_273 ?_
  refine l_iload_n X 3 rfl dL_law_274 ?_
  refine l_iconst X dL_law_275 ?_
  refine l_iadd X dL_law_276 ?_
  refine l_sld X hX hbl hL (by omega) dL_law_277 ?_
  refine l_callMI X (c_X7_work (sv_r _ _) (sv_r _ _) (sv_r _ _)) eM h2 (cwV 3 X.2.2.2.2.1 (tbG_L (tbG_V mw_1030 mw_1031 mw_1032 mw_9 mw_1033)) rfl rfl rfl hd_X7_work ⟨by decide, by decide⟩) rfl rfl (Nat.le_of_ble_eq_true rfl) dL_law_278 (fun _ _ _ _ _ => trivial) (fun _ _ _ _ _ _ _ => trivial) (fun hrM hRM => ?_)
  exact l_same X 685 dL_law_281 (by decide) (hk _ _ hRC hRM hI)
set_option maxRecDepth 100000 in
set_option maxHeartbeats 4000000 in
theorem lc_name {p : Program} {l : Launch} {e : Env} {s : State} {m : MethodId} {below : List Frame} {meth : Method} {c : Code} {D : va_G} {ca : Nat → ClassId} {adC adM : Nat → Nat} {b L tb : Nat} {xs : Nat → Int32} (X : Cx p s m #[Value.ref b] c code 4 R_law lw_tbl D vcl ca) (hX : va_X b L xs s s.heap) (hbl : b < s.heap.size) (hL : L < 2147483648) (hN : NC s) (hZ : va_Z "SiteObjects" "SORTS" "[I" (.ref tb) (AL s) s s.heap) (hT : va_T .int tb 68 (fun j => .int (oi (sortsT j))) (AL s) s s.heap) {Inv : Mm → Mm → Prop} (hS : St_name Inv) {i : Int} (hi0 : 0 ≤ i) (hi : i + 7 ≤ (L : Int)) {σC σM : Mm} (h1 : Rg σC) (h2 : Rg σM) (hI0 : Inv σC σM) (hk : ∀ σC σM : Mm, Rg σC → Rg σM → Inv σC σM → GL p l e s m below meth c (lw_Z below #[Value.ref b] s) D ca adC adM b 685 [(0, .ref b), (1, .ref (adC 0)), (2, .ref (adM 0)), (3, .int (oi i))] [] σC σM) : GL p l e s m below meth c (lw_Z below #[Value.ref b] s) D ca adC adM b 286 [(0, .ref b), (1, .ref (adC 0)), (2, .ref (adM 0)), (3, .int (oi i))] [] σC σM := by
  obtain ⟨r, σM', eC, eM, hI⟩ := hS (sv xs (Int.toNat (i + 1))) (sv xs (Int.toNat (i + 2))) σC σM (sv_r _ _) (sv_r _ _) h1 h2 hI0
  refine l_aload_n X 1 rfl dL_law_286 ?_
  refine l_aload_n X 0 rfl dL_law_287 ?_
  refine l_iload_n X 3 rfl dL_law_288 ?_
  refine l_iconst X dL_law_289 ?_
  refine l_iadd X dL_law_290 ?_
  refine l_sld X hX hbl hL (by omega) dL_law_291 ?_
  refine l_aload_n X 0 rfl dL_law_292 ?_
  refine l_iload_n X 3 rfl dL_law_293 ?_
  refine l_iconst X dL_law_294 ?_
  refine l_iadd X dL_law_295 ?_
  refine l_sld X hX hbl hL (by omega) dL_law_296 ?_
  refine l_callCI X (c_X6_name (sv_r _ _) (sv_r _ _)) (by rw [eC]; rfl) h1 (cwV 2 X.2.2.2.2.1 (tbG_L (tbG_V mw_554 mw_555 mw_556 mw_1 mw_557)) rfl rfl rfl hd_X6_name ⟨by decide, by decide⟩) rfl rfl (Nat.le_of_ble_eq_true rfl) dL_law_297 (fun U g mk a h => NCok.2 U g mk a h) (fun H locs h1 h2 U h3 h4 => NCok.1 s U h4 hN) (fun hrC hRC => ?_)
  refine l_aload_n X 2 rfl dL_law_300 ?_
  refine l_aload_n X 0 rfl dL_law_301 ?_
  refine l_iload_n X 3 rfl dL_law_302 ?_
  refine l_iconst X dL_law_303 ?_
  refine l_iadd X dL_law_304 ?_
  refine l_sld X hX hbl hL (by omega) dL_law_305 ?_
  refine l_aload_n X 0 rfl dL_law_306 ?_
  refine l_iload_n X 3 rfl dL_law_307 ?_
  refine l_iconst X dL_law_308 ?_
  refine l_iadd X dL_law_309 ?_
  refine l_sld X hX hbl hL (by omega) dL_law_310 ?_
  refine l_callMI X (c_X7_name (sv_r _ _) (sv_r _ _)) eM h2 (cwV 2 X.2.2.2.2.1 (tbG_L (tbG_V mw_1107 mw_1108 mw_1109 mw_9 mw_1110)) rfl rfl rfl hd_X7_name ⟨by decide, by decide⟩) rfl rfl (Nat.le_of_ble_eq_true rfl) dL_law_311 (fun _ _ _ _ _ => trivial) (fun _ _ _ _ _ _ _ => trivial) (fun hrM hRM => ?_)
  exact l_same X 685 dL_law_314 (by decide) (hk _ _ hRC hRM hI)
set_option maxRecDepth 100000 in
set_option maxHeartbeats 4000000 in
theorem lc_node {p : Program} {l : Launch} {e : Env} {s : State} {m : MethodId} {below : List Frame} {meth : Method} {c : Code} {D : va_G} {ca : Nat → ClassId} {adC adM : Nat → Nat} {b L tb : Nat} {xs : Nat → Int32} (X : Cx p s m #[Value.ref b] c code 4 R_law lw_tbl D vcl ca) (hX : va_X b L xs s s.heap) (hbl : b < s.heap.size) (hL : L < 2147483648) (hN : NC s) (hZ : va_Z "SiteObjects" "SORTS" "[I" (.ref tb) (AL s) s s.heap) (hT : va_T .int tb 68 (fun j => .int (oi (sortsT j))) (AL s) s s.heap) {Inv : Mm → Mm → Prop} (hS : St_node Inv) {i : Int} (hi0 : 0 ≤ i) (hi : i + 7 ≤ (L : Int)) {σC σM : Mm} (h1 : Rg σC) (h2 : Rg σM) (hI0 : Inv σC σM) (hk : ∀ σC σM : Mm, Rg σC → Rg σM → Inv σC σM → GL p l e s m below meth c (lw_Z below #[Value.ref b] s) D ca adC adM b 685 [(0, .ref b), (1, .ref (adC 0)), (2, .ref (adM 0)), (3, .int (oi i))] [] σC σM) : GL p l e s m below meth c (lw_Z below #[Value.ref b] s) D ca adC adM b 319 [(0, .ref b), (1, .ref (adC 0)), (2, .ref (adM 0)), (3, .int (oi i))] [] σC σM := by
  obtain ⟨r, σM', eC, eM, hI⟩ := hS (sv xs (Int.toNat (i + 1))) (sv xs (Int.toNat (i + 2))) σC σM (sv_r _ _) (sv_r _ _) h1 h2 hI0
  refine l_aload_n X 1 rfl dL_law_319 ?_
  refine l_aload_n X 0 rfl dL_law_320 ?_
  refine l_iload_n X 3 rfl dL_law_321 ?_
  refine l_iconst X dL_law_322 ?_
  refine l_iadd X dL_law_323 ?_
  refine l_sld X hX hbl hL (by omega) dL_law_324 ?_
  refine l_aload_n X 0 rfl dL_law_325 ?_
  refine l_iload_n X 3 rfl dL_law_326 ?_
  refine l_iconst X dL_law_327 ?_
  refine l_iadd X dL_law_328 ?_
  refine l_sld X hX hbl hL (by omega) dL_law_329 ?_
  refine l_callCI X (c_X6_node (sv_r _ _) (sv_r _ _)) (by rw [eC]; rfl) h1 (cwV 2 X.2.2.2.2.1 (tbG_L (tbG_V mw_558 mw_559 mw_560 mw_1 mw_561)) rfl rfl rfl hd_X6_node ⟨by decide, by decide⟩) rfl rfl (Nat.le_of_ble_eq_true rfl) dL_law_330 (fun U g mk a h => NCok.2 U g mk a h) (fun H locs h1 h2 U h3 h4 => NCok.1 s U h4 hN) (fun hrC hRC => ?_)
  refine l_aload_n X 2 rfl dL_law_333 ?_
  refine l_aload_n X 0 rfl dL_law_334 ?_
  refine l_iload_n X 3 rfl dL_law_335 ?_
  refine l_iconst X dL_law_336 ?_
  refine l_iadd X dL_law_337 ?_
  refine l_sld X hX hbl hL (by omega) dL_law_338 ?_
  refine l_aload_n X 0 rfl dL_law_339 ?_
  refine l_iload_n X 3 rfl dL_law_340 ?_
  refine l_iconst X dL_law_341 ?_
  refine l_iadd X dL_law_342 ?_
  refine l_sld X hX hbl hL (by omega) dL_law_343 ?_
  refine l_callMI X (c_X7_node (sv_r _ _) (sv_r _ _)) eM h2 (cwV 2 X.2.2.2.2.1 (tbG_L (tbG_V mw_1123 mw_1124 mw_1125 mw_9 mw_1126)) rfl rfl rfl hd_X7_node ⟨by decide, by decide⟩) rfl rfl (Nat.le_of_ble_eq_true rfl) dL_law_344 (fun _ _ _ _ _ => trivial) (fun _ _ _ _ _ _ _ => trivial) (fun hrM hRM => ?_)
  exact l_same X 685 dL_law_347 (by decide) (hk _ _ hRC hRM hI)
set_option maxRecDepth 100000 in
set_option maxHeartbeats 4000000 in
theorem lc_held {p : Program} {l : Launch} {e : Env} {s : State} {m : MethodId} {below : List Frame} {meth : Method} {c : Code} {D : va_G} {ca : Nat → ClassId} {adC adM : Nat → Nat} {b L tb : Nat} {xs : Nat → Int32} (X : Cx p s m #[Value.ref b] c code 4 R_law lw_tbl D vcl ca) (hX : va_X b L xs s s.heap) (hbl : b < s.heap.size) (hL : L < 2147483648) (hN : NC s) (hZ : va_Z "SiteObjects" "SORTS" "[I" (.ref tb) (AL s) s s.heap) (hT : va_T .int tb 68 (fun j => .int (oi (sortsT j))) (AL s) s s.heap) {Inv : Mm → Mm → Prop} (hS : St_held Inv) {i : Int} (hi0 : 0 ≤ i) (hi : i + 7 ≤ (L : Int)) {σC σM : Mm} (h1 : Rg σC) (h2 : Rg σM) (hI0 : Inv σC σM) (hk : ∀ σC σM : Mm, Rg σC → Rg σM → Inv σC σM → GL p l e s m below meth c (lw_Z below #[Value.ref b] s) D ca adC adM b 685 [(0, .ref b), (1, .ref (adC 0)), (2, .ref (adM 0)), (3, .int (oi i))] [] σC σM) : GL p l e s m below meth c (lw_Z below #[Value.ref b] s) D ca adC adM b 352 [(0, .ref b), (1, .ref (adC 0)), (2, .ref (adM 0)), (3, .int (oi i))] [] σC σM := by
  obtain ⟨r, eC, eM, hI⟩ := hS (sv xs (Int.toNat (i + 1))) (sv xs (Int.toNat (i + 2))) σC σM (sv_r _ _) (sv_r _ _) h1 h2 hI0
  refine l_aload_n X 1 rfl dL_law_352 ?_
  refine l_aload_n X 0 rfl dL_law_353 ?_
  refine l_iload_n X 3 rfl dL_law_354 ?_
  refine l_iconst X dL_law_355 ?_
  refine l_iadd X dL_law_356 ?_
  refine l_sld X hX hbl hL (by omega) dL_law_357 ?_
  refine l_aload_n X 0 rfl dL_law_358 ?_
  refine l_iload_n X 3 rfl dL_law_359 ?_
  refine l_iconst X dL_law_360 ?_
  refine l_iadd X dL_law_361 ?_
  refine l_sld X hX hbl hL (by omega) dL_law_362 ?_
  refine l_callCL X (c_X6_held (sv_r _ _) (sv_r _ _)) (by rw [eC]; rfl) h1 (cwV 2 X.2.2.2.2.1 (tbG_L (tbG_V mw_570 mw_571 mw_572 mw_1 mw_573)) rfl rfl rfl hd_X6_held ⟨by decide, by decide⟩) rfl rfl (Nat.le_of_ble_eq_true rfl) dL_law_363 (fun U g mk a h => NCok.2 U g mk a h) (fun H locs h1 h2 U h3 h4 => NCok.1 s U h4 hN) (fun hRC => ?_)
  refine l_aload_n X 2 rfl dL_law_366 ?_
  refine l_aload_n X 0 rfl dL_law_367 ?_
  refine l_iload_n X 3 rfl dL_law_368 ?_
  refine l_iconst X dL_law_369 ?_
  refine l_iadd X dL_law_370 ?_
  refine l_sld X hX hbl hL (by omega) dL_law_371 ?_
  refine l_aload_n X 0 rfl dL_law_372 ?_
  refine l_iload_n X 3 rfl dL_law_373 ?_
  refine l_iconst X dL_law_374 ?_
  refine l_iadd X dL_law_375 ?_
  refine l_sld X hX hbl hL (by omega) dL_law_376 ?_
  refine l_callML X (c_X7_held (sv_r _ _) (sv_r _ _)) (by rw [eM]; rfl) h2 (cwV 2 X.2.2.2.2.1 (tbG_L (tbG_V mw_1127 mw_1128 mw_1129 mw_9 mw_1130)) rfl rfl rfl hd_X7_held ⟨by decide, by decide⟩) rfl rfl (Nat.le_of_ble_eq_true rfl) dL_law_377 (fun _ _ _ _ _ => trivial) (fun _ _ _ _ _ _ _ => trivial) (fun hRM => ?_)
  exact l_sameL X 685 dL_law_380 dL_law_381 (by decide) (hk _ _ hRC hRM hI)
set_option maxRecDepth 100000 in
set_option maxHeartbeats 4000000 in
theorem lc_inside {p : Program} {l : Launch} {e : Env} {s : State} {m : MethodId} {below : List Frame} {meth : Method} {c : Code} {D : va_G} {ca : Nat → ClassId} {adC adM : Nat → Nat} {b L tb : Nat} {xs : Nat → Int32} (X : Cx p s m #[Value.ref b] c code 4 R_law lw_tbl D vcl ca) (hX : va_X b L xs s s.heap) (hbl : b < s.heap.size) (hL : L < 2147483648) (hN : NC s) (hZ : va_Z "SiteObjects" "SORTS" "[I" (.ref tb) (AL s) s s.heap) (hT : va_T .int tb 68 (fun j => .int (oi (sortsT j))) (AL s) s s.heap) {Inv : Mm → Mm → Prop} (hS : St_inside Inv) {i : Int} (hi0 : 0 ≤ i) (hi : i + 7 ≤ (L : Int)) {σC σM : Mm} (h1 : Rg σC) (h2 : Rg σM) (hI0 : Inv σC σM) (hk : ∀ σC σM : Mm, Rg σC → Rg σM → Inv σC σM → GL p l e s m below meth c (lw_Z below #[Value.ref b] s) D ca adC adM b 685 [(0, .ref b), (1, .ref (adC 0)), (2, .ref (adM 0)), (3, .int (oi i))] [] σC σM) : GL p l e s m below meth c (lw_Z below #[Value.ref b] s) D ca adC adM b 386 [(0, .ref b), (1, .ref (adC 0)), (2, .ref (adM 0)), (3, .int (oi i))] [] σC σM := by
  obtain ⟨r, eC, eM, hI⟩ := hS (sv xs (Int.toNat (i + 1))) (sv xs (Int.toNat (i + 2))) σC σM (sv_r _ _) (sv_r _ _) h1 h2 hI0
  refine l_aload_n X 1 rfl dL_law_386 ?_
  refine l_aload_n X 0 rfl dL_law_387 ?_
  refine l_iload_n X 3 rfl dL_law_388 ?_
  refine l_iconst X dL_law_389 ?_
  refine l_iadd X dL_law_390 ?_
  refine l_sld X hX hbl hL (by omega) dL_law_391 ?_
  refine l_aload_n X 0 rfl dL_law_392 ?_
  refine l_iload_n X 3 rfl dL_law_393 ?_
  refine l_iconst X dL_law_394 ?_
  refine l_iadd X dL_law_395 ?_
  refine l_sld X hX hbl hL (by omega) dL_law_396 ?_
  refine l_callCL X (c_X6_inside (sv_r _ _) (sv_r _ _)) (by rw [eC]; rfl) h1 (cwV 2 X.2.2.2.2.1 (tbG_L (tbG_V mw_577 mw_578 mw_579 mw_1 mw_580)) rfl rfl rfl hd_X6_inside ⟨by decide, by decide⟩) rfl rfl (Nat.le_of_ble_eq_true rfl) dL_law_397 (fun U g mk a h => NCok.2 U g mk a h) (fun H locs h1 h2 U h3 h4 => NCok.1 s U h4 hN) (fun hRC => ?_)
  refine l_aload_n X 2 rfl dL_law_400 ?_
  refine l_aload_n X 0 rfl dL_law_401 ?_
  refine l_iload_n X 3 rfl dL_law_402 ?_
  refine l_iconst X dL_law_403 ?_
  refine l_iadd X dL_law_404 ?_
  refine l_sld X hX hbl hL (by omega) dL_law_405 ?_
  refine l_aload_n X 0 rfl dL_law_406 ?_
  refine l_iload_n X 3 rfl dL_law_407 ?_
  refine l_iconst X dL_law_408 ?_
  refine l_iadd X dL_law_409 ?_
  refine l_sld X hX hbl hL (by omega) dL_law_410 ?_
  refine l_callML X (c_X7_inside (sv_r _ _) (sv_r _ _)) (by rw [eM]; rfl) h2 (cwV 2 X.2.2.2.2.1 (tbG_L (tbG_V mw_1132 mw_1133 mw_1134 mw_9 mw_1135)) rfl rfl rfl hd_X7_inside ⟨by decide, by decide⟩) rfl rfl (Nat.le_of_ble_eq_true rfl) dL_law_411 (fun _ _ _ _ _ => trivial) (fun _ _ _ _ _ _ _ => trivial) (fun hRM => ?_)
  exact l_sameL X 685 dL_law_414 dL_law_415 (by decide) (hk _ _ hRC hRM hI)
set_option maxRecDepth 100000 in
set_option maxHeartbeats 4000000 in
theorem lc_global {p : Program} {l : Launch} {e : Env} {s : State} {m : MethodId} {below : List Frame} {meth : Method} {c : Code} {D : va_G} {ca : Nat → ClassId} {adC adM : Nat → Nat} {b L tb : Nat} {xs : Nat → Int32} (X : Cx p s m #[Value.ref b] c code 4 R_law lw_tbl D vcl ca) (hX : va_X b L xs s s.heap) (hbl : b < s.heap.size) (hL : L < 2147483648) (hN : NC s) (hZ : va_Z "SiteObjects" "SORTS" "[I" (.ref tb) (AL s) s s.heap) (hT : va_T .int tb 68 (fun j => .int (oi (sortsT j))) (AL s) s s.heap) {Inv : Mm → Mm → Prop} (hS : St_global Inv) {i : Int} (hi0 : 0 ≤ i) (hi : i + 7 ≤ (L : Int)) {σC σM : Mm} (h1 : Rg σC) (h2 : Rg σM) (hI0 : Inv σC σM) (hk : ∀ σC σM : Mm, Rg σC → Rg σM → Inv σC σM → GL p l e s m below meth c (lw_Z below #[Value.ref b] s) D ca adC adM b 685 [(0, .ref b), (1, .ref (adC 0)), (2, .ref (adM 0)), (3, .int (oi i))] [] σC σM) : GL p l e s m below meth c (lw_Z below #[Value.ref b] s) D ca adC adM b 420 [(0, .ref b), (1, .ref (adC 0)), (2, .ref (adM 0)), (3, .int (oi i))] [] σC σM := by
  obtain ⟨r, eC, eM, hI⟩ := hS (sv xs (Int.toNat (i + 1))) σC σM (sv_r _ _) h1 h2 hI0
  refine l_aload_n X 1 rfl dL_law_420 ?_
  refine l_aload_n X 0 rfl dL_law_421 ?_
  refine l_iload_n X 3 rfl dL_law_422 ?_
  refine l_iconst X dL_law_423 ?_
  refine l_iadd X dL_law_424 ?_
  refine l_sld X hX hbl hL (by omega) dL_law_425 ?_
  refine l_callCL X (c_X6_global (sv_r _ _)) (by rw [eC]; rfl) h1 (cwV 1 X.2.2.2.2.1 (tbG_L (tbG_V mw_582 mw_583 mw_584 mw_1 mw_585)) rfl rfl rfl hd_X6_global ⟨by decide, by decide⟩) rfl rfl (Nat.le_of_ble_eq_true rfl) dL_law_426 (fun U g mk a h => NCok.2 U g mk a h) (fun H locs h1 h2 U h3 h4 => NCok.1 s U h4 hN) (fun hRC => ?_)
  refine l_aload_n X 2 rfl dL_law_429 ?_
  refine l_aload_n X 0 rfl dL_law_430 ?_
  refine l_iload_n X 3 rfl dL_law_431 ?_
  refine l_iconst X dL_law_432 ?_
  refine l_iadd X dL_law_433 ?_
  refine l_sld X hX hbl hL (by omega) dL_law_434 ?_
  refine l_callML X (c_X7_global (sv_r _ _)) (by rw [eM]; rfl) h2 (cwV 1 X.2.2.2.2.1 (tbG_L (tbG_V mw_1136 mw_1137 mw_1138 mw_9 mw_1139)) rfl rfl rfl hd_X7_global ⟨by decide, by decide⟩) rfl rfl (Nat.le_of_ble_eq_true rfl) dL_law_435 (fun _ _ _ _ _ => trivial) (fun _ _ _ _ _ _ _ => trivial) (fun hRM => ?_)
  exact l_sameL X 685 dL_law_438 dL_law_439 (by decide) (hk _ _ hRC hRM hI)
set_option maxRecDepth 100000 in
set_option maxHeartbeats 4000000 in
theorem lc_leads {p : Program} {l : Launch} {e : Env} {s : State} {m : MethodId} {below : List Frame} {meth : Method} {c : Code} {D : va_G} {ca : Nat → ClassId} {adC adM : Nat → Nat} {b L tb : Nat} {xs : Nat → Int32} (X : Cx p s m #[Value.ref b] c code 4 R_law lw_tbl D vcl ca) (hX : va_X b L xs s s.heap) (hbl : b < s.heap.size) (hL : L < 2147483648) (hN : NC s) (hZ : va_Z "SiteObjects" "SORTS" "[I" (.ref tb) (AL s) s s.heap) (hT : va_T .int tb 68 (fun j => .int (oi (sortsT j))) (AL s) s s.heap) {Inv : Mm → Mm → Prop} (hS : St_leads Inv) {i : Int} (hi0 : 0 ≤ i) (hi : i + 7 ≤ (L : Int)) {σC σM : Mm} (h1 : Rg σC) (h2 : Rg σM) (hI0 : Inv σC σM) (hk : ∀ σC σM : Mm, Rg σC → Rg σM → Inv σC σM → GL p l e s m below meth c (lw_Z below #[Value.ref b] s) D ca adC adM b 685 [(0, .ref b), (1, .ref (adC 0)), (2, .ref (adM 0)), (3, .int (oi i))] [] σC σM) : GL p l e s m below meth c (lw_Z below #[Value.ref b] s) D ca adC adM b 444 [(0, .ref b), (1, .ref (adC 0)), (2, .ref (adM 0)), (3, .int (oi i))] [] σC σM := by
  obtain ⟨r, σC', σM', eC, eM, hI⟩ := hS (sv xs (Int.toNat (i + 1))) (sv xs (Int.toNat (i + 2))) (sv xs (Int.toNat (i + 3))) σC σM (sv_r _ _) (sv_r _ _) (sv_r _ _) h1 h2 hI0
  refine l_aload_n X 1 rfl dL_law_444 ?_
  refine l_aload_n X 0 rfl dL_law_445 ?_
  refine l_iload_n X 3 rfl dL_law_446 ?_
  refine l_iconst X dL_law_447 ?_
  refine l_iadd X dL_law_448 ?_
  refine l_sld X hX hbl hL (by omega) dL_law_449 ?_
  refine l_aload_n X 0 rfl dL_law_450 ?_
  refine l_iload_n X 3 rfl dL_law_451 ?_
  refine l_iconst X dL_law_452 ?_
  refine l_iadd X dL_law_453 ?_
  refine l_sld X hX hbl hL (by omega) dL_law_454 ?_
  refine l_aload_n X 0 rfl dL_law_455 ?_
  refine l_iload_n X 3 rfl dL_law_456 ?_
  refine l_iconst X dL_law_457 ?_
  refine l_iadd X dL_law_458 ?_
  refine l_sld X hX hbl hL (by omega) dL_law_459 ?_
  refine l_callCI X (c_X6_leads (sv_r _ _) (sv_r _ _) (sv_r _ _)) eC h1 (cwV 3 X.2.2.2.2.1 (tbG_L (tbG_V mw_586 mw_587 mw_588 mw_1 mw_589)) rfl rfl rfl hd_X6_leads ⟨by decide, by decide⟩) rfl rfl (Nat.le_of_ble_eq_true rfl) dL_law_460 (fun U g mk a h => NCok.2 U g mk a h) (fun H locs h1 h2 U h3 h4 => NCok.1 s U h4 hN) (fun hrC hRC => ?_)
  refine l_aload_n X 2 rfl dL_law_463 ?_
  refine l_aload_n X 0 rfl dL_law_464 ?_
  refine l_iload_n X 3 rfl dL_law_465 ?_
  refine l_iconst X dL_law_466 ?_
  refine l_iadd X dL_law_467 ?_
  refine l_sld X hX hbl hL (by omega) dL_law_468 ?_
  refine l_aload_n X 0 rfl dL_law_469 ?_
  refine l_iload_n X 3 rfl dL_law_470 ?_
  refine l_iconst X dL_law_471 ?_
  refine l_iadd X dL_law_472 ?_
  refine l_sld X hX hbl hL (by omega) dL_law_473 ?_
  refine l_aload_n X 0 rfl dL_law_474 ?_
  refine l_iload_n X 3 rfl dL_law_475 ?_
  refine l_iconst X dL_law_476 ?_
  refine l_iadd X dL_law_477 ?_
  refine l_sld X hX hbl hL (by omega) dL_law_478 ?_
  refine l_callMI X (c_X7_leads (sv_r _ _) (sv_r _ _) (sv_r _ _)) eM h2 (cwV 3 X.2.2.2.2.1 (tbG_L (tbG_V mw_1140 mw_1141 mw_1142 mw_9 mw_1143)) rfl rfl rfl hd_X7_leads ⟨by decide, by decide⟩) rfl rfl (Nat.le_of_ble_eq_true rfl) dL_law_479 (fun _ _ _ _ _ => trivial) (fun _ _ _ _ _ _ _ => trivial) (fun hrM hRM => ?_)
  exact l_same X 685 dL_law_482 (by decide) (hk _ _ hRC hRM hI)
set_option maxRecDepth 100000 in
set_option maxHeartbeats 4000000 in
theorem lc_run {p : Program} {l : Launch} {e : Env} {s : State} {m : MethodId} {below : List Frame} {meth : Method} {c : Code} {D : va_G} {ca : Nat → ClassId} {adC adM : Nat → Nat} {b L tb : Nat} {xs : Nat → Int32} (X : Cx p s m #[Value.ref b] c code 4 R_law lw_tbl D vcl ca) (hX : va_X b L xs s s.heap) (hbl : b < s.heap.size) (hL : L < 2147483648) (hN : NC s) (hZ : va_Z "SiteObjects" "SORTS" "[I" (.ref tb) (AL s) s s.heap) (hT : va_T .int tb 68 (fun j => .int (oi (sortsT j))) (AL s) s s.heap) {Inv : Mm → Mm → Prop} (hS : St_run Inv) {i : Int} (hi0 : 0 ≤ i) (hi : i + 7 ≤ (L : Int)) {σC σM : Mm} (h1 : Rg σC) (h2 : Rg σM) (hI0 : Inv σC σM) (hk : ∀ σC σM : Mm, Rg σC → Rg σM → Inv σC σM → GL p l e s m below meth c (lw_Z below #[Value.ref b] s) D ca adC adM b 685 [(0, .ref b), (1, .ref (adC 0)), (2, .ref (adM 0)), (3, .int (oi i))] [] σC σM) : GL p l e s m below meth c (lw_Z below #[Value.ref b] s) D ca adC adM b 487 [(0, .ref b), (1, .ref (adC 0)), (2, .ref (adM 0)), (3, .int (oi i))] [] σC σM := by
  obtain ⟨r, σC', σM', eC, eM, hI⟩ := hS ((lShl (i2L (sv xs (Int.toNat (i + 1)))) 32) ||| ((i2L (sv xs (Int.toNat (i + 2)))) &&& 4294967295)) (sv xs (Int.toNat (i + 3))) σC σM (sv_r _ _) h1 h2 hI0
  refine l_aload_n X 1 rfl dL_law_487 ?_
  refine l_aload_n X 0 rfl dL_law_488 ?_
  refine l_iload_n X 3 rfl dL_law_489 ?_
  refine l_iconst X dL_law_490 ?_
  refine l_iadd X dL_law_491 ?_
  refine l_sld X hX hbl hL (by omega) dL_law_492 ?_
  refine l_i2l X dL_law_493 ?_
  refine l_bipush X (by decide) dL_law_494 ?_
  refine l_lshl X dL_law_496 ?_
  refine l_aload_n X 0 rfl dL_law_497 ?_
  refine l_iload_n X 3 rfl dL_law_498 ?_
  refine l_iconst X dL_law_499 ?_
  refine l_iadd X dL_law_500 ?_
  refine l_sld X hX hbl hL (by omega) dL_law_501 ?_
  refine l_i2l X dL_law_502 ?_
  refine l_ldc2 X 4294967295 (tbG_l mw_1239) dL_law_503 ?_
  refine l_land X dL_law_506 ?_
  refine l_lor X dL_law_507 ?_
  refine l_aload_n X 0 rfl dL_law_508 ?_
  refine l_iload_n X 3 rfl dL_law_509 ?_
  refine l_iconst X dL_law_510 ?_
  refine l_iadd X dL_law_511 ?_
  refine l_sld X hX hbl hL (by omega) dL_law_512 ?_
  refine l_callCI X (c_X6_run (sv_r _ _)) eC h1 (cwV 2 X.2.2.2.2.1 (tbG_L (tbG_V mw_595 mw_596 mw_597 mw_1 mw_598)) rfl rfl rfl hd_X6_run ⟨by decide, by decide⟩) rfl rfl (Nat.le_of_ble_eq_true rfl) dL_law_513 (fun U g mk a h => NCok.2 U g mk a h) (fun H locs h1 h2 U h3 h4 => NCok.1 s U h4 hN) (fun hrC hRC => ?_)
  refine l_aload_n X 2 rfl dL_law_516 ?_
  refine l_aload_n X 0 rfl dL_law_517 ?_
  refine l_iload_n X 3 rfl dL_law_518 ?_
  refine l_iconst X dL_law_519 ?_
  refine l_iadd X dL_law_520 ?_
  refine l_sld X hX hbl hL (by omega) dL_law_521 ?_
  refine l_i2l X dL_law_522 ?_
  refine l_bipush X (by decide) dL_law_523 ?_
  refine l_lshl X dL_law_525 ?_
  refine l_aload_n X 0 rfl dL_law_526 ?_
  refine l_iload_n X 3 rfl dL_law_527 ?_
  refine l_iconst X dL_law_528 ?_
  refine l_iadd X dL_law_529 ?_
  refine l_sld X hX hbl hL (by omega) dL_law_530 ?_
  refine l_i2l X dL_law_531 ?_
  refine l_ldc2 X 4294967295 (tbG_l mw_1239) dL_law_532 ?_
  refine l_land X dL_law_535 ?_
  refine l_lor X dL_law_536 ?_
  refine l_aload_n X 0 rfl dL_law_537 ?_
  refine l_iload_n X 3 rfl dL_law_538 ?_
  refine l_iconst X dL_law_539 ?_
  refine l_iadd X dL_law_540 ?_
  refine l_sld X hX hbl hL (by omega) dL_law_541 ?_
  refine l_callMI X (c_X7_run (sv_r _ _)) eM h2 (cwV 2 X.2.2.2.2.1 (tbG_L (tbG_V mw_1144 mw_1145 mw_1146 mw_9 mw_1147)) rfl rfl rfl hd_X7_run ⟨by decide, by decide⟩) rfl rfl (Nat.le_of_ble_eq_true rfl) dL_law_542 (fun _ _ _ _ _ => trivial) (fun _ _ _ _ _ _ _ => trivial) (fun hrM hRM => ?_)
  exact l_same X 685 dL_law_545 (by decide) (hk _ _ hRC hRM hI)
set_option maxRecDepth 100000 in
set_option maxHeartbeats 4000000 in
theorem lc_ran {p : Program} {l : Launch} {e : Env} {s : State} {m : MethodId} {below : List Frame} {meth : Method} {c : Code} {D : va_G} {ca : Nat → ClassId} {adC adM : Nat → Nat} {b L tb : Nat} {xs : Nat → Int32} (X : Cx p s m #[Value.ref b] c code 4 R_law lw_tbl D vcl ca) (hX : va_X b L xs s s.heap) (hbl : b < s.heap.size) (hL : L < 2147483648) (hN : NC s) (hZ : va_Z "SiteObjects" "SORTS" "[I" (.ref tb) (AL s) s s.heap) (hT : va_T .int tb 68 (fun j => .int (oi (sortsT j))) (AL s) s s.heap) {Inv : Mm → Mm → Prop} (hS : St_ran Inv) {i : Int} (hi0 : 0 ≤ i) (hi : i + 7 ≤ (L : Int)) {σC σM : Mm} (h1 : Rg σC) (h2 : Rg σM) (hI0 : Inv σC σM) (hk : ∀ σC σM : Mm, Rg σC → Rg σM → Inv σC σM → GL p l e s m below meth c (lw_Z below #[Value.ref b] s) D ca adC adM b 685 [(0, .ref b), (1, .ref (adC 0)), (2, .ref (adM 0)), (3, .int (oi i))] [] σC σM) : GL p l e s m below meth c (lw_Z below #[Value.ref b] s) D ca adC adM b 550 [(0, .ref b), (1, .ref (adC 0)), (2, .ref (adM 0)), (3, .int (oi i))] [] σC σM := by
  obtain ⟨r, eC, eM, hI⟩ := hS (sv xs (Int.toNat (i + 1))) σC σM (sv_r _ _) h1 h2 hI0
  refine l_aload_n X 1 rfl dL_law_550 ?_
  refine l_aload_n X 0 rfl dL_law_551 ?_
  refine l_iload_n X 3 rfl dL_law_552 ?_
  refine l_iconst X dL_law_553 ?_
  refine l_iadd X dL_law_554 ?_
  refine l_sld X hX hbl hL (by omega) dL_law_555 ?_
  refine l_callCI X (c_X6_ran (sv_r _ _)) (by rw [eC]; rfl) h1 (cwV 1 X.2.2.2.2.1 (tbG_L (tbG_V mw_777 mw_778 mw_779 mw_1 mw_780)) rfl rfl rfl hd_X6_ran ⟨by decide, by decide⟩) rfl rfl (Nat.le_of_ble_eq_true rfl) dL_law_556 (fun U g mk a h => NCok.2 U g mk a h) (fun H locs h1 h2 U h3 h4 => NCok.1 s U h4 hN) (fun hrC hRC => ?_)
  refine l_aload_n X 2 rfl dL_law_559 ?_
  refine l_aload_n X 0 rfl dL_law_560 ?_
  refine l_iload_n X 3 rfl dL_law_561 ?_
  refine l_iconst X dL_law_562 ?_
  refine l_iadd X dL_law_563 ?_
  refine l_sld X hX hbl hL (by omega) dL_law_564 ?_
  refine l_callMI X (c_X7_ran (sv_r _ _)) (by rw [eM]; rfl) h2 (cwV 1 X.2.2.2.2.1 (tbG_L (tbG_V mw_1212 mw_1213 mw_1214 mw_9 mw_1215)) rfl rfl rfl hd_X7_ran ⟨by decide, by decide⟩) rfl rfl (Nat.le_of_ble_eq_true rfl) dL_law_565 (fun _ _ _ _ _ => trivial) (fun _ _ _ _ _ _ _ => trivial) (fun hrM hRM => ?_)
  exact l_same X 685 dL_law_568 (by decide) (hk _ _ hRC hRM hI)
set_option maxRecDepth 100000 in
set_option maxHeartbeats 4000000 in
theorem lc_object {p : Program} {l : Launch} {e : Env} {s : State} {m : MethodId} {below : List Frame} {meth : Method} {c : Code} {D : va_G} {ca : Nat → ClassId} {adC adM : Nat → Nat} {b L tb : Nat} {xs : Nat → Int32} (X : Cx p s m #[Value.ref b] c code 4 R_law lw_tbl D vcl ca) (hX : va_X b L xs s s.heap) (hbl : b < s.heap.size) (hL : L < 2147483648) (hN : NC s) (hZ : va_Z "SiteObjects" "SORTS" "[I" (.ref tb) (AL s) s s.heap) (hT : va_T .int tb 68 (fun j => .int (oi (sortsT j))) (AL s) s s.heap) {Inv : Mm → Mm → Prop} (hS : St_object Inv) {i : Int} (hi0 : 0 ≤ i) (hi : i + 7 ≤ (L : Int)) {σC σM : Mm} (h1 : Rg σC) (h2 : Rg σM) (hI0 : Inv σC σM) (hk : ∀ σC σM : Mm, Rg σC → Rg σM → Inv σC σM → GL p l e s m below meth c (lw_Z below #[Value.ref b] s) D ca adC adM b 685 [(0, .ref b), (1, .ref (adC 0)), (2, .ref (adM 0)), (3, .int (oi i))] [] σC σM) : GL p l e s m below meth c (lw_Z below #[Value.ref b] s) D ca adC adM b 573 [(0, .ref b), (1, .ref (adC 0)), (2, .ref (adM 0)), (3, .int (oi i))] [] σC σM := by
  obtain ⟨r, eC, eM, hI⟩ := hS (sv xs (Int.toNat (i + 1))) (sv xs (Int.toNat (i + 2))) σC σM (sv_r _ _) (sv_r _ _) h1 h2 hI0
  refine l_aload_n X 1 rfl dL_law_573 ?_
  refine l_aload_n X 0 rfl dL_law_574 ?_
  refine l_iload_n X 3 rfl dL_law_575 ?_
  refine l_iconst X dL_law_576 ?_
  refine l_iadd X dL_law_577 ?_
  refine l_sld X hX hbl hL (by omega) dL_law_578 ?_
  refine l_aload_n X 0 rfl dL_law_579 ?_
  refine l_iload_n X 3 rfl dL_law_580 ?_
  refine l_iconst X dL_law_581 ?_
  refine l_iadd X dL_law_582 ?_
  refine l_sld X hX hbl hL (by omega) dL_law_583 ?_
  refine l_callCI X (c_X6_object (sv_r _ _) (sv_r _ _)) (by rw [eC]; rfl) h1 (cwV 2 X.2.2.2.2.1 (tbG_L (tbG_V mw_781 mw_782 mw_783 mw_1 mw_784)) rfl rfl rfl hd_X6_object ⟨by decide, by decide⟩) rfl rfl (Nat.le_of_ble_eq_true rfl) dL_law_584 (fun U g mk a h => NCok.2 U g mk a h) (fun H locs h1 h2 U h3 h4 => NCok.1 s U h4 hN) (fun hrC hRC => ?_)
  refine l_aload_n X 2 rfl dL_law_587 ?_
  refine l_aload_n X 0 rfl dL_law_588 ?_
  refine l_iload_n X 3 rfl dL_law_589 ?_
  refine l_iconst X dL_law_590 ?_
  refine l_iadd X dL_law_591 ?_
  refine l_sld X hX hbl hL (by omega) dL_law_592 ?_
  refine l_aload_n X 0 rfl dL_law_593 ?_
  refine l_iload_n X 3 rfl dL_law_594 ?_
  refine l_iconst X dL_law_595 ?_
  refine l_iadd X dL_law_596 ?_
  refine l_sld X hX hbl hL (by omega) dL_law_597 ?_
  refine l_callMI X (c_X7_object (sv_r _ _) (sv_r _ _)) (by rw [eM]; rfl) h2 (cwV 2 X.2.2.2.2.1 (tbG_L (tbG_V mw_1219 mw_1220 mw_1221 mw_9 mw_1222)) rfl rfl rfl hd_X7_object ⟨by decide, by decide⟩) rfl rfl (Nat.le_of_ble_eq_true rfl) dL_law_598 (fun _ _ _ _ _ => trivial) (fun _ _ _ _ _ _ _ => trivial) (fun hrM hRM => ?_)
  exact l_same X 685 dL_law_601 (by decide) (hk _ _ hRC hRM hI)
set_option maxRecDepth 100000 in
set_option maxHeartbeats 4000000 in
theorem lc_many {p : Program} {l : Launch} {e : Env} {s : State} {m : MethodId} {below : List Frame} {meth : Method} {c : Code} {D : va_G} {ca : Nat → ClassId} {adC adM : Nat → Nat} {b L tb : Nat} {xs : Nat → Int32} (X : Cx p s m #[Value.ref b] c code 4 R_law lw_tbl D vcl ca) (hX : va_X b L xs s s.heap) (hbl : b < s.heap.size) (hL : L < 2147483648) (hN : NC s) (hZ : va_Z "SiteObjects" "SORTS" "[I" (.ref tb) (AL s) s s.heap) (hT : va_T .int tb 68 (fun j => .int (oi (sortsT j))) (AL s) s s.heap) {Inv : Mm → Mm → Prop} (hS : St_many Inv) {i : Int} (hi0 : 0 ≤ i) (hi : i + 7 ≤ (L : Int)) {σC σM : Mm} (h1 : Rg σC) (h2 : Rg σM) (hI0 : Inv σC σM) (hk : ∀ σC σM : Mm, Rg σC → Rg σM → Inv σC σM → GL p l e s m below meth c (lw_Z below #[Value.ref b] s) D ca adC adM b 685 [(0, .ref b), (1, .ref (adC 0)), (2, .ref (adM 0)), (3, .int (oi i))] [] σC σM) : GL p l e s m below meth c (lw_Z below #[Value.ref b] s) D ca adC adM b 606 [(0, .ref b), (1, .ref (adC 0)), (2, .ref (adM 0)), (3, .int (oi i))] [] σC σM := by
  obtain ⟨r, eC, eM, hI⟩ := hS (sv xs (Int.toNat (i + 1))) σC σM (sv_r _ _) h1 h2 hI0
  refine l_aload_n X 1 rfl dL_law_606 ?_
  refine l_aload_n X 0 rfl dL_law_607 ?_
  refine l_iload_n X 3 rfl dL_law_608 ?_
  refine l_iconst X dL_law_609 ?_
  refine l_iadd X dL_law_610 ?_
  refine l_sld X hX hbl hL (by omega) dL_law_611 ?_
  refine l_callCI X (c_X6_many (sv_r _ _)) (by rw [eC]; rfl) h1 (cwV 1 X.2.2.2.2.1 (tbG_L (tbG_V mw_788 mw_789 mw_790 mw_1 mw_791)) rfl rfl rfl hd_X6_many ⟨by decide, by decide⟩) rfl rfl (Nat.le_of_ble_eq_true rfl) dL_law_612 (fun U g mk a h => NCok.2 U g mk a h) (fun H locs h1 h2 U h3 h4 => NCok.1 s U h4 hN) (fun hrC hRC => ?_)
  refine l_aload_n X 2 rfl dL_law_615 ?_
  refine l_aload_n X 0 rfl dL_law_616 ?_
  refine l_iload_n X 3 rfl dL_law_617 ?_
  refine l_iconst X dL_law_618 ?_
  refine l_iadd X dL_law_619 ?_
  refine l_sld X hX hbl hL (by omega) dL_law_620 ?_
  refine l_callMI X (c_X7_many (sv_r _ _)) (by rw [eM]; rfl) h2 (cwV 1 X.2.2.2.2.1 (tbG_L (tbG_V mw_1223 mw_1224 mw_1225 mw_9 mw_1226)) rfl rfl rfl hd_X7_many ⟨by decide, by decide⟩) rfl rfl (Nat.le_of_ble_eq_true rfl) dL_law_621 (fun _ _ _ _ _ => trivial) (fun _ _ _ _ _ _ _ => trivial) (fun hrM hRM => ?_)
  exact l_same X 685 dL_law_624 (by decide) (hk _ _ hRC hRM hI)
set_option maxRecDepth 100000 in
set_option maxHeartbeats 4000000 in
theorem lc_count {p : Program} {l : Launch} {e : Env} {s : State} {m : MethodId} {below : List Frame} {meth : Method} {c : Code} {D : va_G} {ca : Nat → ClassId} {adC adM : Nat → Nat} {b L tb : Nat} {xs : Nat → Int32} (X : Cx p s m #[Value.ref b] c code 4 R_law lw_tbl D vcl ca) (hX : va_X b L xs s s.heap) (hbl : b < s.heap.size) (hL : L < 2147483648) (hN : NC s) (hZ : va_Z "SiteObjects" "SORTS" "[I" (.ref tb) (AL s) s s.heap) (hT : va_T .int tb 68 (fun j => .int (oi (sortsT j))) (AL s) s s.heap) {Inv : Mm → Mm → Prop} (hS : St_count Inv) {i : Int} (hi0 : 0 ≤ i) (hi : i + 7 ≤ (L : Int)) {σC σM : Mm} (h1 : Rg σC) (h2 : Rg σM) (hI0 : Inv σC σM) (hk : ∀ σC σM : Mm, Rg σC → Rg σM → Inv σC σM → GL p l e s m below meth c (lw_Z below #[Value.ref b] s) D ca adC adM b 685 [(0, .ref b), (1, .ref (adC 0)), (2, .ref (adM 0)), (3, .int (oi i))] [] σC σM) : GL p l e s m below meth c (lw_Z below #[Value.ref b] s) D ca adC adM b 629 [(0, .ref b), (1, .ref (adC 0)), (2, .ref (adM 0)), (3, .int (oi i))] [] σC σM := by
  obtain ⟨r, eC, eM, hI⟩ := hS (sv xs (Int.toNat (i + 1))) σC σM (sv_r _ _) h1 h2 hI0
  refine l_aload_n X 1 rfl dL_law_629 ?_
  refine l_aload_n X 0 rfl dL_law_630 ?_
  refine l_iload_n X 3 rfl dL_law_631 ?_
  refine l_iconst X dL_law_632 ?_
  refine l_iadd X dL_law_633 ?_
  refine l_sld X hX hbl hL (by omega) dL_law_634 ?_
  refine l_callCI X (c_X6_count (sv_r _ _)) (by rw [eC]; rfl) h1 (cwV 1 X.2.2.2.2.1 (tbG_L (tbG_V mw_796 mw_797 mw_798 mw_1 mw_799)) rfl rfl rfl hd_X6_count ⟨by decide, by decide⟩) rfl rfl (Nat.le_of_ble_eq_true rfl) dL_law_635 (fun U g mk a h => NCok.2 U g mk a h) (fun H locs h1 h2 U h3 h4 => NCok.1 s U h4 hN) (fun hrC hRC => ?_)
  refine l_aload_n X 2 rfl dL_law_638 ?_
  refine l_aload_n X 0 rfl dL_law_639 ?_
  refine l_iload_n X 3 rfl dL_law_640 ?_
  refine l_iconst X dL_law_641 ?_
  refine l_iadd X dL_law_642 ?_
  refine l_sld X hX hbl hL (by omega) dL_law_643 ?_
  refine l_callMI X (c_X7_count (sv_r _ _)) (by rw [eM]; rfl) h2 (cwV 1 X.2.2.2.2.1 (tbG_L (tbG_V mw_1227 mw_1228 mw_1229 mw_9 mw_1230)) rfl rfl rfl hd_X7_count ⟨by decide, by decide⟩) rfl rfl (Nat.le_of_ble_eq_true rfl) dL_law_644 (fun _ _ _ _ _ => trivial) (fun _ _ _ _ _ _ _ => trivial) (fun hrM hRM => ?_)
  exact l_same X 685 dL_law_647 (by decide) (hk _ _ hRC hRM hI)
set_option maxRecDepth 100000 in
set_option maxHeartbeats 4000000 in
theorem lc_within {p : Program} {l : Launch} {e : Env} {s : State} {m : MethodId} {below : List Frame} {meth : Method} {c : Code} {D : va_G} {ca : Nat → ClassId} {adC adM : Nat → Nat} {b L tb : Nat} {xs : Nat → Int32} (X : Cx p s m #[Value.ref b] c code 4 R_law lw_tbl D vcl ca) (hX : va_X b L xs s s.heap) (hbl : b < s.heap.size) (hL : L < 2147483648) (hN : NC s) (hZ : va_Z "SiteObjects" "SORTS" "[I" (.ref tb) (AL s) s s.heap) (hT : va_T .int tb 68 (fun j => .int (oi (sortsT j))) (AL s) s s.heap) {Inv : Mm → Mm → Prop} (hS : St_within Inv) {i : Int} (hi0 : 0 ≤ i) (hi : i + 7 ≤ (L : Int)) {σC σM : Mm} (h1 : Rg σC) (h2 : Rg σM) (hI0 : Inv σC σM) (hk : ∀ σC σM : Mm, Rg σC → Rg σM → Inv σC σM → GL p l e s m below meth c (lw_Z below #[Value.ref b] s) D ca adC adM b 685 [(0, .ref b), (1, .ref (adC 0)), (2, .ref (adM 0)), (3, .int (oi i))] [] σC σM) : GL p l e s m below meth c (lw_Z below #[Value.ref b] s) D ca adC adM b 652 [(0, .ref b), (1, .ref (adC 0)), (2, .ref (adM 0)), (3, .int (oi i))] [] σC σM := by
  obtain ⟨r, σC', σM', eC, eM, hI⟩ := hS (sv xs (Int.toNat (i + 1))) (sv xs (Int.toNat (i + 2))) σC σM (sv_r _ _) (sv_r _ _) h1 h2 hI0
  refine l_aload_n X 1 rfl dL_law_652 ?_
  refine l_aload_n X 0 rfl dL_law_653 ?_
  refine l_iload_n X 3 rfl dL_law_654 ?_
  refine l_iconst X dL_law_655 ?_
  refine l_iadd X dL_law_656 ?_
  refine l_sld X hX hbl hL (by omega) dL_law_657 ?_
  refine l_aload_n X 0 rfl dL_law_658 ?_
  refine l_iload_n X 3 rfl dL_law_659 ?_
  refine l_iconst X dL_law_660 ?_
  refine l_iadd X dL_law_661 ?_
  refine l_sld X hX hbl hL (by omega) dL_law_662 ?_
  refine l_callCI X (c_X6_within (sv_r _ _) (sv_r _ _)) eC h1 (cwV 2 X.2.2.2.2.1 (tbG_L (tbG_V mw_800 mw_801 mw_802 mw_1 mw_803)) rfl rfl rfl hd_X6_within ⟨by decide, by decide⟩) rfl rfl (Nat.le_of_ble_eq_true rfl) dL_law_663 (fun U g mk a h => NCok.2 U g mk a h) (fun H locs h1 h2 U h3 h4 => NCok.1 s U h4 hN) (fun hrC hRC => ?_)
  refine l_aload_n X 2 rfl dL_law_666 ?_
  refine l_aload_n X 0 rfl dL_law_667 ?_
  refine l_iload_n X 3 rfl dL_law_668 ?_
  refine l_iconst X dL_law_669 ?_
  refine l_iadd X dL_law_670 ?_
  refine l_sld X hX hbl hL (by omega) dL_law_671 ?_
  refine l_aload_n X 0 rfl dL_law_672 ?_
  refine l_iload_n X 3 rfl dL_law_673 ?_
  refine l_iconst X dL_law_674 ?_
  refine l_iadd X dL_law_675 ?_
  refine l_sld X hX hbl hL (by omega) dL_law_676 ?_
  refine l_callMI X (c_X7_within (sv_r _ _) (sv_r _ _)) eM h2 (cwV 2 X.2.2.2.2.1 (tbG_L (tbG_V mw_1231 mw_1232 mw_1233 mw_9 mw_1234)) rfl rfl rfl hd_X7_within ⟨by decide, by decide⟩) rfl rfl (Nat.le_of_ble_eq_true rfl) dL_law_677 (fun _ _ _ _ _ => trivial) (fun _ _ _ _ _ _ _ => trivial) (fun hrM hRM => ?_)
  exact l_same X 685 dL_law_680 (by decide) (hk _ _ hRC hRM hI)
