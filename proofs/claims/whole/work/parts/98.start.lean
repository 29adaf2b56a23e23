theorem st_all : StAll Inv := ⟨st_cls, st_method, st_step, st_work, st_name, st_node, st_held, st_inside, st_global, st_leads, st_run, st_ran, st_object, st_many, st_count, st_within⟩
theorem whole_start {p : Program} {e : Env} {s : State} {m : MethodId} {below : List Frame} {meth : Method} {c : Code} (l : Launch) {b L : Nat} {xs : Nat → Int32} (hL : L ≤ 3584) (C0 : lw_At p s m meth c b L xs) : W p l e room_1 s m #[Value.ref b] below meth c s.heap [] 0 0 (lw_Z below #[Value.ref b] s) (entryFrame m ([Value.ref b] : List Value).toArray 4) :=
  whole_open st_all Inv_init l hL C0
