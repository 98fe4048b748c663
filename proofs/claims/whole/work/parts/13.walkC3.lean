def f_Room_pair (S : Nat) (x1 : Int32) (x2 : Int32) (w : pm_W) : Option (Int32 × pm_W) :=
  Option.bind (f_Room_make S (4 : Int32) x1 x2 (2 : Int32) (pm_setI w 5 10 ((w.1 5 10) + (2 : Int32)))) fun o1 =>
  some (o1.1, o1.2)
set_option maxHeartbeats 4000000 in
set_option maxRecDepth 100000 in
theorem t_Room_pair {p : Program} {l : Launch} {e : Env} {s : State} {m : MethodId} {args : Array Value} {below : List Frame} {meth : Method} {c : Code} {D : va_G} {ca : Nat → ClassId} {ad : Nat → Nat} {E : (Nat → Prop) → State → Heap → Prop} {S : Nat} (K : pm_ok p s m args meth c k_Room_pair 3 pmTs R_Room D vwCl (tyl ca) (shC S) ad E (some .int)) (r : Int32) (w' : pm_W) (x1 : Int32) (x2 : Int32) (w : pm_W) (hf : f_Room_pair  S x1 x2 w = some (r, w')) : pm_wk p l e { frames := 1, cells := 0, slots := 0, locals := 25 } s m args below meth c D vwCl (shC S) ca ad 3 (some (.int r), w') 0 [(0, .ref (ad 5)), (1, .int x1), (2, .int x2)] [] w := by
  unfold f_Room_pair at hf
  refine pm_aload_n K d_Room_pair_0 0 rfl rfl ?_
  refine pm_dup K d_Room_pair_1 rfl ?_
  refine pm_getI K fc_5 (o := 5) rfl 10 rfl (by decide) tw_245 d_Room_pair_2 (v := w.1 5 10) rfl ?_
  refine pm_iconst (v := 2) K d_Room_pair_5 (by decide) ?_
  refine pm_iadd K d_Room_pair_6 ?_
  refine pm_putI K fc_5 (o := 5) (ty := .int) rfl 10 rfl (by decide) tw_245 rfl rfl rfl rfl d_Room_pair_7 ?_
  refine pm_aload_n K d_Room_pair_10 0 rfl rfl ?_
  refine pm_iconst (v := 4) K d_Room_pair_11 (by decide) ?_
  refine pm_iload_n K d_Room_pair_12 1 rfl rfl ?_
  refine pm_iload_n K d_Room_pair_13 2 rfl rfl ?_
  refine pm_iconst (v := 2) K d_Room_pair_14 (by decide) ?_
  obtain ⟨o1, z1, hf⟩ := pm_bind hf
  refine pm_callV (As := [.int (4 : Int32), .int x1, .int x2, .int (2 : Int32)]) (rest := []) (o := 5) K (c_Room_make K.2.2.2.2.2.2.2.2.2.2.2.2 o1.1 o1.2 (4 : Int32) x1 x2 (2 : Int32) (pm_setI w 5 10 ((w.1 5 10) + (2 : Int32))) z1) mi_Room_make rfl rfl tw_394 tw_8 tw_393 rfl ⟨rfl, rfl, Nat.le_of_ble_eq_true rfl, Nat.le_of_ble_eq_true rfl⟩ rfl (Nat.le_of_ble_eq_true rfl) d_Room_pair_15 ?_
  cases hf
  exact pm_iret K d_Room_pair_18
/-- CellLisp$Room.pair(II)I -/
theorem c_Room_pair {l : Launch} {D : va_G} {ca : Nat → ClassId} {ad : Nat → Nat} {E : (Nat → Prop) → State → Heap → Prop} {S : Nat} (hEc : pm_Ecl E) (r : Int32) (w' : pm_W) (x1 : Int32) (x2 : Int32) (w : pm_W) (hf : f_Room_pair  S x1 x2 w = some (r, w')) : pm_Met l pmTs D vwCl (tyl ca) (shC S) ca ad E y_Room_pair k_Room_pair 3 (some .int) { frames := 1, cells := 0, slots := 0, locals := 25 } [.ref (ad 5), .int x1, .int x2] w (some (.int r), w') :=
  pm_start pmTs_good hEc (by decide) (Nat.le_of_ble_eq_true rfl) (fun p e s m below meth c K => t_Room_pair K r w' x1 x2 w hf)
def f_Room_closure (S : Nat) (x1 : Int32) (x2 : Int32) (x3 : Int32) (w : pm_W) : Option (Int32 × pm_W) :=
  Option.bind (f_Room_make S (5 : Int32) x1 x2 x3 (pm_setI w 5 10 ((w.1 5 10) + (3 : Int32)))) fun o1 =>
  some (o1.1, o1.2)
set_option maxHeartbeats 4000000 in
set_option maxRecDepth 100000 in
theorem t_Room_closure {p : Program} {l : Launch} {e : Env} {s : State} {m : MethodId} {args : Array Value} {below : List Frame} {meth : Method} {c : Code} {D : va_G} {ca : Nat → ClassId} {ad : Nat → Nat} {E : (Nat → Prop) → State → Heap → Prop} {S : Nat} (K : pm_ok p s m args meth c k_Room_closure 4 pmTs R_Room D vwCl (tyl ca) (shC S) ad E (some .int)) (r : Int32) (w' : pm_W) (x1 : Int32) (x2 : Int32) (x3 : Int32) (w : pm_W) (hf : f_Room_closure  S x1 x2 x3 w = some (r, w')) : pm_wk p l e { frames := 1, cells := 0, slots := 0, locals := 25 } s m args below meth c D vwCl (shC S) ca ad 4 (some (.int r), w') 0 [(0, .ref (ad 5)), (1, .int x1), (2, .int x2), (3, .int x3)] [] w := by
  unfold f_Room_closure at hf
  refine pm_aload_n K d_Room_closure_0 0 rfl rfl ?_
  refine pm_dup K d_Room_closure_1 rfl ?_
  refine pm_getI K fc_5 (o := 5) rfl 10 rfl (by decide) tw_245 d_Room_closure_2 (v := w.1 5 10) rfl ?_
  refine pm_iconst (v := 3) K d_Room_closure_5 (by decide) ?_
  refine pm_iadd K d_Room_closure_6 ?_
  refine pm_putI K fc_5 (o := 5) (ty := .int) rfl 10 rfl (by decide) tw_245 rfl rfl rfl rfl d_Room_closure_7 ?_
  refine pm_aload_n K d_Room_closure_10 0 rfl rfl ?_
  refine pm_iconst (v := 5) K d_Room_closure_11 (by decide) ?_
  refine pm_iload_n K d_Room_closure_12 1 rfl rfl ?_
  refine pm_iload_n K d_Room_closure_13 2 rfl rfl ?_
  refine pm_iload_n K d_Room_closure_14 3 rfl rfl ?_
  obtain ⟨o1, z1, hf⟩ := pm_bind hf
  refine pm_callV (As := [.int (5 : Int32), .int x1, .int x2, .int x3]) (rest := []) (o := 5) K (c_Room_make K.2.2.2.2.2.2.2.2.2.2.2.2 o1.1 o1.2 (5 : Int32) x1 x2 x3 (pm_setI w 5 10 ((w.1 5 10) + (3 : Int32))) z1) mi_Room_make rfl rfl tw_394 tw_8 tw_393 rfl ⟨rfl, rfl, Nat.le_of_ble_eq_true rfl, Nat.le_of_ble_eq_true rfl⟩ rfl (Nat.le_of_ble_eq_true rfl) d_Room_closure_15 ?_
  cases hf
  exact pm_iret K d_Room_closure_18
/-- CellLisp$Room.closure(III)I -/
theorem c_Room_closure {l : Launch} {D : va_G} {ca : Nat → ClassId} {ad : Nat → Nat} {E : (Nat → Prop) → State → Heap → Prop} {S : Nat} (hEc : pm_Ecl E) (r : Int32) (w' : pm_W) (x1 : Int32) (x2 : Int32) (x3 : Int32) (w : pm_W) (hf : f_Room_closure  S x1 x2 x3 w = some (r, w')) : pm_Met l pmTs D vwCl (tyl ca) (shC S) ca ad E y_Room_closure k_Room_closure 4 (some .int) { frames := 1, cells := 0, slots := 0, locals := 25 } [.ref (ad 5), .int x1, .int x2, .int x3] w (some (.int r), w') :=
  pm_start pmTs_good hEc (by decide) (Nat.le_of_ble_eq_true rfl) (fun p e s m below meth c K => t_Room_closure K r w' x1 x2 x3 w hf)
def f_Room_isHere (S : Nat) (x1 : Int32) (w : pm_W) : Option (Int32 × pm_W) :=
  if (x1 &&& (7 : Int32)) = (4 : Int32) then
    if (x1 >>> ((3 : Int32) &&& 31)) < 0 then
      some ((0 : Int32), w)
    else
      if (w.1 5 1) ≤ (x1 >>> ((3 : Int32) &&& 31)) then
        some ((0 : Int32), w)
      else
        some ((1 : Int32), w)
  else
    if (x1 &&& (7 : Int32)) = (5 : Int32) then
      if (x1 >>> ((3 : Int32) &&& 31)) < 0 then
        some ((0 : Int32), w)
      else
        if (w.1 5 1) ≤ (x1 >>> ((3 : Int32) &&& 31)) then
          some ((0 : Int32), w)
        else
          some ((1 : Int32), w)
    else
      some ((0 : Int32), w)
set_option maxHeartbeats 4000000 in
set_option maxRecDepth 100000 in
theorem t_Room_isHere {p : Program} {l : Launch} {e : Env} {s : State} {m : MethodId} {args : Array Value} {below : List Frame} {meth : Method} {c : Code} {D : va_G} {ca : Nat → ClassId} {ad : Nat → Nat} {E : (Nat → Prop) → State → Heap → Prop} {S : Nat} (K : pm_ok p s m args meth c k_Room_isHere 4 pmTs R_Room D vwCl (tyl ca) (shC S) ad E (some .boolean)) (r : Int32) (w' : pm_W) (x1 : Int32) (w : pm_W) (hf : f_Room_isHere  S x1 w = some (r, w')) : pm_wk p l e { frames := 0, cells := 0, slots := 0, locals := 0 } s m args below meth c D vwCl (shC S) ca ad 4 (some (.int r), w') 0 [(0, .ref (ad 5)), (1, .int x1)] [] w := by
  unfold f_Room_isHere at hf
  refine pm_iload_n K d_Room_isHere_0 1 rfl rfl ?_
  refine pm_bipush (v := 7) K d_Room_isHere_1 (by decide) ?_
  refine pm_iand K d_Room_isHere_3 ?_
  refine pm_istore_n (lv' := [(2, .int (x1 &&& (7 : Int32))), (0, .ref (ad 5)), (1, .int x1)]) K d_Room_isHere_4 rfl (by decide) rfl ?_
  refine pm_iload_n K d_Room_isHere_5 2 rfl rfl ?_
  refine pm_iconst (v := 3) K d_Room_isHere_6 (by decide) ?_
  refine pm_ishr K d_Room_isHere_7 ?_
  refine pm_istore_n (lv' := [(3, .int (x1 >>> ((3 : Int32) &&& 31))), (2, .int (x1 &&& (7 : Int32))), (0, .ref (ad 5)), (1, .int x1)]) K d_Room_isHere_8 rfl (by decide) rfl ?_
  refine pm_iload_n K d_Room_isHere_9 1 rfl rfl ?_
  refine pm_iconst (v := 4) K d_Room_isHere_10 (by decide) ?_
  refine pm_icmp_eq K d_Room_isHere_11 19 (by decide) (fun c1 => ?_) (fun c1 => ?_)
  · have hf := pm_ift c1 hf
    refine pm_iload_n K d_Room_isHere_19 0 rfl rfl ?_
    refine pm_if_lt K d_Room_isHere_20 35 (by decide) (fun c2 => ?_) (fun c2 => ?_)
    · have hf := pm_ift c2 hf
      refine pm_iconst (v := 0) K d_Room_isHere_35 (by decide) ?_
      cases hf
      exact pm_zret K (by decide) d_Room_isHere_36
    · have hf := pm_iff c2 hf
      refine pm_iload_n K d_Room_isHere_23 0 rfl rfl ?_
      refine pm_aload_n K d_Room_isHere_24 2 rfl rfl ?_
      refine pm_getI K fc_5 (o := 5) rfl 1 rfl (by decide) tw_236 d_Room_isHere_25 (v := w.1 5 1) rfl ?_
      refine pm_icmp_ge K d_Room_isHere_28 35 (by decide) (fun c3 => ?_) (fun c3 => ?_)
      · have hf := pm_ift c3 hf
        refine pm_iconst (v := 0) K d_Room_isHere_35 (by decide) ?_
        cases hf
        exact pm_zret K (by decide) d_Room_isHere_36
      · have hf := pm_iff c3 hf
        refine pm_iconst (v := 1) K d_Room_isHere_31 (by decide) ?_
        refine pm_goto K d_Room_isHere_32 36 (by decide) ?_
        cases hf
        exact pm_zret K (by decide) d_Room_isHere_36
  · have hf := pm_iff c1 hf
    refine pm_iload_n K d_Room_isHere_14 1 rfl rfl ?_
    refine pm_iconst (v := 5) K d_Room_isHere_15 (by decide) ?_
    refine pm_icmp_ne K d_Room_isHere_16 35 (by decide) (fun c4 => ?_) (fun c4 => ?_)
    · have hf := pm_iff c4 hf
      refine pm_iconst (v := 0) K d_Room_isHere_35 (by decide) ?_
      cases hf
      exact pm_zret K (by decide) d_Room_isHere_36
    · have hf := pm_ift c4 hf
      refine pm_iload_n K d_Room_isHere_19 0 rfl rfl ?_
      refine pm_if_lt K d_Room_isHere_20 35 (by decide) (fun c5 => ?_) (fun c5 => ?_)
      · have hf := pm_ift c5 hf
        refine pm_iconst (v := 0) K d_Room_isHere_35 (by decide) ?_
        cases hf
        exact pm_zret K (by decide) d_Room_isHere_36
      · have hf := pm_iff c5 hf
        refine pm_iload_n K d_Room_isHere_23 0 rfl rfl ?_
        refine pm_aload_n K d_Room_isHere_24 2 rfl rfl ?_
        refine pm_getI K fc_5 (o := 5) rfl 1 rfl (by decide) tw_236 d_Room_isHere_25 (v := w.1 5 1) rfl ?_
        refine pm_icmp_ge K d_Room_isHere_28 35 (by decide) (fun c6 => ?_) (fun c6 => ?_)
        · have hf := pm_ift c6 hf
          refine pm_iconst (v := 0) K d_Room_isHere_35 (by decide) ?_
          cases hf
          exact pm_zret K (by decide) d_Room_isHere_36
        · have hf := pm_iff c6 hf
          refine pm_iconst (v := 1) K d_Room_isHere_31 (by decide) ?_
          refine pm_goto K d_Room_isHere_32 36 (by decide) ?_
          cases hf
          exact pm_zret K (by decide) d_Room_isHere_36
/-- CellLisp$Room.isHere(I)Z -/
theorem c_Room_isHere {l : Launch} {D : va_G} {ca : Nat → ClassId} {ad : Nat → Nat} {E : (Nat → Prop) → State → Heap → Prop} {S : Nat} (hEc : pm_Ecl E) (r : Int32) (w' : pm_W) (x1 : Int32) (w : pm_W) (hf : f_Room_isHere  S x1 w = some (r, w')) : pm_Met l pmTs D vwCl (tyl ca) (shC S) ca ad E y_Room_isHere k_Room_isHere 4 (some .boolean) { frames := 0, cells := 0, slots := 0, locals := 0 } [.ref (ad 5), .int x1] w (some (.int r), w') :=
  pm_start pmTs_good hEc (by decide) (Nat.le_of_ble_eq_true rfl) (fun p e s m below meth c K => t_Room_isHere K r w' x1 w hf)
def f_Room_first (S : Nat) (x1 : Int32) (w : pm_W) : Option (Int32 × pm_W) :=
  Option.bind (f_Room_isHere S x1 w) fun o1 =>
  if o1.1 = 0 then
    some ((2 : Int32), o1.2)
  else
    Option.bind (f_Value_content S x1 o1.2) fun o3 =>
    if o3.1 < 0 ∨ S ≤ o3.1.toNatClampNeg then none else
    some (o3.2.1 17 o3.1.toNatClampNeg, o3.2)
set_option maxHeartbeats 4000000 in
set_option maxRecDepth 100000 in
theorem t_Room_first {p : Program} {l : Launch} {e : Env} {s : State} {m : MethodId} {args : Array Value} {below : List Frame} {meth : Method} {c : Code} {D : va_G} {ca : Nat → ClassId} {ad : Nat → Nat} {E : (Nat → Prop) → State → Heap → Prop} {S : Nat} (K : pm_ok p s m args meth c k_Room_first 2 pmTs R_Room D vwCl (tyl ca) (shC S) ad E (some .int)) (r : Int32) (w' : pm_W) (x1 : Int32) (w : pm_W) (hf : f_Room_first  S x1 w = some (r, w')) : pm_wk p l e { frames := 1, cells := 0, slots := 0, locals := 23 } s m args below meth c D vwCl (shC S) ca ad 2 (some (.int r), w') 0 [(0, .ref (ad 5)), (1, .int x1)] [] w := by
  unfold f_Room_first at hf
  refine pm_aload_n K d_Room_first_0 0 rfl rfl ?_
  refine pm_iload_n K d_Room_first_1 1 rfl rfl ?_
  obtain ⟨o1, z1, hf⟩ := pm_bind hf
  refine pm_callV (As := [.int x1]) (rest := []) (o := 5) K (c_Room_isHere K.2.2.2.2.2.2.2.2.2.2.2.2 o1.1 o1.2 x1 w z1) mi_Room_isHere rfl rfl tw_401 tw_9 tw_400 rfl ⟨rfl, rfl, Nat.le_of_ble_eq_true rfl, Nat.le_of_ble_eq_true rfl⟩ rfl (Nat.le_of_ble_eq_true rfl) d_Room_first_2 ?_
  refine pm_if_eq K d_Room_first_5 20 (by decide) (fun c2 => ?_) (fun c2 => ?_)
  · have hf := pm_ift c2 hf
    refine pm_iconst (v := 2) K d_Room_first_20 (by decide) ?_
    cases hf
    exact pm_iret K d_Room_first_21
  · have hf := pm_iff c2 hf
    refine pm_aload_n K d_Room_first_8 0 rfl rfl ?_
    refine pm_getR K fc_5 (o := 5) rfl 2 rfl (by decide) tw_237 d_Room_first_9 ?_
    refine pm_iload_n K d_Room_first_12 1 rfl rfl ?_
    obtain ⟨o3, z3, hf⟩ := pm_bind hf
    refine pm_callS (As := [.int x1]) (rest := [.ref (ad 17)]) K (c_Value_content K.2.2.2.2.2.2.2.2.2.2.2.2 o3.1 o3.2 x1 o1.2 z3) mi_Value_content tw_377 tw_376 rfl ⟨rfl, rfl, Nat.le_of_ble_eq_true rfl, Nat.le_of_ble_eq_true rfl⟩ rfl (Nat.le_of_ble_eq_true rfl) d_Room_first_13 ?_
    obtain ⟨q4, hf⟩ := pm_bnd hf
    refine pm_iald K (o := 17) rfl rfl q4 d_Room_first_16 (v := o3.2.1 17 o3.1.toNatClampNeg) rfl ?_
    refine pm_goto K d_Room_first_17 21 (by decide) ?_
    cases hf
    exact pm_iret K d_Room_first_21
/-- CellLisp$Room.first(I)I -/
theorem c_Room_first {l : Launch} {D : va_G} {ca : Nat → ClassId} {ad : Nat → Nat} {E : (Nat → Prop) → State → Heap → Prop} {S : Nat} (hEc : pm_Ecl E) (r : Int32) (w' : pm_W) (x1 : Int32) (w : pm_W) (hf : f_Room_first  S x1 w = some (r, w')) : pm_Met l pmTs D vwCl (tyl ca) (shC S) ca ad E y_Room_first k_Room_first 2 (some .int) { frames := 1, cells := 0, slots := 0, locals := 23 } [.ref (ad 5), .int x1] w (some (.int r), w') :=
  pm_start pmTs_good hEc (by decide) (Nat.le_of_ble_eq_true rfl) (fun p e s m below meth c K => t_Room_first K r w' x1 w hf)
def f_Room_second (S : Nat) (x1 : Int32) (w : pm_W) : Option (Int32 × pm_W) :=
  Option.bind (f_Room_isHere S x1 w) fun o1 =>
  if o1.1 = 0 then
    some ((2 : Int32), o1.2)
  else
    Option.bind (f_Value_content S x1 o1.2) fun o3 =>
    if o3.1 < 0 ∨ S ≤ o3.1.toNatClampNeg then none else
    some (o3.2.1 18 o3.1.toNatClampNeg, o3.2)
set_option maxHeartbeats 4000000 in
set_option maxRecDepth 100000 in
theorem t_Room_second {p : Program} {l : Launch} {e : Env} {s : State} {m : MethodId} {args : Array Value} {below : List Frame} {meth : Method} {c : Code} {D : va_G} {ca : Nat → ClassId} {ad : Nat → Nat} {E : (Nat → Prop) → State → Heap → Prop} {S : Nat} (K : pm_ok p s m args meth c k_Room_second 2 pmTs R_Room D vwCl (tyl ca) (shC S) ad E (some .int)) (r : Int32) (w' : pm_W) (x1 : Int32) (w : pm_W) (hf : f_Room_second  S x1 w = some (r, w')) : pm_wk p l e { frames := 1, cells := 0, slots := 0, locals := 23 } s m args below meth c D vwCl (shC S) ca ad 2 (some (.int r), w') 0 [(0, .ref (ad 5)), (1, .int x1)] [] w := by
  unfold f_Room_second at hf
  refine pm_aload_n K d_Room_second_0 0 rfl rfl ?_
  refine pm_iload_n K d_Room_second_1 1 rfl rfl ?_
  obtain ⟨o1, z1, hf⟩ := pm_bind hf
  refine pm_callV (As := [.int x1]) (rest := []) (o := 5) K (c_Room_isHere K.2.2.2.2.2.2.2.2.2.2.2.2 o1.1 o1.2 x1 w z1) mi_Room_isHere rfl rfl tw_401 tw_9 tw_400 rfl ⟨rfl, rfl, Nat.le_of_ble_eq_true rfl, Nat.le_of_ble_eq_true rfl⟩ rfl (Nat.le_of_ble_eq_true rfl) d_Room_second_2 ?_
  refine pm_if_eq K d_Room_second_5 20 (by decide) (fun c2 => ?_) (fun c2 => ?_)
  · have hf := pm_ift c2 hf
    refine pm_iconst (v := 2) K d_Room_second_20 (by decide) ?_
    cases hf
    exact pm_iret K d_Room_second_21
  · have hf := pm_iff c2 hf
    refine pm_aload_n K d_Room_second_8 0 rfl rfl ?_
    refine pm_getR K fc_5 (o := 5) rfl 3 rfl (by decide) tw_238 d_Room_second_9 ?_
    refine pm_iload_n K d_Room_second_12 1 rfl rfl ?_
    obtain ⟨o3, z3, hf⟩ := pm_bind hf
    refine pm_callS (As := [.int x1]) (rest := [.ref (ad 18)]) K (c_Value_content K.2.2.2.2.2.2.2.2.2.2.2.2 o3.1 o3.2 x1 o1.2 z3) mi_Value_content tw_377 tw_376 rfl ⟨rfl, rfl, Nat.le_of_ble_eq_true rfl, Nat.le_of_ble_eq_true rfl⟩ rfl (Nat.le_of_ble_eq_true rfl) d_Room_second_13 ?_
    obtain ⟨q4, hf⟩ := pm_bnd hf
    refine pm_iald K (o := 18) rfl rfl q4 d_Room_second_16 (v := o3.2.1 18 o3.1.toNatClampNeg) rfl ?_
    refine pm_goto K d_Room_second_17 21 (by decide) ?_
    cases hf
    exact pm_iret K d_Room_second_21
/-- CellLisp$Room.second(I)I -/
theorem c_Room_second {l : Launch} {D : va_G} {ca : Nat → ClassId} {ad : Nat → Nat} {E : (Nat → Prop) → State → Heap → Prop} {S : Nat} (hEc : pm_Ecl E) (r : Int32) (w' : pm_W) (x1 : Int32) (w : pm_W) (hf : f_Room_second  S x1 w = some (r, w')) : pm_Met l pmTs D vwCl (tyl ca) (shC S) ca ad E y_Room_second k_Room_second 2 (some .int) { frames := 1, cells := 0, slots := 0, locals := 23 } [.ref (ad 5), .int x1] w (some (.int r), w') :=
  pm_start pmTs_good hEc (by decide) (Nat.le_of_ble_eq_true rfl) (fun p e s m below meth c K => t_Room_second K r w' x1 w hf)
def f_Room_third (S : Nat) (x1 : Int32) (w : pm_W) : Option (Int32 × pm_W) :=
  Option.bind (f_Room_isHere S x1 w) fun o1 =>
  if o1.1 = 0 then
    some ((2 : Int32), o1.2)
  else
    Option.bind (f_Value_content S x1 o1.2) fun o3 =>
    if o3.1 < 0 ∨ S ≤ o3.1.toNatClampNeg then none else
    some (o3.2.1 19 o3.1.toNatClampNeg, o3.2)
set_option maxHeartbeats 4000000 in
set_option maxRecDepth 100000 in
theorem t_Room_third {p : Program} {l : Launch} {e : Env} {s : State} {m : MethodId} {args : Array Value} {below : List Frame} {meth : Method} {c : Code} {D : va_G} {ca : Nat → ClassId} {ad : Nat → Nat} {E : (Nat → Prop) → State → Heap → Prop} {S : Nat} (K : pm_ok p s m args meth c k_Room_third 2 pmTs R_Room D vwCl (tyl ca) (shC S) ad E (some .int)) (r : Int32) (w' : pm_W) (x1 : Int32) (w : pm_W) (hf : f_Room_third  S x1 w = some (r, w')) : pm_wk p l e { frames := 1, cells := 0, slots := 0, locals := 23 } s m args below meth c D vwCl (shC S) ca ad 2 (some (.int r), w') 0 [(0, .ref (ad 5)), (1, .int x1)] [] w := by
  unfold f_Room_third at hf
  refine pm_aload_n K d_Room_third_0 0 rfl rfl ?_
  refine pm_iload_n K d_Room_third_1 1 rfl rfl ?_
  obtain ⟨o1, z1, hf⟩ := pm_bind hf
  refine pm_callV (As := [.int x1]) (rest := []) (o := 5) K (c_Room_isHere K.2.2.2.2.2.2.2.2.2.2.2.2 o1.1 o1.2 x1 w z1) mi_Room_isHere rfl rfl tw_401 tw_9 tw_400 rfl ⟨rfl, rfl, Nat.le_of_ble_eq_true rfl, Nat.le_of_ble_eq_true rfl⟩ rfl (Nat.le_of_ble_eq_true rfl) d_Room_third_2 ?_
  refine pm_if_eq K d_Room_third_5 20 (by decide) (fun c2 => ?_) (fun c2 => ?_)
  · have hf := pm_ift c2 hf
    refine pm_iconst (v := 2) K d_Room_third_20 (by decide) ?_
    cases hf
    exact pm_iret K d_Room_third_21
  · have hf := pm_iff c2 hf
    refine pm_aload_n K d_Room_third_8 0 rfl rfl ?_
    refine pm_getR K fc_5 (o := 5) rfl 4 rfl (by decide) tw_239 d_Room_third_9 ?_
    refine pm_iload_n K d_Room_third_12 1 rfl rfl ?_
    obtain ⟨o3, z3, hf⟩ := pm_bind hf
    refine pm_callS (As := [.int x1]) (rest := [.ref (ad 19)]) K (c_Value_content K.2.2.2.2.2.2.2.2.2.2.2.2 o3.1 o3.2 x1 o1.2 z3) mi_Value_content tw_377 tw_376 rfl ⟨rfl, rfl, Nat.le_of_ble_eq_true rfl, Nat.le_of_ble_eq_true rfl⟩ rfl (Nat.le_of_ble_eq_true rfl) d_Room_third_13 ?_
    obtain ⟨q4, hf⟩ := pm_bnd hf
    refine pm_iald K (o := 19) rfl rfl q4 d_Room_third_16 (v := o3.2.1 19 o3.1.toNatClampNeg) rfl ?_
    refine pm_goto K d_Room_third_17 21 (by decide) ?_
    cases hf
    exact pm_iret K d_Room_third_21
/-- CellLisp$Room.third(I)I -/
theorem c_Room_third {l : Launch} {D : va_G} {ca : Nat → ClassId} {ad : Nat → Nat} {E : (Nat → Prop) → State → Heap → Prop} {S : Nat} (hEc : pm_Ecl E) (r : Int32) (w' : pm_W) (x1 : Int32) (w : pm_W) (hf : f_Room_third  S x1 w = some (r, w')) : pm_Met l pmTs D vwCl (tyl ca) (shC S) ca ad E y_Room_third k_Room_third 2 (some .int) { frames := 1, cells := 0, slots := 0, locals := 23 } [.ref (ad 5), .int x1] w (some (.int r), w') :=
  pm_start pmTs_good hEc (by decide) (Nat.le_of_ble_eq_true rfl) (fun p e s m below meth c K => t_Room_third K r w' x1 w hf)
def f_Room_setSecond (S : Nat) (x1 : Int32) (x2 : Int32) (w : pm_W) : Option pm_W :=
  Option.bind (f_Room_isHere S x1 w) fun o1 =>
  if o1.1 = 0 then
    some o1.2
  else
    Option.bind (f_Value_content S x1 o1.2) fun o3 =>
    if o3.1 < 0 ∨ S ≤ o3.1.toNatClampNeg then none else
    some (pm_setI o3.2 18 o3.1.toNatClampNeg x2)
set_option maxHeartbeats 4000000 in
set_option maxRecDepth 100000 in
theorem t_Room_setSecond {p : Program} {l : Launch} {e : Env} {s : State} {m : MethodId} {args : Array Value} {below : List Frame} {meth : Method} {c : Code} {D : va_G} {ca : Nat → ClassId} {ad : Nat → Nat} {E : (Nat → Prop) → State → Heap → Prop} {S : Nat} (K : pm_ok p s m args meth c k_Room_setSecond 3 pmTs R_Room D vwCl (tyl ca) (shC S) ad E none) (w' : pm_W) (x1 : Int32) (x2 : Int32) (w : pm_W) (hf : f_Room_setSecond  S x1 x2 w = some w') : pm_wk p l e { frames := 1, cells := 0, slots := 0, locals := 23 } s m args below meth c D vwCl (shC S) ca ad 3 (none, w') 0 [(0, .ref (ad 5)), (1, .int x1), (2, .int x2)] [] w := by
  unfold f_Room_setSecond at hf
  refine pm_aload_n K d_Room_setSecond_0 0 rfl rfl ?_
  refine pm_iload_n K d_Room_setSecond_1 1 rfl rfl ?_
  obtain ⟨o1, z1, hf⟩ := pm_bind hf
  refine pm_callV (As := [.int x1]) (rest := []) (o := 5) K (c_Room_isHere K.2.2.2.2.2.2.2.2.2.2.2.2 o1.1 o1.2 x1 w z1) mi_Room_isHere rfl rfl tw_401 tw_9 tw_400 rfl ⟨rfl, rfl, Nat.le_of_ble_eq_true rfl, Nat.le_of_ble_eq_true rfl⟩ rfl (Nat.le_of_ble_eq_true rfl) d_Room_setSecond_2 ?_
  refine pm_if_eq K d_Room_setSecond_5 18 (by decide) (fun c2 => ?_) (fun c2 => ?_)
  · have hf := pm_ift c2 hf
    cases hf
    exact pm_vret K d_Room_setSecond_18
  · have hf := pm_iff c2 hf
    refine pm_aload_n K d_Room_setSecond_8 0 rfl rfl ?_
    refine pm_getR K fc_5 (o := 5) rfl 3 rfl (by decide) tw_238 d_Room_setSecond_9 ?_
    refine pm_iload_n K d_Room_setSecond_12 1 rfl rfl ?_
    obtain ⟨o3, z3, hf⟩ := pm_bind hf
    refine pm_callS (As := [.int x1]) (rest := [.ref (ad 18)]) K (c_Value_content K.2.2.2.2.2.2.2.2.2.2.2.2 o3.1 o3.2 x1 o1.2 z3) mi_Value_content tw_377 tw_376 rfl ⟨rfl, rfl, Nat.le_of_ble_eq_true rfl, Nat.le_of_ble_eq_true rfl⟩ rfl (Nat.le_of_ble_eq_true rfl) d_Room_setSecond_13 ?_
    refine pm_iload_n K d_Room_setSecond_16 2 rfl rfl ?_
    obtain ⟨q4, hf⟩ := pm_bnd hf
    refine pm_iast K (o := 18) rfl rfl q4 d_Room_setSecond_17 ?_
    cases hf
    exact pm_vret K d_Room_setSecond_18
/-- CellLisp$Room.setSecond(II)V -/
theorem c_Room_setSecond {l : Launch} {D : va_G} {ca : Nat → ClassId} {ad : Nat → Nat} {E : (Nat → Prop) → State → Heap → Prop} {S : Nat} (hEc : pm_Ecl E) (w' : pm_W) (x1 : Int32) (x2 : Int32) (w : pm_W) (hf : f_Room_setSecond  S x1 x2 w = some w') : pm_Met l pmTs D vwCl (tyl ca) (shC S) ca ad E y_Room_setSecond k_Room_setSecond 3 none { frames := 1, cells := 0, slots := 0, locals := 23 } [.ref (ad 5), .int x1, .int x2] w (none, w') :=
  pm_start pmTs_good hEc (by decide) (Nat.le_of_ble_eq_true rfl) (fun p e s m below meth c K => t_Room_setSecond K w' x1 x2 w hf)
def f_Value_isPair (S : Nat) (x0 : Int32) (w : pm_W) : Option (Int32 × pm_W) :=
  Option.bind (f_Value_kind S x0 w) fun o1 =>
  if o1.1 = (4 : Int32) then
    some ((1 : Int32), o1.2)
  else
    some ((0 : Int32), o1.2)
set_option maxHeartbeats 4000000 in
set_option maxRecDepth 100000 in
theorem t_Value_isPair {p : Program} {l : Launch} {e : Env} {s : State} {m : MethodId} {args : Array Value} {below : List Frame} {meth : Method} {c : Code} {D : va_G} {ca : Nat → ClassId} {ad : Nat → Nat} {E : (Nat → Prop) → State → Heap → Prop} {S : Nat} (K : pm_ok p s m args meth c k_Value_isPair 1 pmTs R_Value D vwCl (tyl ca) (shC S) ad E (some .boolean)) (r : Int32) (w' : pm_W) (x0 : Int32) (w : pm_W) (hf : f_Value_isPair  S x0 w = some (r, w')) : pm_wk p l e { frames := 1, cells := 0, slots := 0, locals := 20 } s m args below meth c D vwCl (shC S) ca ad 1 (some (.int r), w') 0 [(0, .int x0)] [] w := by
  unfold f_Value_isPair at hf
  refine pm_iload_n K d_Value_isPair_0 0 rfl rfl ?_
  obtain ⟨o1, z1, hf⟩ := pm_bind hf
  refine pm_callS (As := [.int x0]) (rest := []) K (c_Value_kind K.2.2.2.2.2.2.2.2.2.2.2.2 o1.1 o1.2 x0 w z1) mi_Value_kind tw_374 tw_426 rfl ⟨rfl, rfl, Nat.le_of_ble_eq_true rfl, Nat.le_of_ble_eq_true rfl⟩ rfl (Nat.le_of_ble_eq_true rfl) d_Value_isPair_1 ?_
  refine pm_iconst (v := 4) K d_Value_isPair_4 (by decide) ?_
  refine pm_icmp_ne K d_Value_isPair_5 12 (by decide) (fun c2 => ?_) (fun c2 => ?_)
  · have hf := pm_iff c2 hf
    refine pm_iconst (v := 0) K d_Value_isPair_12 (by decide) ?_
    cases hf
    exact pm_zret K (by decide) d_Value_isPair_13
  · have hf := pm_ift c2 hf
    refine pm_iconst (v := 1) K d_Value_isPair_8 (by decide) ?_
    refine pm_goto K d_Value_isPair_9 13 (by decide) ?_
    cases hf
    exact pm_zret K (by decide) d_Value_isPair_13
/-- CellLisp$Value.isPair(I)Z -/
theorem c_Value_isPair {l : Launch} {D : va_G} {ca : Nat → ClassId} {ad : Nat → Nat} {E : (Nat → Prop) → State → Heap → Prop} {S : Nat} (hEc : pm_Ecl E) (r : Int32) (w' : pm_W) (x0 : Int32) (w : pm_W) (hf : f_Value_isPair  S x0 w = some (r, w')) : pm_Met l pmTs D vwCl (tyl ca) (shC S) ca ad E y_Value_isPair k_Value_isPair 1 (some .boolean) { frames := 1, cells := 0, slots := 0, locals := 20 } [.int x0] w (some (.int r), w') :=
  pm_start pmTs_good hEc (by decide) (Nat.le_of_ble_eq_true rfl) (fun p e s m below meth c K => t_Value_isPair K r w' x0 w hf)
def b_Room_length_4 (S : Nat) (rec : Nat → Int32 → Int32 → pm_W → Option (Int32 × pm_W)) (x2 : Int32) (x3 : Int32) (w : pm_W) : Option (Int32 × pm_W) :=
  if (w.1 5 1) ≤ x3 then
    some (x3, w)
  else
    Option.bind (f_Value_isPair S x2 w) fun o2 =>
    if o2.1 = 0 then
      some (x3, o2.2)
    else
      Option.bind (f_Room_second S x2 o2.2) fun o4 =>
      rec 0 o4.1 (x3 + (1 : Int32)) o4.2
def l_Room_length (S : Nat) : Nat → Nat → Int32 → Int32 → pm_W → Option (Int32 × pm_W) := pm_it (fun _ _ _ _ => none) (fun rec k x2 x3 w => b_Room_length_4  S rec x2 x3 w)
def f_Room_length (S : Nat) (x1 : Int32) (w : pm_W) : Option (Int32 × pm_W) :=
  (l_Room_length  S pm_fuel) 0 x1 (0 : Int32) w
set_option maxHeartbeats 4000000 in
set_option maxRecDepth 100000 in
theorem t_Room_length_4 {p : Program} {l : Launch} {e : Env} {s : State} {m : MethodId} {args : Array Value} {below : List Frame} {meth : Method} {c : Code} {D : va_G} {ca : Nat → ClassId} {ad : Nat → Nat} {E : (Nat → Prop) → State → Heap → Prop} {S : Nat} (K : pm_ok p s m args meth c k_Room_length 4 pmTs R_Room D vwCl (tyl ca) (shC S) ad E (some .int)) (rec : Nat → Int32 → Int32 → pm_W → Option (Int32 × pm_W)) (r : Int32) (w' : pm_W) (h4 : ∀ (x2 : Int32) (x3 : Int32) (w : pm_W), rec 0 x2 x3 w = some (r, w') → pm_wk p l e { frames := 2, cells := 0, slots := 0, locals := 44 } s m args below meth c D vwCl (shC S) ca ad 4 (some (.int r), w') 4 [(0, .ref (ad 5)), (2, .int x2), (3, .int x3)] [] w) (x2 : Int32) (x3 : Int32) (w : pm_W) (hf : b_Room_length_4  S rec x2 x3 w = some (r, w')) : pm_wk p l e { frames := 2, cells := 0, slots := 0, locals := 44 } s m args below meth c D vwCl (shC S) ca ad 4 (some (.int r), w') 4 [(0, .ref (ad 5)), (2, .int x2), (3, .int x3)] [] w := by
  unfold b_Room_length_4 at hf
  refine pm_iload_n K d_Room_length_4 2 rfl rfl ?_
  refine pm_aload_n K d_Room_length_5 0 rfl rfl ?_
  refine pm_getI K fc_5 (o := 5) rfl 1 rfl (by decide) tw_236 d_Room_length_6 (v := w.1 5 1) rfl ?_
  refine pm_icmp_ge K d_Room_length_9 31 (by decide) (fun c1 => ?_) (fun c1 => ?_)
  · have hf := pm_ift c1 hf
    refine pm_iload_n K d_Room_length_31 2 rfl rfl ?_
    cases hf
    exact pm_iret K d_Room_length_32
  · have hf := pm_iff c1 hf
    refine pm_iload_n K d_Room_length_12 1 rfl rfl ?_
    obtain ⟨o2, z2, hf⟩ := pm_bind hf
    refine pm_callS (As := [.int x2]) (rest := []) K (c_Value_isPair K.2.2.2.2.2.2.2.2.2.2.2.2 o2.1 o2.2 x2 w z2) mi_Value_isPair tw_435 tw_434 rfl ⟨rfl, rfl, Nat.le_of_ble_eq_true rfl, Nat.le_of_ble_eq_true rfl⟩ rfl (Nat.le_of_ble_eq_true rfl) d_Room_length_13 ?_
    refine pm_if_eq K d_Room_length_16 31 (by decide) (fun c3 => ?_) (fun c3 => ?_)
    · have hf := pm_ift c3 hf
      refine pm_iload_n K d_Room_length_31 2 rfl rfl ?_
      cases hf
      exact pm_iret K d_Room_length_32
    · have hf := pm_iff c3 hf
      refine pm_aload_n K d_Room_length_19 0 rfl rfl ?_
      refine pm_iload_n K d_Room_length_20 1 rfl rfl ?_
      obtain ⟨o4, z4, hf⟩ := pm_bind hf
      refine pm_callV (As := [.int x2]) (rest := []) (o := 5) K (c_Room_second K.2.2.2.2.2.2.2.2.2.2.2.2 o4.1 o4.2 x2 o2.2 z4) mi_Room_second rfl rfl tw_442 tw_443 tw_441 rfl ⟨rfl, rfl, Nat.le_of_ble_eq_true rfl, Nat.le_of_ble_eq_true rfl⟩ rfl (Nat.le_of_ble_eq_true rfl) d_Room_length_21 ?_
      refine pm_istore_n (lv' := [(2, .int o4.1), (0, .ref (ad 5)), (3, .int x3)]) K d_Room_length_24 rfl (by decide) rfl ?_
      refine pm_iinc (v := x3 + (1 : Int32)) (lv' := [(3, .int (x3 + (1 : Int32))), (2, .int o4.1), (0, .ref (ad 5))]) K d_Room_length_25 2 rfl rfl (by decide) rfl ?_
      refine pm_goto K d_Room_length_28 4 (by decide) ?_
      refine pm_sub (lv' := [(0, .ref (ad 5)), (2, .int o4.1), (3, .int (x3 + (1 : Int32)))]) [2, 1, 0] rfl ?_
      exact h4 o4.1 (x3 + (1 : Int32)) o4.2 hf
set_option maxHeartbeats 4000000 in
set_option maxRecDepth 100000 in
theorem a_Room_length {p : Program} {l : Launch} {e : Env} {s : State} {m : MethodId} {args : Array Value} {below : List Frame} {meth : Method} {c : Code} {D : va_G} {ca : Nat → ClassId} {ad : Nat → Nat} {E : (Nat → Prop) → State → Heap → Prop} {S : Nat} (K : pm_ok p s m args meth c k_Room_length 4 pmTs R_Room D vwCl (tyl ca) (shC S) ad E (some .int)) (r : Int32) (w' : pm_W) : ∀ n : Nat, (∀ (x2 : Int32) (x3 : Int32) (w : pm_W), l_Room_length  S n 0 x2 x3 w = some (r, w') → pm_wk p l e { frames := 2, cells := 0, slots := 0, locals := 44 } s m args below meth c D vwCl (shC S) ca ad 4 (some (.int r), w') 4 [(0, .ref (ad 5)), (2, .int x2), (3, .int x3)] [] w) := by
  intro n
  induction n with
  | zero => exact fun _ _ _ hf => (by cases hf)
  | succ n ih => exact fun x2 x3 w hf => t_Room_length_4 K (l_Room_length S n) r w' (ih) x2 x3 w hf
set_option maxHeartbeats 4000000 in
set_option maxRecDepth 100000 in
theorem t_Room_length {p : Program} {l : Launch} {e : Env} {s : State} {m : MethodId} {args : Array Value} {below : List Frame} {meth : Method} {c : Code} {D : va_G} {ca : Nat → ClassId} {ad : Nat → Nat} {E : (Nat → Prop) → State → Heap → Prop} {S : Nat} (K : pm_ok p s m args meth c k_Room_length 4 pmTs R_Room D vwCl (tyl ca) (shC S) ad E (some .int)) (r : Int32) (w' : pm_W) (x1 : Int32) (w : pm_W) (hf : f_Room_length  S x1 w = some (r, w')) : pm_wk p l e { frames := 2, cells := 0, slots := 0, locals := 44 } s m args below meth c D vwCl (shC S) ca ad 4 (some (.int r), w') 0 [(0, .ref (ad 5)), (1, .int x1)] [] w := by
  unfold f_Room_length at hf
  have h4 := (a_Room_length (l := l) (e := e) (below := below) K  r w' pm_fuel)
  refine pm_iload_n K d_Room_length_0 1 rfl rfl ?_
  refine pm_istore_n (lv' := [(2, .int x1), (0, .ref (ad 5)), (1, .int x1)]) K d_Room_length_1 rfl (by decide) rfl ?_
  refine pm_iconst (v := 0) K d_Room_length_2 (by decide) ?_
  refine pm_istore_n (lv' := [(3, .int (0 : Int32)), (2, .int x1), (0, .ref (ad 5)), (1, .int x1)]) K d_Room_length_3 rfl (by decide) rfl ?_
  refine pm_sub (lv' := [(0, .ref (ad 5)), (2, .int x1), (3, .int (0 : Int32))]) [2, 1, 0] rfl ?_
  exact h4 x1 (0 : Int32) w hf
/-- CellLisp$Room.length(I)I -/
theorem c_Room_length {l : Launch} {D : va_G} {ca : Nat → ClassId} {ad : Nat → Nat} {E : (Nat → Prop) → State → Heap → Prop} {S : Nat} (hEc : pm_Ecl E) (r : Int32) (w' : pm_W) (x1 : Int32) (w : pm_W) (hf : f_Room_length  S x1 w = some (r, w')) : pm_Met l pmTs D vwCl (tyl ca) (shC S) ca ad E y_Room_length k_Room_length 4 (some .int) { frames := 2, cells := 0, slots := 0, locals := 44 } [.ref (ad 5), .int x1] w (some (.int r), w') :=
  pm_start pmTs_good hEc (by decide) (Nat.le_of_ble_eq_true rfl) (fun p e s m below meth c K => t_Room_length K r w' x1 w hf)
def b_Room_tail_5 (S : Nat) (rec : Nat → Int32 → Int32 → Int32 → pm_W → Option (Int32 × pm_W)) (x2 : Int32) (x3 : Int32) (x4 : Int32) (w : pm_W) : Option (Int32 × pm_W) :=
  if x2 ≤ x4 then
    some (x3, w)
  else
    Option.bind (f_Value_isPair S x3 w) fun o2 =>
    if o2.1 = 0 then
      some (x3, o2.2)
    else
      Option.bind (f_Room_second S x3 o2.2) fun o4 =>
      rec 0 x2 o4.1 (x4 + (1 : Int32)) o4.2
def l_Room_tail (S : Nat) : Nat → Nat → Int32 → Int32 → Int32 → pm_W → Option (Int32 × pm_W) := pm_it (fun _ _ _ _ _ => none) (fun rec k x2 x3 x4 w => b_Room_tail_5  S rec x2 x3 x4 w)
def f_Room_tail (S : Nat) (x1 : Int32) (x2 : Int32) (w : pm_W) : Option (Int32 × pm_W) :=
  (l_Room_tail  S pm_fuel) 0 x2 x1 (0 : Int32) w
set_option maxHeartbeats 4000000 in
set_option maxRecDepth 100000 in
theorem t_Room_tail_5 {p : Program} {l : Launch} {e : Env} {s : State} {m : MethodId} {args : Array Value} {below : List Frame} {meth : Method} {c : Code} {D : va_G} {ca : Nat → ClassId} {ad : Nat → Nat} {E : (Nat → Prop) → State → Heap → Prop} {S : Nat} (K : pm_ok p s m args meth c k_Room_tail 5 pmTs R_Room D vwCl (tyl ca) (shC S) ad E (some .int)) (rec : Nat → Int32 → Int32 → Int32 → pm_W → Option (Int32 × pm_W)) (r : Int32) (w' : pm_W) (h5 : ∀ (x2 : Int32) (x3 : Int32) (x4 : Int32) (w : pm_W), rec 0 x2 x3 x4 w = some (r, w') → pm_wk p l e { frames := 2, cells := 0, slots := 0, locals := 44 } s m args below meth c D vwCl (shC S) ca ad 5 (some (.int r), w') 5 [(0, .ref (ad 5)), (2, .int x2), (3, .int x3), (4, .int x4)] [] w) (x2 : Int32) (x3 : Int32) (x4 : Int32) (w : pm_W) (hf : b_Room_tail_5  S rec x2 x3 x4 w = some (r, w')) : pm_wk p l e { frames := 2, cells := 0, slots := 0, locals := 44 } s m args below meth c D vwCl (shC S) ca ad 5 (some (.int r), w') 5 [(0, .ref (ad 5)), (2, .int x2), (3, .int x3), (4, .int x4)] [] w := by
  unfold b_Room_tail_5 at hf
  refine pm_iload K d_Room_tail_5 3 rfl ?_
  refine pm_iload_n K d_Room_tail_7 1 rfl rfl ?_
  refine pm_icmp_ge K d_Room_tail_8 30 (by decide) (fun c1 => ?_) (fun c1 => ?_)
  · have hf := pm_ift c1 hf
    refine pm_iload_n K d_Room_tail_30 2 rfl rfl ?_
    cases hf
    exact pm_iret K d_Room_tail_31
  · have hf := pm_iff c1 hf
    refine pm_iload_n K d_Room_tail_11 2 rfl rfl ?_
    obtain ⟨o2, z2, hf⟩ := pm_bind hf
    refine pm_callS (As := [.int x3]) (rest := []) K (c_Value_isPair K.2.2.2.2.2.2.2.2.2.2.2.2 o2.1 o2.2 x3 w z2) mi_Value_isPair tw_435 tw_434 rfl ⟨rfl, rfl, Nat.le_of_ble_eq_true rfl, Nat.le_of_ble_eq_true rfl⟩ rfl (Nat.le_of_ble_eq_true rfl) d_Room_tail_12 ?_
    refine pm_if_eq K d_Room_tail_15 30 (by decide) (fun c3 => ?_) (fun c3 => ?_)
    · have hf := pm_ift c3 hf
      refine pm_iload_n K d_Room_tail_30 2 rfl rfl ?_
      cases hf
      exact pm_iret K d_Room_tail_31
    · have hf := pm_iff c3 hf
      refine pm_aload_n K d_Room_tail_18 0 rfl rfl ?_
      refine pm_iload_n K d_Room_tail_19 2 rfl rfl ?_
      obtain ⟨o4, z4, hf⟩ := pm_bind hf
      refine pm_callV (As := [.int x3]) (rest := []) (o := 5) K (c_Room_second K.2.2.2.2.2.2.2.2.2.2.2.2 o4.1 o4.2 x3 o2.2 z4) mi_Room_second rfl rfl tw_442 tw_443 tw_441 rfl ⟨rfl, rfl, Nat.le_of_ble_eq_true rfl, Nat.le_of_ble_eq_true rfl⟩ rfl (Nat.le_of_ble_eq_true rfl) d_Room_tail_20 ?_
      refine pm_istore_n (lv' := [(3, .int o4.1), (0, .ref (ad 5)), (2, .int x2), (4, .int x4)]) K d_Room_tail_23 rfl (by decide) rfl ?_
      refine pm_iinc (v := x4 + (1 : Int32)) (lv' := [(4, .int (x4 + (1 : Int32))), (3, .int o4.1), (0, .ref (ad 5)), (2, .int x2)]) K d_Room_tail_24 3 rfl rfl (by decide) rfl ?_
      refine pm_goto K d_Room_tail_27 5 (by decide) ?_
      refine pm_sub (lv' := [(0, .ref (ad 5)), (2, .int x2), (3, .int o4.1), (4, .int (x4 + (1 : Int32)))]) [2, 3, 1, 0] rfl ?_
      exact h5 x2 o4.1 (x4 + (1 : Int32)) o4.2 hf
set_option maxHeartbeats 4000000 in
set_option maxRecDepth 100000 in
theorem a_Room_tail {p : Program} {l : Launch} {e : Env} {s : State} {m : MethodId} {args : Array Value} {below : List Frame} {meth : Method} {c : Code} {D : va_G} {ca : Nat → ClassId} {ad : Nat → Nat} {E : (Nat → Prop) → State → Heap → Prop} {S : Nat} (K : pm_ok p s m args meth c k_Room_tail 5 pmTs R_Room D vwCl (tyl ca) (shC S) ad E (some .int)) (r : Int32) (w' : pm_W) : ∀ n : Nat, (∀ (x2 : Int32) (x3 : Int32) (x4 : Int32) (w : pm_W), l_Room_tail  S n 0 x2 x3 x4 w = some (r, w') → pm_wk p l e { frames := 2, cells := 0, slots := 0, locals := 44 } s m args below meth c D vwCl (shC S) ca ad 5 (some (.int r), w') 5 [(0, .ref (ad 5)), (2, .int x2), (3, .int x3), (4, .int x4)] [] w) := by
  intro n
  induction n with
  | zero => exact fun _ _ _ _ hf => (by cases hf)
  | succ n ih => exact fun x2 x3 x4 w hf => t_Room_tail_5 K (l_Room_tail S n) r w' (ih) x2 x3 x4 w hf
set_option maxHeartbeats 4000000 in
set_option maxRecDepth 100000 in
theorem t_Room_tail {p : Program} {l : Launch} {e : Env} {s : State} {m : MethodId} {args : Array Value} {below : List Frame} {meth : Method} {c : Code} {D : va_G} {ca : Nat → ClassId} {ad : Nat → Nat} {E : (Nat → Prop) → State → Heap → Prop} {S : Nat} (K : pm_ok p s m args meth c k_Room_tail 5 pmTs R_Room D vwCl (tyl ca) (shC S) ad E (some .int)) (r : Int32) (w' : pm_W) (x1 : Int32) (x2 : Int32) (w : pm_W) (hf : f_Room_tail  S x1 x2 w = some (r, w')) : pm_wk p l e { frames := 2, cells := 0, slots := 0, locals := 44 } s m args below meth c D vwCl (shC S) ca ad 5 (some (.int r), w') 0 [(0, .ref (ad 5)), (1, .int x1), (2, .int x2)] [] w := by
  unfold f_Room_tail at hf
  have h5 := (a_Room_tail (l := l) (e := e) (below := below) K  r w' pm_fuel)
  refine pm_iload_n K d_Room_tail_0 1 rfl rfl ?_
  refine pm_istore_n (lv' := [(3, .int x1), (0, .ref (ad 5)), (1, .int x1), (2, .int x2)]) K d_Room_tail_1 rfl (by decide) rfl ?_
  refine pm_iconst (v := 0) K d_Room_tail_2 (by decide) ?_
  refine pm_istore (lv' := [(4, .int (0 : Int32)), (3, .int x1), (0, .ref (ad 5)), (1, .int x1), (2, .int x2)]) K d_Room_tail_3 (by decide) rfl ?_
  refine pm_sub (lv' := [(0, .ref (ad 5)), (2, .int x2), (3, .int x1), (4, .int (0 : Int32))]) [2, 4, 1, 0] rfl ?_
  exact h5 x2 x1 (0 : Int32) w hf
/-- CellLisp$Room.tail(II)I -/
theorem c_Room_tail {l : Launch} {D : va_G} {ca : Nat → ClassId} {ad : Nat → Nat} {E : (Nat → Prop) → State → Heap → Prop} {S : Nat} (hEc : pm_Ecl E) (r : Int32) (w' : pm_W) (x1 : Int32) (x2 : Int32) (w : pm_W) (hf : f_Room_tail  S x1 x2 w = some (r, w')) : pm_Met l pmTs D vwCl (tyl ca) (shC S) ca ad E y_Room_tail k_Room_tail 5 (some .int) { frames := 2, cells := 0, slots := 0, locals := 44 } [.ref (ad 5), .int x1, .int x2] w (some (.int r), w') :=
  pm_start pmTs_good hEc (by decide) (Nat.le_of_ble_eq_true rfl) (fun p e s m below meth c K => t_Room_tail K r w' x1 x2 w hf)
def b_Room_binding_5 (S : Nat) (rec : Nat → Int32 → Int32 → Int32 → pm_W → Option (Int32 × pm_W)) (x1 : Int32) (x3 : Int32) (x4 : Int32) (w : pm_W) : Option (Int32 × pm_W) :=
  if (w.1 5 1) ≤ x4 then
    some ((2 : Int32), w)
  else
    Option.bind (f_Value_isPair S x3 w) fun o2 =>
    if o2.1 = 0 then
      some ((2 : Int32), o2.2)
    else
      Option.bind (f_Room_first S x3 o2.2) fun o4 =>
      Option.bind (f_Room_first S o4.1 o4.2) fun o5 =>
      if o5.1 = x1 then
        Option.bind (f_Room_first S x3 o5.2) fun o8 =>
        some (o8.1, o8.2)
      else
        Option.bind (f_Room_second S x3 o5.2) fun o7 =>
        rec 0 x1 o7.1 (x4 + (1 : Int32)) o7.2
def l_Room_binding (S : Nat) : Nat → Nat → Int32 → Int32 → Int32 → pm_W → Option (Int32 × pm_W) := pm_it (fun _ _ _ _ _ => none) (fun rec k x1 x3 x4 w => b_Room_binding_5  S rec x1 x3 x4 w)
def f_Room_binding (S : Nat) (x1 : Int32) (x2 : Int32) (w : pm_W) : Option (Int32 × pm_W) :=
  (l_Room_binding  S pm_fuel) 0 x1 x2 (0 : Int32) w
set_option maxHeartbeats 4000000 in
set_option maxRecDepth 100000 in
theorem t_Room_binding_5 {p : Program} {l : Launch} {e : Env} {s : State} {m : MethodId} {args : Array Value} {below : List Frame} {meth : Method} {c : Code} {D : va_G} {ca : Nat → ClassId} {ad : Nat → Nat} {E : (Nat → Prop) → State → Heap → Prop} {S : Nat} (K : pm_ok p s m args meth c k_Room_binding 5 pmTs R_Room D vwCl (tyl ca) (shC S) ad E (some .int)) (rec : Nat → Int32 → Int32 → Int32 → pm_W → Option (Int32 × pm_W)) (r : Int32) (w' : pm_W) (h5 : ∀ (x1 : Int32) (x3 : Int32) (x4 : Int32) (w : pm_W), rec 0 x1 x3 x4 w = some (r, w') → pm_wk p l e { frames := 2, cells := 0, slots := 0, locals := 44 } s m args below meth c D vwCl (shC S) ca ad 5 (some (.int r), w') 5 [(0, .ref (ad 5)), (1, .int x1), (3, .int x3), (4, .int x4)] [] w) (x1 : Int32) (x3 : Int32) (x4 : Int32) (w : pm_W) (hf : b_Room_binding_5  S rec x1 x3 x4 w = some (r, w')) : pm_wk p l e { frames := 2, cells := 0, slots := 0, locals := 44 } s m args below meth c D vwCl (shC S) ca ad 5 (some (.int r), w') 5 [(0, .ref (ad 5)), (1, .int x1), (3, .int x3), (4, .int x4)] [] w := by
  unfold b_Room_binding_5 at hf
  refine pm_iload K d_Room_binding_5 3 rfl ?_
  refine pm_aload_n K d_Room_binding_7 0 rfl rfl ?_
  refine pm_getI K fc_5 (o := 5) rfl 1 rfl (by decide) tw_236 d_Room_binding_8 (v := w.1 5 1) rfl ?_
  refine pm_icmp_ge K d_Room_binding_11 52 (by decide) (fun c1 => ?_) (fun c1 => ?_)
  · have hf := pm_ift c1 hf
    refine pm_iconst (v := 2) K d_Room_binding_52 (by decide) ?_
    cases hf
    exact pm_iret K d_Room_binding_53
  · have hf := pm_iff c1 hf
    refine pm_iload_n K d_Room_binding_14 2 rfl rfl ?_
    obtain ⟨o2, z2, hf⟩ := pm_bind hf
    refine pm_callS (As := [.int x3]) (rest := []) K (c_Value_isPair K.2.2.2.2.2.2.2.2.2.2.2.2 o2.1 o2.2 x3 w z2) mi_Value_isPair tw_435 tw_434 rfl ⟨rfl, rfl, Nat.le_of_ble_eq_true rfl, Nat.le_of_ble_eq_true rfl⟩ rfl (Nat.le_of_ble_eq_true rfl) d_Room_binding_15 ?_
    refine pm_if_eq K d_Room_binding_18 52 (by decide) (fun c3 => ?_) (fun c3 => ?_)
    · have hf := pm_ift c3 hf
      refine pm_iconst (v := 2) K d_Room_binding_52 (by decide) ?_
      cases hf
      exact pm_iret K d_Room_binding_53
    · have hf := pm_iff c3 hf
      refine pm_aload_n K d_Room_binding_21 0 rfl rfl ?_
      refine pm_aload_n K d_Room_binding_22 0 rfl rfl ?_
      refine pm_iload_n K d_Room_binding_23 2 rfl rfl ?_
      obtain ⟨o4, z4, hf⟩ := pm_bind hf
      refine pm_callV (As := [.int x3]) (rest := [.ref (ad 5)]) (o := 5) K (c_Room_first K.2.2.2.2.2.2.2.2.2.2.2.2 o4.1 o4.2 x3 o2.2 z4) mi_Room_first rfl rfl tw_438 tw_439 tw_437 rfl ⟨rfl, rfl, Nat.le_of_ble_eq_true rfl, Nat.le_of_ble_eq_true rfl⟩ rfl (Nat.le_of_ble_eq_true rfl) d_Room_binding_24 ?_
      obtain ⟨o5, z5, hf⟩ := pm_bind hf
      refine pm_callV (As := [.int o4.1]) (rest := []) (o := 5) K (c_Room_first K.2.2.2.2.2.2.2.2.2.2.2.2 o5.1 o5.2 o4.1 o4.2 z5) mi_Room_first rfl rfl tw_438 tw_439 tw_437 rfl ⟨rfl, rfl, Nat.le_of_ble_eq_true rfl, Nat.le_of_ble_eq_true rfl⟩ rfl (Nat.le_of_ble_eq_true rfl) d_Room_binding_27 ?_
      refine pm_iload_n K d_Room_binding_30 1 rfl rfl ?_
      refine pm_icmp_ne K d_Room_binding_31 40 (by decide) (fun c6 => ?_) (fun c6 => ?_)
      · have hf := pm_iff c6 hf
        refine pm_aload_n K d_Room_binding_40 0 rfl rfl ?_
        refine pm_iload_n K d_Room_binding_41 2 rfl rfl ?_
        obtain ⟨o7, z7, hf⟩ := pm_bind hf
        refine pm_callV (As := [.int x3]) (rest := []) (o := 5) K (c_Room_second K.2.2.2.2.2.2.2.2.2.2.2.2 o7.1 o7.2 x3 o5.2 z7) mi_Room_second rfl rfl tw_442 tw_443 tw_441 rfl ⟨rfl, rfl, Nat.le_of_ble_eq_true rfl, Nat.le_of_ble_eq_true rfl⟩ rfl (Nat.le_of_ble_eq_true rfl) d_Room_binding_42 ?_
        refine pm_istore_n (lv' := [(3, .int o7.1), (0, .ref (ad 5)), (1, .int x1), (4, .int x4)]) K d_Room_binding_45 rfl (by decide) rfl ?_
        refine pm_iinc (v := x4 + (1 : Int32)) (lv' := [(4, .int (x4 + (1 : Int32))), (3, .int o7.1), (0, .ref (ad 5)), (1, .int x1)]) K d_Room_binding_46 3 rfl rfl (by decide) rfl ?_
        refine pm_goto K d_Room_binding_49 5 (by decide) ?_
        refine pm_sub (lv' := [(0, .ref (ad 5)), (1, .int x1), (3, .int o7.1), (4, .int (x4 + (1 : Int32)))]) [2, 3, 1, 0] rfl ?_
        exact h5 x1 o7.1 (x4 + (1 : Int32)) o7.2 hf
      · have hf := pm_ift c6 hf
        refine pm_aload_n K d_Room_binding_34 0 rfl rfl ?_
        refine pm_iload_n K d_Room_binding_35 2 rfl rfl ?_
        obtain ⟨o8, z8, hf⟩ := pm_bind hf
        refine pm_callV (As := [.int x3]) (rest := []) (o := 5) K (c_Room_first K.2.2.2.2.2.2.2.2.2.2.2.2 o8.1 o8.2 x3 o5.2 z8) mi_Room_first rfl rfl tw_438 tw_439 tw_437 rfl ⟨rfl, rfl, Nat.le_of_ble_eq_true rfl, Nat.le_of_ble_eq_true rfl⟩ rfl (Nat.le_of_ble_eq_true rfl) d_Room_binding_36 ?_
        cases hf
        exact pm_iret K d_Room_binding_39
set_option maxHeartbeats 4000000 in
set_option maxRecDepth 100000 in
theorem a_Room_binding {p : Program} {l : Launch} {e : Env} {s : State} {m : MethodId} {args : Array Value} {below : List Frame} {meth : Method} {c : Code} {D : va_G} {ca : Nat → ClassId} {ad : Nat → Nat} {E : (Nat → Prop) → State → Heap → Prop} {S : Nat} (K : pm_ok p s m args meth c k_Room_binding 5 pmTs R_Room D vwCl (tyl ca) (shC S) ad E (some .int)) (r : Int32) (w' : pm_W) : ∀ n : Nat, (∀ (x1 : Int32) (x3 : Int32) (x4 : Int32) (w : pm_W), l_Room_binding  S n 0 x1 x3 x4 w = some (r, w') → pm_wk p l e { frames := 2, cells := 0, slots := 0, locals := 44 } s m args below meth c D vwCl (shC S) ca ad 5 (some (.int r), w') 5 [(0, .ref (ad 5)), (1, .int x1), (3, .int x3), (4, .int x4)] [] w) := by
  intro n
  induction n with
  | zero => exact fun _ _ _ _ hf => (by cases hf)
  | succ n ih => exact fun x1 x3 x4 w hf => t_Room_binding_5 K (l_Room_binding S n) r w' (ih) x1 x3 x4 w hf
set_option maxHeartbeats 4000000 in
set_option maxRecDepth 100000 in
theorem t_Room_binding {p : Program} {l : Launch} {e : Env} {s : State} {m : MethodId} {args : Array Value} {below : List Frame} {meth : Method} {c : Code} {D : va_G} {ca : Nat → ClassId} {ad : Nat → Nat} {E : (Nat → Prop) → State → Heap → Prop} {S : Nat} (K : pm_ok p s m args meth c k_Room_binding 5 pmTs R_Room D vwCl (tyl ca) (shC S) ad E (some .int)) (r : Int32) (w' : pm_W) (x1 : Int32) (x2 : Int32) (w : pm_W) (hf : f_Room_binding  S x1 x2 w = some (r, w')) : pm_wk p l e { frames := 2, cells := 0, slots := 0, locals := 44 } s m args below meth c D vwCl (shC S) ca ad 5 (some (.int r), w') 0 [(0, .ref (ad 5)), (1, .int x1), (2, .int x2)] [] w := by
  unfold f_Room_binding at hf
  have h5 := (a_Room_binding (l := l) (e := e) (below := below) K  r w' pm_fuel)
  refine pm_iload_n K d_Room_binding_0 2 rfl rfl ?_
  refine pm_istore_n (lv' := [(3, .int x2), (0, .ref (ad 5)), (1, .int x1), (2, .int x2)]) K d_Room_binding_1 rfl (by decide) rfl ?_
  refine pm_iconst (v := 0) K d_Room_binding_2 (by decide) ?_
  refine pm_istore (lv' := [(4, .int (0 : Int32)), (3, .int x2), (0, .ref (ad 5)), (1, .int x1), (2, .int x2)]) K d_Room_binding_3 (by decide) rfl ?_
  refine pm_sub (lv' := [(0, .ref (ad 5)), (1, .int x1), (3, .int x2), (4, .int (0 : Int32))]) [2, 3, 1, 0] rfl ?_
  exact h5 x1 x2 (0 : Int32) w hf
/-- CellLisp$Room.binding(II)I -/
theorem c_Room_binding {l : Launch} {D : va_G} {ca : Nat → ClassId} {ad : Nat → Nat} {E : (Nat → Prop) → State → Heap → Prop} {S : Nat} (hEc : pm_Ecl E) (r : Int32) (w' : pm_W) (x1 : Int32) (x2 : Int32) (w : pm_W) (hf : f_Room_binding  S x1 x2 w = some (r, w')) : pm_Met l pmTs D vwCl (tyl ca) (shC S) ca ad E y_Room_binding k_Room_binding 5 (some .int) { frames := 2, cells := 0, slots := 0, locals := 44 } [.ref (ad 5), .int x1, .int x2] w (some (.int r), w') :=
  pm_start pmTs_good hEc (by decide) (Nat.le_of_ble_eq_true rfl) (fun p e s m below meth c K => t_Room_binding K r w' x1 x2 w hf)
def f_Reader_isFault (S : Nat) (x0 : Int32) (x1 : Int32) (x2 : Int32) (w : pm_W) : Option (Int32 × pm_W) :=
  if x0 = (39 : Int32) then
    if x2 &&& 1 = x2 then
      some (x2, w)
    else none
  else
    if x0 = (40 : Int32) then
      if x1 < (10 : Int32) then
        some ((0 : Int32), w)
      else
        some ((1 : Int32), w)
    else
      if x0 = (41 : Int32) then
        if x2 = 0 then
          if x1 = 0 then
            some ((1 : Int32), w)
          else
            some ((0 : Int32), w)
        else
          some ((1 : Int32), w)
      else
        some ((0 : Int32), w)
set_option maxHeartbeats 4000000 in
set_option maxRecDepth 100000 in
theorem t_Reader_isFault {p : Program} {l : Launch} {e : Env} {s : State} {m : MethodId} {args : Array Value} {below : List Frame} {meth : Method} {c : Code} {D : va_G} {ca : Nat → ClassId} {ad : Nat → Nat} {E : (Nat → Prop) → State → Heap → Prop} {S : Nat} (K : pm_ok p s m args meth c k_Reader_isFault 3 pmTs R_Reader D vwCl (tyl ca) (shC S) ad E (some .boolean)) (r : Int32) (w' : pm_W) (x0 : Int32) (x1 : Int32) (x2 : Int32) (w : pm_W) (hf : f_Reader_isFault  S x0 x1 x2 w = some (r, w')) : pm_wk p l e { frames := 0, cells := 0, slots := 0, locals := 0 } s m args below meth c D vwCl (shC S) ca ad 3 (some (.int r), w') 0 [(0, .int x0), (1, .int x1), (2, .int x2)] [] w := by
  unfold f_Reader_isFault at hf
  refine pm_iload_n K d_Reader_isFault_0 0 rfl rfl ?_
  by_cases c1 : x0 = (39 : Int32)
  · have hf := pm_ift c1 hf
    refine pm_tableIn K d_Reader_isFault_1 (by rw [c1]; decide) (by rw [c1]; decide) (by rw [c1]; rfl) 54 (by decide) ?_
    refine pm_iload_n K d_Reader_isFault_54 2 rfl rfl ?_
    obtain ⟨q2, hf⟩ := pm_chk hf
    cases hf
    exact pm_zret K (congrArg Value.int q2) d_Reader_isFault_55
  have hf := pm_iff c1 hf
  by_cases c3 : x0 = (40 : Int32)
  · have hf := pm_ift c3 hf
    refine pm_tableIn K d_Reader_isFault_1 (by rw [c3]; decide) (by rw [c3]; decide) (by rw [c3]; rfl) 28 (by decide) ?_
    refine pm_iload_n K d_Reader_isFault_28 1 rfl rfl ?_
    refine pm_bipush (v := 10) K d_Reader_isFault_29 (by decide) ?_
    refine pm_icmp_lt K d_Reader_isFault_31 38 (by decide) (fun c4 => ?_) (fun c4 => ?_)
    · have hf := pm_ift c4 hf
      refine pm_iconst (v := 0) K d_Reader_isFault_38 (by decide) ?_
      cases hf
      exact pm_zret K (by decide) d_Reader_isFault_39
    · have hf := pm_iff c4 hf
      refine pm_iconst (v := 1) K d_Reader_isFault_34 (by decide) ?_
      refine pm_goto K d_Reader_isFault_35 39 (by decide) ?_
      cases hf
      exact pm_zret K (by decide) d_Reader_isFault_39
  have hf := pm_iff c3 hf
  by_cases c5 : x0 = (41 : Int32)
  · have hf := pm_ift c5 hf
    refine pm_tableIn K d_Reader_isFault_1 (by rw [c5]; decide) (by rw [c5]; decide) (by rw [c5]; rfl) 40 (by decide) ?_
    refine pm_iload_n K d_Reader_isFault_40 2 rfl rfl ?_
    refine pm_if_ne K d_Reader_isFault_41 48 (by decide) (fun c6 => ?_) (fun c6 => ?_)
    · have hf := pm_iff c6 hf
      refine pm_iconst (v := 1) K d_Reader_isFault_48 (by decide) ?_
      refine pm_goto K d_Reader_isFault_49 53 (by decide) ?_
      cases hf
      exact pm_zret K (by decide) d_Reader_isFault_53
    · have hf := pm_ift c6 hf
      refine pm_iload_n K d_Reader_isFault_44 1 rfl rfl ?_
      refine pm_if_ne K d_Reader_isFault_45 52 (by decide) (fun c7 => ?_) (fun c7 => ?_)
      · have hf := pm_iff c7 hf
        refine pm_iconst (v := 0) K d_Reader_isFault_52 (by decide) ?_
        cases hf
        exact pm_zret K (by decide) d_Reader_isFault_53
      · have hf := pm_ift c7 hf
        refine pm_iconst (v := 1) K d_Reader_isFault_48 (by decide) ?_
        refine pm_goto K d_Reader_isFault_49 53 (by decide) ?_
        cases hf
        exact pm_zret K (by decide) d_Reader_isFault_53
  have hf := pm_iff c5 hf
  have hne : ¬ x0.toInt = 39 ∧ ¬ x0.toInt = 40 ∧ ¬ x0.toInt = 41 := ⟨lv_neT c1 (by decide), lv_neT c3 (by decide), lv_neT c5 (by decide)⟩
  refine pm_tableOut K d_Reader_isFault_1 (by omega) 56 (by decide) ?_
  refine pm_iconst (v := 0) K d_Reader_isFault_56 (by decide) ?_
  cases hf
  exact pm_zret K (by decide) d_Reader_isFault_57
/-- CellLisp$Reader.isFault(CIZ)Z -/
theorem c_Reader_isFault {l : Launch} {D : va_G} {ca : Nat → ClassId} {ad : Nat → Nat} {E : (Nat → Prop) → State → Heap → Prop} {S : Nat} (hEc : pm_Ecl E) (r : Int32) (w' : pm_W) (x0 : Int32) (x1 : Int32) (x2 : Int32) (w : pm_W) (hf : f_Reader_isFault  S x0 x1 x2 w = some (r, w')) : pm_Met l pmTs D vwCl (tyl ca) (shC S) ca ad E y_Reader_isFault k_Reader_isFault 3 (some .boolean) { frames := 0, cells := 0, slots := 0, locals := 0 } [.int x0, .int x1, .int x2] w (some (.int r), w') :=
  pm_start pmTs_good hEc (by decide) (Nat.le_of_ble_eq_true rfl) (fun p e s m below meth c K => t_Reader_isFault K r w' x0 x1 x2 w hf)
def f_Reader_cellsOfPiece (S : Nat) (x0 : Int32) (x1 : Int32) (x2 : Int32) (w : pm_W) : Option (Int32 × pm_W) :=
  if x0 = (39 : Int32) then
    if x1 ≤ 0 then
      some ((2 : Int32) * (2 : Int32), w)
    else
      if x2 = 0 then
        if x0 = (41 : Int32) then
          some ((2 : Int32) * (2 : Int32), w)
        else
          some (((2 : Int32) + (1 : Int32)) * (2 : Int32), w)
      else
        some ((2 : Int32) * (2 : Int32), w)
  else
    if x1 ≤ 0 then
      some ((0 : Int32) * (2 : Int32), w)
    else
      if x2 = 0 then
        if x0 = (41 : Int32) then
          some ((0 : Int32) * (2 : Int32), w)
        else
          some (((0 : Int32) + (1 : Int32)) * (2 : Int32), w)
      else
        some ((0 : Int32) * (2 : Int32), w)
set_option maxHeartbeats 4000000 in
set_option maxRecDepth 100000 in
theorem t_Reader_cellsOfPiece {p : Program} {l : Launch} {e : Env} {s : State} {m : MethodId} {args : Array Value} {below : List Frame} {meth : Method} {c : Code} {D : va_G} {ca : Nat → ClassId} {ad : Nat → Nat} {E : (Nat → Prop) → State → Heap → Prop} {S : Nat} (K : pm_ok p s m args meth c k_Reader_cellsOfPiece 4 pmTs R_Reader D vwCl (tyl ca) (shC S) ad E (some .int)) (r : Int32) (w' : pm_W) (x0 : Int32) (x1 : Int32) (x2 : Int32) (w : pm_W) (hf : f_Reader_cellsOfPiece  S x0 x1 x2 w = some (r, w')) : pm_wk p l e { frames := 0, cells := 0, slots := 0, locals := 0 } s m args below meth c D vwCl (shC S) ca ad 4 (some (.int r), w') 0 [(0, .int x0), (1, .int x1), (2, .int x2)] [] w := by
  unfold f_Reader_cellsOfPiece at hf
  refine pm_iload_n K d_Reader_cellsOfPiece_0 0 rfl rfl ?_
  refine pm_bipush (v := 39) K d_Reader_cellsOfPiece_1 (by decide) ?_
  refine pm_icmp_ne K d_Reader_cellsOfPiece_3 10 (by decide) (fun c1 => ?_) (fun c1 => ?_)
  · have hf := pm_iff c1 hf
    refine pm_iconst (v := 0) K d_Reader_cellsOfPiece_10 (by decide) ?_
    refine pm_istore_n (lv' := [(3, .int (0 : Int32)), (0, .int x0), (1, .int x1), (2, .int x2)]) K d_Reader_cellsOfPiece_11 rfl (by decide) rfl ?_
    refine pm_iload_n K d_Reader_cellsOfPiece_12 2 rfl rfl ?_
    refine pm_if_le K d_Reader_cellsOfPiece_13 29 (by decide) (fun c2 => ?_) (fun c2 => ?_)
    · have hf := pm_ift c2 hf
      refine pm_iload_n K d_Reader_cellsOfPiece_29 0 rfl rfl ?_
      refine pm_iconst (v := 2) K d_Reader_cellsOfPiece_30 (by decide) ?_
      refine pm_imul K d_Reader_cellsOfPiece_31 ?_
      cases hf
      exact pm_iret K d_Reader_cellsOfPiece_32
    · have hf := pm_iff c2 hf
      refine pm_iload_n K d_Reader_cellsOfPiece_16 3 rfl rfl ?_
      refine pm_if_ne K d_Reader_cellsOfPiece_17 29 (by decide) (fun c3 => ?_) (fun c3 => ?_)
      · have hf := pm_iff c3 hf
        refine pm_iload_n K d_Reader_cellsOfPiece_29 0 rfl rfl ?_
        refine pm_iconst (v := 2) K d_Reader_cellsOfPiece_30 (by decide) ?_
        refine pm_imul K d_Reader_cellsOfPiece_31 ?_
        cases hf
        exact pm_iret K d_Reader_cellsOfPiece_32
      · have hf := pm_ift c3 hf
        refine pm_iload_n K d_Reader_cellsOfPiece_20 1 rfl rfl ?_
        refine pm_bipush (v := 41) K d_Reader_cellsOfPiece_21 (by decide) ?_
        refine pm_icmp_eq K d_Reader_cellsOfPiece_23 29 (by decide) (fun c4 => ?_) (fun c4 => ?_)
        · have hf := pm_ift c4 hf
          refine pm_iload_n K d_Reader_cellsOfPiece_29 0 rfl rfl ?_
          refine pm_iconst (v := 2) K d_Reader_cellsOfPiece_30 (by decide) ?_
          refine pm_imul K d_Reader_cellsOfPiece_31 ?_
          cases hf
          exact pm_iret K d_Reader_cellsOfPiece_32
        · have hf := pm_iff c4 hf
          refine pm_iinc (v := (0 : Int32) + (1 : Int32)) (lv' := [(3, .int ((0 : Int32) + (1 : Int32))), (0, .int x0), (1, .int x1), (2, .int x2)]) K d_Reader_cellsOfPiece_26 0 rfl rfl (by decide) rfl ?_
          refine pm_iload_n K d_Reader_cellsOfPiece_29 0 rfl rfl ?_
          refine pm_iconst (v := 2) K d_Reader_cellsOfPiece_30 (by decide) ?_
          refine pm_imul K d_Reader_cellsOfPiece_31 ?_
          cases hf
          exact pm_iret K d_Reader_cellsOfPiece_32
  · have hf := pm_ift c1 hf
    refine pm_iconst (v := 2) K d_Reader_cellsOfPiece_6 (by decide) ?_
    refine pm_goto K d_Reader_cellsOfPiece_7 11 (by decide) ?_
    refine pm_istore_n (lv' := [(3, .int (2 : Int32)), (0, .int x0), (1, .int x1), (2, .int x2)]) K d_Reader_cellsOfPiece_11 rfl (by decide) rfl ?_
    refine pm_iload_n K d_Reader_cellsOfPiece_12 2 rfl rfl ?_
    refine pm_if_le K d_Reader_cellsOfPiece_13 29 (by decide) (fun c5 => ?_) (fun c5 => ?_)
    · have hf := pm_ift c5 hf
      refine pm_iload_n K d_Reader_cellsOfPiece_29 0 rfl rfl ?_
      refine pm_iconst (v := 2) K d_Reader_cellsOfPiece_30 (by decide) ?_
      refine pm_imul K d_Reader_cellsOfPiece_31 ?_
      cases hf
      exact pm_iret K d_Reader_cellsOfPiece_32
    · have hf := pm_iff c5 hf
      refine pm_iload_n K d_Reader_cellsOfPiece_16 3 rfl rfl ?_
      refine pm_if_ne K d_Reader_cellsOfPiece_17 29 (by decide) (fun c6 => ?_) (fun c6 => ?_)
      · have hf := pm_iff c6 hf
        refine pm_iload_n K d_Reader_cellsOfPiece_29 0 rfl rfl ?_
        refine pm_iconst (v := 2) K d_Reader_cellsOfPiece_30 (by decide) ?_
        refine pm_imul K d_Reader_cellsOfPiece_31 ?_
        cases hf
        exact pm_iret K d_Reader_cellsOfPiece_32
      · have hf := pm_ift c6 hf
        refine pm_iload_n K d_Reader_cellsOfPiece_20 1 rfl rfl ?_
        refine pm_bipush (v := 41) K d_Reader_cellsOfPiece_21 (by decide) ?_
        refine pm_icmp_eq K d_Reader_cellsOfPiece_23 29 (by decide) (fun c7 => ?_) (fun c7 => ?_)
        · have hf := pm_ift c7 hf
          refine pm_iload_n K d_Reader_cellsOfPiece_29 0 rfl rfl ?_
          refine pm_iconst (v := 2) K d_Reader_cellsOfPiece_30 (by decide) ?_
          refine pm_imul K d_Reader_cellsOfPiece_31 ?_
          cases hf
          exact pm_iret K d_Reader_cellsOfPiece_32
        · have hf := pm_iff c7 hf
          refine pm_iinc (v := (2 : Int32) + (1 : Int32)) (lv' := [(3, .int ((2 : Int32) + (1 : Int32))), (0, .int x0), (1, .int x1), (2, .int x2)]) K d_Reader_cellsOfPiece_26 0 rfl rfl (by decide) rfl ?_
          refine pm_iload_n K d_Reader_cellsOfPiece_29 0 rfl rfl ?_
          refine pm_iconst (v := 2) K d_Reader_cellsOfPiece_30 (by decide) ?_
          refine pm_imul K d_Reader_cellsOfPiece_31 ?_
          cases hf
          exact pm_iret K d_Reader_cellsOfPiece_32
/-- CellLisp$Reader.cellsOfPiece(CIZ)I -/
theorem c_Reader_cellsOfPiece {l : Launch} {D : va_G} {ca : Nat → ClassId} {ad : Nat → Nat} {E : (Nat → Prop) → State → Heap → Prop} {S : Nat} (hEc : pm_Ecl E) (r : Int32) (w' : pm_W) (x0 : Int32) (x1 : Int32) (x2 : Int32) (w : pm_W) (hf : f_Reader_cellsOfPiece  S x0 x1 x2 w = some (r, w')) : pm_Met l pmTs D vwCl (tyl ca) (shC S) ca ad E y_Reader_cellsOfPiece k_Reader_cellsOfPiece 4 (some .int) { frames := 0, cells := 0, slots := 0, locals := 0 } [.int x0, .int x1, .int x2] w (some (.int r), w') :=
  pm_start pmTs_good hEc (by decide) (Nat.le_of_ble_eq_true rfl) (fun p e s m below meth c K => t_Reader_cellsOfPiece K r w' x0 x1 x2 w hf)
def b_Reader_findForm_157 (S : Nat) (rec : Nat → Int32 → Int32 → Int32 → Int32 → pm_W → Option (Int32 × pm_W)) (x1 : Int32) (x2 : Int32) (x3 : Int32) (x4 : Int32) (w : pm_W) : Option (Int32 × pm_W) :=
  if x1 = 0 then
    if x2 = 0 then
      some ((0 : Int32), w)
    else
      rec 0 x1 x2 x3 (x4 + (1 : Int32)) w
  else
    rec 0 x1 x2 x3 (x4 + (1 : Int32)) w
def b_Reader_findForm_14 (S : Nat) (rec : Nat → Int32 → Int32 → Int32 → Int32 → pm_W → Option (Int32 × pm_W)) (x1 : Int32) (x2 : Int32) (x3 : Int32) (x4 : Int32) (w : pm_W) : Option (Int32 × pm_W) :=
  if (120 : Int32) ≤ x4 then
    some ((2 : Int32), w)
  else
    if (w.1 1 1) ≤ x3 then
      some ((2 : Int32), w)
    else
      Option.bind (f_Text_at S x3 w) fun o3 =>
      Option.bind (f_Text_pieceEnd S x3 o3.2) fun o4 =>
      Option.bind (f_Text_isBlank S o3.1 (pm_setI o4.2 7 3 o4.1)) fun o5 =>
      if o5.1 = 0 then
        Option.bind (f_Reader_isFault S o3.1 x1 x2 o5.2) fun o7 =>
        if o7.1 = 0 then
          Option.bind (f_Reader_cellsOfPiece S o3.1 x1 x2 o7.2) fun o9 =>
          if o3.1 = (39 : Int32) then
            if o3.1 = (40 : Int32) then
              b_Reader_findForm_157  S rec (x1 + (1 : Int32)) (1 : Int32) o4.1 x4 (pm_setI o9.2 7 4 ((o7.2.1 7 4) + o9.1))
            else
              if o3.1 = (41 : Int32) then
                b_Reader_findForm_157  S rec (x1 + (-1 : Int32)) (1 : Int32) o4.1 x4 (pm_setI o9.2 7 4 ((o7.2.1 7 4) + o9.1))
              else
                if (1 : Int32) = 0 then
                  if (o9.2.1 7 3) < (o9.2.1 1 1) then
                    b_Reader_findForm_157  S rec x1 (1 : Int32) o4.1 x4 (pm_setI o9.2 7 4 ((o7.2.1 7 4) + o9.1))
                  else
                    some ((2 : Int32), pm_setI o9.2 7 4 ((o7.2.1 7 4) + o9.1))
                else
                  b_Reader_findForm_157  S rec x1 (1 : Int32) o4.1 x4 (pm_setI o9.2 7 4 ((o7.2.1 7 4) + o9.1))
          else
            if o3.1 = (40 : Int32) then
              b_Reader_findForm_157  S rec (x1 + (1 : Int32)) (0 : Int32) o4.1 x4 (pm_setI o9.2 7 4 ((o7.2.1 7 4) + o9.1))
            else
              if o3.1 = (41 : Int32) then
                b_Reader_findForm_157  S rec (x1 + (-1 : Int32)) (0 : Int32) o4.1 x4 (pm_setI o9.2 7 4 ((o7.2.1 7 4) + o9.1))
              else
                if (0 : Int32) = 0 then
                  if (o9.2.1 7 3) < (o9.2.1 1 1) then
                    b_Reader_findForm_157  S rec x1 (0 : Int32) o4.1 x4 (pm_setI o9.2 7 4 ((o7.2.1 7 4) + o9.1))
                  else
                    some ((2 : Int32), pm_setI o9.2 7 4 ((o7.2.1 7 4) + o9.1))
                else
                  b_Reader_findForm_157  S rec x1 (0 : Int32) o4.1 x4 (pm_setI o9.2 7 4 ((o7.2.1 7 4) + o9.1))
        else
          some ((-1 : Int32), o7.2)
      else
        rec 0 x1 x2 o4.1 (x4 + (1 : Int32)) o5.2
def l_Reader_findForm (S : Nat) : Nat → Nat → Int32 → Int32 → Int32 → Int32 → pm_W → Option (Int32 × pm_W) := pm_it (fun _ _ _ _ _ _ => none) (fun rec k x1 x2 x3 x4 w => b_Reader_findForm_14  S rec x1 x2 x3 x4 w)
def f_Reader_findForm (S : Nat) (w : pm_W) : Option (Int32 × pm_W) :=
  (l_Reader_findForm  S pm_fuel) 0 (0 : Int32) (0 : Int32) (0 : Int32) (0 : Int32) (pm_setI w 7 4 (0 : Int32))
set_option maxHeartbeats 4000000 in
set_option maxRecDepth 100000 in
theorem t_Reader_findForm_157 {p : Program} {l : Launch} {e : Env} {s : State} {m : MethodId} {args : Array Value} {below : List Frame} {meth : Method} {c : Code} {D : va_G} {ca : Nat → ClassId} {ad : Nat → Nat} {E : (Nat → Prop) → State → Heap → Prop} {S : Nat} (K : pm_ok p s m args meth c k_Reader_findForm 6 pmTs R_Reader D vwCl (tyl ca) (shC S) ad E (some .int)) (rec : Nat → Int32 → Int32 → Int32 → Int32 → pm_W → Option (Int32 × pm_W)) (r : Int32) (w' : pm_W) (h14 : ∀ (x1 : Int32) (x2 : Int32) (x3 : Int32) (x4 : Int32) (w : pm_W), rec 0 x1 x2 x3 x4 w = some (r, w') → pm_wk p l e { frames := 3, cells := 0, slots := 0, locals := 62 } s m args below meth c D vwCl (shC S) ca ad 6 (some (.int r), w') 14 [(0, .ref (ad 7)), (1, .int x1), (2, .int x2), (3, .int x3), (4, .int x4)] [] w) (x1 : Int32) (x2 : Int32) (x3 : Int32) (x4 : Int32) (w : pm_W) (hf : b_Reader_findForm_157  S rec x1 x2 x3 x4 w = some (r, w')) : pm_wk p l e { frames := 3, cells := 0, slots := 0, locals := 62 } s m args below meth c D vwCl (shC S) ca ad 6 (some (.int r), w') 157 [(0, .ref (ad 7)), (1, .int x1), (2, .int x2), (3, .int x3), (4, .int x4)] [] w := by
  unfold b_Reader_findForm_157 at hf
  refine pm_iload_n K d_Reader_findForm_157 1 rfl rfl ?_
  refine pm_if_ne K d_Reader_findForm_158 167 (by decide) (fun c19 => ?_) (fun c19 => ?_)
  · have hf := pm_iff c19 hf
    refine pm_iinc (v := x4 + (1 : Int32)) (lv' := [(4, .int (x4 + (1 : Int32))), (0, .ref (ad 7)), (1, .int x1), (2, .int x2), (3, .int x3)]) K d_Reader_findForm_167 4 rfl rfl (by decide) rfl ?_
    refine pm_goto K d_Reader_findForm_170 14 (by decide) ?_
    refine pm_sub (lv' := [(0, .ref (ad 7)), (1, .int x1), (2, .int x2), (3, .int x3), (4, .int (x4 + (1 : Int32)))]) [1, 2, 3, 4, 0] rfl ?_
    exact h14 x1 x2 x3 (x4 + (1 : Int32)) w hf
  · have hf := pm_ift c19 hf
    refine pm_iload_n K d_Reader_findForm_161 2 rfl rfl ?_
    refine pm_if_ne K d_Reader_findForm_162 167 (by decide) (fun c20 => ?_) (fun c20 => ?_)
    · have hf := pm_iff c20 hf
      refine pm_iinc (v := x4 + (1 : Int32)) (lv' := [(4, .int (x4 + (1 : Int32))), (0, .ref (ad 7)), (1, .int x1), (2, .int x2), (3, .int x3)]) K d_Reader_findForm_167 4 rfl rfl (by decide) rfl ?_
      refine pm_goto K d_Reader_findForm_170 14 (by decide) ?_
      refine pm_sub (lv' := [(0, .ref (ad 7)), (1, .int x1), (2, .int x2), (3, .int x3), (4, .int (x4 + (1 : Int32)))]) [1, 2, 3, 4, 0] rfl ?_
      exact h14 x1 x2 x3 (x4 + (1 : Int32)) w hf
    · have hf := pm_ift c20 hf
      refine pm_iconst (v := 0) K d_Reader_findForm_165 (by decide) ?_
      cases hf
      exact pm_iret K d_Reader_findForm_166
set_option maxHeartbeats 4000000 in
set_option maxRecDepth 100000 in
theorem t_Reader_findForm_14 {p : Program} {l : Launch} {e : Env} {s : State} {m : MethodId} {args : Array Value} {below : List Frame} {meth : Method} {c : Code} {D : va_G} {ca : Nat → ClassId} {ad : Nat → Nat} {E : (Nat → Prop) → State → Heap → Prop} {S : Nat} (K : pm_ok p s m args meth c k_Reader_findForm 6 pmTs R_Reader D vwCl (tyl ca) (shC S) ad E (some .int)) (rec : Nat → Int32 → Int32 → Int32 → Int32 → pm_W → Option (Int32 × pm_W)) (r : Int32) (w' : pm_W) (h14 : ∀ (x1 : Int32) (x2 : Int32) (x3 : Int32) (x4 : Int32) (w : pm_W), rec 0 x1 x2 x3 x4 w = some (r, w') → pm_wk p l e { frames := 3, cells := 0, slots := 0, locals := 62 } s m args below meth c D vwCl (shC S) ca ad 6 (some (.int r), w') 14 [(0, .ref (ad 7)), (1, .int x1), (2, .int x2), (3, .int x3), (4, .int x4)] [] w) (x1 : Int32) (x2 : Int32) (x3 : Int32) (x4 : Int32) (w : pm_W) (hf : b_Reader_findForm_14  S rec x1 x2 x3 x4 w = some (r, w')) : pm_wk p l e { frames := 3, cells := 0, slots := 0, locals := 62 } s m args below meth c D vwCl (shC S) ca ad 6 (some (.int r), w') 14 [(0, .ref (ad 7)), (1, .int x1), (2, .int x2), (3, .int x3), (4, .int x4)] [] w := by
  unfold b_Reader_findForm_14 at hf
  refine pm_iload K d_Reader_findForm_14 4 rfl ?_
  refine pm_bipush (v := 120) K d_Reader_findForm_16 (by decide) ?_
  refine pm_icmp_ge K d_Reader_findForm_18 173 (by decide) (fun c1 => ?_) (fun c1 => ?_)
  · have hf := pm_ift c1 hf
    refine pm_iconst (v := 2) K d_Reader_findForm_173 (by decide) ?_
    cases hf
    exact pm_iret K d_Reader_findForm_174
  · have hf := pm_iff c1 hf
    refine pm_iload_n K d_Reader_findForm_21 3 rfl rfl ?_
    refine pm_aload_n K d_Reader_findForm_22 0 rfl rfl ?_
    refine pm_getR K fc_7 (o := 7) rfl 0 rfl (by decide) tw_257 d_Reader_findForm_23 ?_
    refine pm_getIN K fc_1 (o := 1) rfl 1 rfl (by decide) tw_121 d_Reader_findForm_26 (v := w.1 1 1) rfl ?_
    refine pm_icmp_ge K d_Reader_findForm_29 173 (by decide) (fun c2 => ?_) (fun c2 => ?_)
    · have hf := pm_ift c2 hf
      refine pm_iconst (v := 2) K d_Reader_findForm_173 (by decide) ?_
      cases hf
      exact pm_iret K d_Reader_findForm_174
    · have hf := pm_iff c2 hf
      refine pm_aload_n K d_Reader_findForm_32 0 rfl rfl ?_
      refine pm_getR K fc_7 (o := 7) rfl 0 rfl (by decide) tw_257 d_Reader_findForm_33 ?_
      refine pm_iload_n K d_Reader_findForm_36 3 rfl rfl ?_
      obtain ⟨o3, z3, hf⟩ := pm_bind hf
      refine pm_callV (As := [.int x3]) (rest := []) (o := 1) K (c_Text_at K.2.2.2.2.2.2.2.2.2.2.2.2 o3.1 o3.2 x3 w z3) mi_Text_at rfl rfl tw_324 tw_325 tw_323 rfl ⟨rfl, rfl, Nat.le_of_ble_eq_true rfl, Nat.le_of_ble_eq_true rfl⟩ rfl (Nat.le_of_ble_eq_true rfl) d_Reader_findForm_37 ?_
      refine pm_istore (lv' := [(5, .int o3.1), (0, .ref (ad 7)), (1, .int x1), (2, .int x2), (3, .int x3), (4, .int x4)]) K d_Reader_findForm_40 (by decide) rfl ?_
      refine pm_aload_n K d_Reader_findForm_42 1 rfl rfl ?_
      refine pm_aload_n K d_Reader_findForm_43 1 rfl rfl ?_
      refine pm_getR K fc_7 (o := 7) rfl 0 rfl (by decide) tw_257 d_Reader_findForm_44 ?_
      refine pm_iload_n K d_Reader_findForm_47 4 rfl rfl ?_
      obtain ⟨o4, z4, hf⟩ := pm_bind hf
      refine pm_callV (As := [.int x3]) (rest := [.ref (ad 7)]) (o := 1) K (c_Text_pieceEnd K.2.2.2.2.2.2.2.2.2.2.2.2 o4.1 o4.2 x3 o3.2 z4) mi_Text_pieceEnd rfl rfl tw_328 tw_329 tw_327 rfl ⟨rfl, rfl, Nat.le_of_ble_eq_true rfl, Nat.le_of_ble_eq_true rfl⟩ rfl (Nat.le_of_ble_eq_true rfl) d_Reader_findForm_48 ?_
      refine pm_putI K fc_7 (o := 7) (ty := .int) rfl 3 rfl (by decide) tw_260 rfl rfl rfl rfl d_Reader_findForm_51 ?_
      refine pm_aload_n K d_Reader_findForm_54 1 rfl rfl ?_
      refine pm_getI K fc_7 (o := 7) rfl 3 rfl (by decide) tw_260 d_Reader_findForm_55 (v := o4.1) rfl ?_
      refine pm_istore_n (lv' := [(3, .int o4.1), (5, .int o3.1), (0, .ref (ad 7)), (1, .int x1), (2, .int x2), (4, .int x4)]) K d_Reader_findForm_58 rfl (by decide) rfl ?_
      refine pm_iload K d_Reader_findForm_59 1 rfl ?_
      obtain ⟨o5, z5, hf⟩ := pm_bind hf
      refine pm_callS (As := [.int o3.1]) (rest := []) K (c_Text_isBlank K.2.2.2.2.2.2.2.2.2.2.2.2 o5.1 o5.2 o3.1 (pm_setI o4.2 7 3 o4.1) z5) mi_Text_isBlank tw_336 tw_338 rfl ⟨rfl, rfl, Nat.le_of_ble_eq_true rfl, Nat.le_of_ble_eq_true rfl⟩ rfl (Nat.le_of_ble_eq_true rfl) d_Reader_findForm_61 ?_
      refine pm_if_eq K d_Reader_findForm_64 70 (by decide) (fun c6 => ?_) (fun c6 => ?_)
      · have hf := pm_ift c6 hf
        refine pm_iload K d_Reader_findForm_70 1 rfl ?_
        refine pm_iload_n K d_Reader_findForm_72 3 rfl rfl ?_
        refine pm_iload_n K d_Reader_findForm_73 4 rfl rfl ?_
        obtain ⟨o7, z7, hf⟩ := pm_bind hf
        refine pm_callS (As := [.int o3.1, .int x1, .int x2]) (rest := []) K (c_Reader_isFault K.2.2.2.2.2.2.2.2.2.2.2.2 o7.1 o7.2 o3.1 x1 x2 o5.2 z7) mi_Reader_isFault tw_340 tw_339 rfl ⟨rfl, rfl, Nat.le_of_ble_eq_true rfl, Nat.le_of_ble_eq_true rfl⟩ rfl (Nat.le_of_ble_eq_true rfl) d_Reader_findForm_74 ?_
        refine pm_if_eq K d_Reader_findForm_77 82 (by decide) (fun c8 => ?_) (fun c8 => ?_)
        · have hf := pm_ift c8 hf
          refine pm_aload_n K d_Reader_findForm_82 2 rfl rfl ?_
          refine pm_dup K d_Reader_findForm_83 rfl ?_
          refine pm_getI K fc_7 (o := 7) rfl 4 rfl (by decide) tw_261 d_Reader_findForm_84 (v := o7.2.1 7 4) rfl ?_
          refine pm_iload K d_Reader_findForm_87 1 rfl ?_
          refine pm_iload_n K d_Reader_findForm_89 3 rfl rfl ?_
          refine pm_iload_n K d_Reader_findForm_90 4 rfl rfl ?_
          obtain ⟨o9, z9, hf⟩ := pm_bind hf
          refine pm_callS (As := [.int o3.1, .int x1, .int x2]) (rest := [.int (o7.2.1 7 4), .ref (ad 7)]) K (c_Reader_cellsOfPiece K.2.2.2.2.2.2.2.2.2.2.2.2 o9.1 o9.2 o3.1 x1 x2 o7.2 z9) mi_Reader_cellsOfPiece tw_343 tw_342 rfl ⟨rfl, rfl, Nat.le_of_ble_eq_true rfl, Nat.le_of_ble_eq_true rfl⟩ rfl (Nat.le_of_ble_eq_true rfl) d_Reader_findForm_91 ?_
          refine pm_iadd K d_Reader_findForm_94 ?_
          refine pm_putI K fc_7 (o := 7) (ty := .int) rfl 4 rfl (by decide) tw_261 rfl rfl rfl rfl d_Reader_findForm_95 ?_
          refine pm_iload K d_Reader_findForm_98 1 rfl ?_
          refine pm_bipush (v := 39) K d_Reader_findForm_100 (by decide) ?_
          refine pm_icmp_ne K d_Reader_findForm_102 109 (by decide) (fun c10 => ?_) (fun c10 => ?_)
          · have hf := pm_iff c10 hf
            refine pm_iconst (v := 0) K d_Reader_findForm_109 (by decide) ?_
            refine pm_istore_n (lv' := [(2, .int (0 : Int32)), (3, .int o4.1), (5, .int o3.1), (0, .ref (ad 7)), (1, .int x1), (4, .int x4)]) K d_Reader_findForm_110 rfl (by decide) rfl ?_
            refine pm_iload K d_Reader_findForm_111 2 rfl ?_
            refine pm_bipush (v := 40) K d_Reader_findForm_113 (by decide) ?_
            refine pm_icmp_ne K d_Reader_findForm_115 124 (by decide) (fun c11 => ?_) (fun c11 => ?_)
            · have hf := pm_iff c11 hf
              refine pm_iload K d_Reader_findForm_124 2 rfl ?_
              refine pm_bipush (v := 41) K d_Reader_findForm_126 (by decide) ?_
              refine pm_icmp_ne K d_Reader_findForm_128 137 (by decide) (fun c12 => ?_) (fun c12 => ?_)
              · have hf := pm_iff c12 hf
                refine pm_iload_n K d_Reader_findForm_137 0 rfl rfl ?_
                refine pm_if_ne K d_Reader_findForm_138 157 (by decide) (fun c13 => ?_) (fun c13 => ?_)
                · have hf := pm_iff c13 hf
                  refine pm_sub (lv' := [(0, .ref (ad 7)), (1, .int x1), (2, .int (0 : Int32)), (3, .int o4.1), (4, .int x4)]) [3, 4, 0, 1, 5] rfl ?_
                  exact t_Reader_findForm_157 K  rec r w' h14 x1 (0 : Int32) o4.1 x4 (pm_setI o9.2 7 4 ((o7.2.1 7 4) + o9.1)) hf
                · have hf := pm_ift c13 hf
                  refine pm_aload_n K d_Reader_findForm_141 3 rfl rfl ?_
                  refine pm_getI K fc_7 (o := 7) rfl 3 rfl (by decide) tw_260 d_Reader_findForm_142 (v := o9.2.1 7 3) rfl ?_
                  refine pm_aload_n K d_Reader_findForm_145 3 rfl rfl ?_
                  refine pm_getR K fc_7 (o := 7) rfl 0 rfl (by decide) tw_257 d_Reader_findForm_146 ?_
                  refine pm_getIN K fc_1 (o := 1) rfl 1 rfl (by decide) tw_121 d_Reader_findForm_149 (v := o9.2.1 1 1) rfl ?_
                  refine pm_icmp_lt K d_Reader_findForm_152 157 (by decide) (fun c14 => ?_) (fun c14 => ?_)
                  · have hf := pm_ift c14 hf
                    refine pm_sub (lv' := [(0, .ref (ad 7)), (1, .int x1), (2, .int (0 : Int32)), (3, .int o4.1), (4, .int x4)]) [3, 4, 0, 1, 5] rfl ?_
                    exact t_Reader_findForm_157 K  rec r w' h14 x1 (0 : Int32) o4.1 x4 (pm_setI o9.2 7 4 ((o7.2.1 7 4) + o9.1)) hf
                  · have hf := pm_iff c14 hf
                    refine pm_iconst (v := 2) K d_Reader_findForm_155 (by decide) ?_
                    cases hf
                    exact pm_iret K d_Reader_findForm_156
              · have hf := pm_ift c12 hf
                refine pm_iinc (v := x1 + (-1 : Int32)) (lv' := [(1, .int (x1 + (-1 : Int32))), (2, .int (0 : Int32)), (3, .int o4.1), (5, .int o3.1), (0, .ref (ad 7)), (4, .int x4)]) K d_Reader_findForm_131 4 rfl rfl (by decide) rfl ?_
                refine pm_goto K d_Reader_findForm_134 157 (by decide) ?_
                refine pm_sub (lv' := [(0, .ref (ad 7)), (1, .int (x1 + (-1 : Int32))), (2, .int (0 : Int32)), (3, .int o4.1), (4, .int x4)]) [4, 0, 1, 2, 5] rfl ?_
                exact t_Reader_findForm_157 K  rec r w' h14 (x1 + (-1 : Int32)) (0 : Int32) o4.1 x4 (pm_setI o9.2 7 4 ((o7.2.1 7 4) + o9.1)) hf
            · have hf := pm_ift c11 hf
              refine pm_iinc (v := x1 + (1 : Int32)) (lv' := [(1, .int (x1 + (1 : Int32))), (2, .int (0 : Int32)), (3, .int o4.1), (5, .int o3.1), (0, .ref (ad 7)), (4, .int x4)]) K d_Reader_findForm_118 4 rfl rfl (by decide) rfl ?_
              refine pm_goto K d_Reader_findForm_121 157 (by decide) ?_
              refine pm_sub (lv' := [(0, .ref (ad 7)), (1, .int (x1 + (1 : Int32))), (2, .int (0 : Int32)), (3, .int o4.1), (4, .int x4)]) [4, 0, 1, 2, 5] rfl ?_
              exact t_Reader_findForm_157 K  rec r w' h14 (x1 + (1 : Int32)) (0 : Int32) o4.1 x4 (pm_setI o9.2 7 4 ((o7.2.1 7 4) + o9.1)) hf
          · have hf := pm_ift c10 hf
            refine pm_iconst (v := 1) K d_Reader_findForm_105 (by decide) ?_
            refine pm_goto K d_Reader_findForm_106 110 (by decide) ?_
            refine pm_istore_n (lv' := [(2, .int (1 : Int32)), (3, .int o4.1), (5, .int o3.1), (0, .ref (ad 7)), (1, .int x1), (4, .int x4)]) K d_Reader_findForm_110 rfl (by decide) rfl ?_
            refine pm_iload K d_Reader_findForm_111 2 rfl ?_
            refine pm_bipush (v := 40) K d_Reader_findForm_113 (by decide) ?_
            refine pm_icmp_ne K d_Reader_findForm_115 124 (by decide) (fun c15 => ?_) (fun c15 => ?_)
            · have hf := pm_iff c15 hf
              refine pm_iload K d_Reader_findForm_124 2 rfl ?_
              refine pm_bipush (v := 41) K d_Reader_findForm_126 (by decide) ?_
              refine pm_icmp_ne K d_Reader_findForm_128 137 (by decide) (fun c16 => ?_) (fun c16 => ?_)
              · have hf := pm_iff c16 hf
                refine pm_iload_n K d_Reader_findForm_137 0 rfl rfl ?_
                refine pm_if_ne K d_Reader_findForm_138 157 (by decide) (fun c17 => ?_) (fun c17 => ?_)
                · have hf := pm_iff c17 hf
                  refine pm_sub (lv' := [(0, .ref (ad 7)), (1, .int x1), (2, .int (1 : Int32)), (3, .int o4.1), (4, .int x4)]) [3, 4, 0, 1, 5] rfl ?_
                  exact t_Reader_findForm_157 K  rec r w' h14 x1 (1 : Int32) o4.1 x4 (pm_setI o9.2 7 4 ((o7.2.1 7 4) + o9.1)) hf
                · have hf := pm_ift c17 hf
                  refine pm_aload_n K d_Reader_findForm_141 3 rfl rfl ?_
                  refine pm_getI K fc_7 (o := 7) rfl 3 rfl (by decide) tw_260 d_Reader_findForm_142 (v := o9.2.1 7 3) rfl ?_
                  refine pm_aload_n K d_Reader_findForm_145 3 rfl rfl ?_
                  refine pm_getR K fc_7 (o := 7) rfl 0 rfl (by decide) tw_257 d_Reader_findForm_146 ?_
                  refine pm_getIN K fc_1 (o := 1) rfl 1 rfl (by decide) tw_121 d_Reader_findForm_149 (v := o9.2.1 1 1) rfl ?_
                  refine pm_icmp_lt K d_Reader_findForm_152 157 (by decide) (fun c18 => ?_) (fun c18 => ?_)
                  · have hf := pm_ift c18 hf
                    refine pm_sub (lv' := [(0, .ref (ad 7)), (1, .int x1), (2, .int (1 : Int32)), (3, .int o4.1), (4, .int x4)]) [3, 4, 0, 1, 5] rfl ?_
                    exact t_Reader_findForm_157 K  rec r w' h14 x1 (1 : Int32) o4.1 x4 (pm_setI o9.2 7 4 ((o7.2.1 7 4) + o9.1)) hf
                  · have hf := pm_iff c18 hf
                    refine pm_iconst (v := 2) K d_Reader_findForm_155 (by decide) ?_
                    cases hf
                    exact pm_iret K d_Reader_findForm_156
              · have hf := pm_ift c16 hf
                refine pm_iinc (v := x1 + (-1 : Int32)) (lv' := [(1, .int (x1 + (-1 : Int32))), (2, .int (1 : Int32)), (3, .int o4.1), (5, .int o3.1), (0, .ref (ad 7)), (4, .int x4)]) K d_Reader_findForm_131 4 rfl rfl (by decide) rfl ?_
                refine pm_goto K d_Reader_findForm_134 157 (by decide) ?_
                refine pm_sub (lv' := [(0, .ref (ad 7)), (1, .int (x1 + (-1 : Int32))), (2, .int (1 : Int32)), (3, .int o4.1), (4, .int x4)]) [4, 0, 1, 2, 5] rfl ?_
                exact t_Reader_findForm_157 K  rec r w' h14 (x1 + (-1 : Int32)) (1 : Int32) o4.1 x4 (pm_setI o9.2 7 4 ((o7.2.1 7 4) + o9.1)) hf
            · have hf := pm_ift c15 hf
              refine pm_iinc (v := x1 + (1 : Int32)) (lv' := [(1, .int (x1 + (1 : Int32))), (2, .int (1 : Int32)), (3, .int o4.1), (5, .int o3.1), (0, .ref (ad 7)), (4, .int x4)]) K d_Reader_findForm_118 4 rfl rfl (by decide) rfl ?_
              refine pm_goto K d_Reader_findForm_121 157 (by decide) ?_
              refine pm_sub (lv' := [(0, .ref (ad 7)), (1, .int (x1 + (1 : Int32))), (2, .int (1 : Int32)), (3, .int o4.1), (4, .int x4)]) [4, 0, 1, 2, 5] rfl ?_
              exact t_Reader_findForm_157 K  rec r w' h14 (x1 + (1 : Int32)) (1 : Int32) o4.1 x4 (pm_setI o9.2 7 4 ((o7.2.1 7 4) + o9.1)) hf
        · have hf := pm_iff c8 hf
          refine pm_iconst (v := -1) K d_Reader_findForm_80 (by decide) ?_
          cases hf
          exact pm_iret K d_Reader_findForm_81
      · have hf := pm_iff c6 hf
        refine pm_goto K d_Reader_findForm_67 167 (by decide) ?_
        refine pm_iinc (v := x4 + (1 : Int32)) (lv' := [(4, .int (x4 + (1 : Int32))), (3, .int o4.1), (5, .int o3.1), (0, .ref (ad 7)), (1, .int x1), (2, .int x2)]) K d_Reader_findForm_167 5 rfl rfl (by decide) rfl ?_
        refine pm_goto K d_Reader_findForm_170 14 (by decide) ?_
        refine pm_sub (lv' := [(0, .ref (ad 7)), (1, .int x1), (2, .int x2), (3, .int o4.1), (4, .int (x4 + (1 : Int32)))]) [3, 4, 5, 1, 0] rfl ?_
        exact h14 x1 x2 o4.1 (x4 + (1 : Int32)) o5.2 hf
set_option maxHeartbeats 4000000 in
set_option maxRecDepth 100000 in
theorem a_Reader_findForm {p : Program} {l : Launch} {e : Env} {s : State} {m : MethodId} {args : Array Value} {below : List Frame} {meth : Method} {c : Code} {D : va_G} {ca : Nat → ClassId} {ad : Nat → Nat} {E : (Nat → Prop) → State → Heap → Prop} {S : Nat} (K : pm_ok p s m args meth c k_Reader_findForm 6 pmTs R_Reader D vwCl (tyl ca) (shC S) ad E (some .int)) (r : Int32) (w' : pm_W) : ∀ n : Nat, (∀ (x1 : Int32) (x2 : Int32) (x3 : Int32) (x4 : Int32) (w : pm_W), l_Reader_findForm  S n 0 x1 x2 x3 x4 w = some (r, w') → pm_wk p l e { frames := 3, cells := 0, slots := 0, locals := 62 } s m args below meth c D vwCl (shC S) ca ad 6 (some (.int r), w') 14 [(0, .ref (ad 7)), (1, .int x1), (2, .int x2), (3, .int x3), (4, .int x4)] [] w) := by
  intro n
  induction n with
  | zero => exact fun _ _ _ _ _ hf => (by cases hf)
  | succ n ih => exact fun x1 x2 x3 x4 w hf => t_Reader_findForm_14 K (l_Reader_findForm S n) r w' (ih) x1 x2 x3 x4 w hf
set_option maxHeartbeats 4000000 in
set_option maxRecDepth 100000 in
theorem t_Reader_findForm {p : Program} {l : Launch} {e : Env} {s : State} {m : MethodId} {args : Array Value} {below : List Frame} {meth : Method} {c : Code} {D : va_G} {ca : Nat → ClassId} {ad : Nat → Nat} {E : (Nat → Prop) → State → Heap → Prop} {S : Nat} (K : pm_ok p s m args meth c k_Reader_findForm 6 pmTs R_Reader D vwCl (tyl ca) (shC S) ad E (some .int)) (r : Int32) (w' : pm_W) (w : pm_W) (hf : f_Reader_findForm  S w = some (r, w')) : pm_wk p l e { frames := 3, cells := 0, slots := 0, locals := 62 } s m args below meth c D vwCl (shC S) ca ad 6 (some (.int r), w') 0 [(0, .ref (ad 7))] [] w := by
  unfold f_Reader_findForm at hf
  have h14 := (a_Reader_findForm (l := l) (e := e) (below := below) K  r w' pm_fuel)
  refine pm_iconst (v := 0) K d_Reader_findForm_0 (by decide) ?_
  refine pm_istore_n (lv' := [(1, .int (0 : Int32)), (0, .ref (ad 7))]) K d_Reader_findForm_1 rfl (by decide) rfl ?_
  refine pm_iconst (v := 0) K d_Reader_findForm_2 (by decide) ?_
  refine pm_istore_n (lv' := [(2, .int (0 : Int32)), (1, .int (0 : Int32)), (0, .ref (ad 7))]) K d_Reader_findForm_3 rfl (by decide) rfl ?_
  refine pm_iconst (v := 0) K d_Reader_findForm_4 (by decide) ?_
  refine pm_istore_n (lv' := [(3, .int (0 : Int32)), (2, .int (0 : Int32)), (1, .int (0 : Int32)), (0, .ref (ad 7))]) K d_Reader_findForm_5 rfl (by decide) rfl ?_
  refine pm_aload_n K d_Reader_findForm_6 3 rfl rfl ?_
  refine pm_iconst (v := 0) K d_Reader_findForm_7 (by decide) ?_
  refine pm_putI K fc_7 (o := 7) (ty := .int) rfl 4 rfl (by decide) tw_261 rfl rfl rfl rfl d_Reader_findForm_8 ?_
  refine pm_iconst (v := 0) K d_Reader_findForm_11 (by decide) ?_
  refine pm_istore (lv' := [(4, .int (0 : Int32)), (3, .int (0 : Int32)), (2, .int (0 : Int32)), (1, .int (0 : Int32)), (0, .ref (ad 7))]) K d_Reader_findForm_12 (by decide) rfl ?_
  refine pm_sub (lv' := [(0, .ref (ad 7)), (1, .int (0 : Int32)), (2, .int (0 : Int32)), (3, .int (0 : Int32)), (4, .int (0 : Int32))]) [4, 3, 2, 1, 0] rfl ?_
  exact h14 (0 : Int32) (0 : Int32) (0 : Int32) (0 : Int32) (pm_setI w 7 4 (0 : Int32)) hf
/-- CellLisp$Reader.findForm()I -/
theorem c_Reader_findForm {l : Launch} {D : va_G} {ca : Nat → ClassId} {ad : Nat → Nat} {E : (Nat → Prop) → State → Heap → Prop} {S : Nat} (hEc : pm_Ecl E) (r : Int32) (w' : pm_W) (w : pm_W) (hf : f_Reader_findForm  S w = some (r, w')) : pm_Met l pmTs D vwCl (tyl ca) (shC S) ca ad E y_Reader_findForm k_Reader_findForm 6 (some .int) { frames := 3, cells := 0, slots := 0, locals := 62 } [.ref (ad 7)] w (some (.int r), w') :=
  pm_start pmTs_good hEc (by decide) (Nat.le_of_ble_eq_true rfl) (fun p e s m below meth c K => t_Reader_findForm K r w'  w hf)
