def f_Machine_evaluateNext (S : Nat) (x1 : Int32) (x2 : Int32) (w : pm_W) : Option (Int32 × pm_W) :=
  some ((1 : Int32), pm_setI (pm_setI (pm_setI w 4 0 x1) 4 1 x2) 4 2 (1 : Int32))
set_option maxHeartbeats 4000000 in
set_option maxRecDepth 100000 in
theorem t_Machine_evaluateNext {p : Program} {l : Launch} {e : Env} {s : State} {m : MethodId} {args : Array Value} {below : List Frame} {meth : Method} {c : Code} {D : va_G} {ca : Nat → ClassId} {ad : Nat → Nat} {E : (Nat → Prop) → State → Heap → Prop} {S : Nat} (K : pm_ok p s m args meth c k_Machine_evaluateNext 3 pmTs R_Machine D vwCl (tyl ca) (shC S) ad E (some .int)) (r : Int32) (w' : pm_W) (x1 : Int32) (x2 : Int32) (w : pm_W) (hf : f_Machine_evaluateNext  S x1 x2 w = some (r, w')) : pm_wk p l e { frames := 0, cells := 0, slots := 0, locals := 0 } s m args below meth c D vwCl (shC S) ca ad 3 (some (.int r), w') 0 [(0, .ref (ad 6)), (1, .int x1), (2, .int x2)] [] w := by
  unfold f_Machine_evaluateNext at hf
  refine pm_aload_n K d_Machine_evaluateNext_0 0 rfl rfl ?_
  refine pm_getR K fc_6 (o := 6) rfl 0 rfl (by decide) tw_280 d_Machine_evaluateNext_1 ?_
  refine pm_iload_n K d_Machine_evaluateNext_4 1 rfl rfl ?_
  refine pm_putIN K fc_4 (o := 4) (ty := .int) rfl 0 rfl (by decide) tw_205 rfl rfl rfl rfl d_Machine_evaluateNext_5 ?_
  refine pm_aload_n K d_Machine_evaluateNext_8 0 rfl rfl ?_
  refine pm_getR K fc_6 (o := 6) rfl 0 rfl (by decide) tw_280 d_Machine_evaluateNext_9 ?_
  refine pm_iload_n K d_Machine_evaluateNext_12 2 rfl rfl ?_
  refine pm_putIN K fc_4 (o := 4) (ty := .int) rfl 1 rfl (by decide) tw_208 rfl rfl rfl rfl d_Machine_evaluateNext_13 ?_
  refine pm_aload_n K d_Machine_evaluateNext_16 0 rfl rfl ?_
  refine pm_getR K fc_6 (o := 6) rfl 0 rfl (by decide) tw_280 d_Machine_evaluateNext_17 ?_
  refine pm_iconst (v := 1) K d_Machine_evaluateNext_20 (by decide) ?_
  refine pm_putIN K fc_4 (o := 4) (ty := .boolean) rfl 2 rfl (by decide) tw_210 rfl rfl (by decide) (by decide) d_Machine_evaluateNext_21 ?_
  refine pm_iconst (v := 1) K d_Machine_evaluateNext_24 (by decide) ?_
  cases hf
  exact pm_iret K d_Machine_evaluateNext_25
/-- CellLisp$Machine.evaluateNext(II)I -/
theorem c_Machine_evaluateNext {l : Launch} {D : va_G} {ca : Nat → ClassId} {ad : Nat → Nat} {E : (Nat → Prop) → State → Heap → Prop} {S : Nat} (hEc : pm_Ecl E) (r : Int32) (w' : pm_W) (x1 : Int32) (x2 : Int32) (w : pm_W) (hf : f_Machine_evaluateNext  S x1 x2 w = some (r, w')) : pm_Met l pmTs D vwCl (tyl ca) (shC S) ca ad E y_Machine_evaluateNext k_Machine_evaluateNext 3 (some .int) { frames := 0, cells := 0, slots := 0, locals := 0 } [.ref (ad 6), .int x1, .int x2] w (some (.int r), w') :=
  pm_start pmTs_good hEc (by decide) (Nat.le_of_ble_eq_true rfl) (fun p e s m below meth c K => t_Machine_evaluateNext K r w' x1 x2 w hf)
def f_Machine_begin (S : Nat) (w : pm_W) : Option (Int32 × pm_W) :=
  Option.bind (f_Reader_read S w) fun o1 =>
  if o1.1 = (2 : Int32) then
    some ((2 : Int32), o1.2)
  else
    if o1.1 = 0 then
      Option.bind (f_Machine_evaluateNext S (o1.2.1 7 5) (2 : Int32) (pm_setI (pm_setI o1.2 6 6 (1 : Int32)) 6 5 (1 : Int32))) fun o4 =>
      some (o4.1, o4.2)
    else
      some (o1.1, pm_setI o1.2 6 6 (1 : Int32))
set_option maxHeartbeats 4000000 in
set_option maxRecDepth 100000 in
theorem t_Machine_begin {p : Program} {l : Launch} {e : Env} {s : State} {m : MethodId} {args : Array Value} {below : List Frame} {meth : Method} {c : Code} {D : va_G} {ca : Nat → ClassId} {ad : Nat → Nat} {E : (Nat → Prop) → State → Heap → Prop} {S : Nat} (K : pm_ok p s m args meth c k_Machine_begin 2 pmTs R_Machine D vwCl (tyl ca) (shC S) ad E (some .int)) (r : Int32) (w' : pm_W) (w : pm_W) (hf : f_Machine_begin  S w = some (r, w')) : pm_wk p l e { frames := 5, cells := 0, slots := 0, locals := 119 } s m args below meth c D vwCl (shC S) ca ad 2 (some (.int r), w') 0 [(0, .ref (ad 6))] [] w := by
  unfold f_Machine_begin at hf
  refine pm_aload_n K d_Machine_begin_0 0 rfl rfl ?_
  refine pm_getR K fc_6 (o := 6) rfl 3 rfl (by decide) tw_283 d_Machine_begin_1 ?_
  obtain ⟨o1, z1, hf⟩ := pm_bind hf
  refine pm_callV (As := []) (rest := []) (o := 7) K (c_Reader_read K.2.2.2.2.2.2.2.2.2.2.2.2 o1.1 o1.2 w z1) mi_Reader_read rfl rfl tw_317 tw_318 tw_316 rfl ⟨rfl, rfl, Nat.le_of_ble_eq_true rfl, Nat.le_of_ble_eq_true rfl⟩ rfl (Nat.le_of_ble_eq_true rfl) d_Machine_begin_4 ?_
  refine pm_istore_n (lv' := [(1, .int o1.1), (0, .ref (ad 6))]) K d_Machine_begin_7 rfl (by decide) rfl ?_
  refine pm_iload_n K d_Machine_begin_8 0 rfl rfl ?_
  refine pm_iconst (v := 2) K d_Machine_begin_9 (by decide) ?_
  refine pm_icmp_ne K d_Machine_begin_10 15 (by decide) (fun c2 => ?_) (fun c2 => ?_)
  · have hf := pm_iff c2 hf
    refine pm_aload_n K d_Machine_begin_15 1 rfl rfl ?_
    refine pm_iconst (v := 1) K d_Machine_begin_16 (by decide) ?_
    refine pm_putI K fc_6 (o := 6) (ty := .int) rfl 6 rfl (by decide) tw_286 rfl rfl rfl rfl d_Machine_begin_17 ?_
    refine pm_iload_n K d_Machine_begin_20 0 rfl rfl ?_
    refine pm_if_eq K d_Machine_begin_21 26 (by decide) (fun c3 => ?_) (fun c3 => ?_)
    · have hf := pm_ift c3 hf
      refine pm_aload_n K d_Machine_begin_26 1 rfl rfl ?_
      refine pm_iconst (v := 1) K d_Machine_begin_27 (by decide) ?_
      refine pm_putI K fc_6 (o := 6) (ty := .boolean) rfl 5 rfl (by decide) tw_285 rfl rfl (by decide) (by decide) d_Machine_begin_28 ?_
      refine pm_aload_n K d_Machine_begin_31 1 rfl rfl ?_
      refine pm_aload_n K d_Machine_begin_32 1 rfl rfl ?_
      refine pm_getR K fc_6 (o := 6) rfl 3 rfl (by decide) tw_283 d_Machine_begin_33 ?_
      refine pm_getIN K fc_7 (o := 7) rfl 5 rfl (by decide) tw_263 d_Machine_begin_36 (v := o1.2.1 7 5) rfl ?_
      refine pm_iconst (v := 2) K d_Machine_begin_39 (by decide) ?_
      obtain ⟨o4, z4, hf⟩ := pm_bind hf
      refine pm_callV (As := [.int (o1.2.1 7 5), .int (2 : Int32)]) (rest := []) (o := 6) K (c_Machine_evaluateNext K.2.2.2.2.2.2.2.2.2.2.2.2 o4.1 o4.2 (o1.2.1 7 5) (2 : Int32) (pm_setI (pm_setI o1.2 6 6 (1 : Int32)) 6 5 (1 : Int32)) z4) mi_Machine_evaluateNext rfl rfl tw_418 tw_11 tw_417 rfl ⟨rfl, rfl, Nat.le_of_ble_eq_true rfl, Nat.le_of_ble_eq_true rfl⟩ rfl (Nat.le_of_ble_eq_true rfl) d_Machine_begin_40 ?_
      cases hf
      exact pm_iret K d_Machine_begin_43
    · have hf := pm_iff c3 hf
      refine pm_iload_n K d_Machine_begin_24 0 rfl rfl ?_
      cases hf
      exact pm_iret K d_Machine_begin_25
  · have hf := pm_ift c2 hf
    refine pm_iconst (v := 2) K d_Machine_begin_13 (by decide) ?_
    cases hf
    exact pm_iret K d_Machine_begin_14
/-- CellLisp$Machine.begin()I -/
theorem c_Machine_begin {l : Launch} {D : va_G} {ca : Nat → ClassId} {ad : Nat → Nat} {E : (Nat → Prop) → State → Heap → Prop} {S : Nat} (hEc : pm_Ecl E) (r : Int32) (w' : pm_W) (w : pm_W) (hf : f_Machine_begin  S w = some (r, w')) : pm_Met l pmTs D vwCl (tyl ca) (shC S) ca ad E y_Machine_begin k_Machine_begin 2 (some .int) { frames := 5, cells := 0, slots := 0, locals := 119 } [.ref (ad 6)] w (some (.int r), w') :=
  pm_start pmTs_good hEc (by decide) (Nat.le_of_ble_eq_true rfl) (fun p e s m below meth c K => t_Machine_begin K r w'  w hf)
def f_Machine_endForm (S : Nat) (w : pm_W) : Option pm_W :=
  some (pm_setI (pm_setI (pm_setI (pm_setI w 6 5 (0 : Int32)) 4 0 (2 : Int32)) 4 1 (2 : Int32)) 4 3 (0 : Int32))
set_option maxHeartbeats 4000000 in
set_option maxRecDepth 100000 in
theorem t_Machine_endForm {p : Program} {l : Launch} {e : Env} {s : State} {m : MethodId} {args : Array Value} {below : List Frame} {meth : Method} {c : Code} {D : va_G} {ca : Nat → ClassId} {ad : Nat → Nat} {E : (Nat → Prop) → State → Heap → Prop} {S : Nat} (K : pm_ok p s m args meth c k_Machine_endForm 1 pmTs R_Machine D vwCl (tyl ca) (shC S) ad E none) (w' : pm_W) (w : pm_W) (hf : f_Machine_endForm  S w = some w') : pm_wk p l e { frames := 0, cells := 0, slots := 0, locals := 0 } s m args below meth c D vwCl (shC S) ca ad 1 (none, w') 0 [(0, .ref (ad 6))] [] w := by
  unfold f_Machine_endForm at hf
  refine pm_aload_n K d_Machine_endForm_0 0 rfl rfl ?_
  refine pm_iconst (v := 0) K d_Machine_endForm_1 (by decide) ?_
  refine pm_putI K fc_6 (o := 6) (ty := .boolean) rfl 5 rfl (by decide) tw_285 rfl rfl (by decide) (by decide) d_Machine_endForm_2 ?_
  refine pm_aload_n K d_Machine_endForm_5 0 rfl rfl ?_
  refine pm_getR K fc_6 (o := 6) rfl 0 rfl (by decide) tw_280 d_Machine_endForm_6 ?_
  refine pm_iconst (v := 2) K d_Machine_endForm_9 (by decide) ?_
  refine pm_putIN K fc_4 (o := 4) (ty := .int) rfl 0 rfl (by decide) tw_205 rfl rfl rfl rfl d_Machine_endForm_10 ?_
  refine pm_aload_n K d_Machine_endForm_13 0 rfl rfl ?_
  refine pm_getR K fc_6 (o := 6) rfl 0 rfl (by decide) tw_280 d_Machine_endForm_14 ?_
  refine pm_iconst (v := 2) K d_Machine_endForm_17 (by decide) ?_
  refine pm_putIN K fc_4 (o := 4) (ty := .int) rfl 1 rfl (by decide) tw_208 rfl rfl rfl rfl d_Machine_endForm_18 ?_
  refine pm_aload_n K d_Machine_endForm_21 0 rfl rfl ?_
  refine pm_getR K fc_6 (o := 6) rfl 0 rfl (by decide) tw_280 d_Machine_endForm_22 ?_
  refine pm_iconst (v := 0) K d_Machine_endForm_25 (by decide) ?_
  refine pm_putIN K fc_4 (o := 4) (ty := .int) rfl 3 rfl (by decide) tw_212 rfl rfl rfl rfl d_Machine_endForm_26 ?_
  cases hf
  exact pm_vret K d_Machine_endForm_29
/-- CellLisp$Machine.endForm()V -/
theorem c_Machine_endForm {l : Launch} {D : va_G} {ca : Nat → ClassId} {ad : Nat → Nat} {E : (Nat → Prop) → State → Heap → Prop} {S : Nat} (hEc : pm_Ecl E) (w' : pm_W) (w : pm_W) (hf : f_Machine_endForm  S w = some w') : pm_Met l pmTs D vwCl (tyl ca) (shC S) ca ad E y_Machine_endForm k_Machine_endForm 1 none { frames := 0, cells := 0, slots := 0, locals := 0 } [.ref (ad 6)] w (none, w') :=
  pm_start pmTs_good hEc (by decide) (Nat.le_of_ble_eq_true rfl) (fun p e s m below meth c K => t_Machine_endForm K w'  w hf)
def f_Machine_returnNext (S : Nat) (x1 : Int32) (w : pm_W) : Option (Int32 × pm_W) :=
  some ((1 : Int32), pm_setI (pm_setI w 4 0 x1) 4 2 (0 : Int32))
set_option maxHeartbeats 4000000 in
set_option maxRecDepth 100000 in
theorem t_Machine_returnNext {p : Program} {l : Launch} {e : Env} {s : State} {m : MethodId} {args : Array Value} {below : List Frame} {meth : Method} {c : Code} {D : va_G} {ca : Nat → ClassId} {ad : Nat → Nat} {E : (Nat → Prop) → State → Heap → Prop} {S : Nat} (K : pm_ok p s m args meth c k_Machine_returnNext 2 pmTs R_Machine D vwCl (tyl ca) (shC S) ad E (some .int)) (r : Int32) (w' : pm_W) (x1 : Int32) (w : pm_W) (hf : f_Machine_returnNext  S x1 w = some (r, w')) : pm_wk p l e { frames := 0, cells := 0, slots := 0, locals := 0 } s m args below meth c D vwCl (shC S) ca ad 2 (some (.int r), w') 0 [(0, .ref (ad 6)), (1, .int x1)] [] w := by
  unfold f_Machine_returnNext at hf
  refine pm_aload_n K d_Machine_returnNext_0 0 rfl rfl ?_
  refine pm_getR K fc_6 (o := 6) rfl 0 rfl (by decide) tw_280 d_Machine_returnNext_1 ?_
  refine pm_iload_n K d_Machine_returnNext_4 1 rfl rfl ?_
  refine pm_putIN K fc_4 (o := 4) (ty := .int) rfl 0 rfl (by decide) tw_205 rfl rfl rfl rfl d_Machine_returnNext_5 ?_
  refine pm_aload_n K d_Machine_returnNext_8 0 rfl rfl ?_
  refine pm_getR K fc_6 (o := 6) rfl 0 rfl (by decide) tw_280 d_Machine_returnNext_9 ?_
  refine pm_iconst (v := 0) K d_Machine_returnNext_12 (by decide) ?_
  refine pm_putIN K fc_4 (o := 4) (ty := .boolean) rfl 2 rfl (by decide) tw_210 rfl rfl (by decide) (by decide) d_Machine_returnNext_13 ?_
  refine pm_iconst (v := 1) K d_Machine_returnNext_16 (by decide) ?_
  cases hf
  exact pm_iret K d_Machine_returnNext_17
/-- CellLisp$Machine.returnNext(I)I -/
theorem c_Machine_returnNext {l : Launch} {D : va_G} {ca : Nat → ClassId} {ad : Nat → Nat} {E : (Nat → Prop) → State → Heap → Prop} {S : Nat} (hEc : pm_Ecl E) (r : Int32) (w' : pm_W) (x1 : Int32) (w : pm_W) (hf : f_Machine_returnNext  S x1 w = some (r, w')) : pm_Met l pmTs D vwCl (tyl ca) (shC S) ca ad E y_Machine_returnNext k_Machine_returnNext 2 (some .int) { frames := 0, cells := 0, slots := 0, locals := 0 } [.ref (ad 6), .int x1] w (some (.int r), w') :=
  pm_start pmTs_good hEc (by decide) (Nat.le_of_ble_eq_true rfl) (fun p e s m below meth c K => t_Machine_returnNext K r w' x1 w hf)
def f_Value_isSymbol (S : Nat) (x0 : Int32) (w : pm_W) : Option (Int32 × pm_W) :=
  Option.bind (f_Value_kind S x0 w) fun o1 =>
  if o1.1 = (1 : Int32) then
    some ((1 : Int32), o1.2)
  else
    some ((0 : Int32), o1.2)
set_option maxHeartbeats 4000000 in
set_option maxRecDepth 100000 in
theorem t_Value_isSymbol {p : Program} {l : Launch} {e : Env} {s : State} {m : MethodId} {args : Array Value} {below : List Frame} {meth : Method} {c : Code} {D : va_G} {ca : Nat → ClassId} {ad : Nat → Nat} {E : (Nat → Prop) → State → Heap → Prop} {S : Nat} (K : pm_ok p s m args meth c k_Value_isSymbol 1 pmTs R_Value D vwCl (tyl ca) (shC S) ad E (some .boolean)) (r : Int32) (w' : pm_W) (x0 : Int32) (w : pm_W) (hf : f_Value_isSymbol  S x0 w = some (r, w')) : pm_wk p l e { frames := 1, cells := 0, slots := 0, locals := 20 } s m args below meth c D vwCl (shC S) ca ad 1 (some (.int r), w') 0 [(0, .int x0)] [] w := by
  unfold f_Value_isSymbol at hf
  refine pm_iload_n K d_Value_isSymbol_0 0 rfl rfl ?_
  obtain ⟨o1, z1, hf⟩ := pm_bind hf
  refine pm_callS (As := [.int x0]) (rest := []) K (c_Value_kind K.2.2.2.2.2.2.2.2.2.2.2.2 o1.1 o1.2 x0 w z1) mi_Value_kind tw_374 tw_426 rfl ⟨rfl, rfl, Nat.le_of_ble_eq_true rfl, Nat.le_of_ble_eq_true rfl⟩ rfl (Nat.le_of_ble_eq_true rfl) d_Value_isSymbol_1 ?_
  refine pm_iconst (v := 1) K d_Value_isSymbol_4 (by decide) ?_
  refine pm_icmp_ne K d_Value_isSymbol_5 12 (by decide) (fun c2 => ?_) (fun c2 => ?_)
  · have hf := pm_iff c2 hf
    refine pm_iconst (v := 0) K d_Value_isSymbol_12 (by decide) ?_
    cases hf
    exact pm_zret K (by decide) d_Value_isSymbol_13
  · have hf := pm_ift c2 hf
    refine pm_iconst (v := 1) K d_Value_isSymbol_8 (by decide) ?_
    refine pm_goto K d_Value_isSymbol_9 13 (by decide) ?_
    cases hf
    exact pm_zret K (by decide) d_Value_isSymbol_13
/-- CellLisp$Value.isSymbol(I)Z -/
theorem c_Value_isSymbol {l : Launch} {D : va_G} {ca : Nat → ClassId} {ad : Nat → Nat} {E : (Nat → Prop) → State → Heap → Prop} {S : Nat} (hEc : pm_Ecl E) (r : Int32) (w' : pm_W) (x0 : Int32) (w : pm_W) (hf : f_Value_isSymbol  S x0 w = some (r, w')) : pm_Met l pmTs D vwCl (tyl ca) (shC S) ca ad E y_Value_isSymbol k_Value_isSymbol 1 (some .boolean) { frames := 1, cells := 0, slots := 0, locals := 20 } [.int x0] w (some (.int r), w') :=
  pm_start pmTs_good hEc (by decide) (Nat.le_of_ble_eq_true rfl) (fun p e s m below meth c K => t_Value_isSymbol K r w' x0 w hf)
def f_Machine_evaluateSymbol (S : Nat) (w : pm_W) : Option (Int32 × pm_W) :=
  Option.bind (f_Room_binding S (w.1 4 0) (w.1 4 1) w) fun o1 =>
  if o1.1 = (2 : Int32) then
    Option.bind (f_Value_content S (o1.2.1 4 0) o1.2) fun o3 =>
    Option.bind (f_Symbols_global S o3.1 o3.2) fun o4 =>
    if o4.1 = (6 : Int32) then
      some ((-2 : Int32), o4.2)
    else
      Option.bind (f_Machine_returnNext S o4.1 o4.2) fun o6 =>
      some (o6.1, o6.2)
  else
    Option.bind (f_Room_second S o1.1 o1.2) fun o7 =>
    Option.bind (f_Machine_returnNext S o7.1 o7.2) fun o8 =>
    some (o8.1, o8.2)
set_option maxHeartbeats 4000000 in
set_option maxRecDepth 100000 in
theorem t_Machine_evaluateSymbol {p : Program} {l : Launch} {e : Env} {s : State} {m : MethodId} {args : Array Value} {below : List Frame} {meth : Method} {c : Code} {D : va_G} {ca : Nat → ClassId} {ad : Nat → Nat} {E : (Nat → Prop) → State → Heap → Prop} {S : Nat} (K : pm_ok p s m args meth c k_Machine_evaluateSymbol 3 pmTs R_Machine D vwCl (tyl ca) (shC S) ad E (some .int)) (r : Int32) (w' : pm_W) (w : pm_W) (hf : f_Machine_evaluateSymbol  S w = some (r, w')) : pm_wk p l e { frames := 3, cells := 0, slots := 0, locals := 68 } s m args below meth c D vwCl (shC S) ca ad 3 (some (.int r), w') 0 [(0, .ref (ad 6))] [] w := by
  unfold f_Machine_evaluateSymbol at hf
  refine pm_aload_n K d_Machine_evaluateSymbol_0 0 rfl rfl ?_
  refine pm_getR K fc_6 (o := 6) rfl 1 rfl (by decide) tw_281 d_Machine_evaluateSymbol_1 ?_
  refine pm_aload_n K d_Machine_evaluateSymbol_4 0 rfl rfl ?_
  refine pm_getR K fc_6 (o := 6) rfl 0 rfl (by decide) tw_280 d_Machine_evaluateSymbol_5 ?_
  refine pm_getIN K fc_4 (o := 4) rfl 0 rfl (by decide) tw_205 d_Machine_evaluateSymbol_8 (v := w.1 4 0) rfl ?_
  refine pm_aload_n K d_Machine_evaluateSymbol_11 0 rfl rfl ?_
  refine pm_getR K fc_6 (o := 6) rfl 0 rfl (by decide) tw_280 d_Machine_evaluateSymbol_12 ?_
  refine pm_getIN K fc_4 (o := 4) rfl 1 rfl (by decide) tw_208 d_Machine_evaluateSymbol_15 (v := w.1 4 1) rfl ?_
  obtain ⟨o1, z1, hf⟩ := pm_bind hf
  refine pm_callV (As := [.int (w.1 4 0), .int (w.1 4 1)]) (rest := []) (o := 5) K (c_Room_binding K.2.2.2.2.2.2.2.2.2.2.2.2 o1.1 o1.2 (w.1 4 0) (w.1 4 1) w z1) mi_Room_binding rfl rfl tw_431 tw_432 tw_430 rfl ⟨rfl, rfl, Nat.le_of_ble_eq_true rfl, Nat.le_of_ble_eq_true rfl⟩ rfl (Nat.le_of_ble_eq_true rfl) d_Machine_evaluateSymbol_18 ?_
  refine pm_istore_n (lv' := [(1, .int o1.1), (0, .ref (ad 6))]) K d_Machine_evaluateSymbol_21 rfl (by decide) rfl ?_
  refine pm_iload_n K d_Machine_evaluateSymbol_22 0 rfl rfl ?_
  refine pm_iconst (v := 2) K d_Machine_evaluateSymbol_23 (by decide) ?_
  refine pm_icmp_eq K d_Machine_evaluateSymbol_24 40 (by decide) (fun c2 => ?_) (fun c2 => ?_)
  · have hf := pm_ift c2 hf
    refine pm_aload_n K d_Machine_evaluateSymbol_40 1 rfl rfl ?_
    refine pm_getR K fc_6 (o := 6) rfl 2 rfl (by decide) tw_282 d_Machine_evaluateSymbol_41 ?_
    refine pm_aload_n K d_Machine_evaluateSymbol_44 1 rfl rfl ?_
    refine pm_getR K fc_6 (o := 6) rfl 0 rfl (by decide) tw_280 d_Machine_evaluateSymbol_45 ?_
    refine pm_getIN K fc_4 (o := 4) rfl 0 rfl (by decide) tw_205 d_Machine_evaluateSymbol_48 (v := o1.2.1 4 0) rfl ?_
    obtain ⟨o3, z3, hf⟩ := pm_bind hf
    refine pm_callS (As := [.int (o1.2.1 4 0)]) (rest := [.ref (ad 3)]) K (c_Value_content K.2.2.2.2.2.2.2.2.2.2.2.2 o3.1 o3.2 (o1.2.1 4 0) o1.2 z3) mi_Value_content tw_377 tw_449 rfl ⟨rfl, rfl, Nat.le_of_ble_eq_true rfl, Nat.le_of_ble_eq_true rfl⟩ rfl (Nat.le_of_ble_eq_true rfl) d_Machine_evaluateSymbol_51 ?_
    obtain ⟨o4, z4, hf⟩ := pm_bind hf
    refine pm_callV (As := [.int o3.1]) (rest := []) (o := 3) K (c_Symbols_global K.2.2.2.2.2.2.2.2.2.2.2.2 o4.1 o4.2 o3.1 o3.2 z4) mi_Symbols_global rfl rfl tw_451 tw_452 tw_450 rfl ⟨rfl, rfl, Nat.le_of_ble_eq_true rfl, Nat.le_of_ble_eq_true rfl⟩ rfl (Nat.le_of_ble_eq_true rfl) d_Machine_evaluateSymbol_54 ?_
    refine pm_istore_n (lv' := [(2, .int o4.1), (1, .int o1.1), (0, .ref (ad 6))]) K d_Machine_evaluateSymbol_57 rfl (by decide) rfl ?_
    refine pm_iload_n K d_Machine_evaluateSymbol_58 0 rfl rfl ?_
    refine pm_bipush (v := 6) K d_Machine_evaluateSymbol_59 (by decide) ?_
    refine pm_icmp_ne K d_Machine_evaluateSymbol_61 69 (by decide) (fun c5 => ?_) (fun c5 => ?_)
    · have hf := pm_iff c5 hf
      refine pm_aload_n K d_Machine_evaluateSymbol_69 2 rfl rfl ?_
      refine pm_iload_n K d_Machine_evaluateSymbol_70 0 rfl rfl ?_
      obtain ⟨o6, z6, hf⟩ := pm_bind hf
      refine pm_callV (As := [.int o4.1]) (rest := []) (o := 6) K (c_Machine_returnNext K.2.2.2.2.2.2.2.2.2.2.2.2 o6.1 o6.2 o4.1 o4.2 z6) mi_Machine_returnNext rfl rfl tw_447 tw_14 tw_446 rfl ⟨rfl, rfl, Nat.le_of_ble_eq_true rfl, Nat.le_of_ble_eq_true rfl⟩ rfl (Nat.le_of_ble_eq_true rfl) d_Machine_evaluateSymbol_71 ?_
      cases hf
      exact pm_iret K d_Machine_evaluateSymbol_74
    · have hf := pm_ift c5 hf
      refine pm_bipush (v := -2) K d_Machine_evaluateSymbol_64 (by decide) ?_
      refine pm_goto K d_Machine_evaluateSymbol_66 74 (by decide) ?_
      cases hf
      exact pm_iret K d_Machine_evaluateSymbol_74
  · have hf := pm_iff c2 hf
    refine pm_aload_n K d_Machine_evaluateSymbol_27 1 rfl rfl ?_
    refine pm_aload_n K d_Machine_evaluateSymbol_28 1 rfl rfl ?_
    refine pm_getR K fc_6 (o := 6) rfl 1 rfl (by decide) tw_281 d_Machine_evaluateSymbol_29 ?_
    refine pm_iload_n K d_Machine_evaluateSymbol_32 0 rfl rfl ?_
    obtain ⟨o7, z7, hf⟩ := pm_bind hf
    refine pm_callV (As := [.int o1.1]) (rest := [.ref (ad 6)]) (o := 5) K (c_Room_second K.2.2.2.2.2.2.2.2.2.2.2.2 o7.1 o7.2 o1.1 o1.2 z7) mi_Room_second rfl rfl tw_442 tw_443 tw_445 rfl ⟨rfl, rfl, Nat.le_of_ble_eq_true rfl, Nat.le_of_ble_eq_true rfl⟩ rfl (Nat.le_of_ble_eq_true rfl) d_Machine_evaluateSymbol_33 ?_
    obtain ⟨o8, z8, hf⟩ := pm_bind hf
    refine pm_callV (As := [.int o7.1]) (rest := []) (o := 6) K (c_Machine_returnNext K.2.2.2.2.2.2.2.2.2.2.2.2 o8.1 o8.2 o7.1 o7.2 z8) mi_Machine_returnNext rfl rfl tw_447 tw_14 tw_446 rfl ⟨rfl, rfl, Nat.le_of_ble_eq_true rfl, Nat.le_of_ble_eq_true rfl⟩ rfl (Nat.le_of_ble_eq_true rfl) d_Machine_evaluateSymbol_36 ?_
    cases hf
    exact pm_iret K d_Machine_evaluateSymbol_39
/-- CellLisp$Machine.evaluateSymbol()I -/
theorem c_Machine_evaluateSymbol {l : Launch} {D : va_G} {ca : Nat → ClassId} {ad : Nat → Nat} {E : (Nat → Prop) → State → Heap → Prop} {S : Nat} (hEc : pm_Ecl E) (r : Int32) (w' : pm_W) (w : pm_W) (hf : f_Machine_evaluateSymbol  S w = some (r, w')) : pm_Met l pmTs D vwCl (tyl ca) (shC S) ca ad E y_Machine_evaluateSymbol k_Machine_evaluateSymbol 3 (some .int) { frames := 3, cells := 0, slots := 0, locals := 68 } [.ref (ad 6)] w (some (.int r), w') :=
  pm_start pmTs_good hEc (by decide) (Nat.le_of_ble_eq_true rfl) (fun p e s m below meth c K => t_Machine_evaluateSymbol K r w'  w hf)
def f_Machine_part (S : Nat) (x1 : Int32) (w : pm_W) : Option (Int32 × pm_W) :=
  Option.bind (f_Room_tail S (w.1 4 0) x1 w) fun o1 =>
  Option.bind (f_Room_first S o1.1 o1.2) fun o2 =>
  some (o2.1, o2.2)
set_option maxHeartbeats 4000000 in
set_option maxRecDepth 100000 in
theorem t_Machine_part {p : Program} {l : Launch} {e : Env} {s : State} {m : MethodId} {args : Array Value} {below : List Frame} {meth : Method} {c : Code} {D : va_G} {ca : Nat → ClassId} {ad : Nat → Nat} {E : (Nat → Prop) → State → Heap → Prop} {S : Nat} (K : pm_ok p s m args meth c k_Machine_part 2 pmTs R_Machine D vwCl (tyl ca) (shC S) ad E (some .int)) (r : Int32) (w' : pm_W) (x1 : Int32) (w : pm_W) (hf : f_Machine_part  S x1 w = some (r, w')) : pm_wk p l e { frames := 3, cells := 0, slots := 0, locals := 68 } s m args below meth c D vwCl (shC S) ca ad 2 (some (.int r), w') 0 [(0, .ref (ad 6)), (1, .int x1)] [] w := by
  unfold f_Machine_part at hf
  refine pm_aload_n K d_Machine_part_0 0 rfl rfl ?_
  refine pm_getR K fc_6 (o := 6) rfl 1 rfl (by decide) tw_281 d_Machine_part_1 ?_
  refine pm_aload_n K d_Machine_part_4 0 rfl rfl ?_
  refine pm_getR K fc_6 (o := 6) rfl 1 rfl (by decide) tw_281 d_Machine_part_5 ?_
  refine pm_aload_n K d_Machine_part_8 0 rfl rfl ?_
  refine pm_getR K fc_6 (o := 6) rfl 0 rfl (by decide) tw_280 d_Machine_part_9 ?_
  refine pm_getIN K fc_4 (o := 4) rfl 0 rfl (by decide) tw_205 d_Machine_part_12 (v := w.1 4 0) rfl ?_
  refine pm_iload_n K d_Machine_part_15 1 rfl rfl ?_
  obtain ⟨o1, z1, hf⟩ := pm_bind hf
  refine pm_callV (As := [.int (w.1 4 0), .int x1]) (rest := [.ref (ad 5)]) (o := 5) K (c_Room_tail K.2.2.2.2.2.2.2.2.2.2.2.2 o1.1 o1.2 (w.1 4 0) x1 w z1) mi_Room_tail rfl rfl tw_467 tw_468 tw_466 rfl ⟨rfl, rfl, Nat.le_of_ble_eq_true rfl, Nat.le_of_ble_eq_true rfl⟩ rfl (Nat.le_of_ble_eq_true rfl) d_Machine_part_16 ?_
  obtain ⟨o2, z2, hf⟩ := pm_bind hf
  refine pm_callV (As := [.int o1.1]) (rest := []) (o := 5) K (c_Room_first K.2.2.2.2.2.2.2.2.2.2.2.2 o2.1 o2.2 o1.1 o1.2 z2) mi_Room_first rfl rfl tw_438 tw_439 tw_455 rfl ⟨rfl, rfl, Nat.le_of_ble_eq_true rfl, Nat.le_of_ble_eq_true rfl⟩ rfl (Nat.le_of_ble_eq_true rfl) d_Machine_part_19 ?_
  cases hf
  exact pm_iret K d_Machine_part_22
/-- CellLisp$Machine.part(I)I -/
theorem c_Machine_part {l : Launch} {D : va_G} {ca : Nat → ClassId} {ad : Nat → Nat} {E : (Nat → Prop) → State → Heap → Prop} {S : Nat} (hEc : pm_Ecl E) (r : Int32) (w' : pm_W) (x1 : Int32) (w : pm_W) (hf : f_Machine_part  S x1 w = some (r, w')) : pm_Met l pmTs D vwCl (tyl ca) (shC S) ca ad E y_Machine_part k_Machine_part 2 (some .int) { frames := 3, cells := 0, slots := 0, locals := 68 } [.ref (ad 6), .int x1] w (some (.int r), w') :=
  pm_start pmTs_good hEc (by decide) (Nat.le_of_ble_eq_true rfl) (fun p e s m below meth c K => t_Machine_part K r w' x1 w hf)
def f_Machine_evaluateQuote (S : Nat) (w : pm_W) : Option (Int32 × pm_W) :=
  Option.bind (f_Room_length S (w.1 4 0) w) fun o1 =>
  if o1.1 = (2 : Int32) then
    Option.bind (f_Machine_part S (1 : Int32) o1.2) fun o3 =>
    Option.bind (f_Machine_returnNext S o3.1 o3.2) fun o4 =>
    some (o4.1, o4.2)
  else
    some ((-3 : Int32), o1.2)
set_option maxHeartbeats 4000000 in
set_option maxRecDepth 100000 in
theorem t_Machine_evaluateQuote {p : Program} {l : Launch} {e : Env} {s : State} {m : MethodId} {args : Array Value} {below : List Frame} {meth : Method} {c : Code} {D : va_G} {ca : Nat → ClassId} {ad : Nat → Nat} {E : (Nat → Prop) → State → Heap → Prop} {S : Nat} (K : pm_ok p s m args meth c k_Machine_evaluateQuote 1 pmTs R_Machine D vwCl (tyl ca) (shC S) ad E (some .int)) (r : Int32) (w' : pm_W) (w : pm_W) (hf : f_Machine_evaluateQuote  S w = some (r, w')) : pm_wk p l e { frames := 4, cells := 0, slots := 0, locals := 89 } s m args below meth c D vwCl (shC S) ca ad 1 (some (.int r), w') 0 [(0, .ref (ad 6))] [] w := by
  unfold f_Machine_evaluateQuote at hf
  refine pm_aload_n K d_Machine_evaluateQuote_0 0 rfl rfl ?_
  refine pm_getR K fc_6 (o := 6) rfl 1 rfl (by decide) tw_281 d_Machine_evaluateQuote_1 ?_
  refine pm_aload_n K d_Machine_evaluateQuote_4 0 rfl rfl ?_
  refine pm_getR K fc_6 (o := 6) rfl 0 rfl (by decide) tw_280 d_Machine_evaluateQuote_5 ?_
  refine pm_getIN K fc_4 (o := 4) rfl 0 rfl (by decide) tw_205 d_Machine_evaluateQuote_8 (v := w.1 4 0) rfl ?_
  obtain ⟨o1, z1, hf⟩ := pm_bind hf
  refine pm_callV (As := [.int (w.1 4 0)]) (rest := []) (o := 5) K (c_Room_length K.2.2.2.2.2.2.2.2.2.2.2.2 o1.1 o1.2 (w.1 4 0) w z1) mi_Room_length rfl rfl tw_460 tw_461 tw_459 rfl ⟨rfl, rfl, Nat.le_of_ble_eq_true rfl, Nat.le_of_ble_eq_true rfl⟩ rfl (Nat.le_of_ble_eq_true rfl) d_Machine_evaluateQuote_11 ?_
  refine pm_iconst (v := 2) K d_Machine_evaluateQuote_14 (by decide) ?_
  refine pm_icmp_ne K d_Machine_evaluateQuote_15 30 (by decide) (fun c2 => ?_) (fun c2 => ?_)
  · have hf := pm_iff c2 hf
    refine pm_bipush (v := -3) K d_Machine_evaluateQuote_30 (by decide) ?_
    cases hf
    exact pm_iret K d_Machine_evaluateQuote_32
  · have hf := pm_ift c2 hf
    refine pm_aload_n K d_Machine_evaluateQuote_18 0 rfl rfl ?_
    refine pm_aload_n K d_Machine_evaluateQuote_19 0 rfl rfl ?_
    refine pm_iconst (v := 1) K d_Machine_evaluateQuote_20 (by decide) ?_
    obtain ⟨o3, z3, hf⟩ := pm_bind hf
    refine pm_callV (As := [.int (1 : Int32)]) (rest := [.ref (ad 6)]) (o := 6) K (c_Machine_part K.2.2.2.2.2.2.2.2.2.2.2.2 o3.1 o3.2 (1 : Int32) o1.2 z3) mi_Machine_part rfl rfl tw_464 tw_16 tw_463 rfl ⟨rfl, rfl, Nat.le_of_ble_eq_true rfl, Nat.le_of_ble_eq_true rfl⟩ rfl (Nat.le_of_ble_eq_true rfl) d_Machine_evaluateQuote_21 ?_
    obtain ⟨o4, z4, hf⟩ := pm_bind hf
    refine pm_callV (As := [.int o3.1]) (rest := []) (o := 6) K (c_Machine_returnNext K.2.2.2.2.2.2.2.2.2.2.2.2 o4.1 o4.2 o3.1 o3.2 z4) mi_Machine_returnNext rfl rfl tw_447 tw_14 tw_446 rfl ⟨rfl, rfl, Nat.le_of_ble_eq_true rfl, Nat.le_of_ble_eq_true rfl⟩ rfl (Nat.le_of_ble_eq_true rfl) d_Machine_evaluateQuote_24 ?_
    refine pm_goto K d_Machine_evaluateQuote_27 32 (by decide) ?_
    cases hf
    exact pm_iret K d_Machine_evaluateQuote_32
/-- CellLisp$Machine.evaluateQuote()I -/
theorem c_Machine_evaluateQuote {l : Launch} {D : va_G} {ca : Nat → ClassId} {ad : Nat → Nat} {E : (Nat → Prop) → State → Heap → Prop} {S : Nat} (hEc : pm_Ecl E) (r : Int32) (w' : pm_W) (w : pm_W) (hf : f_Machine_evaluateQuote  S w = some (r, w')) : pm_Met l pmTs D vwCl (tyl ca) (shC S) ca ad E y_Machine_evaluateQuote k_Machine_evaluateQuote 1 (some .int) { frames := 4, cells := 0, slots := 0, locals := 89 } [.ref (ad 6)] w (some (.int r), w') :=
  pm_start pmTs_good hEc (by decide) (Nat.le_of_ble_eq_true rfl) (fun p e s m below meth c K => t_Machine_evaluateQuote K r w'  w hf)
def f_Machine_evaluateUnder (S : Nat) (x1 : Int32) (x2 : Int32) (x3 : Int32) (x4 : Int32) (w : pm_W) : Option (Int32 × pm_W) :=
  Option.bind (f_State_push S x1 x2 x3 w) fun o1 =>
  if o1.1 = 0 then
    some ((-6 : Int32), o1.2)
  else
    Option.bind (f_Machine_evaluateNext S x4 (o1.2.1 4 1) o1.2) fun o3 =>
    some (o3.1, o3.2)
set_option maxHeartbeats 4000000 in
set_option maxRecDepth 100000 in
theorem t_Machine_evaluateUnder {p : Program} {l : Launch} {e : Env} {s : State} {m : MethodId} {args : Array Value} {below : List Frame} {meth : Method} {c : Code} {D : va_G} {ca : Nat → ClassId} {ad : Nat → Nat} {E : (Nat → Prop) → State → Heap → Prop} {S : Nat} (K : pm_ok p s m args meth c k_Machine_evaluateUnder 5 pmTs R_Machine D vwCl (tyl ca) (shC S) ad E (some .int)) (r : Int32) (w' : pm_W) (x1 : Int32) (x2 : Int32) (x3 : Int32) (x4 : Int32) (w : pm_W) (hf : f_Machine_evaluateUnder  S x1 x2 x3 x4 w = some (r, w')) : pm_wk p l e { frames := 1, cells := 0, slots := 0, locals := 23 } s m args below meth c D vwCl (shC S) ca ad 5 (some (.int r), w') 0 [(0, .ref (ad 6)), (1, .int x1), (2, .int x2), (3, .int x3), (4, .int x4)] [] w := by
  unfold f_Machine_evaluateUnder at hf
  refine pm_aload_n K d_Machine_evaluateUnder_0 0 rfl rfl ?_
  refine pm_getR K fc_6 (o := 6) rfl 0 rfl (by decide) tw_280 d_Machine_evaluateUnder_1 ?_
  refine pm_iload_n K d_Machine_evaluateUnder_4 1 rfl rfl ?_
  refine pm_iload_n K d_Machine_evaluateUnder_5 2 rfl rfl ?_
  refine pm_iload_n K d_Machine_evaluateUnder_6 3 rfl rfl ?_
  obtain ⟨o1, z1, hf⟩ := pm_bind hf
  refine pm_callV (As := [.int x1, .int x2, .int x3]) (rest := []) (o := 4) K (c_State_push K.2.2.2.2.2.2.2.2.2.2.2.2 o1.1 o1.2 x1 x2 x3 w z1) mi_State_push rfl rfl tw_477 tw_478 tw_476 rfl ⟨rfl, rfl, Nat.le_of_ble_eq_true rfl, Nat.le_of_ble_eq_true rfl⟩ rfl (Nat.le_of_ble_eq_true rfl) d_Machine_evaluateUnder_7 ?_
  refine pm_if_ne K d_Machine_evaluateUnder_10 16 (by decide) (fun c2 => ?_) (fun c2 => ?_)
  · have hf := pm_iff c2 hf
    refine pm_aload_n K d_Machine_evaluateUnder_16 0 rfl rfl ?_
    refine pm_iload K d_Machine_evaluateUnder_17 4 rfl ?_
    refine pm_aload_n K d_Machine_evaluateUnder_19 0 rfl rfl ?_
    refine pm_getR K fc_6 (o := 6) rfl 0 rfl (by decide) tw_280 d_Machine_evaluateUnder_20 ?_
    refine pm_getIN K fc_4 (o := 4) rfl 1 rfl (by decide) tw_208 d_Machine_evaluateUnder_23 (v := o1.2.1 4 1) rfl ?_
    obtain ⟨o3, z3, hf⟩ := pm_bind hf
    refine pm_callV (As := [.int x4, .int (o1.2.1 4 1)]) (rest := []) (o := 6) K (c_Machine_evaluateNext K.2.2.2.2.2.2.2.2.2.2.2.2 o3.1 o3.2 x4 (o1.2.1 4 1) o1.2 z3) mi_Machine_evaluateNext rfl rfl tw_418 tw_11 tw_417 rfl ⟨rfl, rfl, Nat.le_of_ble_eq_true rfl, Nat.le_of_ble_eq_true rfl⟩ rfl (Nat.le_of_ble_eq_true rfl) d_Machine_evaluateUnder_26 ?_
    cases hf
    exact pm_iret K d_Machine_evaluateUnder_29
  · have hf := pm_ift c2 hf
    refine pm_bipush (v := -6) K d_Machine_evaluateUnder_13 (by decide) ?_
    cases hf
    exact pm_iret K d_Machine_evaluateUnder_15
/-- CellLisp$Machine.evaluateUnder(IIII)I -/
theorem c_Machine_evaluateUnder {l : Launch} {D : va_G} {ca : Nat → ClassId} {ad : Nat → Nat} {E : (Nat → Prop) → State → Heap → Prop} {S : Nat} (hEc : pm_Ecl E) (r : Int32) (w' : pm_W) (x1 : Int32) (x2 : Int32) (x3 : Int32) (x4 : Int32) (w : pm_W) (hf : f_Machine_evaluateUnder  S x1 x2 x3 x4 w = some (r, w')) : pm_Met l pmTs D vwCl (tyl ca) (shC S) ca ad E y_Machine_evaluateUnder k_Machine_evaluateUnder 5 (some .int) { frames := 1, cells := 0, slots := 0, locals := 23 } [.ref (ad 6), .int x1, .int x2, .int x3, .int x4] w (some (.int r), w') :=
  pm_start pmTs_good hEc (by decide) (Nat.le_of_ble_eq_true rfl) (fun p e s m below meth c K => t_Machine_evaluateUnder K r w' x1 x2 x3 x4 w hf)
def f_Machine_evaluateIf (S : Nat) (w : pm_W) : Option (Int32 × pm_W) :=
  Option.bind (f_Room_length S (w.1 4 0) w) fun o1 =>
  if o1.1 = (3 : Int32) then
    Option.bind (f_Room_tail S (o1.2.1 4 0) (2 : Int32) o1.2) fun o3 =>
    Option.bind (f_Machine_part S (1 : Int32) o3.2) fun o4 =>
    Option.bind (f_Machine_evaluateUnder S (1 : Int32) o3.1 (o3.2.1 4 1) o4.1 o4.2) fun o5 =>
    some (o5.1, o5.2)
  else
    if o1.1 = (4 : Int32) then
      Option.bind (f_Room_tail S (o1.2.1 4 0) (2 : Int32) o1.2) fun o7 =>
      Option.bind (f_Machine_part S (1 : Int32) o7.2) fun o8 =>
      Option.bind (f_Machine_evaluateUnder S (1 : Int32) o7.1 (o7.2.1 4 1) o8.1 o8.2) fun o9 =>
      some (o9.1, o9.2)
    else
      some ((-3 : Int32), o1.2)
set_option maxHeartbeats 4000000 in
set_option maxRecDepth 100000 in
theorem t_Machine_evaluateIf {p : Program} {l : Launch} {e : Env} {s : State} {m : MethodId} {args : Array Value} {below : List Frame} {meth : Method} {c : Code} {D : va_G} {ca : Nat → ClassId} {ad : Nat → Nat} {E : (Nat → Prop) → State → Heap → Prop} {S : Nat} (K : pm_ok p s m args meth c k_Machine_evaluateIf 2 pmTs R_Machine D vwCl (tyl ca) (shC S) ad E (some .int)) (r : Int32) (w' : pm_W) (w : pm_W) (hf : f_Machine_evaluateIf  S w = some (r, w')) : pm_wk p l e { frames := 4, cells := 0, slots := 0, locals := 89 } s m args below meth c D vwCl (shC S) ca ad 2 (some (.int r), w') 0 [(0, .ref (ad 6))] [] w := by
  unfold f_Machine_evaluateIf at hf
  refine pm_aload_n K d_Machine_evaluateIf_0 0 rfl rfl ?_
  refine pm_getR K fc_6 (o := 6) rfl 1 rfl (by decide) tw_281 d_Machine_evaluateIf_1 ?_
  refine pm_aload_n K d_Machine_evaluateIf_4 0 rfl rfl ?_
  refine pm_getR K fc_6 (o := 6) rfl 0 rfl (by decide) tw_280 d_Machine_evaluateIf_5 ?_
  refine pm_getIN K fc_4 (o := 4) rfl 0 rfl (by decide) tw_205 d_Machine_evaluateIf_8 (v := w.1 4 0) rfl ?_
  obtain ⟨o1, z1, hf⟩ := pm_bind hf
  refine pm_callV (As := [.int (w.1 4 0)]) (rest := []) (o := 5) K (c_Room_length K.2.2.2.2.2.2.2.2.2.2.2.2 o1.1 o1.2 (w.1 4 0) w z1) mi_Room_length rfl rfl tw_460 tw_461 tw_459 rfl ⟨rfl, rfl, Nat.le_of_ble_eq_true rfl, Nat.le_of_ble_eq_true rfl⟩ rfl (Nat.le_of_ble_eq_true rfl) d_Machine_evaluateIf_11 ?_
  refine pm_istore_n (lv' := [(1, .int o1.1), (0, .ref (ad 6))]) K d_Machine_evaluateIf_14 rfl (by decide) rfl ?_
  refine pm_iload_n K d_Machine_evaluateIf_15 0 rfl rfl ?_
  refine pm_iconst (v := 3) K d_Machine_evaluateIf_16 (by decide) ?_
  refine pm_icmp_eq K d_Machine_evaluateIf_17 28 (by decide) (fun c2 => ?_) (fun c2 => ?_)
  · have hf := pm_ift c2 hf
    refine pm_aload_n K d_Machine_evaluateIf_28 1 rfl rfl ?_
    refine pm_iconst (v := 1) K d_Machine_evaluateIf_29 (by decide) ?_
    refine pm_aload_n K d_Machine_evaluateIf_30 1 rfl rfl ?_
    refine pm_getR K fc_6 (o := 6) rfl 1 rfl (by decide) tw_281 d_Machine_evaluateIf_31 ?_
    refine pm_aload_n K d_Machine_evaluateIf_34 1 rfl rfl ?_
    refine pm_getR K fc_6 (o := 6) rfl 0 rfl (by decide) tw_280 d_Machine_evaluateIf_35 ?_
    refine pm_getIN K fc_4 (o := 4) rfl 0 rfl (by decide) tw_205 d_Machine_evaluateIf_38 (v := o1.2.1 4 0) rfl ?_
    refine pm_iconst (v := 2) K d_Machine_evaluateIf_41 (by decide) ?_
    obtain ⟨o3, z3, hf⟩ := pm_bind hf
    refine pm_callV (As := [.int (o1.2.1 4 0), .int (2 : Int32)]) (rest := [.int (1 : Int32), .ref (ad 6)]) (o := 5) K (c_Room_tail K.2.2.2.2.2.2.2.2.2.2.2.2 o3.1 o3.2 (o1.2.1 4 0) (2 : Int32) o1.2 z3) mi_Room_tail rfl rfl tw_467 tw_468 tw_466 rfl ⟨rfl, rfl, Nat.le_of_ble_eq_true rfl, Nat.le_of_ble_eq_true rfl⟩ rfl (Nat.le_of_ble_eq_true rfl) d_Machine_evaluateIf_42 ?_
    refine pm_aload_n K d_Machine_evaluateIf_45 1 rfl rfl ?_
    refine pm_getR K fc_6 (o := 6) rfl 0 rfl (by decide) tw_280 d_Machine_evaluateIf_46 ?_
    refine pm_getIN K fc_4 (o := 4) rfl 1 rfl (by decide) tw_208 d_Machine_evaluateIf_49 (v := o3.2.1 4 1) rfl ?_
    refine pm_aload_n K d_Machine_evaluateIf_52 1 rfl rfl ?_
    refine pm_iconst (v := 1) K d_Machine_evaluateIf_53 (by decide) ?_
    obtain ⟨o4, z4, hf⟩ := pm_bind hf
    refine pm_callV (As := [.int (1 : Int32)]) (rest := [.int (o3.2.1 4 1), .int o3.1, .int (1 : Int32), .ref (ad 6)]) (o := 6) K (c_Machine_part K.2.2.2.2.2.2.2.2.2.2.2.2 o4.1 o4.2 (1 : Int32) o3.2 z4) mi_Machine_part rfl rfl tw_464 tw_16 tw_463 rfl ⟨rfl, rfl, Nat.le_of_ble_eq_true rfl, Nat.le_of_ble_eq_true rfl⟩ rfl (Nat.le_of_ble_eq_true rfl) d_Machine_evaluateIf_54 ?_
    obtain ⟨o5, z5, hf⟩ := pm_bind hf
    refine pm_callV (As := [.int (1 : Int32), .int o3.1, .int (o3.2.1 4 1), .int o4.1]) (rest := []) (o := 6) K (c_Machine_evaluateUnder K.2.2.2.2.2.2.2.2.2.2.2.2 o5.1 o5.2 (1 : Int32) o3.1 (o3.2.1 4 1) o4.1 o4.2 z5) mi_Machine_evaluateUnder rfl rfl tw_474 tw_18 tw_473 rfl ⟨rfl, rfl, Nat.le_of_ble_eq_true rfl, Nat.le_of_ble_eq_true rfl⟩ rfl (Nat.le_of_ble_eq_true rfl) d_Machine_evaluateIf_57 ?_
    cases hf
    exact pm_iret K d_Machine_evaluateIf_60
  · have hf := pm_iff c2 hf
    refine pm_iload_n K d_Machine_evaluateIf_20 0 rfl rfl ?_
    refine pm_iconst (v := 4) K d_Machine_evaluateIf_21 (by decide) ?_
    refine pm_icmp_eq K d_Machine_evaluateIf_22 28 (by decide) (fun c6 => ?_) (fun c6 => ?_)
    · have hf := pm_ift c6 hf
      refine pm_aload_n K d_Machine_evaluateIf_28 1 rfl rfl ?_
      refine pm_iconst (v := 1) K d_Machine_evaluateIf_29 (by decide) ?_
      refine pm_aload_n K d_Machine_evaluateIf_30 1 rfl rfl ?_
      refine pm_getR K fc_6 (o := 6) rfl 1 rfl (by decide) tw_281 d_Machine_evaluateIf_31 ?_
      refine pm_aload_n K d_Machine_evaluateIf_34 1 rfl rfl ?_
      refine pm_getR K fc_6 (o := 6) rfl 0 rfl (by decide) tw_280 d_Machine_evaluateIf_35 ?_
      refine pm_getIN K fc_4 (o := 4) rfl 0 rfl (by decide) tw_205 d_Machine_evaluateIf_38 (v := o1.2.1 4 0) rfl ?_
      refine pm_iconst (v := 2) K d_Machine_evaluateIf_41 (by decide) ?_
      obtain ⟨o7, z7, hf⟩ := pm_bind hf
      refine pm_callV (As := [.int (o1.2.1 4 0), .int (2 : Int32)]) (rest := [.int (1 : Int32), .ref (ad 6)]) (o := 5) K (c_Room_tail K.2.2.2.2.2.2.2.2.2.2.2.2 o7.1 o7.2 (o1.2.1 4 0) (2 : Int32) o1.2 z7) mi_Room_tail rfl rfl tw_467 tw_468 tw_466 rfl ⟨rfl, rfl, Nat.le_of_ble_eq_true rfl, Nat.le_of_ble_eq_true rfl⟩ rfl (Nat.le_of_ble_eq_true rfl) d_Machine_evaluateIf_42 ?_
      refine pm_aload_n K d_Machine_evaluateIf_45 1 rfl rfl ?_
      refine pm_getR K fc_6 (o := 6) rfl 0 rfl (by decide) tw_280 d_Machine_evaluateIf_46 ?_
      refine pm_getIN K fc_4 (o := 4) rfl 1 rfl (by decide) tw_208 d_Machine_evaluateIf_49 (v := o7.2.1 4 1) rfl ?_
      refine pm_aload_n K d_Machine_evaluateIf_52 1 rfl rfl ?_
      refine pm_iconst (v := 1) K d_Machine_evaluateIf_53 (by decide) ?_
      obtain ⟨o8, z8, hf⟩ := pm_bind hf
      refine pm_callV (As := [.int (1 : Int32)]) (rest := [.int (o7.2.1 4 1), .int o7.1, .int (1 : Int32), .ref (ad 6)]) (o := 6) K (c_Machine_part K.2.2.2.2.2.2.2.2.2.2.2.2 o8.1 o8.2 (1 : Int32) o7.2 z8) mi_Machine_part rfl rfl tw_464 tw_16 tw_463 rfl ⟨rfl, rfl, Nat.le_of_ble_eq_true rfl, Nat.le_of_ble_eq_true rfl⟩ rfl (Nat.le_of_ble_eq_true rfl) d_Machine_evaluateIf_54 ?_
      obtain ⟨o9, z9, hf⟩ := pm_bind hf
      refine pm_callV (As := [.int (1 : Int32), .int o7.1, .int (o7.2.1 4 1), .int o8.1]) (rest := []) (o := 6) K (c_Machine_evaluateUnder K.2.2.2.2.2.2.2.2.2.2.2.2 o9.1 o9.2 (1 : Int32) o7.1 (o7.2.1 4 1) o8.1 o8.2 z9) mi_Machine_evaluateUnder rfl rfl tw_474 tw_18 tw_473 rfl ⟨rfl, rfl, Nat.le_of_ble_eq_true rfl, Nat.le_of_ble_eq_true rfl⟩ rfl (Nat.le_of_ble_eq_true rfl) d_Machine_evaluateIf_57 ?_
      cases hf
      exact pm_iret K d_Machine_evaluateIf_60
    · have hf := pm_iff c6 hf
      refine pm_bipush (v := -3) K d_Machine_evaluateIf_25 (by decide) ?_
      cases hf
      exact pm_iret K d_Machine_evaluateIf_27
/-- CellLisp$Machine.evaluateIf()I -/
theorem c_Machine_evaluateIf {l : Launch} {D : va_G} {ca : Nat → ClassId} {ad : Nat → Nat} {E : (Nat → Prop) → State → Heap → Prop} {S : Nat} (hEc : pm_Ecl E) (r : Int32) (w' : pm_W) (w : pm_W) (hf : f_Machine_evaluateIf  S w = some (r, w')) : pm_Met l pmTs D vwCl (tyl ca) (shC S) ca ad E y_Machine_evaluateIf k_Machine_evaluateIf 2 (some .int) { frames := 4, cells := 0, slots := 0, locals := 89 } [.ref (ad 6)] w (some (.int r), w') :=
  pm_start pmTs_good hEc (by decide) (Nat.le_of_ble_eq_true rfl) (fun p e s m below meth c K => t_Machine_evaluateIf K r w'  w hf)
def b_Machine_areParameters_4 (S : Nat) (rec : Nat → Int32 → Int32 → pm_W → Option (Int32 × pm_W)) (x2 : Int32) (x3 : Int32) (w : pm_W) : Option (Int32 × pm_W) :=
  if (4 : Int32) ≤ x3 then
    if x2 = (2 : Int32) then
      some ((1 : Int32), w)
    else
      some ((0 : Int32), w)
  else
    Option.bind (f_Value_isPair S x2 w) fun o3 =>
    if o3.1 = 0 then
      if x2 = (2 : Int32) then
        some ((1 : Int32), o3.2)
      else
        some ((0 : Int32), o3.2)
    else
      Option.bind (f_Room_first S x2 o3.2) fun o6 =>
      Option.bind (f_Value_isSymbol S o6.1 o6.2) fun o7 =>
      if o7.1 = 0 then
        some ((0 : Int32), o7.2)
      else
        Option.bind (f_Room_second S x2 o7.2) fun o9 =>
        rec 0 o9.1 (x3 + (1 : Int32)) o9.2
def l_Machine_areParameters (S : Nat) : Nat → Nat → Int32 → Int32 → pm_W → Option (Int32 × pm_W) := pm_it (fun _ _ _ _ => none) (fun rec k x2 x3 w => b_Machine_areParameters_4  S rec x2 x3 w)
def f_Machine_areParameters (S : Nat) (x1 : Int32) (w : pm_W) : Option (Int32 × pm_W) :=
  (l_Machine_areParameters  S pm_fuel) 0 x1 (0 : Int32) w
set_option maxHeartbeats 4000000 in
set_option maxRecDepth 100000 in
theorem t_Machine_areParameters_4 {p : Program} {l : Launch} {e : Env} {s : State} {m : MethodId} {args : Array Value} {below : List Frame} {meth : Method} {c : Code} {D : va_G} {ca : Nat → ClassId} {ad : Nat → Nat} {E : (Nat → Prop) → State → Heap → Prop} {S : Nat} (K : pm_ok p s m args meth c k_Machine_areParameters 4 pmTs R_Machine D vwCl (tyl ca) (shC S) ad E (some .boolean)) (rec : Nat → Int32 → Int32 → pm_W → Option (Int32 × pm_W)) (r : Int32) (w' : pm_W) (h4 : ∀ (x2 : Int32) (x3 : Int32) (w : pm_W), rec 0 x2 x3 w = some (r, w') → pm_wk p l e { frames := 2, cells := 0, slots := 0, locals := 44 } s m args below meth c D vwCl (shC S) ca ad 4 (some (.int r), w') 4 [(0, .ref (ad 6)), (2, .int x2), (3, .int x3)] [] w) (x2 : Int32) (x3 : Int32) (w : pm_W) (hf : b_Machine_areParameters_4  S rec x2 x3 w = some (r, w')) : pm_wk p l e { frames := 2, cells := 0, slots := 0, locals := 44 } s m args below meth c D vwCl (shC S) ca ad 4 (some (.int r), w') 4 [(0, .ref (ad 6)), (2, .int x2), (3, .int x3)] [] w := by
  unfold b_Machine_areParameters_4 at hf
  refine pm_iload_n K d_Machine_areParameters_4 2 rfl rfl ?_
  refine pm_iconst (v := 4) K d_Machine_areParameters_5 (by decide) ?_
  refine pm_icmp_ge K d_Machine_areParameters_6 47 (by decide) (fun c1 => ?_) (fun c1 => ?_)
  · have hf := pm_ift c1 hf
    refine pm_iload_n K d_Machine_areParameters_47 1 rfl rfl ?_
    refine pm_iconst (v := 2) K d_Machine_areParameters_48 (by decide) ?_
    refine pm_icmp_ne K d_Machine_areParameters_49 56 (by decide) (fun c2 => ?_) (fun c2 => ?_)
    · have hf := pm_iff c2 hf
      refine pm_iconst (v := 0) K d_Machine_areParameters_56 (by decide) ?_
      cases hf
      exact pm_zret K (by decide) d_Machine_areParameters_57
    · have hf := pm_ift c2 hf
      refine pm_iconst (v := 1) K d_Machine_areParameters_52 (by decide) ?_
      refine pm_goto K d_Machine_areParameters_53 57 (by decide) ?_
      cases hf
      exact pm_zret K (by decide) d_Machine_areParameters_57
  · have hf := pm_iff c1 hf
    refine pm_iload_n K d_Machine_areParameters_9 1 rfl rfl ?_
    obtain ⟨o3, z3, hf⟩ := pm_bind hf
    refine pm_callS (As := [.int x2]) (rest := []) K (c_Value_isPair K.2.2.2.2.2.2.2.2.2.2.2.2 o3.1 o3.2 x2 w z3) mi_Value_isPair tw_435 tw_454 rfl ⟨rfl, rfl, Nat.le_of_ble_eq_true rfl, Nat.le_of_ble_eq_true rfl⟩ rfl (Nat.le_of_ble_eq_true rfl) d_Machine_areParameters_10 ?_
    refine pm_if_eq K d_Machine_areParameters_13 47 (by decide) (fun c4 => ?_) (fun c4 => ?_)
    · have hf := pm_ift c4 hf
      refine pm_iload_n K d_Machine_areParameters_47 1 rfl rfl ?_
      refine pm_iconst (v := 2) K d_Machine_areParameters_48 (by decide) ?_
      refine pm_icmp_ne K d_Machine_areParameters_49 56 (by decide) (fun c5 => ?_) (fun c5 => ?_)
      · have hf := pm_iff c5 hf
        refine pm_iconst (v := 0) K d_Machine_areParameters_56 (by decide) ?_
        cases hf
        exact pm_zret K (by decide) d_Machine_areParameters_57
      · have hf := pm_ift c5 hf
        refine pm_iconst (v := 1) K d_Machine_areParameters_52 (by decide) ?_
        refine pm_goto K d_Machine_areParameters_53 57 (by decide) ?_
        cases hf
        exact pm_zret K (by decide) d_Machine_areParameters_57
    · have hf := pm_iff c4 hf
      refine pm_aload_n K d_Machine_areParameters_16 0 rfl rfl ?_
      refine pm_getR K fc_6 (o := 6) rfl 1 rfl (by decide) tw_281 d_Machine_areParameters_17 ?_
      refine pm_iload_n K d_Machine_areParameters_20 1 rfl rfl ?_
      obtain ⟨o6, z6, hf⟩ := pm_bind hf
      refine pm_callV (As := [.int x2]) (rest := []) (o := 5) K (c_Room_first K.2.2.2.2.2.2.2.2.2.2.2.2 o6.1 o6.2 x2 o3.2 z6) mi_Room_first rfl rfl tw_438 tw_439 tw_455 rfl ⟨rfl, rfl, Nat.le_of_ble_eq_true rfl, Nat.le_of_ble_eq_true rfl⟩ rfl (Nat.le_of_ble_eq_true rfl) d_Machine_areParameters_21 ?_
      obtain ⟨o7, z7, hf⟩ := pm_bind hf
      refine pm_callS (As := [.int o6.1]) (rest := []) K (c_Value_isSymbol K.2.2.2.2.2.2.2.2.2.2.2.2 o7.1 o7.2 o6.1 o6.2 z7) mi_Value_isSymbol tw_424 tw_423 rfl ⟨rfl, rfl, Nat.le_of_ble_eq_true rfl, Nat.le_of_ble_eq_true rfl⟩ rfl (Nat.le_of_ble_eq_true rfl) d_Machine_areParameters_24 ?_
      refine pm_if_ne K d_Machine_areParameters_27 32 (by decide) (fun c8 => ?_) (fun c8 => ?_)
      · have hf := pm_iff c8 hf
        refine pm_aload_n K d_Machine_areParameters_32 0 rfl rfl ?_
        refine pm_getR K fc_6 (o := 6) rfl 1 rfl (by decide) tw_281 d_Machine_areParameters_33 ?_
        refine pm_iload_n K d_Machine_areParameters_36 1 rfl rfl ?_
        obtain ⟨o9, z9, hf⟩ := pm_bind hf
        refine pm_callV (As := [.int x2]) (rest := []) (o := 5) K (c_Room_second K.2.2.2.2.2.2.2.2.2.2.2.2 o9.1 o9.2 x2 o7.2 z9) mi_Room_second rfl rfl tw_442 tw_443 tw_445 rfl ⟨rfl, rfl, Nat.le_of_ble_eq_true rfl, Nat.le_of_ble_eq_true rfl⟩ rfl (Nat.le_of_ble_eq_true rfl) d_Machine_areParameters_37 ?_
        refine pm_istore_n (lv' := [(2, .int o9.1), (0, .ref (ad 6)), (3, .int x3)]) K d_Machine_areParameters_40 rfl (by decide) rfl ?_
        refine pm_iinc (v := x3 + (1 : Int32)) (lv' := [(3, .int (x3 + (1 : Int32))), (2, .int o9.1), (0, .ref (ad 6))]) K d_Machine_areParameters_41 2 rfl rfl (by decide) rfl ?_
        refine pm_goto K d_Machine_areParameters_44 4 (by decide) ?_
        refine pm_sub (lv' := [(0, .ref (ad 6)), (2, .int o9.1), (3, .int (x3 + (1 : Int32)))]) [2, 1, 0] rfl ?_
        exact h4 o9.1 (x3 + (1 : Int32)) o9.2 hf
      · have hf := pm_ift c8 hf
        refine pm_iconst (v := 0) K d_Machine_areParameters_30 (by decide) ?_
        cases hf
        exact pm_zret K (by decide) d_Machine_areParameters_31
set_option maxHeartbeats 4000000 in
set_option maxRecDepth 100000 in
theorem a_Machine_areParameters {p : Program} {l : Launch} {e : Env} {s : State} {m : MethodId} {args : Array Value} {below : List Frame} {meth : Method} {c : Code} {D : va_G} {ca : Nat → ClassId} {ad : Nat → Nat} {E : (Nat → Prop) → State → Heap → Prop} {S : Nat} (K : pm_ok p s m args meth c k_Machine_areParameters 4 pmTs R_Machine D vwCl (tyl ca) (shC S) ad E (some .boolean)) (r : Int32) (w' : pm_W) : ∀ n : Nat, (∀ (x2 : Int32) (x3 : Int32) (w : pm_W), l_Machine_areParameters  S n 0 x2 x3 w = some (r, w') → pm_wk p l e { frames := 2, cells := 0, slots := 0, locals := 44 } s m args below meth c D vwCl (shC S) ca ad 4 (some (.int r), w') 4 [(0, .ref (ad 6)), (2, .int x2), (3, .int x3)] [] w) := by
  intro n
  induction n with
  | zero => exact fun _ _ _ hf => (by cases hf)
  | succ n ih => exact fun x2 x3 w hf => t_Machine_areParameters_4 K (l_Machine_areParameters S n) r w' (ih) x2 x3 w hf
set_option maxHeartbeats 4000000 in
set_option maxRecDepth 100000 in
theorem t_Machine_areParameters {p : Program} {l : Launch} {e : Env} {s : State} {m : MethodId} {args : Array Value} {below : List Frame} {meth : Method} {c : Code} {D : va_G} {ca : Nat → ClassId} {ad : Nat → Nat} {E : (Nat → Prop) → State → Heap → Prop} {S : Nat} (K : pm_ok p s m args meth c k_Machine_areParameters 4 pmTs R_Machine D vwCl (tyl ca) (shC S) ad E (some .boolean)) (r : Int32) (w' : pm_W) (x1 : Int32) (w : pm_W) (hf : f_Machine_areParameters  S x1 w = some (r, w')) : pm_wk p l e { frames := 2, cells := 0, slots := 0, locals := 44 } s m args below meth c D vwCl (shC S) ca ad 4 (some (.int r), w') 0 [(0, .ref (ad 6)), (1, .int x1)] [] w := by
  unfold f_Machine_areParameters at hf
  have h4 := (a_Machine_areParameters (l := l) (e := e) (below := below) K  r w' pm_fuel)
  refine pm_iload_n K d_Machine_areParameters_0 1 rfl rfl ?_
  refine pm_istore_n (lv' := [(2, .int x1), (0, .ref (ad 6)), (1, .int x1)]) K d_Machine_areParameters_1 rfl (by decide) rfl ?_
  refine pm_iconst (v := 0) K d_Machine_areParameters_2 (by decide) ?_
  refine pm_istore_n (lv' := [(3, .int (0 : Int32)), (2, .int x1), (0, .ref (ad 6)), (1, .int x1)]) K d_Machine_areParameters_3 rfl (by decide) rfl ?_
  refine pm_sub (lv' := [(0, .ref (ad 6)), (2, .int x1), (3, .int (0 : Int32))]) [2, 1, 0] rfl ?_
  exact h4 x1 (0 : Int32) w hf
/-- CellLisp$Machine.areParameters(I)Z -/
theorem c_Machine_areParameters {l : Launch} {D : va_G} {ca : Nat → ClassId} {ad : Nat → Nat} {E : (Nat → Prop) → State → Heap → Prop} {S : Nat} (hEc : pm_Ecl E) (r : Int32) (w' : pm_W) (x1 : Int32) (w : pm_W) (hf : f_Machine_areParameters  S x1 w = some (r, w')) : pm_Met l pmTs D vwCl (tyl ca) (shC S) ca ad E y_Machine_areParameters k_Machine_areParameters 4 (some .boolean) { frames := 2, cells := 0, slots := 0, locals := 44 } [.ref (ad 6), .int x1] w (some (.int r), w') :=
  pm_start pmTs_good hEc (by decide) (Nat.le_of_ble_eq_true rfl) (fun p e s m below meth c K => t_Machine_areParameters K r w' x1 w hf)
def f_Machine_evaluateLambda (S : Nat) (w : pm_W) : Option (Int32 × pm_W) :=
  Option.bind (f_Room_length S (w.1 4 0) w) fun o1 =>
  if o1.1 = (3 : Int32) then
    Option.bind (f_Machine_part S (1 : Int32) o1.2) fun o3 =>
    Option.bind (f_Machine_areParameters S o3.1 o3.2) fun o4 =>
    if o4.1 = 0 then
      some ((-3 : Int32), o4.2)
    else
      Option.bind (f_Room_hasFor S (3 : Int32) o4.2) fun o6 =>
      if o6.1 = 0 then
        some ((-7 : Int32), o6.2)
      else
        Option.bind (f_Machine_part S (1 : Int32) o6.2) fun o8 =>
        Option.bind (f_Machine_part S (2 : Int32) o8.2) fun o9 =>
        Option.bind (f_Room_closure S o8.1 o9.1 (o9.2.1 4 1) o9.2) fun o10 =>
        Option.bind (f_Machine_returnNext S o10.1 o10.2) fun o11 =>
        some (o11.1, o11.2)
  else
    some ((-3 : Int32), o1.2)
set_option maxHeartbeats 4000000 in
set_option maxRecDepth 100000 in
theorem t_Machine_evaluateLambda {p : Program} {l : Launch} {e : Env} {s : State} {m : MethodId} {args : Array Value} {below : List Frame} {meth : Method} {c : Code} {D : va_G} {ca : Nat → ClassId} {ad : Nat → Nat} {E : (Nat → Prop) → State → Heap → Prop} {S : Nat} (K : pm_ok p s m args meth c k_Machine_evaluateLambda 1 pmTs R_Machine D vwCl (tyl ca) (shC S) ad E (some .int)) (r : Int32) (w' : pm_W) (w : pm_W) (hf : f_Machine_evaluateLambda  S w = some (r, w')) : pm_wk p l e { frames := 4, cells := 0, slots := 0, locals := 89 } s m args below meth c D vwCl (shC S) ca ad 1 (some (.int r), w') 0 [(0, .ref (ad 6))] [] w := by
  unfold f_Machine_evaluateLambda at hf
  refine pm_aload_n K d_Machine_evaluateLambda_0 0 rfl rfl ?_
  refine pm_getR K fc_6 (o := 6) rfl 1 rfl (by decide) tw_281 d_Machine_evaluateLambda_1 ?_
  refine pm_aload_n K d_Machine_evaluateLambda_4 0 rfl rfl ?_
  refine pm_getR K fc_6 (o := 6) rfl 0 rfl (by decide) tw_280 d_Machine_evaluateLambda_5 ?_
  refine pm_getIN K fc_4 (o := 4) rfl 0 rfl (by decide) tw_205 d_Machine_evaluateLambda_8 (v := w.1 4 0) rfl ?_
  obtain ⟨o1, z1, hf⟩ := pm_bind hf
  refine pm_callV (As := [.int (w.1 4 0)]) (rest := []) (o := 5) K (c_Room_length K.2.2.2.2.2.2.2.2.2.2.2.2 o1.1 o1.2 (w.1 4 0) w z1) mi_Room_length rfl rfl tw_460 tw_461 tw_459 rfl ⟨rfl, rfl, Nat.le_of_ble_eq_true rfl, Nat.le_of_ble_eq_true rfl⟩ rfl (Nat.le_of_ble_eq_true rfl) d_Machine_evaluateLambda_11 ?_
  refine pm_iconst (v := 3) K d_Machine_evaluateLambda_14 (by decide) ?_
  refine pm_icmp_ne K d_Machine_evaluateLambda_15 30 (by decide) (fun c2 => ?_) (fun c2 => ?_)
  · have hf := pm_iff c2 hf
    refine pm_bipush (v := -3) K d_Machine_evaluateLambda_30 (by decide) ?_
    cases hf
    exact pm_iret K d_Machine_evaluateLambda_32
  · have hf := pm_ift c2 hf
    refine pm_aload_n K d_Machine_evaluateLambda_18 0 rfl rfl ?_
    refine pm_aload_n K d_Machine_evaluateLambda_19 0 rfl rfl ?_
    refine pm_iconst (v := 1) K d_Machine_evaluateLambda_20 (by decide) ?_
    obtain ⟨o3, z3, hf⟩ := pm_bind hf
    refine pm_callV (As := [.int (1 : Int32)]) (rest := [.ref (ad 6)]) (o := 6) K (c_Machine_part K.2.2.2.2.2.2.2.2.2.2.2.2 o3.1 o3.2 (1 : Int32) o1.2 z3) mi_Machine_part rfl rfl tw_464 tw_16 tw_463 rfl ⟨rfl, rfl, Nat.le_of_ble_eq_true rfl, Nat.le_of_ble_eq_true rfl⟩ rfl (Nat.le_of_ble_eq_true rfl) d_Machine_evaluateLambda_21 ?_
    obtain ⟨o4, z4, hf⟩ := pm_bind hf
    refine pm_callV (As := [.int o3.1]) (rest := []) (o := 6) K (c_Machine_areParameters K.2.2.2.2.2.2.2.2.2.2.2.2 o4.1 o4.2 o3.1 o3.2 z4) mi_Machine_areParameters rfl rfl tw_484 tw_20 tw_483 rfl ⟨rfl, rfl, Nat.le_of_ble_eq_true rfl, Nat.le_of_ble_eq_true rfl⟩ rfl (Nat.le_of_ble_eq_true rfl) d_Machine_evaluateLambda_24 ?_
    refine pm_if_ne K d_Machine_evaluateLambda_27 33 (by decide) (fun c5 => ?_) (fun c5 => ?_)
    · have hf := pm_iff c5 hf
      refine pm_aload_n K d_Machine_evaluateLambda_33 0 rfl rfl ?_
      refine pm_getR K fc_6 (o := 6) rfl 1 rfl (by decide) tw_281 d_Machine_evaluateLambda_34 ?_
      refine pm_iconst (v := 3) K d_Machine_evaluateLambda_37 (by decide) ?_
      obtain ⟨o6, z6, hf⟩ := pm_bind hf
      refine pm_callV (As := [.int (3 : Int32)]) (rest := []) (o := 5) K (c_Room_hasFor K.2.2.2.2.2.2.2.2.2.2.2.2 o6.1 o6.2 (3 : Int32) o4.2 z6) mi_Room_hasFor rfl rfl tw_363 tw_364 tw_486 rfl ⟨rfl, rfl, Nat.le_of_ble_eq_true rfl, Nat.le_of_ble_eq_true rfl⟩ rfl (Nat.le_of_ble_eq_true rfl) d_Machine_evaluateLambda_38 ?_
      refine pm_if_ne K d_Machine_evaluateLambda_41 47 (by decide) (fun c7 => ?_) (fun c7 => ?_)
      · have hf := pm_iff c7 hf
        refine pm_aload_n K d_Machine_evaluateLambda_47 0 rfl rfl ?_
        refine pm_aload_n K d_Machine_evaluateLambda_48 0 rfl rfl ?_
        refine pm_getR K fc_6 (o := 6) rfl 1 rfl (by decide) tw_281 d_Machine_evaluateLambda_49 ?_
        refine pm_aload_n K d_Machine_evaluateLambda_52 0 rfl rfl ?_
        refine pm_iconst (v := 1) K d_Machine_evaluateLambda_53 (by decide) ?_
        obtain ⟨o8, z8, hf⟩ := pm_bind hf
        refine pm_callV (As := [.int (1 : Int32)]) (rest := [.ref (ad 5), .ref (ad 6)]) (o := 6) K (c_Machine_part K.2.2.2.2.2.2.2.2.2.2.2.2 o8.1 o8.2 (1 : Int32) o6.2 z8) mi_Machine_part rfl rfl tw_464 tw_16 tw_463 rfl ⟨rfl, rfl, Nat.le_of_ble_eq_true rfl, Nat.le_of_ble_eq_true rfl⟩ rfl (Nat.le_of_ble_eq_true rfl) d_Machine_evaluateLambda_54 ?_
        refine pm_aload_n K d_Machine_evaluateLambda_57 0 rfl rfl ?_
        refine pm_iconst (v := 2) K d_Machine_evaluateLambda_58 (by decide) ?_
        obtain ⟨o9, z9, hf⟩ := pm_bind hf
        refine pm_callV (As := [.int (2 : Int32)]) (rest := [.int o8.1, .ref (ad 5), .ref (ad 6)]) (o := 6) K (c_Machine_part K.2.2.2.2.2.2.2.2.2.2.2.2 o9.1 o9.2 (2 : Int32) o8.2 z9) mi_Machine_part rfl rfl tw_464 tw_16 tw_463 rfl ⟨rfl, rfl, Nat.le_of_ble_eq_true rfl, Nat.le_of_ble_eq_true rfl⟩ rfl (Nat.le_of_ble_eq_true rfl) d_Machine_evaluateLambda_59 ?_
        refine pm_aload_n K d_Machine_evaluateLambda_62 0 rfl rfl ?_
        refine pm_getR K fc_6 (o := 6) rfl 0 rfl (by decide) tw_280 d_Machine_evaluateLambda_63 ?_
        refine pm_getIN K fc_4 (o := 4) rfl 1 rfl (by decide) tw_208 d_Machine_evaluateLambda_66 (v := o9.2.1 4 1) rfl ?_
        obtain ⟨o10, z10, hf⟩ := pm_bind hf
        refine pm_callV (As := [.int o8.1, .int o9.1, .int (o9.2.1 4 1)]) (rest := [.ref (ad 6)]) (o := 5) K (c_Room_closure K.2.2.2.2.2.2.2.2.2.2.2.2 o10.1 o10.2 o8.1 o9.1 (o9.2.1 4 1) o9.2 z10) mi_Room_closure rfl rfl tw_488 tw_489 tw_487 rfl ⟨rfl, rfl, Nat.le_of_ble_eq_true rfl, Nat.le_of_ble_eq_true rfl⟩ rfl (Nat.le_of_ble_eq_true rfl) d_Machine_evaluateLambda_69 ?_
        obtain ⟨o11, z11, hf⟩ := pm_bind hf
        refine pm_callV (As := [.int o10.1]) (rest := []) (o := 6) K (c_Machine_returnNext K.2.2.2.2.2.2.2.2.2.2.2.2 o11.1 o11.2 o10.1 o10.2 z11) mi_Machine_returnNext rfl rfl tw_447 tw_14 tw_446 rfl ⟨rfl, rfl, Nat.le_of_ble_eq_true rfl, Nat.le_of_ble_eq_true rfl⟩ rfl (Nat.le_of_ble_eq_true rfl) d_Machine_evaluateLambda_72 ?_
        cases hf
        exact pm_iret K d_Machine_evaluateLambda_75
      · have hf := pm_ift c7 hf
        refine pm_bipush (v := -7) K d_Machine_evaluateLambda_44 (by decide) ?_
        cases hf
        exact pm_iret K d_Machine_evaluateLambda_46
    · have hf := pm_ift c5 hf
      refine pm_bipush (v := -3) K d_Machine_evaluateLambda_30 (by decide) ?_
      cases hf
      exact pm_iret K d_Machine_evaluateLambda_32
/-- CellLisp$Machine.evaluateLambda()I -/
theorem c_Machine_evaluateLambda {l : Launch} {D : va_G} {ca : Nat → ClassId} {ad : Nat → Nat} {E : (Nat → Prop) → State → Heap → Prop} {S : Nat} (hEc : pm_Ecl E) (r : Int32) (w' : pm_W) (w : pm_W) (hf : f_Machine_evaluateLambda  S w = some (r, w')) : pm_Met l pmTs D vwCl (tyl ca) (shC S) ca ad E y_Machine_evaluateLambda k_Machine_evaluateLambda 1 (some .int) { frames := 4, cells := 0, slots := 0, locals := 89 } [.ref (ad 6)] w (some (.int r), w') :=
  pm_start pmTs_good hEc (by decide) (Nat.le_of_ble_eq_true rfl) (fun p e s m below meth c K => t_Machine_evaluateLambda K r w'  w hf)
def f_Machine_evaluateNaming (S : Nat) (x1 : Int32) (x2 : Int32) (w : pm_W) : Option (Int32 × pm_W) :=
  Option.bind (f_Room_length S (w.1 4 0) w) fun o1 =>
  if o1.1 = (3 : Int32) then
    Option.bind (f_Machine_part S (1 : Int32) o1.2) fun o3 =>
    Option.bind (f_Value_isSymbol S o3.1 o3.2) fun o4 =>
    if o4.1 = 0 then
      some ((-3 : Int32), o4.2)
    else
      Option.bind (f_Machine_part S (1 : Int32) o4.2) fun o6 =>
      Option.bind (f_Machine_part S (2 : Int32) o6.2) fun o7 =>
      Option.bind (f_Machine_evaluateUnder S x1 o6.1 x2 o7.1 o7.2) fun o8 =>
      some (o8.1, o8.2)
  else
    some ((-3 : Int32), o1.2)
set_option maxHeartbeats 4000000 in
set_option maxRecDepth 100000 in
theorem t_Machine_evaluateNaming {p : Program} {l : Launch} {e : Env} {s : State} {m : MethodId} {args : Array Value} {below : List Frame} {meth : Method} {c : Code} {D : va_G} {ca : Nat → ClassId} {ad : Nat → Nat} {E : (Nat → Prop) → State → Heap → Prop} {S : Nat} (K : pm_ok p s m args meth c k_Machine_evaluateNaming 3 pmTs R_Machine D vwCl (tyl ca) (shC S) ad E (some .int)) (r : Int32) (w' : pm_W) (x1 : Int32) (x2 : Int32) (w : pm_W) (hf : f_Machine_evaluateNaming  S x1 x2 w = some (r, w')) : pm_wk p l e { frames := 4, cells := 0, slots := 0, locals := 89 } s m args below meth c D vwCl (shC S) ca ad 3 (some (.int r), w') 0 [(0, .ref (ad 6)), (1, .int x1), (2, .int x2)] [] w := by
  unfold f_Machine_evaluateNaming at hf
  refine pm_aload_n K d_Machine_evaluateNaming_0 0 rfl rfl ?_
  refine pm_getR K fc_6 (o := 6) rfl 1 rfl (by decide) tw_281 d_Machine_evaluateNaming_1 ?_
  refine pm_aload_n K d_Machine_evaluateNaming_4 0 rfl rfl ?_
  refine pm_getR K fc_6 (o := 6) rfl 0 rfl (by decide) tw_280 d_Machine_evaluateNaming_5 ?_
  refine pm_getIN K fc_4 (o := 4) rfl 0 rfl (by decide) tw_205 d_Machine_evaluateNaming_8 (v := w.1 4 0) rfl ?_
  obtain ⟨o1, z1, hf⟩ := pm_bind hf
  refine pm_callV (As := [.int (w.1 4 0)]) (rest := []) (o := 5) K (c_Room_length K.2.2.2.2.2.2.2.2.2.2.2.2 o1.1 o1.2 (w.1 4 0) w z1) mi_Room_length rfl rfl tw_460 tw_461 tw_459 rfl ⟨rfl, rfl, Nat.le_of_ble_eq_true rfl, Nat.le_of_ble_eq_true rfl⟩ rfl (Nat.le_of_ble_eq_true rfl) d_Machine_evaluateNaming_11 ?_
  refine pm_iconst (v := 3) K d_Machine_evaluateNaming_14 (by decide) ?_
  refine pm_icmp_ne K d_Machine_evaluateNaming_15 29 (by decide) (fun c2 => ?_) (fun c2 => ?_)
  · have hf := pm_iff c2 hf
    refine pm_bipush (v := -3) K d_Machine_evaluateNaming_29 (by decide) ?_
    cases hf
    exact pm_iret K d_Machine_evaluateNaming_31
  · have hf := pm_ift c2 hf
    refine pm_aload_n K d_Machine_evaluateNaming_18 0 rfl rfl ?_
    refine pm_iconst (v := 1) K d_Machine_evaluateNaming_19 (by decide) ?_
    obtain ⟨o3, z3, hf⟩ := pm_bind hf
    refine pm_callV (As := [.int (1 : Int32)]) (rest := []) (o := 6) K (c_Machine_part K.2.2.2.2.2.2.2.2.2.2.2.2 o3.1 o3.2 (1 : Int32) o1.2 z3) mi_Machine_part rfl rfl tw_464 tw_16 tw_463 rfl ⟨rfl, rfl, Nat.le_of_ble_eq_true rfl, Nat.le_of_ble_eq_true rfl⟩ rfl (Nat.le_of_ble_eq_true rfl) d_Machine_evaluateNaming_20 ?_
    obtain ⟨o4, z4, hf⟩ := pm_bind hf
    refine pm_callS (As := [.int o3.1]) (rest := []) K (c_Value_isSymbol K.2.2.2.2.2.2.2.2.2.2.2.2 o4.1 o4.2 o3.1 o3.2 z4) mi_Value_isSymbol tw_424 tw_423 rfl ⟨rfl, rfl, Nat.le_of_ble_eq_true rfl, Nat.le_of_ble_eq_true rfl⟩ rfl (Nat.le_of_ble_eq_true rfl) d_Machine_evaluateNaming_23 ?_
    refine pm_if_ne K d_Machine_evaluateNaming_26 32 (by decide) (fun c5 => ?_) (fun c5 => ?_)
    · have hf := pm_iff c5 hf
      refine pm_aload_n K d_Machine_evaluateNaming_32 0 rfl rfl ?_
      refine pm_iload_n K d_Machine_evaluateNaming_33 1 rfl rfl ?_
      refine pm_aload_n K d_Machine_evaluateNaming_34 0 rfl rfl ?_
      refine pm_iconst (v := 1) K d_Machine_evaluateNaming_35 (by decide) ?_
      obtain ⟨o6, z6, hf⟩ := pm_bind hf
      refine pm_callV (As := [.int (1 : Int32)]) (rest := [.int x1, .ref (ad 6)]) (o := 6) K (c_Machine_part K.2.2.2.2.2.2.2.2.2.2.2.2 o6.1 o6.2 (1 : Int32) o4.2 z6) mi_Machine_part rfl rfl tw_464 tw_16 tw_463 rfl ⟨rfl, rfl, Nat.le_of_ble_eq_true rfl, Nat.le_of_ble_eq_true rfl⟩ rfl (Nat.le_of_ble_eq_true rfl) d_Machine_evaluateNaming_36 ?_
      refine pm_iload_n K d_Machine_evaluateNaming_39 2 rfl rfl ?_
      refine pm_aload_n K d_Machine_evaluateNaming_40 0 rfl rfl ?_
      refine pm_iconst (v := 2) K d_Machine_evaluateNaming_41 (by decide) ?_
      obtain ⟨o7, z7, hf⟩ := pm_bind hf
      refine pm_callV (As := [.int (2 : Int32)]) (rest := [.int x2, .int o6.1, .int x1, .ref (ad 6)]) (o := 6) K (c_Machine_part K.2.2.2.2.2.2.2.2.2.2.2.2 o7.1 o7.2 (2 : Int32) o6.2 z7) mi_Machine_part rfl rfl tw_464 tw_16 tw_463 rfl ⟨rfl, rfl, Nat.le_of_ble_eq_true rfl, Nat.le_of_ble_eq_true rfl⟩ rfl (Nat.le_of_ble_eq_true rfl) d_Machine_evaluateNaming_42 ?_
      obtain ⟨o8, z8, hf⟩ := pm_bind hf
      refine pm_callV (As := [.int x1, .int o6.1, .int x2, .int o7.1]) (rest := []) (o := 6) K (c_Machine_evaluateUnder K.2.2.2.2.2.2.2.2.2.2.2.2 o8.1 o8.2 x1 o6.1 x2 o7.1 o7.2 z8) mi_Machine_evaluateUnder rfl rfl tw_474 tw_18 tw_473 rfl ⟨rfl, rfl, Nat.le_of_ble_eq_true rfl, Nat.le_of_ble_eq_true rfl⟩ rfl (Nat.le_of_ble_eq_true rfl) d_Machine_evaluateNaming_45 ?_
      cases hf
      exact pm_iret K d_Machine_evaluateNaming_48
    · have hf := pm_ift c5 hf
      refine pm_bipush (v := -3) K d_Machine_evaluateNaming_29 (by decide) ?_
      cases hf
      exact pm_iret K d_Machine_evaluateNaming_31
/-- CellLisp$Machine.evaluateNaming(II)I -/
theorem c_Machine_evaluateNaming {l : Launch} {D : va_G} {ca : Nat → ClassId} {ad : Nat → Nat} {E : (Nat → Prop) → State → Heap → Prop} {S : Nat} (hEc : pm_Ecl E) (r : Int32) (w' : pm_W) (x1 : Int32) (x2 : Int32) (w : pm_W) (hf : f_Machine_evaluateNaming  S x1 x2 w = some (r, w')) : pm_Met l pmTs D vwCl (tyl ca) (shC S) ca ad E y_Machine_evaluateNaming k_Machine_evaluateNaming 3 (some .int) { frames := 4, cells := 0, slots := 0, locals := 89 } [.ref (ad 6), .int x1, .int x2] w (some (.int r), w') :=
  pm_start pmTs_good hEc (by decide) (Nat.le_of_ble_eq_true rfl) (fun p e s m below meth c K => t_Machine_evaluateNaming K r w' x1 x2 w hf)
