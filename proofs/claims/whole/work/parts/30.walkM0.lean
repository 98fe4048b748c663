def f_Md_isNumber (x0 : Int32) (w : pm_W) : Option (Int32 × pm_W) :=
  if (536870912 : Int32) ≤ x0 then
    some ((0 : Int32), w)
  else
    some ((1 : Int32), w)
set_option maxHeartbeats 4000000 in
set_option maxRecDepth 100000 in
theorem t_Md_isNumber {p : Program} {l : Launch} {e : Env} {s : State} {m : MethodId} {args : Array Value} {below : List Frame} {meth : Method} {c : Code} {D : va_G} {ca : Nat → ClassId} {ad : Nat → Nat} {E : (Nat → Prop) → State → Heap → Prop} (K : pm_ok p s m args meth c k_Md_isNumber 1 pmTs R_Md D vwCl (tyl ca) shM ad E (some .boolean)) (r : Int32) (w' : pm_W) (x0 : Int32) (w : pm_W) (hf : f_Md_isNumber  x0 w = some (r, w')) : pm_wk p l e { frames := 0, cells := 0, slots := 0, locals := 0 } s m args below meth c D vwCl shM ca ad 1 (some (.int r), w') 0 [(0, .int x0)] [] w := by
  unfold f_Md_isNumber at hf
  refine pm_iload_n K d_Md_isNumber_0 0 rfl rfl ?_
  refine pm_ldc K tw_662 d_Md_isNumber_1 ?_
  refine pm_icmp_ge K d_Md_isNumber_3 10 (by decide) (fun c1 => ?_) (fun c1 => ?_)
  · have hf := pm_ift c1 hf
    refine pm_iconst (v := 0) K d_Md_isNumber_10 (by decide) ?_
    cases hf
    exact pm_zret K (by decide) d_Md_isNumber_11
  · have hf := pm_iff c1 hf
    refine pm_iconst (v := 1) K d_Md_isNumber_6 (by decide) ?_
    refine pm_goto K d_Md_isNumber_7 11 (by decide) ?_
    cases hf
    exact pm_zret K (by decide) d_Md_isNumber_11
/-- CellLispModel.isNumber(I)Z -/
theorem c_Md_isNumber {l : Launch} {D : va_G} {ca : Nat → ClassId} {ad : Nat → Nat} {E : (Nat → Prop) → State → Heap → Prop} (hEc : pm_Ecl E) (r : Int32) (w' : pm_W) (x0 : Int32) (w : pm_W) (hf : f_Md_isNumber  x0 w = some (r, w')) : pm_Met l pmTs D vwCl (tyl ca) shM ca ad E y_Md_isNumber k_Md_isNumber 1 (some .boolean) { frames := 0, cells := 0, slots := 0, locals := 0 } [.int x0] w (some (.int r), w') :=
  pm_start pmTs_good hEc (by decide) (Nat.le_of_ble_eq_true rfl) (fun p e s m below meth c K => t_Md_isNumber K r w' x0 w hf)
def f_Md_isSymbol (x0 : Int32) (w : pm_W) : Option (Int32 × pm_W) :=
  if x0 < (536871000 : Int32) then
    some ((0 : Int32), w)
  else
    if (536872000 : Int32) ≤ x0 then
      some ((0 : Int32), w)
    else
      some ((1 : Int32), w)
set_option maxHeartbeats 4000000 in
set_option maxRecDepth 100000 in
theorem t_Md_isSymbol {p : Program} {l : Launch} {e : Env} {s : State} {m : MethodId} {args : Array Value} {below : List Frame} {meth : Method} {c : Code} {D : va_G} {ca : Nat → ClassId} {ad : Nat → Nat} {E : (Nat → Prop) → State → Heap → Prop} (K : pm_ok p s m args meth c k_Md_isSymbol 1 pmTs R_Md D vwCl (tyl ca) shM ad E (some .boolean)) (r : Int32) (w' : pm_W) (x0 : Int32) (w : pm_W) (hf : f_Md_isSymbol  x0 w = some (r, w')) : pm_wk p l e { frames := 0, cells := 0, slots := 0, locals := 0 } s m args below meth c D vwCl shM ca ad 1 (some (.int r), w') 0 [(0, .int x0)] [] w := by
  unfold f_Md_isSymbol at hf
  refine pm_iload_n K d_Md_isSymbol_0 0 rfl rfl ?_
  refine pm_ldc K tw_773 d_Md_isSymbol_1 ?_
  refine pm_icmp_lt K d_Md_isSymbol_3 16 (by decide) (fun c1 => ?_) (fun c1 => ?_)
  · have hf := pm_ift c1 hf
    refine pm_iconst (v := 0) K d_Md_isSymbol_16 (by decide) ?_
    cases hf
    exact pm_zret K (by decide) d_Md_isSymbol_17
  · have hf := pm_iff c1 hf
    refine pm_iload_n K d_Md_isSymbol_6 0 rfl rfl ?_
    refine pm_ldc K tw_663 d_Md_isSymbol_7 ?_
    refine pm_icmp_ge K d_Md_isSymbol_9 16 (by decide) (fun c2 => ?_) (fun c2 => ?_)
    · have hf := pm_ift c2 hf
      refine pm_iconst (v := 0) K d_Md_isSymbol_16 (by decide) ?_
      cases hf
      exact pm_zret K (by decide) d_Md_isSymbol_17
    · have hf := pm_iff c2 hf
      refine pm_iconst (v := 1) K d_Md_isSymbol_12 (by decide) ?_
      refine pm_goto K d_Md_isSymbol_13 17 (by decide) ?_
      cases hf
      exact pm_zret K (by decide) d_Md_isSymbol_17
/-- CellLispModel.isSymbol(I)Z -/
theorem c_Md_isSymbol {l : Launch} {D : va_G} {ca : Nat → ClassId} {ad : Nat → Nat} {E : (Nat → Prop) → State → Heap → Prop} (hEc : pm_Ecl E) (r : Int32) (w' : pm_W) (x0 : Int32) (w : pm_W) (hf : f_Md_isSymbol  x0 w = some (r, w')) : pm_Met l pmTs D vwCl (tyl ca) shM ca ad E y_Md_isSymbol k_Md_isSymbol 1 (some .boolean) { frames := 0, cells := 0, slots := 0, locals := 0 } [.int x0] w (some (.int r), w') :=
  pm_start pmTs_good hEc (by decide) (Nat.le_of_ble_eq_true rfl) (fun p e s m below meth c K => t_Md_isSymbol K r w' x0 w hf)
def f_Md_isThing (x0 : Int32) (w : pm_W) : Option (Int32 × pm_W) :=
  if x0 < (536873000 : Int32) then
    some ((0 : Int32), w)
  else
    some ((1 : Int32), w)
set_option maxHeartbeats 4000000 in
set_option maxRecDepth 100000 in
theorem t_Md_isThing {p : Program} {l : Launch} {e : Env} {s : State} {m : MethodId} {args : Array Value} {below : List Frame} {meth : Method} {c : Code} {D : va_G} {ca : Nat → ClassId} {ad : Nat → Nat} {E : (Nat → Prop) → State → Heap → Prop} (K : pm_ok p s m args meth c k_Md_isThing 1 pmTs R_Md D vwCl (tyl ca) shM ad E (some .boolean)) (r : Int32) (w' : pm_W) (x0 : Int32) (w : pm_W) (hf : f_Md_isThing  x0 w = some (r, w')) : pm_wk p l e { frames := 0, cells := 0, slots := 0, locals := 0 } s m args below meth c D vwCl shM ca ad 1 (some (.int r), w') 0 [(0, .int x0)] [] w := by
  unfold f_Md_isThing at hf
  refine pm_iload_n K d_Md_isThing_0 0 rfl rfl ?_
  refine pm_ldc K tw_750 d_Md_isThing_1 ?_
  refine pm_icmp_lt K d_Md_isThing_3 10 (by decide) (fun c1 => ?_) (fun c1 => ?_)
  · have hf := pm_ift c1 hf
    refine pm_iconst (v := 0) K d_Md_isThing_10 (by decide) ?_
    cases hf
    exact pm_zret K (by decide) d_Md_isThing_11
  · have hf := pm_iff c1 hf
    refine pm_iconst (v := 1) K d_Md_isThing_6 (by decide) ?_
    refine pm_goto K d_Md_isThing_7 11 (by decide) ?_
    cases hf
    exact pm_zret K (by decide) d_Md_isThing_11
/-- CellLispModel.isThing(I)Z -/
theorem c_Md_isThing {l : Launch} {D : va_G} {ca : Nat → ClassId} {ad : Nat → Nat} {E : (Nat → Prop) → State → Heap → Prop} (hEc : pm_Ecl E) (r : Int32) (w' : pm_W) (x0 : Int32) (w : pm_W) (hf : f_Md_isThing  x0 w = some (r, w')) : pm_Met l pmTs D vwCl (tyl ca) shM ca ad E y_Md_isThing k_Md_isThing 1 (some .boolean) { frames := 0, cells := 0, slots := 0, locals := 0 } [.int x0] w (some (.int r), w') :=
  pm_start pmTs_good hEc (by decide) (Nat.le_of_ble_eq_true rfl) (fun p e s m below meth c K => t_Md_isThing K r w' x0 w hf)
def f_Md_isPair (x1 : Int32) (w : pm_W) : Option (Int32 × pm_W) :=
  Option.bind (f_Md_isThing x1 w) fun o1 =>
  if o1.1 = 0 then
    some ((0 : Int32), o1.2)
  else
    if (x1 - (536873000 : Int32)) < 0 ∨ 206 ≤ (x1 - (536873000 : Int32)).toNatClampNeg then none else
    if (o1.2.1 1 (x1 - (536873000 : Int32)).toNatClampNeg) = (2 : Int32) then
      some ((1 : Int32), o1.2)
    else
      some ((0 : Int32), o1.2)
set_option maxHeartbeats 4000000 in
set_option maxRecDepth 100000 in
theorem t_Md_isPair {p : Program} {l : Launch} {e : Env} {s : State} {m : MethodId} {args : Array Value} {below : List Frame} {meth : Method} {c : Code} {D : va_G} {ca : Nat → ClassId} {ad : Nat → Nat} {E : (Nat → Prop) → State → Heap → Prop} (K : pm_ok p s m args meth c k_Md_isPair 2 pmTs R_Md D vwCl (tyl ca) shM ad E (some .boolean)) (r : Int32) (w' : pm_W) (x1 : Int32) (w : pm_W) (hf : f_Md_isPair  x1 w = some (r, w')) : pm_wk p l e { frames := 1, cells := 0, slots := 0, locals := 20 } s m args below meth c D vwCl shM ca ad 2 (some (.int r), w') 0 [(0, .ref (ad 0)), (1, .int x1)] [] w := by
  unfold f_Md_isPair at hf
  refine pm_iload_n K d_Md_isPair_0 1 rfl rfl ?_
  obtain ⟨o1, z1, hf⟩ := pm_bind hf
  refine pm_callS (As := [.int x1]) (rest := []) K (c_Md_isThing K.2.2.2.2.2.2.2.2.2.2.2.2 o1.1 o1.2 x1 w z1) mi_Md_isThing tw_748 tw_747 rfl ⟨rfl, rfl, Nat.le_of_ble_eq_true rfl, Nat.le_of_ble_eq_true rfl⟩ rfl (Nat.le_of_ble_eq_true rfl) d_Md_isPair_1 ?_
  refine pm_if_eq K d_Md_isPair_4 24 (by decide) (fun c2 => ?_) (fun c2 => ?_)
  · have hf := pm_ift c2 hf
    refine pm_iconst (v := 0) K d_Md_isPair_24 (by decide) ?_
    cases hf
    exact pm_zret K (by decide) d_Md_isPair_25
  · have hf := pm_iff c2 hf
    refine pm_aload_n K d_Md_isPair_7 0 rfl rfl ?_
    refine pm_getR K fc_9 (o := 0) rfl 2 rfl (by decide) tw_671 d_Md_isPair_8 ?_
    refine pm_iload_n K d_Md_isPair_11 1 rfl rfl ?_
    refine pm_ldc K tw_750 d_Md_isPair_12 ?_
    refine pm_isub K d_Md_isPair_14 ?_
    obtain ⟨q3, hf⟩ := pm_bnd hf
    refine pm_iald K (o := 1) rfl rfl q3 d_Md_isPair_15 (v := o1.2.1 1 (x1 - (536873000 : Int32)).toNatClampNeg) rfl ?_
    refine pm_iconst (v := 2) K d_Md_isPair_16 (by decide) ?_
    refine pm_icmp_ne K d_Md_isPair_17 24 (by decide) (fun c4 => ?_) (fun c4 => ?_)
    · have hf := pm_iff c4 hf
      refine pm_iconst (v := 0) K d_Md_isPair_24 (by decide) ?_
      cases hf
      exact pm_zret K (by decide) d_Md_isPair_25
    · have hf := pm_ift c4 hf
      refine pm_iconst (v := 1) K d_Md_isPair_20 (by decide) ?_
      refine pm_goto K d_Md_isPair_21 25 (by decide) ?_
      cases hf
      exact pm_zret K (by decide) d_Md_isPair_25
/-- CellLispModel.isPair(I)Z -/
theorem c_Md_isPair {l : Launch} {D : va_G} {ca : Nat → ClassId} {ad : Nat → Nat} {E : (Nat → Prop) → State → Heap → Prop} (hEc : pm_Ecl E) (r : Int32) (w' : pm_W) (x1 : Int32) (w : pm_W) (hf : f_Md_isPair  x1 w = some (r, w')) : pm_Met l pmTs D vwCl (tyl ca) shM ca ad E y_Md_isPair k_Md_isPair 2 (some .boolean) { frames := 1, cells := 0, slots := 0, locals := 20 } [.ref (ad 0), .int x1] w (some (.int r), w') :=
  pm_start pmTs_good hEc (by decide) (Nat.le_of_ble_eq_true rfl) (fun p e s m below meth c K => t_Md_isPair K r w' x1 w hf)
def f_Md_isClosure (x1 : Int32) (w : pm_W) : Option (Int32 × pm_W) :=
  Option.bind (f_Md_isThing x1 w) fun o1 =>
  if o1.1 = 0 then
    some ((0 : Int32), o1.2)
  else
    if (x1 - (536873000 : Int32)) < 0 ∨ 206 ≤ (x1 - (536873000 : Int32)).toNatClampNeg then none else
    if (o1.2.1 1 (x1 - (536873000 : Int32)).toNatClampNeg) = (3 : Int32) then
      some ((1 : Int32), o1.2)
    else
      some ((0 : Int32), o1.2)
set_option maxHeartbeats 4000000 in
set_option maxRecDepth 100000 in
theorem t_Md_isClosure {p : Program} {l : Launch} {e : Env} {s : State} {m : MethodId} {args : Array Value} {below : List Frame} {meth : Method} {c : Code} {D : va_G} {ca : Nat → ClassId} {ad : Nat → Nat} {E : (Nat → Prop) → State → Heap → Prop} (K : pm_ok p s m args meth c k_Md_isClosure 2 pmTs R_Md D vwCl (tyl ca) shM ad E (some .boolean)) (r : Int32) (w' : pm_W) (x1 : Int32) (w : pm_W) (hf : f_Md_isClosure  x1 w = some (r, w')) : pm_wk p l e { frames := 1, cells := 0, slots := 0, locals := 20 } s m args below meth c D vwCl shM ca ad 2 (some (.int r), w') 0 [(0, .ref (ad 0)), (1, .int x1)] [] w := by
  unfold f_Md_isClosure at hf
  refine pm_iload_n K d_Md_isClosure_0 1 rfl rfl ?_
  obtain ⟨o1, z1, hf⟩ := pm_bind hf
  refine pm_callS (As := [.int x1]) (rest := []) K (c_Md_isThing K.2.2.2.2.2.2.2.2.2.2.2.2 o1.1 o1.2 x1 w z1) mi_Md_isThing tw_748 tw_747 rfl ⟨rfl, rfl, Nat.le_of_ble_eq_true rfl, Nat.le_of_ble_eq_true rfl⟩ rfl (Nat.le_of_ble_eq_true rfl) d_Md_isClosure_1 ?_
  refine pm_if_eq K d_Md_isClosure_4 24 (by decide) (fun c2 => ?_) (fun c2 => ?_)
  · have hf := pm_ift c2 hf
    refine pm_iconst (v := 0) K d_Md_isClosure_24 (by decide) ?_
    cases hf
    exact pm_zret K (by decide) d_Md_isClosure_25
  · have hf := pm_iff c2 hf
    refine pm_aload_n K d_Md_isClosure_7 0 rfl rfl ?_
    refine pm_getR K fc_9 (o := 0) rfl 2 rfl (by decide) tw_671 d_Md_isClosure_8 ?_
    refine pm_iload_n K d_Md_isClosure_11 1 rfl rfl ?_
    refine pm_ldc K tw_750 d_Md_isClosure_12 ?_
    refine pm_isub K d_Md_isClosure_14 ?_
    obtain ⟨q3, hf⟩ := pm_bnd hf
    refine pm_iald K (o := 1) rfl rfl q3 d_Md_isClosure_15 (v := o1.2.1 1 (x1 - (536873000 : Int32)).toNatClampNeg) rfl ?_
    refine pm_iconst (v := 3) K d_Md_isClosure_16 (by decide) ?_
    refine pm_icmp_ne K d_Md_isClosure_17 24 (by decide) (fun c4 => ?_) (fun c4 => ?_)
    · have hf := pm_iff c4 hf
      refine pm_iconst (v := 0) K d_Md_isClosure_24 (by decide) ?_
      cases hf
      exact pm_zret K (by decide) d_Md_isClosure_25
    · have hf := pm_ift c4 hf
      refine pm_iconst (v := 1) K d_Md_isClosure_20 (by decide) ?_
      refine pm_goto K d_Md_isClosure_21 25 (by decide) ?_
      cases hf
      exact pm_zret K (by decide) d_Md_isClosure_25
/-- CellLispModel.isClosure(I)Z -/
theorem c_Md_isClosure {l : Launch} {D : va_G} {ca : Nat → ClassId} {ad : Nat → Nat} {E : (Nat → Prop) → State → Heap → Prop} (hEc : pm_Ecl E) (r : Int32) (w' : pm_W) (x1 : Int32) (w : pm_W) (hf : f_Md_isClosure  x1 w = some (r, w')) : pm_Met l pmTs D vwCl (tyl ca) shM ca ad E y_Md_isClosure k_Md_isClosure 2 (some .boolean) { frames := 1, cells := 0, slots := 0, locals := 20 } [.ref (ad 0), .int x1] w (some (.int r), w') :=
  pm_start pmTs_good hEc (by decide) (Nat.le_of_ble_eq_true rfl) (fun p e s m below meth c K => t_Md_isClosure K r w' x1 w hf)
def f_Md_wrap (x0 : Int32) (w : pm_W) : Option (Int32 × pm_W) :=
  some ((x0 <<< ((3 : Int32) &&& 31)) >>> ((3 : Int32) &&& 31), w)
set_option maxHeartbeats 4000000 in
set_option maxRecDepth 100000 in
theorem t_Md_wrap {p : Program} {l : Launch} {e : Env} {s : State} {m : MethodId} {args : Array Value} {below : List Frame} {meth : Method} {c : Code} {D : va_G} {ca : Nat → ClassId} {ad : Nat → Nat} {E : (Nat → Prop) → State → Heap → Prop} (K : pm_ok p s m args meth c k_Md_wrap 1 pmTs R_Md D vwCl (tyl ca) shM ad E (some .int)) (r : Int32) (w' : pm_W) (x0 : Int32) (w : pm_W) (hf : f_Md_wrap  x0 w = some (r, w')) : pm_wk p l e { frames := 0, cells := 0, slots := 0, locals := 0 } s m args below meth c D vwCl shM ca ad 1 (some (.int r), w') 0 [(0, .int x0)] [] w := by
  unfold f_Md_wrap at hf
  refine pm_iload_n K d_Md_wrap_0 0 rfl rfl ?_
  refine pm_iconst (v := 3) K d_Md_wrap_1 (by decide) ?_
  refine pm_ishl K d_Md_wrap_2 ?_
  refine pm_iconst (v := 3) K d_Md_wrap_3 (by decide) ?_
  refine pm_ishr K d_Md_wrap_4 ?_
  cases hf
  exact pm_iret K d_Md_wrap_5
/-- CellLispModel.wrap(I)I -/
theorem c_Md_wrap {l : Launch} {D : va_G} {ca : Nat → ClassId} {ad : Nat → Nat} {E : (Nat → Prop) → State → Heap → Prop} (hEc : pm_Ecl E) (r : Int32) (w' : pm_W) (x0 : Int32) (w : pm_W) (hf : f_Md_wrap  x0 w = some (r, w')) : pm_Met l pmTs D vwCl (tyl ca) shM ca ad E y_Md_wrap k_Md_wrap 1 (some .int) { frames := 0, cells := 0, slots := 0, locals := 0 } [.int x0] w (some (.int r), w') :=
  pm_start pmTs_good hEc (by decide) (Nat.le_of_ble_eq_true rfl) (fun p e s m below meth c K => t_Md_wrap K r w' x0 w hf)
def f_Md_car (x1 : Int32) (w : pm_W) : Option (Int32 × pm_W) :=
  if (x1 - (536873000 : Int32)) < 0 ∨ 206 ≤ (x1 - (536873000 : Int32)).toNatClampNeg then none else
  some (w.1 2 (x1 - (536873000 : Int32)).toNatClampNeg, w)
set_option maxHeartbeats 4000000 in
set_option maxRecDepth 100000 in
theorem t_Md_car {p : Program} {l : Launch} {e : Env} {s : State} {m : MethodId} {args : Array Value} {below : List Frame} {meth : Method} {c : Code} {D : va_G} {ca : Nat → ClassId} {ad : Nat → Nat} {E : (Nat → Prop) → State → Heap → Prop} (K : pm_ok p s m args meth c k_Md_car 2 pmTs R_Md D vwCl (tyl ca) shM ad E (some .int)) (r : Int32) (w' : pm_W) (x1 : Int32) (w : pm_W) (hf : f_Md_car  x1 w = some (r, w')) : pm_wk p l e { frames := 0, cells := 0, slots := 0, locals := 0 } s m args below meth c D vwCl shM ca ad 2 (some (.int r), w') 0 [(0, .ref (ad 0)), (1, .int x1)] [] w := by
  unfold f_Md_car at hf
  refine pm_aload_n K d_Md_car_0 0 rfl rfl ?_
  refine pm_getR K fc_9 (o := 0) rfl 3 rfl (by decide) tw_672 d_Md_car_1 ?_
  refine pm_iload_n K d_Md_car_4 1 rfl rfl ?_
  refine pm_ldc K tw_750 d_Md_car_5 ?_
  refine pm_isub K d_Md_car_7 ?_
  obtain ⟨q1, hf⟩ := pm_bnd hf
  refine pm_iald K (o := 2) rfl rfl q1 d_Md_car_8 (v := w.1 2 (x1 - (536873000 : Int32)).toNatClampNeg) rfl ?_
  cases hf
  exact pm_iret K d_Md_car_9
/-- CellLispModel.car(I)I -/
theorem c_Md_car {l : Launch} {D : va_G} {ca : Nat → ClassId} {ad : Nat → Nat} {E : (Nat → Prop) → State → Heap → Prop} (hEc : pm_Ecl E) (r : Int32) (w' : pm_W) (x1 : Int32) (w : pm_W) (hf : f_Md_car  x1 w = some (r, w')) : pm_Met l pmTs D vwCl (tyl ca) shM ca ad E y_Md_car k_Md_car 2 (some .int) { frames := 0, cells := 0, slots := 0, locals := 0 } [.ref (ad 0), .int x1] w (some (.int r), w') :=
  pm_start pmTs_good hEc (by decide) (Nat.le_of_ble_eq_true rfl) (fun p e s m below meth c K => t_Md_car K r w' x1 w hf)
def f_Md_cdr (x1 : Int32) (w : pm_W) : Option (Int32 × pm_W) :=
  if (x1 - (536873000 : Int32)) < 0 ∨ 206 ≤ (x1 - (536873000 : Int32)).toNatClampNeg then none else
  some (w.1 3 (x1 - (536873000 : Int32)).toNatClampNeg, w)
set_option maxHeartbeats 4000000 in
set_option maxRecDepth 100000 in
theorem t_Md_cdr {p : Program} {l : Launch} {e : Env} {s : State} {m : MethodId} {args : Array Value} {below : List Frame} {meth : Method} {c : Code} {D : va_G} {ca : Nat → ClassId} {ad : Nat → Nat} {E : (Nat → Prop) → State → Heap → Prop} (K : pm_ok p s m args meth c k_Md_cdr 2 pmTs R_Md D vwCl (tyl ca) shM ad E (some .int)) (r : Int32) (w' : pm_W) (x1 : Int32) (w : pm_W) (hf : f_Md_cdr  x1 w = some (r, w')) : pm_wk p l e { frames := 0, cells := 0, slots := 0, locals := 0 } s m args below meth c D vwCl shM ca ad 2 (some (.int r), w') 0 [(0, .ref (ad 0)), (1, .int x1)] [] w := by
  unfold f_Md_cdr at hf
  refine pm_aload_n K d_Md_cdr_0 0 rfl rfl ?_
  refine pm_getR K fc_9 (o := 0) rfl 4 rfl (by decide) tw_673 d_Md_cdr_1 ?_
  refine pm_iload_n K d_Md_cdr_4 1 rfl rfl ?_
  refine pm_ldc K tw_750 d_Md_cdr_5 ?_
  refine pm_isub K d_Md_cdr_7 ?_
  obtain ⟨q1, hf⟩ := pm_bnd hf
  refine pm_iald K (o := 3) rfl rfl q1 d_Md_cdr_8 (v := w.1 3 (x1 - (536873000 : Int32)).toNatClampNeg) rfl ?_
  cases hf
  exact pm_iret K d_Md_cdr_9
/-- CellLispModel.cdr(I)I -/
theorem c_Md_cdr {l : Launch} {D : va_G} {ca : Nat → ClassId} {ad : Nat → Nat} {E : (Nat → Prop) → State → Heap → Prop} (hEc : pm_Ecl E) (r : Int32) (w' : pm_W) (x1 : Int32) (w : pm_W) (hf : f_Md_cdr  x1 w = some (r, w')) : pm_Met l pmTs D vwCl (tyl ca) shM ca ad E y_Md_cdr k_Md_cdr 2 (some .int) { frames := 0, cells := 0, slots := 0, locals := 0 } [.ref (ad 0), .int x1] w (some (.int r), w') :=
  pm_start pmTs_good hEc (by decide) (Nat.le_of_ble_eq_true rfl) (fun p e s m below meth c K => t_Md_cdr K r w' x1 w hf)
def f_Md_mark (x1 : Int32) (w : pm_W) : Option pm_W :=
  Option.bind (f_Md_isThing x1 w) fun o1 =>
  if o1.1 = 0 then
    some o1.2
  else
    if (x1 - (536873000 : Int32)) < 0 ∨ 206 ≤ (x1 - (536873000 : Int32)).toNatClampNeg then none else
    some (pm_setI o1.2 5 (x1 - (536873000 : Int32)).toNatClampNeg (vp_nar .boolean (1 : Int32)))
set_option maxHeartbeats 4000000 in
set_option maxRecDepth 100000 in
theorem t_Md_mark {p : Program} {l : Launch} {e : Env} {s : State} {m : MethodId} {args : Array Value} {below : List Frame} {meth : Method} {c : Code} {D : va_G} {ca : Nat → ClassId} {ad : Nat → Nat} {E : (Nat → Prop) → State → Heap → Prop} (K : pm_ok p s m args meth c k_Md_mark 2 pmTs R_Md D vwCl (tyl ca) shM ad E none) (w' : pm_W) (x1 : Int32) (w : pm_W) (hf : f_Md_mark  x1 w = some w') : pm_wk p l e { frames := 1, cells := 0, slots := 0, locals := 20 } s m args below meth c D vwCl shM ca ad 2 (none, w') 0 [(0, .ref (ad 0)), (1, .int x1)] [] w := by
  unfold f_Md_mark at hf
  refine pm_iload_n K d_Md_mark_0 1 rfl rfl ?_
  obtain ⟨o1, z1, hf⟩ := pm_bind hf
  refine pm_callS (As := [.int x1]) (rest := []) K (c_Md_isThing K.2.2.2.2.2.2.2.2.2.2.2.2 o1.1 o1.2 x1 w z1) mi_Md_isThing tw_748 tw_747 rfl ⟨rfl, rfl, Nat.le_of_ble_eq_true rfl, Nat.le_of_ble_eq_true rfl⟩ rfl (Nat.le_of_ble_eq_true rfl) d_Md_mark_1 ?_
  refine pm_if_eq K d_Md_mark_4 17 (by decide) (fun c2 => ?_) (fun c2 => ?_)
  · have hf := pm_ift c2 hf
    cases hf
    exact pm_vret K d_Md_mark_17
  · have hf := pm_iff c2 hf
    refine pm_aload_n K d_Md_mark_7 0 rfl rfl ?_
    refine pm_getR K fc_9 (o := 0) rfl 6 rfl (by decide) tw_675 d_Md_mark_8 ?_
    refine pm_iload_n K d_Md_mark_11 1 rfl rfl ?_
    refine pm_ldc K tw_750 d_Md_mark_12 ?_
    refine pm_isub K d_Md_mark_14 ?_
    refine pm_iconst (v := 1) K d_Md_mark_15 (by decide) ?_
    obtain ⟨q3, hf⟩ := pm_bnd hf
    refine pm_zast K (o := 5) rfl rfl q3 d_Md_mark_16 ?_
    cases hf
    exact pm_vret K d_Md_mark_17
/-- CellLispModel.mark(I)V -/
theorem c_Md_mark {l : Launch} {D : va_G} {ca : Nat → ClassId} {ad : Nat → Nat} {E : (Nat → Prop) → State → Heap → Prop} (hEc : pm_Ecl E) (w' : pm_W) (x1 : Int32) (w : pm_W) (hf : f_Md_mark  x1 w = some w') : pm_Met l pmTs D vwCl (tyl ca) shM ca ad E y_Md_mark k_Md_mark 2 none { frames := 1, cells := 0, slots := 0, locals := 20 } [.ref (ad 0), .int x1] w (none, w') :=
  pm_start pmTs_good hEc (by decide) (Nat.le_of_ble_eq_true rfl) (fun p e s m below meth c K => t_Md_mark K w' x1 w hf)
def b_Md_live_2 (rec : Nat → Int32 → Int32 → Int32 → pm_W → Option (Int32 × pm_W)) (x1 : Int32) (w : pm_W) : Option (Int32 × pm_W) :=
  if (206 : Int32) ≤ x1 then
    Option.bind (f_Md_mark (w.1 0 15) w) fun o2 =>
    Option.bind (f_Md_mark (o2.1 0 16) o2) fun o3 =>
    rec 1 (0 : Int32) 0 0 o3
  else
    if x1 < 0 ∨ 206 ≤ x1.toNatClampNeg then none else
    rec 0 (x1 + (1 : Int32)) 0 0 (pm_setI w 5 x1.toNatClampNeg (vp_nar .boolean (0 : Int32)))
def b_Md_live_40 (rec : Nat → Int32 → Int32 → Int32 → pm_W → Option (Int32 × pm_W)) (x1 : Int32) (w : pm_W) : Option (Int32 × pm_W) :=
  if (w.1 0 11) ≤ x1 then
    rec 2 (0 : Int32) 0 0 w
  else
    if x1 < 0 ∨ 30 ≤ x1.toNatClampNeg then none else
    Option.bind (f_Md_mark (w.1 7 x1.toNatClampNeg) w) fun o7 =>
    if x1 < 0 ∨ 30 ≤ x1.toNatClampNeg then none else
    Option.bind (f_Md_mark (o7.1 8 x1.toNatClampNeg) o7) fun o9 =>
    if x1 < 0 ∨ 30 ≤ x1.toNatClampNeg then none else
    Option.bind (f_Md_mark (o9.1 9 x1.toNatClampNeg) o9) fun o11 =>
    rec 1 (x1 + (1 : Int32)) 0 0 o11
def b_Md_live_86 (rec : Nat → Int32 → Int32 → Int32 → pm_W → Option (Int32 × pm_W)) (x1 : Int32) (w : pm_W) : Option (Int32 × pm_W) :=
  if (w.1 0 12) ≤ x1 then
    rec 3 (0 : Int32) (-1 : Int32) 0 w
  else
    if x1 < 0 ∨ 40 ≤ x1.toNatClampNeg then none else
    Option.bind (f_Md_mark (w.1 11 x1.toNatClampNeg) w) fun o14 =>
    rec 2 (x1 + (1 : Int32)) 0 0 o14
def b_Md_live_114 (rec : Nat → Int32 → Int32 → Int32 → pm_W → Option (Int32 × pm_W)) (x1 : Int32) (x2 : Int32) (w : pm_W) : Option (Int32 × pm_W) :=
  if x1 = x2 then
    some (x1, w)
  else
    rec 4 (0 : Int32) x1 (0 : Int32) w
def b_Md_live_125 (rec : Nat → Int32 → Int32 → Int32 → pm_W → Option (Int32 × pm_W)) (x1 : Int32) (x2 : Int32) (x3 : Int32) (w : pm_W) : Option (Int32 × pm_W) :=
  if (206 : Int32) ≤ x3 then
    rec 3 x1 x2 0 w
  else
    if x3 < 0 ∨ 206 ≤ x3.toNatClampNeg then none else
    if (w.1 5 x3.toNatClampNeg) = 0 then
      rec 4 x1 x2 (x3 + (1 : Int32)) w
    else
      if x3 < 0 ∨ 206 ≤ x3.toNatClampNeg then none else
      Option.bind (f_Md_mark (w.1 2 x3.toNatClampNeg) w) fun o20 =>
      if x3 < 0 ∨ 206 ≤ x3.toNatClampNeg then none else
      Option.bind (f_Md_mark (o20.1 3 x3.toNatClampNeg) o20) fun o22 =>
      if x3 < 0 ∨ 206 ≤ x3.toNatClampNeg then none else
      if (o22.1 1 x3.toNatClampNeg) = (3 : Int32) then
        if x3 < 0 ∨ 206 ≤ x3.toNatClampNeg then none else
        Option.bind (f_Md_mark (o22.1 4 x3.toNatClampNeg) o22) fun o27 =>
        if x3 < 0 ∨ 206 ≤ x3.toNatClampNeg then none else
        rec 4 (x1 + (o27.1 1 x3.toNatClampNeg)) x2 (x3 + (1 : Int32)) o27
      else
        if x3 < 0 ∨ 206 ≤ x3.toNatClampNeg then none else
        rec 4 (x1 + (o22.1 1 x3.toNatClampNeg)) x2 (x3 + (1 : Int32)) o22
def l_Md_live : Nat → Nat → Int32 → Int32 → Int32 → pm_W → Option (Int32 × pm_W) := pm_it (fun _ _ _ _ _ => none) (fun rec k x1 x2 x3 w => match k with | 0 => b_Md_live_2  rec x1 w | 1 => b_Md_live_40  rec x1 w | 2 => b_Md_live_86  rec x1 w | 3 => b_Md_live_114  rec x1 x2 w | _ => b_Md_live_125  rec x1 x2 x3 w)
def f_Md_live (w : pm_W) : Option (Int32 × pm_W) :=
  (l_Md_live  pm_fuel) 0 (0 : Int32) 0 0 w
set_option maxHeartbeats 4000000 in
set_option maxRecDepth 100000 in
theorem t_Md_live_2 {p : Program} {l : Launch} {e : Env} {s : State} {m : MethodId} {args : Array Value} {below : List Frame} {meth : Method} {c : Code} {D : va_G} {ca : Nat → ClassId} {ad : Nat → Nat} {E : (Nat → Prop) → State → Heap → Prop} (K : pm_ok p s m args meth c k_Md_live 4 pmTs R_Md D vwCl (tyl ca) shM ad E (some .int)) (rec : Nat → Int32 → Int32 → Int32 → pm_W → Option (Int32 × pm_W)) (r : Int32) (w' : pm_W) (h2 : ∀ (x1 : Int32) (w : pm_W), rec 0 x1 0 0 w = some (r, w') → pm_wk p l e { frames := 2, cells := 0, slots := 0, locals := 41 } s m args below meth c D vwCl shM ca ad 4 (some (.int r), w') 2 [(0, .ref (ad 0)), (1, .int x1)] [] w) (h40 : ∀ (x1 : Int32) (w : pm_W), rec 1 x1 0 0 w = some (r, w') → pm_wk p l e { frames := 2, cells := 0, slots := 0, locals := 41 } s m args below meth c D vwCl shM ca ad 4 (some (.int r), w') 40 [(0, .ref (ad 0)), (1, .int x1)] [] w) (h86 : ∀ (x1 : Int32) (w : pm_W), rec 2 x1 0 0 w = some (r, w') → pm_wk p l e { frames := 2, cells := 0, slots := 0, locals := 41 } s m args below meth c D vwCl shM ca ad 4 (some (.int r), w') 86 [(0, .ref (ad 0)), (1, .int x1)] [] w) (h114 : ∀ (x1 : Int32) (x2 : Int32) (w : pm_W), rec 3 x1 x2 0 w = some (r, w') → pm_wk p l e { frames := 2, cells := 0, slots := 0, locals := 41 } s m args below meth c D vwCl shM ca ad 4 (some (.int r), w') 114 [(0, .ref (ad 0)), (1, .int x1), (2, .int x2)] [] w) (h125 : ∀ (x1 : Int32) (x2 : Int32) (x3 : Int32) (w : pm_W), rec 4 x1 x2 x3 w = some (r, w') → pm_wk p l e { frames := 2, cells := 0, slots := 0, locals := 41 } s m args below meth c D vwCl shM ca ad 4 (some (.int r), w') 125 [(0, .ref (ad 0)), (1, .int x1), (2, .int x2), (3, .int x3)] [] w) (x1 : Int32) (w : pm_W) (hf : b_Md_live_2  rec x1 w = some (r, w')) : pm_wk p l e { frames := 2, cells := 0, slots := 0, locals := 41 } s m args below meth c D vwCl shM ca ad 4 (some (.int r), w') 2 [(0, .ref (ad 0)), (1, .int x1)] [] w := by
  unfold b_Md_live_2 at hf
  refine pm_iload_n K d_Md_live_2 1 rfl rfl ?_
  refine pm_sipush (v := 206) K d_Md_live_3 (by decide) ?_
  refine pm_icmp_ge K d_Md_live_6 22 (by decide) (fun c1 => ?_) (fun c1 => ?_)
  · have hf := pm_ift c1 hf
    refine pm_aload_n K d_Md_live_22 0 rfl rfl ?_
    refine pm_aload_n K d_Md_live_23 0 rfl rfl ?_
    refine pm_getI K fc_9 (o := 0) rfl 15 rfl (by decide) tw_684 d_Md_live_24 (v := w.1 0 15) rfl ?_
    obtain ⟨o2, z2, hf⟩ := pm_bind hf
    refine pm_callV (As := [.int (w.1 0 15)]) (rest := []) (o := 0) K (c_Md_mark K.2.2.2.2.2.2.2.2.2.2.2.2 o2 (w.1 0 15) w z2) mi_Md_mark rfl rfl tw_745 tw_52 tw_744 rfl ⟨rfl, rfl, Nat.le_of_ble_eq_true rfl, Nat.le_of_ble_eq_true rfl⟩ rfl (Nat.le_of_ble_eq_true rfl) d_Md_live_27 ?_
    refine pm_aload_n K d_Md_live_30 0 rfl rfl ?_
    refine pm_aload_n K d_Md_live_31 0 rfl rfl ?_
    refine pm_getI K fc_9 (o := 0) rfl 16 rfl (by decide) tw_685 d_Md_live_32 (v := o2.1 0 16) rfl ?_
    obtain ⟨o3, z3, hf⟩ := pm_bind hf
    refine pm_callV (As := [.int (o2.1 0 16)]) (rest := []) (o := 0) K (c_Md_mark K.2.2.2.2.2.2.2.2.2.2.2.2 o3 (o2.1 0 16) o2 z3) mi_Md_mark rfl rfl tw_745 tw_52 tw_744 rfl ⟨rfl, rfl, Nat.le_of_ble_eq_true rfl, Nat.le_of_ble_eq_true rfl⟩ rfl (Nat.le_of_ble_eq_true rfl) d_Md_live_35 ?_
    refine pm_iconst (v := 0) K d_Md_live_38 (by decide) ?_
    refine pm_istore_n (lv' := [(1, .int (0 : Int32)), (0, .ref (ad 0))]) K d_Md_live_39 rfl (by decide) rfl ?_
    refine pm_sub (lv' := [(0, .ref (ad 0)), (1, .int (0 : Int32))]) [1, 0] rfl ?_
    exact h40 (0 : Int32) o3 hf
  · have hf := pm_iff c1 hf
    refine pm_aload_n K d_Md_live_9 0 rfl rfl ?_
    refine pm_getR K fc_9 (o := 0) rfl 6 rfl (by decide) tw_675 d_Md_live_10 ?_
    refine pm_iload_n K d_Md_live_13 1 rfl rfl ?_
    refine pm_iconst (v := 0) K d_Md_live_14 (by decide) ?_
    obtain ⟨q4, hf⟩ := pm_bnd hf
    refine pm_zast K (o := 5) rfl rfl q4 d_Md_live_15 ?_
    refine pm_iinc (v := x1 + (1 : Int32)) (lv' := [(1, .int (x1 + (1 : Int32))), (0, .ref (ad 0))]) K d_Md_live_16 1 rfl rfl (by decide) rfl ?_
    refine pm_goto K d_Md_live_19 2 (by decide) ?_
    refine pm_sub (lv' := [(0, .ref (ad 0)), (1, .int (x1 + (1 : Int32)))]) [1, 0] rfl ?_
    exact h2 (x1 + (1 : Int32)) (pm_setI w 5 x1.toNatClampNeg (vp_nar .boolean (0 : Int32))) hf
set_option maxHeartbeats 4000000 in
set_option maxRecDepth 100000 in
theorem t_Md_live_40 {p : Program} {l : Launch} {e : Env} {s : State} {m : MethodId} {args : Array Value} {below : List Frame} {meth : Method} {c : Code} {D : va_G} {ca : Nat → ClassId} {ad : Nat → Nat} {E : (Nat → Prop) → State → Heap → Prop} (K : pm_ok p s m args meth c k_Md_live 4 pmTs R_Md D vwCl (tyl ca) shM ad E (some .int)) (rec : Nat → Int32 → Int32 → Int32 → pm_W → Option (Int32 × pm_W)) (r : Int32) (w' : pm_W) (h2 : ∀ (x1 : Int32) (w : pm_W), rec 0 x1 0 0 w = some (r, w') → pm_wk p l e { frames := 2, cells := 0, slots := 0, locals := 41 } s m args below meth c D vwCl shM ca ad 4 (some (.int r), w') 2 [(0, .ref (ad 0)), (1, .int x1)] [] w) (h40 : ∀ (x1 : Int32) (w : pm_W), rec 1 x1 0 0 w = some (r, w') → pm_wk p l e { frames := 2, cells := 0, slots := 0, locals := 41 } s m args below meth c D vwCl shM ca ad 4 (some (.int r), w') 40 [(0, .ref (ad 0)), (1, .int x1)] [] w) (h86 : ∀ (x1 : Int32) (w : pm_W), rec 2 x1 0 0 w = some (r, w') → pm_wk p l e { frames := 2, cells := 0, slots := 0, locals := 41 } s m args below meth c D vwCl shM ca ad 4 (some (.int r), w') 86 [(0, .ref (ad 0)), (1, .int x1)] [] w) (h114 : ∀ (x1 : Int32) (x2 : Int32) (w : pm_W), rec 3 x1 x2 0 w = some (r, w') → pm_wk p l e { frames := 2, cells := 0, slots := 0, locals := 41 } s m args below meth c D vwCl shM ca ad 4 (some (.int r), w') 114 [(0, .ref (ad 0)), (1, .int x1), (2, .int x2)] [] w) (h125 : ∀ (x1 : Int32) (x2 : Int32) (x3 : Int32) (w : pm_W), rec 4 x1 x2 x3 w = some (r, w') → pm_wk p l e { frames := 2, cells := 0, slots := 0, locals := 41 } s m args below meth c D vwCl shM ca ad 4 (some (.int r), w') 125 [(0, .ref (ad 0)), (1, .int x1), (2, .int x2), (3, .int x3)] [] w) (x1 : Int32) (w : pm_W) (hf : b_Md_live_40  rec x1 w = some (r, w')) : pm_wk p l e { frames := 2, cells := 0, slots := 0, locals := 41 } s m args below meth c D vwCl shM ca ad 4 (some (.int r), w') 40 [(0, .ref (ad 0)), (1, .int x1)] [] w := by
  unfold b_Md_live_40 at hf
  refine pm_iload_n K d_Md_live_40 1 rfl rfl ?_
  refine pm_aload_n K d_Md_live_41 0 rfl rfl ?_
  refine pm_getI K fc_9 (o := 0) rfl 11 rfl (by decide) tw_680 d_Md_live_42 (v := w.1 0 11) rfl ?_
  refine pm_icmp_ge K d_Md_live_45 84 (by decide) (fun c5 => ?_) (fun c5 => ?_)
  · have hf := pm_ift c5 hf
    refine pm_iconst (v := 0) K d_Md_live_84 (by decide) ?_
    refine pm_istore_n (lv' := [(1, .int (0 : Int32)), (0, .ref (ad 0))]) K d_Md_live_85 rfl (by decide) rfl ?_
    refine pm_sub (lv' := [(0, .ref (ad 0)), (1, .int (0 : Int32))]) [1, 0] rfl ?_
    exact h86 (0 : Int32) w hf
  · have hf := pm_iff c5 hf
    refine pm_aload_n K d_Md_live_48 0 rfl rfl ?_
    refine pm_aload_n K d_Md_live_49 0 rfl rfl ?_
    refine pm_getR K fc_9 (o := 0) rfl 8 rfl (by decide) tw_677 d_Md_live_50 ?_
    refine pm_iload_n K d_Md_live_53 1 rfl rfl ?_
    obtain ⟨q6, hf⟩ := pm_bnd hf
    refine pm_iald K (o := 7) rfl rfl q6 d_Md_live_54 (v := w.1 7 x1.toNatClampNeg) rfl ?_
    obtain ⟨o7, z7, hf⟩ := pm_bind hf
    refine pm_callV (As := [.int (w.1 7 x1.toNatClampNeg)]) (rest := []) (o := 0) K (c_Md_mark K.2.2.2.2.2.2.2.2.2.2.2.2 o7 (w.1 7 x1.toNatClampNeg) w z7) mi_Md_mark rfl rfl tw_745 tw_52 tw_744 rfl ⟨rfl, rfl, Nat.le_of_ble_eq_true rfl, Nat.le_of_ble_eq_true rfl⟩ rfl (Nat.le_of_ble_eq_true rfl) d_Md_live_55 ?_
    refine pm_aload_n K d_Md_live_58 0 rfl rfl ?_
    refine pm_aload_n K d_Md_live_59 0 rfl rfl ?_
    refine pm_getR K fc_9 (o := 0) rfl 9 rfl (by decide) tw_678 d_Md_live_60 ?_
    refine pm_iload_n K d_Md_live_63 1 rfl rfl ?_
    obtain ⟨q8, hf⟩ := pm_bnd hf
    refine pm_iald K (o := 8) rfl rfl q8 d_Md_live_64 (v := o7.1 8 x1.toNatClampNeg) rfl ?_
    obtain ⟨o9, z9, hf⟩ := pm_bind hf
    refine pm_callV (As := [.int (o7.1 8 x1.toNatClampNeg)]) (rest := []) (o := 0) K (c_Md_mark K.2.2.2.2.2.2.2.2.2.2.2.2 o9 (o7.1 8 x1.toNatClampNeg) o7 z9) mi_Md_mark rfl rfl tw_745 tw_52 tw_744 rfl ⟨rfl, rfl, Nat.le_of_ble_eq_true rfl, Nat.le_of_ble_eq_true rfl⟩ rfl (Nat.le_of_ble_eq_true rfl) d_Md_live_65 ?_
    refine pm_aload_n K d_Md_live_68 0 rfl rfl ?_
    refine pm_aload_n K d_Md_live_69 0 rfl rfl ?_
    refine pm_getR K fc_9 (o := 0) rfl 10 rfl (by decide) tw_679 d_Md_live_70 ?_
    refine pm_iload_n K d_Md_live_73 1 rfl rfl ?_
    obtain ⟨q10, hf⟩ := pm_bnd hf
    refine pm_iald K (o := 9) rfl rfl q10 d_Md_live_74 (v := o9.1 9 x1.toNatClampNeg) rfl ?_
    obtain ⟨o11, z11, hf⟩ := pm_bind hf
    refine pm_callV (As := [.int (o9.1 9 x1.toNatClampNeg)]) (rest := []) (o := 0) K (c_Md_mark K.2.2.2.2.2.2.2.2.2.2.2.2 o11 (o9.1 9 x1.toNatClampNeg) o9 z11) mi_Md_mark rfl rfl tw_745 tw_52 tw_744 rfl ⟨rfl, rfl, Nat.le_of_ble_eq_true rfl, Nat.le_of_ble_eq_true rfl⟩ rfl (Nat.le_of_ble_eq_true rfl) d_Md_live_75 ?_
    refine pm_iinc (v := x1 + (1 : Int32)) (lv' := [(1, .int (x1 + (1 : Int32))), (0, .ref (ad 0))]) K d_Md_live_78 1 rfl rfl (by decide) rfl ?_
    refine pm_goto K d_Md_live_81 40 (by decide) ?_
    refine pm_sub (lv' := [(0, .ref (ad 0)), (1, .int (x1 + (1 : Int32)))]) [1, 0] rfl ?_
    exact h40 (x1 + (1 : Int32)) o11 hf
set_option maxHeartbeats 4000000 in
set_option maxRecDepth 100000 in
theorem t_Md_live_86 {p : Program} {l : Launch} {e : Env} {s : State} {m : MethodId} {args : Array Value} {below : List Frame} {meth : Method} {c : Code} {D : va_G} {ca : Nat → ClassId} {ad : Nat → Nat} {E : (Nat → Prop) → State → Heap → Prop} (K : pm_ok p s m args meth c k_Md_live 4 pmTs R_Md D vwCl (tyl ca) shM ad E (some .int)) (rec : Nat → Int32 → Int32 → Int32 → pm_W → Option (Int32 × pm_W)) (r : Int32) (w' : pm_W) (h2 : ∀ (x1 : Int32) (w : pm_W), rec 0 x1 0 0 w = some (r, w') → pm_wk p l e { frames := 2, cells := 0, slots := 0, locals := 41 } s m args below meth c D vwCl shM ca ad 4 (some (.int r), w') 2 [(0, .ref (ad 0)), (1, .int x1)] [] w) (h40 : ∀ (x1 : Int32) (w : pm_W), rec 1 x1 0 0 w = some (r, w') → pm_wk p l e { frames := 2, cells := 0, slots := 0, locals := 41 } s m args below meth c D vwCl shM ca ad 4 (some (.int r), w') 40 [(0, .ref (ad 0)), (1, .int x1)] [] w) (h86 : ∀ (x1 : Int32) (w : pm_W), rec 2 x1 0 0 w = some (r, w') → pm_wk p l e { frames := 2, cells := 0, slots := 0, locals := 41 } s m args below meth c D vwCl shM ca ad 4 (some (.int r), w') 86 [(0, .ref (ad 0)), (1, .int x1)] [] w) (h114 : ∀ (x1 : Int32) (x2 : Int32) (w : pm_W), rec 3 x1 x2 0 w = some (r, w') → pm_wk p l e { frames := 2, cells := 0, slots := 0, locals := 41 } s m args below meth c D vwCl shM ca ad 4 (some (.int r), w') 114 [(0, .ref (ad 0)), (1, .int x1), (2, .int x2)] [] w) (h125 : ∀ (x1 : Int32) (x2 : Int32) (x3 : Int32) (w : pm_W), rec 4 x1 x2 x3 w = some (r, w') → pm_wk p l e { frames := 2, cells := 0, slots := 0, locals := 41 } s m args below meth c D vwCl shM ca ad 4 (some (.int r), w') 125 [(0, .ref (ad 0)), (1, .int x1), (2, .int x2), (3, .int x3)] [] w) (x1 : Int32) (w : pm_W) (hf : b_Md_live_86  rec x1 w = some (r, w')) : pm_wk p l e { frames := 2, cells := 0, slots := 0, locals := 41 } s m args below meth c D vwCl shM ca ad 4 (some (.int r), w') 86 [(0, .ref (ad 0)), (1, .int x1)] [] w := by
  unfold b_Md_live_86 at hf
  refine pm_iload_n K d_Md_live_86 1 rfl rfl ?_
  refine pm_aload_n K d_Md_live_87 0 rfl rfl ?_
  refine pm_getI K fc_9 (o := 0) rfl 12 rfl (by decide) tw_681 d_Md_live_88 (v := w.1 0 12) rfl ?_
  refine pm_icmp_ge K d_Md_live_91 110 (by decide) (fun c12 => ?_) (fun c12 => ?_)
  · have hf := pm_ift c12 hf
    refine pm_iconst (v := 0) K d_Md_live_110 (by decide) ?_
    refine pm_istore_n (lv' := [(1, .int (0 : Int32)), (0, .ref (ad 0))]) K d_Md_live_111 rfl (by decide) rfl ?_
    refine pm_iconst (v := -1) K d_Md_live_112 (by decide) ?_
    refine pm_istore_n (lv' := [(2, .int (-1 : Int32)), (1, .int (0 : Int32)), (0, .ref (ad 0))]) K d_Md_live_113 rfl (by decide) rfl ?_
    refine pm_sub (lv' := [(0, .ref (ad 0)), (1, .int (0 : Int32)), (2, .int (-1 : Int32))]) [2, 1, 0] rfl ?_
    exact h114 (0 : Int32) (-1 : Int32) w hf
  · have hf := pm_iff c12 hf
    refine pm_aload_n K d_Md_live_94 0 rfl rfl ?_
    refine pm_aload_n K d_Md_live_95 0 rfl rfl ?_
    refine pm_getR K fc_9 (o := 0) rfl 14 rfl (by decide) tw_683 d_Md_live_96 ?_
    refine pm_iload_n K d_Md_live_99 1 rfl rfl ?_
    obtain ⟨q13, hf⟩ := pm_bnd hf
    refine pm_iald K (o := 11) rfl rfl q13 d_Md_live_100 (v := w.1 11 x1.toNatClampNeg) rfl ?_
    obtain ⟨o14, z14, hf⟩ := pm_bind hf
    refine pm_callV (As := [.int (w.1 11 x1.toNatClampNeg)]) (rest := []) (o := 0) K (c_Md_mark K.2.2.2.2.2.2.2.2.2.2.2.2 o14 (w.1 11 x1.toNatClampNeg) w z14) mi_Md_mark rfl rfl tw_745 tw_52 tw_744 rfl ⟨rfl, rfl, Nat.le_of_ble_eq_true rfl, Nat.le_of_ble_eq_true rfl⟩ rfl (Nat.le_of_ble_eq_true rfl) d_Md_live_101 ?_
    refine pm_iinc (v := x1 + (1 : Int32)) (lv' := [(1, .int (x1 + (1 : Int32))), (0, .ref (ad 0))]) K d_Md_live_104 1 rfl rfl (by decide) rfl ?_
    refine pm_goto K d_Md_live_107 86 (by decide) ?_
    refine pm_sub (lv' := [(0, .ref (ad 0)), (1, .int (x1 + (1 : Int32)))]) [1, 0] rfl ?_
    exact h86 (x1 + (1 : Int32)) o14 hf
set_option maxHeartbeats 4000000 in
set_option maxRecDepth 100000 in
theorem t_Md_live_114 {p : Program} {l : Launch} {e : Env} {s : State} {m : MethodId} {args : Array Value} {below : List Frame} {meth : Method} {c : Code} {D : va_G} {ca : Nat → ClassId} {ad : Nat → Nat} {E : (Nat → Prop) → State → Heap → Prop} (K : pm_ok p s m args meth c k_Md_live 4 pmTs R_Md D vwCl (tyl ca) shM ad E (some .int)) (rec : Nat → Int32 → Int32 → Int32 → pm_W → Option (Int32 × pm_W)) (r : Int32) (w' : pm_W) (h2 : ∀ (x1 : Int32) (w : pm_W), rec 0 x1 0 0 w = some (r, w') → pm_wk p l e { frames := 2, cells := 0, slots := 0, locals := 41 } s m args below meth c D vwCl shM ca ad 4 (some (.int r), w') 2 [(0, .ref (ad 0)), (1, .int x1)] [] w) (h40 : ∀ (x1 : Int32) (w : pm_W), rec 1 x1 0 0 w = some (r, w') → pm_wk p l e { frames := 2, cells := 0, slots := 0, locals := 41 } s m args below meth c D vwCl shM ca ad 4 (some (.int r), w') 40 [(0, .ref (ad 0)), (1, .int x1)] [] w) (h86 : ∀ (x1 : Int32) (w : pm_W), rec 2 x1 0 0 w = some (r, w') → pm_wk p l e { frames := 2, cells := 0, slots := 0, locals := 41 } s m args below meth c D vwCl shM ca ad 4 (some (.int r), w') 86 [(0, .ref (ad 0)), (1, .int x1)] [] w) (h114 : ∀ (x1 : Int32) (x2 : Int32) (w : pm_W), rec 3 x1 x2 0 w = some (r, w') → pm_wk p l e { frames := 2, cells := 0, slots := 0, locals := 41 } s m args below meth c D vwCl shM ca ad 4 (some (.int r), w') 114 [(0, .ref (ad 0)), (1, .int x1), (2, .int x2)] [] w) (h125 : ∀ (x1 : Int32) (x2 : Int32) (x3 : Int32) (w : pm_W), rec 4 x1 x2 x3 w = some (r, w') → pm_wk p l e { frames := 2, cells := 0, slots := 0, locals := 41 } s m args below meth c D vwCl shM ca ad 4 (some (.int r), w') 125 [(0, .ref (ad 0)), (1, .int x1), (2, .int x2), (3, .int x3)] [] w) (x1 : Int32) (x2 : Int32) (w : pm_W) (hf : b_Md_live_114  rec x1 x2 w = some (r, w')) : pm_wk p l e { frames := 2, cells := 0, slots := 0, locals := 41 } s m args below meth c D vwCl shM ca ad 4 (some (.int r), w') 114 [(0, .ref (ad 0)), (1, .int x1), (2, .int x2)] [] w := by
  unfold b_Md_live_114 at hf
  refine pm_iload_n K d_Md_live_114 1 rfl rfl ?_
  refine pm_iload_n K d_Md_live_115 2 rfl rfl ?_
  refine pm_icmp_eq K d_Md_live_116 202 (by decide) (fun c15 => ?_) (fun c15 => ?_)
  · have hf := pm_ift c15 hf
    refine pm_iload_n K d_Md_live_202 1 rfl rfl ?_
    cases hf
    exact pm_iret K d_Md_live_203
  · have hf := pm_iff c15 hf
    refine pm_iload_n K d_Md_live_119 1 rfl rfl ?_
    refine pm_istore_n (lv' := [(2, .int x1), (0, .ref (ad 0)), (1, .int x1)]) K d_Md_live_120 rfl (by decide) rfl ?_
    refine pm_iconst (v := 0) K d_Md_live_121 (by decide) ?_
    refine pm_istore_n (lv' := [(1, .int (0 : Int32)), (2, .int x1), (0, .ref (ad 0))]) K d_Md_live_122 rfl (by decide) rfl ?_
    refine pm_iconst (v := 0) K d_Md_live_123 (by decide) ?_
    refine pm_istore_n (lv' := [(3, .int (0 : Int32)), (1, .int (0 : Int32)), (2, .int x1), (0, .ref (ad 0))]) K d_Md_live_124 rfl (by decide) rfl ?_
    refine pm_sub (lv' := [(0, .ref (ad 0)), (1, .int (0 : Int32)), (2, .int x1), (3, .int (0 : Int32))]) [3, 1, 2, 0] rfl ?_
    exact h125 (0 : Int32) x1 (0 : Int32) w hf
set_option maxHeartbeats 4000000 in
set_option maxRecDepth 100000 in
theorem t_Md_live_125 {p : Program} {l : Launch} {e : Env} {s : State} {m : MethodId} {args : Array Value} {below : List Frame} {meth : Method} {c : Code} {D : va_G} {ca : Nat → ClassId} {ad : Nat → Nat} {E : (Nat → Prop) → State → Heap → Prop} (K : pm_ok p s m args meth c k_Md_live 4 pmTs R_Md D vwCl (tyl ca) shM ad E (some .int)) (rec : Nat → Int32 → Int32 → Int32 → pm_W → Option (Int32 × pm_W)) (r : Int32) (w' : pm_W) (h2 : ∀ (x1 : Int32) (w : pm_W), rec 0 x1 0 0 w = some (r, w') → pm_wk p l e { frames := 2, cells := 0, slots := 0, locals := 41 } s m args below meth c D vwCl shM ca ad 4 (some (.int r), w') 2 [(0, .ref (ad 0)), (1, .int x1)] [] w) (h40 : ∀ (x1 : Int32) (w : pm_W), rec 1 x1 0 0 w = some (r, w') → pm_wk p l e { frames := 2, cells := 0, slots := 0, locals := 41 } s m args below meth c D vwCl shM ca ad 4 (some (.int r), w') 40 [(0, .ref (ad 0)), (1, .int x1)] [] w) (h86 : ∀ (x1 : Int32) (w : pm_W), rec 2 x1 0 0 w = some (r, w') → pm_wk p l e { frames := 2, cells := 0, slots := 0, locals := 41 } s m args below meth c D vwCl shM ca ad 4 (some (.int r), w') 86 [(0, .ref (ad 0)), (1, .int x1)] [] w) (h114 : ∀ (x1 : Int32) (x2 : Int32) (w : pm_W), rec 3 x1 x2 0 w = some (r, w') → pm_wk p l e { frames := 2, cells := 0, slots := 0, locals := 41 } s m args below meth c D vwCl shM ca ad 4 (some (.int r), w') 114 [(0, .ref (ad 0)), (1, .int x1), (2, .int x2)] [] w) (h125 : ∀ (x1 : Int32) (x2 : Int32) (x3 : Int32) (w : pm_W), rec 4 x1 x2 x3 w = some (r, w') → pm_wk p l e { frames := 2, cells := 0, slots := 0, locals := 41 } s m args below meth c D vwCl shM ca ad 4 (some (.int r), w') 125 [(0, .ref (ad 0)), (1, .int x1), (2, .int x2), (3, .int x3)] [] w) (x1 : Int32) (x2 : Int32) (x3 : Int32) (w : pm_W) (hf : b_Md_live_125  rec x1 x2 x3 w = some (r, w')) : pm_wk p l e { frames := 2, cells := 0, slots := 0, locals := 41 } s m args below meth c D vwCl shM ca ad 4 (some (.int r), w') 125 [(0, .ref (ad 0)), (1, .int x1), (2, .int x2), (3, .int x3)] [] w := by
  unfold b_Md_live_125 at hf
  refine pm_iload_n K d_Md_live_125 3 rfl rfl ?_
  refine pm_sipush (v := 206) K d_Md_live_126 (by decide) ?_
  refine pm_icmp_ge K d_Md_live_129 199 (by decide) (fun c16 => ?_) (fun c16 => ?_)
  · have hf := pm_ift c16 hf
    refine pm_goto K d_Md_live_199 114 (by decide) ?_
    refine pm_sub (lv' := [(0, .ref (ad 0)), (1, .int x1), (2, .int x2)]) [0, 1, 2] rfl ?_
    exact h114 x1 x2 w hf
  · have hf := pm_iff c16 hf
    refine pm_aload_n K d_Md_live_132 0 rfl rfl ?_
    refine pm_getR K fc_9 (o := 0) rfl 6 rfl (by decide) tw_675 d_Md_live_133 ?_
    refine pm_iload_n K d_Md_live_136 3 rfl rfl ?_
    obtain ⟨q17, hf⟩ := pm_bnd hf
    refine pm_zald K (o := 5) rfl rfl q17 d_Md_live_137 (v := w.1 5 x3.toNatClampNeg) rfl ?_
    refine pm_if_ne K d_Md_live_138 144 (by decide) (fun c18 => ?_) (fun c18 => ?_)
    · have hf := pm_iff c18 hf
      refine pm_aload_n K d_Md_live_144 0 rfl rfl ?_
      refine pm_aload_n K d_Md_live_145 0 rfl rfl ?_
      refine pm_getR K fc_9 (o := 0) rfl 3 rfl (by decide) tw_672 d_Md_live_146 ?_
      refine pm_iload_n K d_Md_live_149 3 rfl rfl ?_
      obtain ⟨q19, hf⟩ := pm_bnd hf
      refine pm_iald K (o := 2) rfl rfl q19 d_Md_live_150 (v := w.1 2 x3.toNatClampNeg) rfl ?_
      obtain ⟨o20, z20, hf⟩ := pm_bind hf
      refine pm_callV (As := [.int (w.1 2 x3.toNatClampNeg)]) (rest := []) (o := 0) K (c_Md_mark K.2.2.2.2.2.2.2.2.2.2.2.2 o20 (w.1 2 x3.toNatClampNeg) w z20) mi_Md_mark rfl rfl tw_745 tw_52 tw_744 rfl ⟨rfl, rfl, Nat.le_of_ble_eq_true rfl, Nat.le_of_ble_eq_true rfl⟩ rfl (Nat.le_of_ble_eq_true rfl) d_Md_live_151 ?_
      refine pm_aload_n K d_Md_live_154 0 rfl rfl ?_
      refine pm_aload_n K d_Md_live_155 0 rfl rfl ?_
      refine pm_getR K fc_9 (o := 0) rfl 4 rfl (by decide) tw_673 d_Md_live_156 ?_
      refine pm_iload_n K d_Md_live_159 3 rfl rfl ?_
      obtain ⟨q21, hf⟩ := pm_bnd hf
      refine pm_iald K (o := 3) rfl rfl q21 d_Md_live_160 (v := o20.1 3 x3.toNatClampNeg) rfl ?_
      obtain ⟨o22, z22, hf⟩ := pm_bind hf
      refine pm_callV (As := [.int (o20.1 3 x3.toNatClampNeg)]) (rest := []) (o := 0) K (c_Md_mark K.2.2.2.2.2.2.2.2.2.2.2.2 o22 (o20.1 3 x3.toNatClampNeg) o20 z22) mi_Md_mark rfl rfl tw_745 tw_52 tw_744 rfl ⟨rfl, rfl, Nat.le_of_ble_eq_true rfl, Nat.le_of_ble_eq_true rfl⟩ rfl (Nat.le_of_ble_eq_true rfl) d_Md_live_161 ?_
      refine pm_aload_n K d_Md_live_164 0 rfl rfl ?_
      refine pm_getR K fc_9 (o := 0) rfl 2 rfl (by decide) tw_671 d_Md_live_165 ?_
      refine pm_iload_n K d_Md_live_168 3 rfl rfl ?_
      obtain ⟨q23, hf⟩ := pm_bnd hf
      refine pm_iald K (o := 1) rfl rfl q23 d_Md_live_169 (v := o22.1 1 x3.toNatClampNeg) rfl ?_
      refine pm_iconst (v := 3) K d_Md_live_170 (by decide) ?_
      refine pm_icmp_ne K d_Md_live_171 184 (by decide) (fun c24 => ?_) (fun c24 => ?_)
      · have hf := pm_iff c24 hf
        refine pm_iload_n K d_Md_live_184 1 rfl rfl ?_
        refine pm_aload_n K d_Md_live_185 0 rfl rfl ?_
        refine pm_getR K fc_9 (o := 0) rfl 2 rfl (by decide) tw_671 d_Md_live_186 ?_
        refine pm_iload_n K d_Md_live_189 3 rfl rfl ?_
        obtain ⟨q25, hf⟩ := pm_bnd hf
        refine pm_iald K (o := 1) rfl rfl q25 d_Md_live_190 (v := o22.1 1 x3.toNatClampNeg) rfl ?_
        refine pm_iadd K d_Md_live_191 ?_
        refine pm_istore_n (lv' := [(1, .int (x1 + (o22.1 1 x3.toNatClampNeg))), (0, .ref (ad 0)), (2, .int x2), (3, .int x3)]) K d_Md_live_192 rfl (by decide) rfl ?_
        refine pm_iinc (v := x3 + (1 : Int32)) (lv' := [(3, .int (x3 + (1 : Int32))), (1, .int (x1 + (o22.1 1 x3.toNatClampNeg))), (0, .ref (ad 0)), (2, .int x2)]) K d_Md_live_193 3 rfl rfl (by decide) rfl ?_
        refine pm_goto K d_Md_live_196 125 (by decide) ?_
        refine pm_sub (lv' := [(0, .ref (ad 0)), (1, .int (x1 + (o22.1 1 x3.toNatClampNeg))), (2, .int x2), (3, .int (x3 + (1 : Int32)))]) [2, 1, 3, 0] rfl ?_
        exact h125 (x1 + (o22.1 1 x3.toNatClampNeg)) x2 (x3 + (1 : Int32)) o22 hf
      · have hf := pm_ift c24 hf
        refine pm_aload_n K d_Md_live_174 0 rfl rfl ?_
        refine pm_aload_n K d_Md_live_175 0 rfl rfl ?_
        refine pm_getR K fc_9 (o := 0) rfl 5 rfl (by decide) tw_674 d_Md_live_176 ?_
        refine pm_iload_n K d_Md_live_179 3 rfl rfl ?_
        obtain ⟨q26, hf⟩ := pm_bnd hf
        refine pm_iald K (o := 4) rfl rfl q26 d_Md_live_180 (v := o22.1 4 x3.toNatClampNeg) rfl ?_
        obtain ⟨o27, z27, hf⟩ := pm_bind hf
        refine pm_callV (As := [.int (o22.1 4 x3.toNatClampNeg)]) (rest := []) (o := 0) K (c_Md_mark K.2.2.2.2.2.2.2.2.2.2.2.2 o27 (o22.1 4 x3.toNatClampNeg) o22 z27) mi_Md_mark rfl rfl tw_745 tw_52 tw_744 rfl ⟨rfl, rfl, Nat.le_of_ble_eq_true rfl, Nat.le_of_ble_eq_true rfl⟩ rfl (Nat.le_of_ble_eq_true rfl) d_Md_live_181 ?_
        refine pm_iload_n K d_Md_live_184 1 rfl rfl ?_
        refine pm_aload_n K d_Md_live_185 0 rfl rfl ?_
        refine pm_getR K fc_9 (o := 0) rfl 2 rfl (by decide) tw_671 d_Md_live_186 ?_
        refine pm_iload_n K d_Md_live_189 3 rfl rfl ?_
        obtain ⟨q28, hf⟩ := pm_bnd hf
        refine pm_iald K (o := 1) rfl rfl q28 d_Md_live_190 (v := o27.1 1 x3.toNatClampNeg) rfl ?_
        refine pm_iadd K d_Md_live_191 ?_
        refine pm_istore_n (lv' := [(1, .int (x1 + (o27.1 1 x3.toNatClampNeg))), (0, .ref (ad 0)), (2, .int x2), (3, .int x3)]) K d_Md_live_192 rfl (by decide) rfl ?_
        refine pm_iinc (v := x3 + (1 : Int32)) (lv' := [(3, .int (x3 + (1 : Int32))), (1, .int (x1 + (o27.1 1 x3.toNatClampNeg))), (0, .ref (ad 0)), (2, .int x2)]) K d_Md_live_193 3 rfl rfl (by decide) rfl ?_
        refine pm_goto K d_Md_live_196 125 (by decide) ?_
        refine pm_sub (lv' := [(0, .ref (ad 0)), (1, .int (x1 + (o27.1 1 x3.toNatClampNeg))), (2, .int x2), (3, .int (x3 + (1 : Int32)))]) [2, 1, 3, 0] rfl ?_
        exact h125 (x1 + (o27.1 1 x3.toNatClampNeg)) x2 (x3 + (1 : Int32)) o27 hf
    · have hf := pm_ift c18 hf
      refine pm_goto K d_Md_live_141 193 (by decide) ?_
      refine pm_iinc (v := x3 + (1 : Int32)) (lv' := [(3, .int (x3 + (1 : Int32))), (0, .ref (ad 0)), (1, .int x1), (2, .int x2)]) K d_Md_live_193 3 rfl rfl (by decide) rfl ?_
      refine pm_goto K d_Md_live_196 125 (by decide) ?_
      refine pm_sub (lv' := [(0, .ref (ad 0)), (1, .int x1), (2, .int x2), (3, .int (x3 + (1 : Int32)))]) [1, 2, 3, 0] rfl ?_
      exact h125 x1 x2 (x3 + (1 : Int32)) w hf
set_option maxHeartbeats 4000000 in
set_option maxRecDepth 100000 in
theorem a_Md_live {p : Program} {l : Launch} {e : Env} {s : State} {m : MethodId} {args : Array Value} {below : List Frame} {meth : Method} {c : Code} {D : va_G} {ca : Nat → ClassId} {ad : Nat → Nat} {E : (Nat → Prop) → State → Heap → Prop} (K : pm_ok p s m args meth c k_Md_live 4 pmTs R_Md D vwCl (tyl ca) shM ad E (some .int)) (r : Int32) (w' : pm_W) : ∀ n : Nat, (∀ (x1 : Int32) (w : pm_W), l_Md_live  n 0 x1 0 0 w = some (r, w') → pm_wk p l e { frames := 2, cells := 0, slots := 0, locals := 41 } s m args below meth c D vwCl shM ca ad 4 (some (.int r), w') 2 [(0, .ref (ad 0)), (1, .int x1)] [] w) ∧ (∀ (x1 : Int32) (w : pm_W), l_Md_live  n 1 x1 0 0 w = some (r, w') → pm_wk p l e { frames := 2, cells := 0, slots := 0, locals := 41 } s m args below meth c D vwCl shM ca ad 4 (some (.int r), w') 40 [(0, .ref (ad 0)), (1, .int x1)] [] w) ∧ (∀ (x1 : Int32) (w : pm_W), l_Md_live  n 2 x1 0 0 w = some (r, w') → pm_wk p l e { frames := 2, cells := 0, slots := 0, locals := 41 } s m args below meth c D vwCl shM ca ad 4 (some (.int r), w') 86 [(0, .ref (ad 0)), (1, .int x1)] [] w) ∧ (∀ (x1 : Int32) (x2 : Int32) (w : pm_W), l_Md_live  n 3 x1 x2 0 w = some (r, w') → pm_wk p l e { frames := 2, cells := 0, slots := 0, locals := 41 } s m args below meth c D vwCl shM ca ad 4 (some (.int r), w') 114 [(0, .ref (ad 0)), (1, .int x1), (2, .int x2)] [] w) ∧ (∀ (x1 : Int32) (x2 : Int32) (x3 : Int32) (w : pm_W), l_Md_live  n 4 x1 x2 x3 w = some (r, w') → pm_wk p l e { frames := 2, cells := 0, slots := 0, locals := 41 } s m args below meth c D vwCl shM ca ad 4 (some (.int r), w') 125 [(0, .ref (ad 0)), (1, .int x1), (2, .int x2), (3, .int x3)] [] w) := by
  intro n
  induction n with
  | zero => exact ⟨fun _ _ hf => (by cases hf), fun _ _ hf => (by cases hf), fun _ _ hf => (by cases hf), fun _ _ _ hf => (by cases hf), fun _ _ _ _ hf => (by cases hf)⟩
  | succ n ih => exact ⟨fun x1 w hf => t_Md_live_2 K (l_Md_live n) r w' (ih.1) (ih.2.1) (ih.2.2.1) (ih.2.2.2.1) (ih.2.2.2.2) x1 w hf, fun x1 w hf => t_Md_live_40 K (l_Md_live n) r w' (ih.1) (ih.2.1) (ih.2.2.1) (ih.2.2.2.1) (ih.2.2.2.2) x1 w hf, fun x1 w hf => t_Md_live_86 K (l_Md_live n) r w' (ih.1) (ih.2.1) (ih.2.2.1) (ih.2.2.2.1) (ih.2.2.2.2) x1 w hf, fun x1 x2 w hf => t_Md_live_114 K (l_Md_live n) r w' (ih.1) (ih.2.1) (ih.2.2.1) (ih.2.2.2.1) (ih.2.2.2.2) x1 x2 w hf, fun x1 x2 x3 w hf => t_Md_live_125 K (l_Md_live n) r w' (ih.1) (ih.2.1) (ih.2.2.1) (ih.2.2.2.1) (ih.2.2.2.2) x1 x2 x3 w hf⟩
set_option maxHeartbeats 4000000 in
set_option maxRecDepth 100000 in
theorem t_Md_live {p : Program} {l : Launch} {e : Env} {s : State} {m : MethodId} {args : Array Value} {below : List Frame} {meth : Method} {c : Code} {D : va_G} {ca : Nat → ClassId} {ad : Nat → Nat} {E : (Nat → Prop) → State → Heap → Prop} (K : pm_ok p s m args meth c k_Md_live 4 pmTs R_Md D vwCl (tyl ca) shM ad E (some .int)) (r : Int32) (w' : pm_W) (w : pm_W) (hf : f_Md_live  w = some (r, w')) : pm_wk p l e { frames := 2, cells := 0, slots := 0, locals := 41 } s m args below meth c D vwCl shM ca ad 4 (some (.int r), w') 0 [(0, .ref (ad 0))] [] w := by
  unfold f_Md_live at hf
  have h2 := (a_Md_live (l := l) (e := e) (below := below) K  r w' pm_fuel).1
  have h40 := (a_Md_live (l := l) (e := e) (below := below) K  r w' pm_fuel).2.1
  have h86 := (a_Md_live (l := l) (e := e) (below := below) K  r w' pm_fuel).2.2.1
  have h114 := (a_Md_live (l := l) (e := e) (below := below) K  r w' pm_fuel).2.2.2.1
  have h125 := (a_Md_live (l := l) (e := e) (below := below) K  r w' pm_fuel).2.2.2.2
  refine pm_iconst (v := 0) K d_Md_live_0 (by decide) ?_
  refine pm_istore_n (lv' := [(1, .int (0 : Int32)), (0, .ref (ad 0))]) K d_Md_live_1 rfl (by decide) rfl ?_
  refine pm_sub (lv' := [(0, .ref (ad 0)), (1, .int (0 : Int32))]) [1, 0] rfl ?_
  exact h2 (0 : Int32) w hf
/-- CellLispModel.live()I -/
theorem c_Md_live {l : Launch} {D : va_G} {ca : Nat → ClassId} {ad : Nat → Nat} {E : (Nat → Prop) → State → Heap → Prop} (hEc : pm_Ecl E) (r : Int32) (w' : pm_W) (w : pm_W) (hf : f_Md_live  w = some (r, w')) : pm_Met l pmTs D vwCl (tyl ca) shM ca ad E y_Md_live k_Md_live 4 (some .int) { frames := 2, cells := 0, slots := 0, locals := 41 } [.ref (ad 0)] w (some (.int r), w') :=
  pm_start pmTs_good hEc (by decide) (Nat.le_of_ble_eq_true rfl) (fun p e s m below meth c K => t_Md_live K r w'  w hf)
def b_Md_room_21 (rec : Nat → Int32 → Int32 → pm_W → Option (Int32 × pm_W)) (x2 : Int32) (x3 : Int32) (w : pm_W) : Option (Int32 × pm_W) :=
  if (206 : Int32) ≤ x3 then
    if x2 &&& 1 = x2 then
      some (x2, w)
    else none
  else
    if x3 < 0 ∨ 206 ≤ x3.toNatClampNeg then none else
    if (w.1 5 x3.toNatClampNeg) = 0 then
      if x3 < 0 ∨ 206 ≤ x3.toNatClampNeg then none else
      rec 0 x2 (x3 + (1 : Int32)) (pm_setI w 1 x3.toNatClampNeg (0 : Int32))
    else
      if x3 < 0 ∨ 206 ≤ x3.toNatClampNeg then none else
      if x3 < 0 ∨ 206 ≤ x3.toNatClampNeg then none else
      rec 0 x2 (x3 + (1 : Int32)) (pm_setI w 1 x3.toNatClampNeg (w.1 1 x3.toNatClampNeg))
def l_Md_room : Nat → Nat → Int32 → Int32 → pm_W → Option (Int32 × pm_W) := pm_it (fun _ _ _ _ => none) (fun rec k x2 x3 w => b_Md_room_21  rec x2 x3 w)
def f_Md_room (x1 : Int32) (w : pm_W) : Option (Int32 × pm_W) :=
  Option.bind (f_Md_live w) fun o1 =>
  if (o1.2.1 0 1) < (o1.1 + x1) then
    (l_Md_room  pm_fuel) 0 (0 : Int32) (0 : Int32) o1.2
  else
    (l_Md_room  pm_fuel) 0 (1 : Int32) (0 : Int32) o1.2
set_option maxHeartbeats 4000000 in
set_option maxRecDepth 100000 in
theorem t_Md_room_21 {p : Program} {l : Launch} {e : Env} {s : State} {m : MethodId} {args : Array Value} {below : List Frame} {meth : Method} {c : Code} {D : va_G} {ca : Nat → ClassId} {ad : Nat → Nat} {E : (Nat → Prop) → State → Heap → Prop} (K : pm_ok p s m args meth c k_Md_room 4 pmTs R_Md D vwCl (tyl ca) shM ad E (some .boolean)) (rec : Nat → Int32 → Int32 → pm_W → Option (Int32 × pm_W)) (r : Int32) (w' : pm_W) (h21 : ∀ (x2 : Int32) (x3 : Int32) (w : pm_W), rec 0 x2 x3 w = some (r, w') → pm_wk p l e { frames := 3, cells := 0, slots := 0, locals := 64 } s m args below meth c D vwCl shM ca ad 4 (some (.int r), w') 21 [(0, .ref (ad 0)), (2, .int x2), (3, .int x3)] [] w) (x2 : Int32) (x3 : Int32) (w : pm_W) (hf : b_Md_room_21  rec x2 x3 w = some (r, w')) : pm_wk p l e { frames := 3, cells := 0, slots := 0, locals := 64 } s m args below meth c D vwCl shM ca ad 4 (some (.int r), w') 21 [(0, .ref (ad 0)), (2, .int x2), (3, .int x3)] [] w := by
  unfold b_Md_room_21 at hf
  refine pm_iload_n K d_Md_room_21 2 rfl rfl ?_
  refine pm_sipush (v := 206) K d_Md_room_22 (by decide) ?_
  refine pm_icmp_ge K d_Md_room_25 59 (by decide) (fun c3 => ?_) (fun c3 => ?_)
  · have hf := pm_ift c3 hf
    refine pm_iload_n K d_Md_room_59 1 rfl rfl ?_
    obtain ⟨q4, hf⟩ := pm_chk hf
    cases hf
    exact pm_zret K (congrArg Value.int q4) d_Md_room_60
  · have hf := pm_iff c3 hf
    refine pm_aload_n K d_Md_room_28 0 rfl rfl ?_
    refine pm_getR K fc_9 (o := 0) rfl 2 rfl (by decide) tw_671 d_Md_room_29 ?_
    refine pm_iload_n K d_Md_room_32 2 rfl rfl ?_
    refine pm_aload_n K d_Md_room_33 0 rfl rfl ?_
    refine pm_getR K fc_9 (o := 0) rfl 6 rfl (by decide) tw_675 d_Md_room_34 ?_
    refine pm_iload_n K d_Md_room_37 2 rfl rfl ?_
    obtain ⟨q5, hf⟩ := pm_bnd hf
    refine pm_zald K (o := 5) rfl rfl q5 d_Md_room_38 (v := w.1 5 x3.toNatClampNeg) rfl ?_
    refine pm_if_eq K d_Md_room_39 51 (by decide) (fun c6 => ?_) (fun c6 => ?_)
    · have hf := pm_ift c6 hf
      refine pm_iconst (v := 0) K d_Md_room_51 (by decide) ?_
      obtain ⟨q7, hf⟩ := pm_bnd hf
      refine pm_iast K (o := 1) rfl rfl q7 d_Md_room_52 ?_
      refine pm_iinc (v := x3 + (1 : Int32)) (lv' := [(3, .int (x3 + (1 : Int32))), (0, .ref (ad 0)), (2, .int x2)]) K d_Md_room_53 2 rfl rfl (by decide) rfl ?_
      refine pm_goto K d_Md_room_56 21 (by decide) ?_
      refine pm_sub (lv' := [(0, .ref (ad 0)), (2, .int x2), (3, .int (x3 + (1 : Int32)))]) [1, 2, 0] rfl ?_
      exact h21 x2 (x3 + (1 : Int32)) (pm_setI w 1 x3.toNatClampNeg (0 : Int32)) hf
    · have hf := pm_iff c6 hf
      refine pm_aload_n K d_Md_room_42 0 rfl rfl ?_
      refine pm_getR K fc_9 (o := 0) rfl 2 rfl (by decide) tw_671 d_Md_room_43 ?_
      refine pm_iload_n K d_Md_room_46 2 rfl rfl ?_
      obtain ⟨q8, hf⟩ := pm_bnd hf
      refine pm_iald K (o := 1) rfl rfl q8 d_Md_room_47 (v := w.1 1 x3.toNatClampNeg) rfl ?_
      refine pm_goto K d_Md_room_48 52 (by decide) ?_
      obtain ⟨q9, hf⟩ := pm_bnd hf
      refine pm_iast K (o := 1) rfl rfl q9 d_Md_room_52 ?_
      refine pm_iinc (v := x3 + (1 : Int32)) (lv' := [(3, .int (x3 + (1 : Int32))), (0, .ref (ad 0)), (2, .int x2)]) K d_Md_room_53 2 rfl rfl (by decide) rfl ?_
      refine pm_goto K d_Md_room_56 21 (by decide) ?_
      refine pm_sub (lv' := [(0, .ref (ad 0)), (2, .int x2), (3, .int (x3 + (1 : Int32)))]) [1, 2, 0] rfl ?_
      exact h21 x2 (x3 + (1 : Int32)) (pm_setI w 1 x3.toNatClampNeg (w.1 1 x3.toNatClampNeg)) hf
set_option maxHeartbeats 4000000 in
set_option maxRecDepth 100000 in
theorem a_Md_room {p : Program} {l : Launch} {e : Env} {s : State} {m : MethodId} {args : Array Value} {below : List Frame} {meth : Method} {c : Code} {D : va_G} {ca : Nat → ClassId} {ad : Nat → Nat} {E : (Nat → Prop) → State → Heap → Prop} (K : pm_ok p s m args meth c k_Md_room 4 pmTs R_Md D vwCl (tyl ca) shM ad E (some .boolean)) (r : Int32) (w' : pm_W) : ∀ n : Nat, (∀ (x2 : Int32) (x3 : Int32) (w : pm_W), l_Md_room  n 0 x2 x3 w = some (r, w') → pm_wk p l e { frames := 3, cells := 0, slots := 0, locals := 64 } s m args below meth c D vwCl shM ca ad 4 (some (.int r), w') 21 [(0, .ref (ad 0)), (2, .int x2), (3, .int x3)] [] w) := by
  intro n
  induction n with
  | zero => exact fun _ _ _ hf => (by cases hf)
  | succ n ih => exact fun x2 x3 w hf => t_Md_room_21 K (l_Md_room n) r w' (ih) x2 x3 w hf
set_option maxHeartbeats 4000000 in
set_option maxRecDepth 100000 in
theorem t_Md_room {p : Program} {l : Launch} {e : Env} {s : State} {m : MethodId} {args : Array Value} {below : List Frame} {meth : Method} {c : Code} {D : va_G} {ca : Nat → ClassId} {ad : Nat → Nat} {E : (Nat → Prop) → State → Heap → Prop} (K : pm_ok p s m args meth c k_Md_room 4 pmTs R_Md D vwCl (tyl ca) shM ad E (some .boolean)) (r : Int32) (w' : pm_W) (x1 : Int32) (w : pm_W) (hf : f_Md_room  x1 w = some (r, w')) : pm_wk p l e { frames := 3, cells := 0, slots := 0, locals := 64 } s m args below meth c D vwCl shM ca ad 4 (some (.int r), w') 0 [(0, .ref (ad 0)), (1, .int x1)] [] w := by
  unfold f_Md_room at hf
  have h21 := (a_Md_room (l := l) (e := e) (below := below) K  r w' pm_fuel)
  refine pm_aload_n K d_Md_room_0 0 rfl rfl ?_
  obtain ⟨o1, z1, hf⟩ := pm_bind hf
  refine pm_callV (As := []) (rest := []) (o := 0) K (c_Md_live K.2.2.2.2.2.2.2.2.2.2.2.2 o1.1 o1.2 w z1) mi_Md_live rfl rfl tw_742 tw_51 tw_741 rfl ⟨rfl, rfl, Nat.le_of_ble_eq_true rfl, Nat.le_of_ble_eq_true rfl⟩ rfl (Nat.le_of_ble_eq_true rfl) d_Md_room_1 ?_
  refine pm_iload_n K d_Md_room_4 1 rfl rfl ?_
  refine pm_iadd K d_Md_room_5 ?_
  refine pm_aload_n K d_Md_room_6 0 rfl rfl ?_
  refine pm_getI K fc_9 (o := 0) rfl 1 rfl (by decide) tw_670 d_Md_room_7 (v := o1.2.1 0 1) rfl ?_
  refine pm_icmp_gt K d_Md_room_10 17 (by decide) (fun c2 => ?_) (fun c2 => ?_)
  · have hf := pm_ift c2 hf
    refine pm_iconst (v := 0) K d_Md_room_17 (by decide) ?_
    refine pm_istore_n (lv' := [(2, .int (0 : Int32)), (0, .ref (ad 0)), (1, .int x1)]) K d_Md_room_18 rfl (by decide) rfl ?_
    refine pm_iconst (v := 0) K d_Md_room_19 (by decide) ?_
    refine pm_istore_n (lv' := [(3, .int (0 : Int32)), (2, .int (0 : Int32)), (0, .ref (ad 0)), (1, .int x1)]) K d_Md_room_20 rfl (by decide) rfl ?_
    refine pm_sub (lv' := [(0, .ref (ad 0)), (2, .int (0 : Int32)), (3, .int (0 : Int32))]) [2, 1, 0] rfl ?_
    exact h21 (0 : Int32) (0 : Int32) o1.2 hf
  · have hf := pm_iff c2 hf
    refine pm_iconst (v := 1) K d_Md_room_13 (by decide) ?_
    refine pm_goto K d_Md_room_14 18 (by decide) ?_
    refine pm_istore_n (lv' := [(2, .int (1 : Int32)), (0, .ref (ad 0)), (1, .int x1)]) K d_Md_room_18 rfl (by decide) rfl ?_
    refine pm_iconst (v := 0) K d_Md_room_19 (by decide) ?_
    refine pm_istore_n (lv' := [(3, .int (0 : Int32)), (2, .int (1 : Int32)), (0, .ref (ad 0)), (1, .int x1)]) K d_Md_room_20 rfl (by decide) rfl ?_
    refine pm_sub (lv' := [(0, .ref (ad 0)), (2, .int (1 : Int32)), (3, .int (0 : Int32))]) [2, 1, 0] rfl ?_
    exact h21 (1 : Int32) (0 : Int32) o1.2 hf
/-- CellLispModel.room(I)Z -/
theorem c_Md_room {l : Launch} {D : va_G} {ca : Nat → ClassId} {ad : Nat → Nat} {E : (Nat → Prop) → State → Heap → Prop} (hEc : pm_Ecl E) (r : Int32) (w' : pm_W) (x1 : Int32) (w : pm_W) (hf : f_Md_room  x1 w = some (r, w')) : pm_Met l pmTs D vwCl (tyl ca) shM ca ad E y_Md_room k_Md_room 4 (some .boolean) { frames := 3, cells := 0, slots := 0, locals := 64 } [.ref (ad 0), .int x1] w (some (.int r), w') :=
  pm_start pmTs_good hEc (by decide) (Nat.le_of_ble_eq_true rfl) (fun p e s m below meth c K => t_Md_room K r w' x1 w hf)
