def f_Md_go (x1 : Int32) (x2 : Int32) (w : pm_W) : Option (Int32 × pm_W) :=
  some ((1 : Int32), pm_setI (pm_setI (pm_setI w 0 15 x1) 0 16 x2) 0 18 (0 : Int32))
set_option maxHeartbeats 4000000 in
set_option maxRecDepth 100000 in
theorem t_Md_go {p : Program} {l : Launch} {e : Env} {s : State} {m : MethodId} {args : Array Value} {below : List Frame} {meth : Method} {c : Code} {D : va_G} {ca : Nat → ClassId} {ad : Nat → Nat} {E : (Nat → Prop) → State → Heap → Prop} (K : pm_ok p s m args meth c k_Md_go 3 pmTs R_Md D vwCl (tyl ca) shM ad E (some .int)) (r : Int32) (w' : pm_W) (x1 : Int32) (x2 : Int32) (w : pm_W) (hf : f_Md_go  x1 x2 w = some (r, w')) : pm_wk p l e { frames := 0, cells := 0, slots := 0, locals := 0 } s m args below meth c D vwCl shM ca ad 3 (some (.int r), w') 0 [(0, .ref (ad 0)), (1, .int x1), (2, .int x2)] [] w := by
  unfold f_Md_go at hf
  refine pm_aload_n K d_Md_go_0 0 rfl rfl ?_
  refine pm_iload_n K d_Md_go_1 1 rfl rfl ?_
  refine pm_putI K fc_9 (o := 0) (ty := .int) rfl 15 rfl (by decide) tw_684 rfl rfl rfl rfl d_Md_go_2 ?_
  refine pm_aload_n K d_Md_go_5 0 rfl rfl ?_
  refine pm_iload_n K d_Md_go_6 2 rfl rfl ?_
  refine pm_putI K fc_9 (o := 0) (ty := .int) rfl 16 rfl (by decide) tw_685 rfl rfl rfl rfl d_Md_go_7 ?_
  refine pm_aload_n K d_Md_go_10 0 rfl rfl ?_
  refine pm_iconst (v := 0) K d_Md_go_11 (by decide) ?_
  refine pm_putI K fc_9 (o := 0) (ty := .boolean) rfl 18 rfl (by decide) tw_687 rfl rfl (by decide) (by decide) d_Md_go_12 ?_
  refine pm_iconst (v := 1) K d_Md_go_15 (by decide) ?_
  cases hf
  exact pm_iret K d_Md_go_16
/-- CellLispModel.go(II)I -/
theorem c_Md_go {l : Launch} {D : va_G} {ca : Nat → ClassId} {ad : Nat → Nat} {E : (Nat → Prop) → State → Heap → Prop} (hEc : pm_Ecl E) (r : Int32) (w' : pm_W) (x1 : Int32) (x2 : Int32) (w : pm_W) (hf : f_Md_go  x1 x2 w = some (r, w')) : pm_Met l pmTs D vwCl (tyl ca) shM ca ad E y_Md_go k_Md_go 3 (some .int) { frames := 0, cells := 0, slots := 0, locals := 0 } [.ref (ad 0), .int x1, .int x2] w (some (.int r), w') :=
  pm_start pmTs_good hEc (by decide) (Nat.le_of_ble_eq_true rfl) (fun p e s m below meth c K => t_Md_go K r w' x1 x2 w hf)
def b_Md_lengthOf_4 (rec : Nat → Int32 → Int32 → pm_W → Option (Int32 × pm_W)) (x2 : Int32) (x3 : Int32) (w : pm_W) : Option (Int32 × pm_W) :=
  Option.bind (f_Md_isPair x3 w) fun o1 =>
  if o1.1 = 0 then
    some (x2, o1.2)
  else
    Option.bind (f_Md_cdr x3 o1.2) fun o3 =>
    rec 0 (x2 + (1 : Int32)) o3.1 o3.2
def l_Md_lengthOf : Nat → Nat → Int32 → Int32 → pm_W → Option (Int32 × pm_W) := pm_it (fun _ _ _ _ => none) (fun rec k x2 x3 w => b_Md_lengthOf_4  rec x2 x3 w)
def f_Md_lengthOf (x1 : Int32) (w : pm_W) : Option (Int32 × pm_W) :=
  (l_Md_lengthOf  pm_fuel) 0 (0 : Int32) x1 w
set_option maxHeartbeats 4000000 in
set_option maxRecDepth 100000 in
theorem t_Md_lengthOf_4 {p : Program} {l : Launch} {e : Env} {s : State} {m : MethodId} {args : Array Value} {below : List Frame} {meth : Method} {c : Code} {D : va_G} {ca : Nat → ClassId} {ad : Nat → Nat} {E : (Nat → Prop) → State → Heap → Prop} (K : pm_ok p s m args meth c k_Md_lengthOf 4 pmTs R_Md D vwCl (tyl ca) shM ad E (some .int)) (rec : Nat → Int32 → Int32 → pm_W → Option (Int32 × pm_W)) (r : Int32) (w' : pm_W) (h4 : ∀ (x2 : Int32) (x3 : Int32) (w : pm_W), rec 0 x2 x3 w = some (r, w') → pm_wk p l e { frames := 2, cells := 0, slots := 0, locals := 41 } s m args below meth c D vwCl shM ca ad 4 (some (.int r), w') 4 [(0, .ref (ad 0)), (2, .int x2), (3, .int x3)] [] w) (x2 : Int32) (x3 : Int32) (w : pm_W) (hf : b_Md_lengthOf_4  rec x2 x3 w = some (r, w')) : pm_wk p l e { frames := 2, cells := 0, slots := 0, locals := 41 } s m args below meth c D vwCl shM ca ad 4 (some (.int r), w') 4 [(0, .ref (ad 0)), (2, .int x2), (3, .int x3)] [] w := by
  unfold b_Md_lengthOf_4 at hf
  refine pm_aload_n K d_Md_lengthOf_4 0 rfl rfl ?_
  refine pm_iload_n K d_Md_lengthOf_5 2 rfl rfl ?_
  obtain ⟨o1, z1, hf⟩ := pm_bind hf
  refine pm_callV (As := [.int x3]) (rest := []) (o := 0) K (c_Md_isPair K.2.2.2.2.2.2.2.2.2.2.2.2 o1.1 o1.2 x3 w z1) mi_Md_isPair rfl rfl tw_787 tw_63 tw_786 rfl ⟨rfl, rfl, Nat.le_of_ble_eq_true rfl, Nat.le_of_ble_eq_true rfl⟩ rfl (Nat.le_of_ble_eq_true rfl) d_Md_lengthOf_6 ?_
  refine pm_if_eq K d_Md_lengthOf_9 24 (by decide) (fun c2 => ?_) (fun c2 => ?_)
  · have hf := pm_ift c2 hf
    refine pm_iload_n K d_Md_lengthOf_24 1 rfl rfl ?_
    cases hf
    exact pm_iret K d_Md_lengthOf_25
  · have hf := pm_iff c2 hf
    refine pm_iinc (v := x2 + (1 : Int32)) (lv' := [(2, .int (x2 + (1 : Int32))), (0, .ref (ad 0)), (3, .int x3)]) K d_Md_lengthOf_12 1 rfl rfl (by decide) rfl ?_
    refine pm_aload_n K d_Md_lengthOf_15 1 rfl rfl ?_
    refine pm_iload_n K d_Md_lengthOf_16 2 rfl rfl ?_
    obtain ⟨o3, z3, hf⟩ := pm_bind hf
    refine pm_callV (As := [.int x3]) (rest := []) (o := 0) K (c_Md_cdr K.2.2.2.2.2.2.2.2.2.2.2.2 o3.1 o3.2 x3 o1.2 z3) mi_Md_cdr rfl rfl tw_814 tw_70 tw_813 rfl ⟨rfl, rfl, Nat.le_of_ble_eq_true rfl, Nat.le_of_ble_eq_true rfl⟩ rfl (Nat.le_of_ble_eq_true rfl) d_Md_lengthOf_17 ?_
    refine pm_istore_n (lv' := [(3, .int o3.1), (2, .int (x2 + (1 : Int32))), (0, .ref (ad 0))]) K d_Md_lengthOf_20 rfl (by decide) rfl ?_
    refine pm_goto K d_Md_lengthOf_21 4 (by decide) ?_
    refine pm_sub (lv' := [(0, .ref (ad 0)), (2, .int (x2 + (1 : Int32))), (3, .int o3.1)]) [2, 1, 0] rfl ?_
    exact h4 (x2 + (1 : Int32)) o3.1 o3.2 hf
set_option maxHeartbeats 4000000 in
set_option maxRecDepth 100000 in
theorem a_Md_lengthOf {p : Program} {l : Launch} {e : Env} {s : State} {m : MethodId} {args : Array Value} {below : List Frame} {meth : Method} {c : Code} {D : va_G} {ca : Nat → ClassId} {ad : Nat → Nat} {E : (Nat → Prop) → State → Heap → Prop} (K : pm_ok p s m args meth c k_Md_lengthOf 4 pmTs R_Md D vwCl (tyl ca) shM ad E (some .int)) (r : Int32) (w' : pm_W) : ∀ n : Nat, (∀ (x2 : Int32) (x3 : Int32) (w : pm_W), l_Md_lengthOf  n 0 x2 x3 w = some (r, w') → pm_wk p l e { frames := 2, cells := 0, slots := 0, locals := 41 } s m args below meth c D vwCl shM ca ad 4 (some (.int r), w') 4 [(0, .ref (ad 0)), (2, .int x2), (3, .int x3)] [] w) := by
  intro n
  induction n with
  | zero => exact fun _ _ _ hf => (by cases hf)
  | succ n ih => exact fun x2 x3 w hf => t_Md_lengthOf_4 K (l_Md_lengthOf n) r w' (ih) x2 x3 w hf
set_option maxHeartbeats 4000000 in
set_option maxRecDepth 100000 in
theorem t_Md_lengthOf {p : Program} {l : Launch} {e : Env} {s : State} {m : MethodId} {args : Array Value} {below : List Frame} {meth : Method} {c : Code} {D : va_G} {ca : Nat → ClassId} {ad : Nat → Nat} {E : (Nat → Prop) → State → Heap → Prop} (K : pm_ok p s m args meth c k_Md_lengthOf 4 pmTs R_Md D vwCl (tyl ca) shM ad E (some .int)) (r : Int32) (w' : pm_W) (x1 : Int32) (w : pm_W) (hf : f_Md_lengthOf  x1 w = some (r, w')) : pm_wk p l e { frames := 2, cells := 0, slots := 0, locals := 41 } s m args below meth c D vwCl shM ca ad 4 (some (.int r), w') 0 [(0, .ref (ad 0)), (1, .int x1)] [] w := by
  unfold f_Md_lengthOf at hf
  have h4 := (a_Md_lengthOf (l := l) (e := e) (below := below) K  r w' pm_fuel)
  refine pm_iconst (v := 0) K d_Md_lengthOf_0 (by decide) ?_
  refine pm_istore_n (lv' := [(2, .int (0 : Int32)), (0, .ref (ad 0)), (1, .int x1)]) K d_Md_lengthOf_1 rfl (by decide) rfl ?_
  refine pm_iload_n K d_Md_lengthOf_2 2 rfl rfl ?_
  refine pm_istore_n (lv' := [(3, .int x1), (2, .int (0 : Int32)), (0, .ref (ad 0)), (1, .int x1)]) K d_Md_lengthOf_3 rfl (by decide) rfl ?_
  refine pm_sub (lv' := [(0, .ref (ad 0)), (2, .int (0 : Int32)), (3, .int x1)]) [2, 1, 0] rfl ?_
  exact h4 (0 : Int32) x1 w hf
/-- CellLispModel.lengthOf(I)I -/
theorem c_Md_lengthOf {l : Launch} {D : va_G} {ca : Nat → ClassId} {ad : Nat → Nat} {E : (Nat → Prop) → State → Heap → Prop} (hEc : pm_Ecl E) (r : Int32) (w' : pm_W) (x1 : Int32) (w : pm_W) (hf : f_Md_lengthOf  x1 w = some (r, w')) : pm_Met l pmTs D vwCl (tyl ca) shM ca ad E y_Md_lengthOf k_Md_lengthOf 4 (some .int) { frames := 2, cells := 0, slots := 0, locals := 41 } [.ref (ad 0), .int x1] w (some (.int r), w') :=
  pm_start pmTs_good hEc (by decide) (Nat.le_of_ble_eq_true rfl) (fun p e s m below meth c K => t_Md_lengthOf K r w' x1 w hf)
def b_Md_at_5 (rec : Nat → Int32 → Int32 → Int32 → pm_W → Option (Int32 × pm_W)) (x2 : Int32) (x3 : Int32) (x4 : Int32) (w : pm_W) : Option (Int32 × pm_W) :=
  if x2 ≤ x4 then
    Option.bind (f_Md_car x3 w) fun o2 =>
    some (o2.1, o2.2)
  else
    Option.bind (f_Md_cdr x3 w) fun o3 =>
    rec 0 x2 o3.1 (x4 + (1 : Int32)) o3.2
def l_Md_at : Nat → Nat → Int32 → Int32 → Int32 → pm_W → Option (Int32 × pm_W) := pm_it (fun _ _ _ _ _ => none) (fun rec k x2 x3 x4 w => b_Md_at_5  rec x2 x3 x4 w)
def f_Md_at (x1 : Int32) (x2 : Int32) (w : pm_W) : Option (Int32 × pm_W) :=
  (l_Md_at  pm_fuel) 0 x2 x1 (0 : Int32) w
set_option maxHeartbeats 4000000 in
set_option maxRecDepth 100000 in
theorem t_Md_at_5 {p : Program} {l : Launch} {e : Env} {s : State} {m : MethodId} {args : Array Value} {below : List Frame} {meth : Method} {c : Code} {D : va_G} {ca : Nat → ClassId} {ad : Nat → Nat} {E : (Nat → Prop) → State → Heap → Prop} (K : pm_ok p s m args meth c k_Md_at 5 pmTs R_Md D vwCl (tyl ca) shM ad E (some .int)) (rec : Nat → Int32 → Int32 → Int32 → pm_W → Option (Int32 × pm_W)) (r : Int32) (w' : pm_W) (h5 : ∀ (x2 : Int32) (x3 : Int32) (x4 : Int32) (w : pm_W), rec 0 x2 x3 x4 w = some (r, w') → pm_wk p l e { frames := 1, cells := 0, slots := 0, locals := 21 } s m args below meth c D vwCl shM ca ad 5 (some (.int r), w') 5 [(0, .ref (ad 0)), (2, .int x2), (3, .int x3), (4, .int x4)] [] w) (x2 : Int32) (x3 : Int32) (x4 : Int32) (w : pm_W) (hf : b_Md_at_5  rec x2 x3 x4 w = some (r, w')) : pm_wk p l e { frames := 1, cells := 0, slots := 0, locals := 21 } s m args below meth c D vwCl shM ca ad 5 (some (.int r), w') 5 [(0, .ref (ad 0)), (2, .int x2), (3, .int x3), (4, .int x4)] [] w := by
  unfold b_Md_at_5 at hf
  refine pm_iload K d_Md_at_5 3 rfl ?_
  refine pm_iload_n K d_Md_at_7 1 rfl rfl ?_
  refine pm_icmp_ge K d_Md_at_8 23 (by decide) (fun c1 => ?_) (fun c1 => ?_)
  · have hf := pm_ift c1 hf
    refine pm_aload_n K d_Md_at_23 0 rfl rfl ?_
    refine pm_iload_n K d_Md_at_24 2 rfl rfl ?_
    obtain ⟨o2, z2, hf⟩ := pm_bind hf
    refine pm_callV (As := [.int x3]) (rest := []) (o := 0) K (c_Md_car K.2.2.2.2.2.2.2.2.2.2.2.2 o2.1 o2.2 x3 w z2) mi_Md_car rfl rfl tw_817 tw_71 tw_816 rfl ⟨rfl, rfl, Nat.le_of_ble_eq_true rfl, Nat.le_of_ble_eq_true rfl⟩ rfl (Nat.le_of_ble_eq_true rfl) d_Md_at_25 ?_
    cases hf
    exact pm_iret K d_Md_at_28
  · have hf := pm_iff c1 hf
    refine pm_aload_n K d_Md_at_11 0 rfl rfl ?_
    refine pm_iload_n K d_Md_at_12 2 rfl rfl ?_
    obtain ⟨o3, z3, hf⟩ := pm_bind hf
    refine pm_callV (As := [.int x3]) (rest := []) (o := 0) K (c_Md_cdr K.2.2.2.2.2.2.2.2.2.2.2.2 o3.1 o3.2 x3 w z3) mi_Md_cdr rfl rfl tw_814 tw_70 tw_813 rfl ⟨rfl, rfl, Nat.le_of_ble_eq_true rfl, Nat.le_of_ble_eq_true rfl⟩ rfl (Nat.le_of_ble_eq_true rfl) d_Md_at_13 ?_
    refine pm_istore_n (lv' := [(3, .int o3.1), (0, .ref (ad 0)), (2, .int x2), (4, .int x4)]) K d_Md_at_16 rfl (by decide) rfl ?_
    refine pm_iinc (v := x4 + (1 : Int32)) (lv' := [(4, .int (x4 + (1 : Int32))), (3, .int o3.1), (0, .ref (ad 0)), (2, .int x2)]) K d_Md_at_17 3 rfl rfl (by decide) rfl ?_
    refine pm_goto K d_Md_at_20 5 (by decide) ?_
    refine pm_sub (lv' := [(0, .ref (ad 0)), (2, .int x2), (3, .int o3.1), (4, .int (x4 + (1 : Int32)))]) [2, 3, 1, 0] rfl ?_
    exact h5 x2 o3.1 (x4 + (1 : Int32)) o3.2 hf
set_option maxHeartbeats 4000000 in
set_option maxRecDepth 100000 in
theorem a_Md_at {p : Program} {l : Launch} {e : Env} {s : State} {m : MethodId} {args : Array Value} {below : List Frame} {meth : Method} {c : Code} {D : va_G} {ca : Nat → ClassId} {ad : Nat → Nat} {E : (Nat → Prop) → State → Heap → Prop} (K : pm_ok p s m args meth c k_Md_at 5 pmTs R_Md D vwCl (tyl ca) shM ad E (some .int)) (r : Int32) (w' : pm_W) : ∀ n : Nat, (∀ (x2 : Int32) (x3 : Int32) (x4 : Int32) (w : pm_W), l_Md_at  n 0 x2 x3 x4 w = some (r, w') → pm_wk p l e { frames := 1, cells := 0, slots := 0, locals := 21 } s m args below meth c D vwCl shM ca ad 5 (some (.int r), w') 5 [(0, .ref (ad 0)), (2, .int x2), (3, .int x3), (4, .int x4)] [] w) := by
  intro n
  induction n with
  | zero => exact fun _ _ _ _ hf => (by cases hf)
  | succ n ih => exact fun x2 x3 x4 w hf => t_Md_at_5 K (l_Md_at n) r w' (ih) x2 x3 x4 w hf
set_option maxHeartbeats 4000000 in
set_option maxRecDepth 100000 in
theorem t_Md_at {p : Program} {l : Launch} {e : Env} {s : State} {m : MethodId} {args : Array Value} {below : List Frame} {meth : Method} {c : Code} {D : va_G} {ca : Nat → ClassId} {ad : Nat → Nat} {E : (Nat → Prop) → State → Heap → Prop} (K : pm_ok p s m args meth c k_Md_at 5 pmTs R_Md D vwCl (tyl ca) shM ad E (some .int)) (r : Int32) (w' : pm_W) (x1 : Int32) (x2 : Int32) (w : pm_W) (hf : f_Md_at  x1 x2 w = some (r, w')) : pm_wk p l e { frames := 1, cells := 0, slots := 0, locals := 21 } s m args below meth c D vwCl shM ca ad 5 (some (.int r), w') 0 [(0, .ref (ad 0)), (1, .int x1), (2, .int x2)] [] w := by
  unfold f_Md_at at hf
  have h5 := (a_Md_at (l := l) (e := e) (below := below) K  r w' pm_fuel)
  refine pm_iload_n K d_Md_at_0 1 rfl rfl ?_
  refine pm_istore_n (lv' := [(3, .int x1), (0, .ref (ad 0)), (1, .int x1), (2, .int x2)]) K d_Md_at_1 rfl (by decide) rfl ?_
  refine pm_iconst (v := 0) K d_Md_at_2 (by decide) ?_
  refine pm_istore (lv' := [(4, .int (0 : Int32)), (3, .int x1), (0, .ref (ad 0)), (1, .int x1), (2, .int x2)]) K d_Md_at_3 (by decide) rfl ?_
  refine pm_sub (lv' := [(0, .ref (ad 0)), (2, .int x2), (3, .int x1), (4, .int (0 : Int32))]) [2, 4, 1, 0] rfl ?_
  exact h5 x2 x1 (0 : Int32) w hf
/-- CellLispModel.at(II)I -/
theorem c_Md_at {l : Launch} {D : va_G} {ca : Nat → ClassId} {ad : Nat → Nat} {E : (Nat → Prop) → State → Heap → Prop} (hEc : pm_Ecl E) (r : Int32) (w' : pm_W) (x1 : Int32) (x2 : Int32) (w : pm_W) (hf : f_Md_at  x1 x2 w = some (r, w')) : pm_Met l pmTs D vwCl (tyl ca) shM ca ad E y_Md_at k_Md_at 5 (some .int) { frames := 1, cells := 0, slots := 0, locals := 21 } [.ref (ad 0), .int x1, .int x2] w (some (.int r), w') :=
  pm_start pmTs_good hEc (by decide) (Nat.le_of_ble_eq_true rfl) (fun p e s m below meth c K => t_Md_at K r w' x1 x2 w hf)
def b_Md_binding_2 (rec : Nat → Int32 → Int32 → pm_W → Option (Int32 × pm_W)) (x1 : Int32) (x3 : Int32) (w : pm_W) : Option (Int32 × pm_W) :=
  Option.bind (f_Md_isPair x3 w) fun o1 =>
  if o1.1 = 0 then
    some ((536870912 : Int32), o1.2)
  else
    Option.bind (f_Md_car x3 o1.2) fun o3 =>
    Option.bind (f_Md_car o3.1 o3.2) fun o4 =>
    if o4.1 = x1 then
      Option.bind (f_Md_car x3 o4.2) fun o7 =>
      some (o7.1, o7.2)
    else
      Option.bind (f_Md_cdr x3 o4.2) fun o6 =>
      rec 0 x1 o6.1 o6.2
def l_Md_binding : Nat → Nat → Int32 → Int32 → pm_W → Option (Int32 × pm_W) := pm_it (fun _ _ _ _ => none) (fun rec k x1 x3 w => b_Md_binding_2  rec x1 x3 w)
def f_Md_binding (x1 : Int32) (x2 : Int32) (w : pm_W) : Option (Int32 × pm_W) :=
  (l_Md_binding  pm_fuel) 0 x1 x2 w
set_option maxHeartbeats 4000000 in
set_option maxRecDepth 100000 in
theorem t_Md_binding_2 {p : Program} {l : Launch} {e : Env} {s : State} {m : MethodId} {args : Array Value} {below : List Frame} {meth : Method} {c : Code} {D : va_G} {ca : Nat → ClassId} {ad : Nat → Nat} {E : (Nat → Prop) → State → Heap → Prop} (K : pm_ok p s m args meth c k_Md_binding 4 pmTs R_Md D vwCl (tyl ca) shM ad E (some .int)) (rec : Nat → Int32 → Int32 → pm_W → Option (Int32 × pm_W)) (r : Int32) (w' : pm_W) (h2 : ∀ (x1 : Int32) (x3 : Int32) (w : pm_W), rec 0 x1 x3 w = some (r, w') → pm_wk p l e { frames := 2, cells := 0, slots := 0, locals := 41 } s m args below meth c D vwCl shM ca ad 4 (some (.int r), w') 2 [(0, .ref (ad 0)), (1, .int x1), (3, .int x3)] [] w) (x1 : Int32) (x3 : Int32) (w : pm_W) (hf : b_Md_binding_2  rec x1 x3 w = some (r, w')) : pm_wk p l e { frames := 2, cells := 0, slots := 0, locals := 41 } s m args below meth c D vwCl shM ca ad 4 (some (.int r), w') 2 [(0, .ref (ad 0)), (1, .int x1), (3, .int x3)] [] w := by
  unfold b_Md_binding_2 at hf
  refine pm_aload_n K d_Md_binding_2 0 rfl rfl ?_
  refine pm_iload_n K d_Md_binding_3 2 rfl rfl ?_
  obtain ⟨o1, z1, hf⟩ := pm_bind hf
  refine pm_callV (As := [.int x3]) (rest := []) (o := 0) K (c_Md_isPair K.2.2.2.2.2.2.2.2.2.2.2.2 o1.1 o1.2 x3 w z1) mi_Md_isPair rfl rfl tw_787 tw_63 tw_786 rfl ⟨rfl, rfl, Nat.le_of_ble_eq_true rfl, Nat.le_of_ble_eq_true rfl⟩ rfl (Nat.le_of_ble_eq_true rfl) d_Md_binding_4 ?_
  refine pm_if_eq K d_Md_binding_7 38 (by decide) (fun c2 => ?_) (fun c2 => ?_)
  · have hf := pm_ift c2 hf
    refine pm_ldc K tw_662 d_Md_binding_38 ?_
    cases hf
    exact pm_iret K d_Md_binding_40
  · have hf := pm_iff c2 hf
    refine pm_aload_n K d_Md_binding_10 0 rfl rfl ?_
    refine pm_aload_n K d_Md_binding_11 0 rfl rfl ?_
    refine pm_iload_n K d_Md_binding_12 2 rfl rfl ?_
    obtain ⟨o3, z3, hf⟩ := pm_bind hf
    refine pm_callV (As := [.int x3]) (rest := [.ref (ad 0)]) (o := 0) K (c_Md_car K.2.2.2.2.2.2.2.2.2.2.2.2 o3.1 o3.2 x3 o1.2 z3) mi_Md_car rfl rfl tw_817 tw_71 tw_816 rfl ⟨rfl, rfl, Nat.le_of_ble_eq_true rfl, Nat.le_of_ble_eq_true rfl⟩ rfl (Nat.le_of_ble_eq_true rfl) d_Md_binding_13 ?_
    obtain ⟨o4, z4, hf⟩ := pm_bind hf
    refine pm_callV (As := [.int o3.1]) (rest := []) (o := 0) K (c_Md_car K.2.2.2.2.2.2.2.2.2.2.2.2 o4.1 o4.2 o3.1 o3.2 z4) mi_Md_car rfl rfl tw_817 tw_71 tw_816 rfl ⟨rfl, rfl, Nat.le_of_ble_eq_true rfl, Nat.le_of_ble_eq_true rfl⟩ rfl (Nat.le_of_ble_eq_true rfl) d_Md_binding_16 ?_
    refine pm_iload_n K d_Md_binding_19 1 rfl rfl ?_
    refine pm_icmp_ne K d_Md_binding_20 29 (by decide) (fun c5 => ?_) (fun c5 => ?_)
    · have hf := pm_iff c5 hf
      refine pm_aload_n K d_Md_binding_29 0 rfl rfl ?_
      refine pm_iload_n K d_Md_binding_30 2 rfl rfl ?_
      obtain ⟨o6, z6, hf⟩ := pm_bind hf
      refine pm_callV (As := [.int x3]) (rest := []) (o := 0) K (c_Md_cdr K.2.2.2.2.2.2.2.2.2.2.2.2 o6.1 o6.2 x3 o4.2 z6) mi_Md_cdr rfl rfl tw_814 tw_70 tw_813 rfl ⟨rfl, rfl, Nat.le_of_ble_eq_true rfl, Nat.le_of_ble_eq_true rfl⟩ rfl (Nat.le_of_ble_eq_true rfl) d_Md_binding_31 ?_
      refine pm_istore_n (lv' := [(3, .int o6.1), (0, .ref (ad 0)), (1, .int x1)]) K d_Md_binding_34 rfl (by decide) rfl ?_
      refine pm_goto K d_Md_binding_35 2 (by decide) ?_
      refine pm_sub (lv' := [(0, .ref (ad 0)), (1, .int x1), (3, .int o6.1)]) [1, 2, 0] rfl ?_
      exact h2 x1 o6.1 o6.2 hf
    · have hf := pm_ift c5 hf
      refine pm_aload_n K d_Md_binding_23 0 rfl rfl ?_
      refine pm_iload_n K d_Md_binding_24 2 rfl rfl ?_
      obtain ⟨o7, z7, hf⟩ := pm_bind hf
      refine pm_callV (As := [.int x3]) (rest := []) (o := 0) K (c_Md_car K.2.2.2.2.2.2.2.2.2.2.2.2 o7.1 o7.2 x3 o4.2 z7) mi_Md_car rfl rfl tw_817 tw_71 tw_816 rfl ⟨rfl, rfl, Nat.le_of_ble_eq_true rfl, Nat.le_of_ble_eq_true rfl⟩ rfl (Nat.le_of_ble_eq_true rfl) d_Md_binding_25 ?_
      cases hf
      exact pm_iret K d_Md_binding_28
set_option maxHeartbeats 4000000 in
set_option maxRecDepth 100000 in
theorem a_Md_binding {p : Program} {l : Launch} {e : Env} {s : State} {m : MethodId} {args : Array Value} {below : List Frame} {meth : Method} {c : Code} {D : va_G} {ca : Nat → ClassId} {ad : Nat → Nat} {E : (Nat → Prop) → State → Heap → Prop} (K : pm_ok p s m args meth c k_Md_binding 4 pmTs R_Md D vwCl (tyl ca) shM ad E (some .int)) (r : Int32) (w' : pm_W) : ∀ n : Nat, (∀ (x1 : Int32) (x3 : Int32) (w : pm_W), l_Md_binding  n 0 x1 x3 w = some (r, w') → pm_wk p l e { frames := 2, cells := 0, slots := 0, locals := 41 } s m args below meth c D vwCl shM ca ad 4 (some (.int r), w') 2 [(0, .ref (ad 0)), (1, .int x1), (3, .int x3)] [] w) := by
  intro n
  induction n with
  | zero => exact fun _ _ _ hf => (by cases hf)
  | succ n ih => exact fun x1 x3 w hf => t_Md_binding_2 K (l_Md_binding n) r w' (ih) x1 x3 w hf
set_option maxHeartbeats 4000000 in
set_option maxRecDepth 100000 in
theorem t_Md_binding {p : Program} {l : Launch} {e : Env} {s : State} {m : MethodId} {args : Array Value} {below : List Frame} {meth : Method} {c : Code} {D : va_G} {ca : Nat → ClassId} {ad : Nat → Nat} {E : (Nat → Prop) → State → Heap → Prop} (K : pm_ok p s m args meth c k_Md_binding 4 pmTs R_Md D vwCl (tyl ca) shM ad E (some .int)) (r : Int32) (w' : pm_W) (x1 : Int32) (x2 : Int32) (w : pm_W) (hf : f_Md_binding  x1 x2 w = some (r, w')) : pm_wk p l e { frames := 2, cells := 0, slots := 0, locals := 41 } s m args below meth c D vwCl shM ca ad 4 (some (.int r), w') 0 [(0, .ref (ad 0)), (1, .int x1), (2, .int x2)] [] w := by
  unfold f_Md_binding at hf
  have h2 := (a_Md_binding (l := l) (e := e) (below := below) K  r w' pm_fuel)
  refine pm_iload_n K d_Md_binding_0 2 rfl rfl ?_
  refine pm_istore_n (lv' := [(3, .int x2), (0, .ref (ad 0)), (1, .int x1), (2, .int x2)]) K d_Md_binding_1 rfl (by decide) rfl ?_
  refine pm_sub (lv' := [(0, .ref (ad 0)), (1, .int x1), (3, .int x2)]) [1, 2, 0] rfl ?_
  exact h2 x1 x2 w hf
/-- CellLispModel.binding(II)I -/
theorem c_Md_binding {l : Launch} {D : va_G} {ca : Nat → ClassId} {ad : Nat → Nat} {E : (Nat → Prop) → State → Heap → Prop} (hEc : pm_Ecl E) (r : Int32) (w' : pm_W) (x1 : Int32) (x2 : Int32) (w : pm_W) (hf : f_Md_binding  x1 x2 w = some (r, w')) : pm_Met l pmTs D vwCl (tyl ca) shM ca ad E y_Md_binding k_Md_binding 4 (some .int) { frames := 2, cells := 0, slots := 0, locals := 41 } [.ref (ad 0), .int x1, .int x2] w (some (.int r), w') :=
  pm_start pmTs_good hEc (by decide) (Nat.le_of_ble_eq_true rfl) (fun p e s m below meth c K => t_Md_binding K r w' x1 x2 w hf)
def f_Md_lookUp (w : pm_W) : Option (Int32 × pm_W) :=
  Option.bind (f_Md_binding (w.1 0 15) (w.1 0 16) w) fun o1 =>
  if o1.1 = (536870912 : Int32) then
    if ((o1.2.1 0 15) - (536871000 : Int32)) < 0 ∨ 40 ≤ ((o1.2.1 0 15) - (536871000 : Int32)).toNatClampNeg then none else
    if (o1.2.1 11 ((o1.2.1 0 15) - (536871000 : Int32)).toNatClampNeg) = (-2147483648 : Int32) then
      some ((-2 : Int32), o1.2)
    else
      Option.bind (f_Md_give (o1.2.1 11 ((o1.2.1 0 15) - (536871000 : Int32)).toNatClampNeg) o1.2) fun o8 =>
      some (o8.1, o8.2)
  else
    Option.bind (f_Md_cdr o1.1 o1.2) fun o3 =>
    if o3.1 = (-2147483648 : Int32) then
      some ((-2 : Int32), o3.2)
    else
      Option.bind (f_Md_give o3.1 o3.2) fun o5 =>
      some (o5.1, o5.2)
set_option maxHeartbeats 4000000 in
set_option maxRecDepth 100000 in
theorem t_Md_lookUp {p : Program} {l : Launch} {e : Env} {s : State} {m : MethodId} {args : Array Value} {below : List Frame} {meth : Method} {c : Code} {D : va_G} {ca : Nat → ClassId} {ad : Nat → Nat} {E : (Nat → Prop) → State → Heap → Prop} (K : pm_ok p s m args meth c k_Md_lookUp 3 pmTs R_Md D vwCl (tyl ca) shM ad E (some .int)) (r : Int32) (w' : pm_W) (w : pm_W) (hf : f_Md_lookUp  w = some (r, w')) : pm_wk p l e { frames := 3, cells := 0, slots := 0, locals := 64 } s m args below meth c D vwCl shM ca ad 3 (some (.int r), w') 0 [(0, .ref (ad 0))] [] w := by
  unfold f_Md_lookUp at hf
  refine pm_aload_n K d_Md_lookUp_0 0 rfl rfl ?_
  refine pm_aload_n K d_Md_lookUp_1 0 rfl rfl ?_
  refine pm_getI K fc_9 (o := 0) rfl 15 rfl (by decide) tw_684 d_Md_lookUp_2 (v := w.1 0 15) rfl ?_
  refine pm_aload_n K d_Md_lookUp_5 0 rfl rfl ?_
  refine pm_getI K fc_9 (o := 0) rfl 16 rfl (by decide) tw_685 d_Md_lookUp_6 (v := w.1 0 16) rfl ?_
  obtain ⟨o1, z1, hf⟩ := pm_bind hf
  refine pm_callV (As := [.int (w.1 0 15), .int (w.1 0 16)]) (rest := []) (o := 0) K (c_Md_binding K.2.2.2.2.2.2.2.2.2.2.2.2 o1.1 o1.2 (w.1 0 15) (w.1 0 16) w z1) mi_Md_binding rfl rfl tw_853 tw_83 tw_852 rfl ⟨rfl, rfl, Nat.le_of_ble_eq_true rfl, Nat.le_of_ble_eq_true rfl⟩ rfl (Nat.le_of_ble_eq_true rfl) d_Md_lookUp_9 ?_
  refine pm_istore_n (lv' := [(1, .int o1.1), (0, .ref (ad 0))]) K d_Md_lookUp_12 rfl (by decide) rfl ?_
  refine pm_iload_n K d_Md_lookUp_13 0 rfl rfl ?_
  refine pm_ldc K tw_662 d_Md_lookUp_14 ?_
  refine pm_icmp_ne K d_Md_lookUp_16 34 (by decide) (fun c2 => ?_) (fun c2 => ?_)
  · have hf := pm_iff c2 hf
    refine pm_aload_n K d_Md_lookUp_34 1 rfl rfl ?_
    refine pm_iload_n K d_Md_lookUp_35 0 rfl rfl ?_
    obtain ⟨o3, z3, hf⟩ := pm_bind hf
    refine pm_callV (As := [.int o1.1]) (rest := []) (o := 0) K (c_Md_cdr K.2.2.2.2.2.2.2.2.2.2.2.2 o3.1 o3.2 o1.1 o1.2 z3) mi_Md_cdr rfl rfl tw_814 tw_70 tw_813 rfl ⟨rfl, rfl, Nat.le_of_ble_eq_true rfl, Nat.le_of_ble_eq_true rfl⟩ rfl (Nat.le_of_ble_eq_true rfl) d_Md_lookUp_36 ?_
    refine pm_istore_n (lv' := [(2, .int o3.1), (1, .int o1.1), (0, .ref (ad 0))]) K d_Md_lookUp_39 rfl (by decide) rfl ?_
    refine pm_iload_n K d_Md_lookUp_40 0 rfl rfl ?_
    refine pm_ldc K tw_664 d_Md_lookUp_41 ?_
    refine pm_icmp_ne K d_Md_lookUp_43 51 (by decide) (fun c4 => ?_) (fun c4 => ?_)
    · have hf := pm_iff c4 hf
      refine pm_aload_n K d_Md_lookUp_51 2 rfl rfl ?_
      refine pm_iload_n K d_Md_lookUp_52 0 rfl rfl ?_
      obtain ⟨o5, z5, hf⟩ := pm_bind hf
      refine pm_callV (As := [.int o3.1]) (rest := []) (o := 0) K (c_Md_give K.2.2.2.2.2.2.2.2.2.2.2.2 o5.1 o5.2 o3.1 o3.2 z5) mi_Md_give rfl rfl tw_850 tw_82 tw_849 rfl ⟨rfl, rfl, Nat.le_of_ble_eq_true rfl, Nat.le_of_ble_eq_true rfl⟩ rfl (Nat.le_of_ble_eq_true rfl) d_Md_lookUp_53 ?_
      cases hf
      exact pm_iret K d_Md_lookUp_56
    · have hf := pm_ift c4 hf
      refine pm_bipush (v := -2) K d_Md_lookUp_46 (by decide) ?_
      refine pm_goto K d_Md_lookUp_48 56 (by decide) ?_
      cases hf
      exact pm_iret K d_Md_lookUp_56
  · have hf := pm_ift c2 hf
    refine pm_aload_n K d_Md_lookUp_19 1 rfl rfl ?_
    refine pm_getR K fc_9 (o := 0) rfl 14 rfl (by decide) tw_683 d_Md_lookUp_20 ?_
    refine pm_aload_n K d_Md_lookUp_23 1 rfl rfl ?_
    refine pm_getI K fc_9 (o := 0) rfl 15 rfl (by decide) tw_684 d_Md_lookUp_24 (v := o1.2.1 0 15) rfl ?_
    refine pm_ldc K tw_773 d_Md_lookUp_27 ?_
    refine pm_isub K d_Md_lookUp_29 ?_
    obtain ⟨q6, hf⟩ := pm_bnd hf
    refine pm_iald K (o := 11) rfl rfl q6 d_Md_lookUp_30 (v := o1.2.1 11 ((o1.2.1 0 15) - (536871000 : Int32)).toNatClampNeg) rfl ?_
    refine pm_goto K d_Md_lookUp_31 39 (by decide) ?_
    refine pm_istore_n (lv' := [(2, .int (o1.2.1 11 ((o1.2.1 0 15) - (536871000 : Int32)).toNatClampNeg)), (1, .int o1.1), (0, .ref (ad 0))]) K d_Md_lookUp_39 rfl (by decide) rfl ?_
    refine pm_iload_n K d_Md_lookUp_40 0 rfl rfl ?_
    refine pm_ldc K tw_664 d_Md_lookUp_41 ?_
    refine pm_icmp_ne K d_Md_lookUp_43 51 (by decide) (fun c7 => ?_) (fun c7 => ?_)
    · have hf := pm_iff c7 hf
      refine pm_aload_n K d_Md_lookUp_51 2 rfl rfl ?_
      refine pm_iload_n K d_Md_lookUp_52 0 rfl rfl ?_
      obtain ⟨o8, z8, hf⟩ := pm_bind hf
      refine pm_callV (As := [.int (o1.2.1 11 ((o1.2.1 0 15) - (536871000 : Int32)).toNatClampNeg)]) (rest := []) (o := 0) K (c_Md_give K.2.2.2.2.2.2.2.2.2.2.2.2 o8.1 o8.2 (o1.2.1 11 ((o1.2.1 0 15) - (536871000 : Int32)).toNatClampNeg) o1.2 z8) mi_Md_give rfl rfl tw_850 tw_82 tw_849 rfl ⟨rfl, rfl, Nat.le_of_ble_eq_true rfl, Nat.le_of_ble_eq_true rfl⟩ rfl (Nat.le_of_ble_eq_true rfl) d_Md_lookUp_53 ?_
      cases hf
      exact pm_iret K d_Md_lookUp_56
    · have hf := pm_ift c7 hf
      refine pm_bipush (v := -2) K d_Md_lookUp_46 (by decide) ?_
      refine pm_goto K d_Md_lookUp_48 56 (by decide) ?_
      cases hf
      exact pm_iret K d_Md_lookUp_56
/-- CellLispModel.lookUp()I -/
theorem c_Md_lookUp {l : Launch} {D : va_G} {ca : Nat → ClassId} {ad : Nat → Nat} {E : (Nat → Prop) → State → Heap → Prop} (hEc : pm_Ecl E) (r : Int32) (w' : pm_W) (w : pm_W) (hf : f_Md_lookUp  w = some (r, w')) : pm_Met l pmTs D vwCl (tyl ca) shM ca ad E y_Md_lookUp k_Md_lookUp 3 (some .int) { frames := 3, cells := 0, slots := 0, locals := 64 } [.ref (ad 0)] w (some (.int r), w') :=
  pm_start pmTs_good hEc (by decide) (Nat.le_of_ble_eq_true rfl) (fun p e s m below meth c K => t_Md_lookUp K r w'  w hf)
def b_Md_areParameters_31 (rec : Nat → Int32 → Int32 → pm_W → Option (Int32 × pm_W)) (x2 : Int32) (x3 : Int32) (w : pm_W) : Option (Int32 × pm_W) :=
  if x2 = 0 then
    if x2 &&& 1 = x2 then
      some (x2, w)
    else none
  else
    Option.bind (f_Md_isPair x3 w) fun o8 =>
    if o8.1 = 0 then
      if x2 &&& 1 = x2 then
        some (x2, o8.2)
      else none
    else
      Option.bind (f_Md_car x3 o8.2) fun o11 =>
      Option.bind (f_Md_isSymbol o11.1 o11.2) fun o12 =>
      Option.bind (f_Md_cdr x3 o12.2) fun o13 =>
      rec 0 o12.1 o13.1 o13.2
def l_Md_areParameters : Nat → Nat → Int32 → Int32 → pm_W → Option (Int32 × pm_W) := pm_it (fun _ _ _ _ => none) (fun rec k x2 x3 w => b_Md_areParameters_31  rec x2 x3 w)
def f_Md_areParameters (x1 : Int32) (w : pm_W) : Option (Int32 × pm_W) :=
  if x1 = (536870912 : Int32) then
    (l_Md_areParameters  pm_fuel) 0 (1 : Int32) x1 w
  else
    Option.bind (f_Md_isPair x1 w) fun o2 =>
    if o2.1 = 0 then
      (l_Md_areParameters  pm_fuel) 0 (0 : Int32) x1 o2.2
    else
      Option.bind (f_Md_lengthOf x1 o2.2) fun o4 =>
      if (5 : Int32) ≤ o4.1 then
        (l_Md_areParameters  pm_fuel) 0 (0 : Int32) x1 o4.2
      else
        (l_Md_areParameters  pm_fuel) 0 (1 : Int32) x1 o4.2
set_option maxHeartbeats 4000000 in
set_option maxRecDepth 100000 in
theorem t_Md_areParameters_31 {p : Program} {l : Launch} {e : Env} {s : State} {m : MethodId} {args : Array Value} {below : List Frame} {meth : Method} {c : Code} {D : va_G} {ca : Nat → ClassId} {ad : Nat → Nat} {E : (Nat → Prop) → State → Heap → Prop} (K : pm_ok p s m args meth c k_Md_areParameters 4 pmTs R_Md D vwCl (tyl ca) shM ad E (some .boolean)) (rec : Nat → Int32 → Int32 → pm_W → Option (Int32 × pm_W)) (r : Int32) (w' : pm_W) (h31 : ∀ (x2 : Int32) (x3 : Int32) (w : pm_W), rec 0 x2 x3 w = some (r, w') → pm_wk p l e { frames := 3, cells := 0, slots := 0, locals := 64 } s m args below meth c D vwCl shM ca ad 4 (some (.int r), w') 31 [(0, .ref (ad 0)), (2, .int x2), (3, .int x3)] [] w) (x2 : Int32) (x3 : Int32) (w : pm_W) (hf : b_Md_areParameters_31  rec x2 x3 w = some (r, w')) : pm_wk p l e { frames := 3, cells := 0, slots := 0, locals := 64 } s m args below meth c D vwCl shM ca ad 4 (some (.int r), w') 31 [(0, .ref (ad 0)), (2, .int x2), (3, .int x3)] [] w := by
  unfold b_Md_areParameters_31 at hf
  refine pm_iload_n K d_Md_areParameters_31 1 rfl rfl ?_
  refine pm_if_eq K d_Md_areParameters_32 61 (by decide) (fun c6 => ?_) (fun c6 => ?_)
  · have hf := pm_ift c6 hf
    refine pm_iload_n K d_Md_areParameters_61 1 rfl rfl ?_
    obtain ⟨q7, hf⟩ := pm_chk hf
    cases hf
    exact pm_zret K (congrArg Value.int q7) d_Md_areParameters_62
  · have hf := pm_iff c6 hf
    refine pm_aload_n K d_Md_areParameters_35 0 rfl rfl ?_
    refine pm_iload_n K d_Md_areParameters_36 2 rfl rfl ?_
    obtain ⟨o8, z8, hf⟩ := pm_bind hf
    refine pm_callV (As := [.int x3]) (rest := []) (o := 0) K (c_Md_isPair K.2.2.2.2.2.2.2.2.2.2.2.2 o8.1 o8.2 x3 w z8) mi_Md_isPair rfl rfl tw_787 tw_63 tw_786 rfl ⟨rfl, rfl, Nat.le_of_ble_eq_true rfl, Nat.le_of_ble_eq_true rfl⟩ rfl (Nat.le_of_ble_eq_true rfl) d_Md_areParameters_37 ?_
    refine pm_if_eq K d_Md_areParameters_40 61 (by decide) (fun c9 => ?_) (fun c9 => ?_)
    · have hf := pm_ift c9 hf
      refine pm_iload_n K d_Md_areParameters_61 1 rfl rfl ?_
      obtain ⟨q10, hf⟩ := pm_chk hf
      cases hf
      exact pm_zret K (congrArg Value.int q10) d_Md_areParameters_62
    · have hf := pm_iff c9 hf
      refine pm_aload_n K d_Md_areParameters_43 0 rfl rfl ?_
      refine pm_iload_n K d_Md_areParameters_44 2 rfl rfl ?_
      obtain ⟨o11, z11, hf⟩ := pm_bind hf
      refine pm_callV (As := [.int x3]) (rest := []) (o := 0) K (c_Md_car K.2.2.2.2.2.2.2.2.2.2.2.2 o11.1 o11.2 x3 o8.2 z11) mi_Md_car rfl rfl tw_817 tw_71 tw_816 rfl ⟨rfl, rfl, Nat.le_of_ble_eq_true rfl, Nat.le_of_ble_eq_true rfl⟩ rfl (Nat.le_of_ble_eq_true rfl) d_Md_areParameters_45 ?_
      obtain ⟨o12, z12, hf⟩ := pm_bind hf
      refine pm_callS (As := [.int o11.1]) (rest := []) K (c_Md_isSymbol K.2.2.2.2.2.2.2.2.2.2.2.2 o12.1 o12.2 o11.1 o11.2 z12) mi_Md_isSymbol tw_802 tw_801 rfl ⟨rfl, rfl, Nat.le_of_ble_eq_true rfl, Nat.le_of_ble_eq_true rfl⟩ rfl (Nat.le_of_ble_eq_true rfl) d_Md_areParameters_48 ?_
      refine pm_istore_n (lv' := [(2, .int o12.1), (0, .ref (ad 0)), (3, .int x3)]) K d_Md_areParameters_51 rfl (by decide) rfl ?_
      refine pm_aload_n K d_Md_areParameters_52 1 rfl rfl ?_
      refine pm_iload_n K d_Md_areParameters_53 2 rfl rfl ?_
      obtain ⟨o13, z13, hf⟩ := pm_bind hf
      refine pm_callV (As := [.int x3]) (rest := []) (o := 0) K (c_Md_cdr K.2.2.2.2.2.2.2.2.2.2.2.2 o13.1 o13.2 x3 o12.2 z13) mi_Md_cdr rfl rfl tw_814 tw_70 tw_813 rfl ⟨rfl, rfl, Nat.le_of_ble_eq_true rfl, Nat.le_of_ble_eq_true rfl⟩ rfl (Nat.le_of_ble_eq_true rfl) d_Md_areParameters_54 ?_
      refine pm_istore_n (lv' := [(3, .int o13.1), (2, .int o12.1), (0, .ref (ad 0))]) K d_Md_areParameters_57 rfl (by decide) rfl ?_
      refine pm_goto K d_Md_areParameters_58 31 (by decide) ?_
      refine pm_sub (lv' := [(0, .ref (ad 0)), (2, .int o12.1), (3, .int o13.1)]) [2, 1, 0] rfl ?_
      exact h31 o12.1 o13.1 o13.2 hf
set_option maxHeartbeats 4000000 in
set_option maxRecDepth 100000 in
theorem a_Md_areParameters {p : Program} {l : Launch} {e : Env} {s : State} {m : MethodId} {args : Array Value} {below : List Frame} {meth : Method} {c : Code} {D : va_G} {ca : Nat → ClassId} {ad : Nat → Nat} {E : (Nat → Prop) → State → Heap → Prop} (K : pm_ok p s m args meth c k_Md_areParameters 4 pmTs R_Md D vwCl (tyl ca) shM ad E (some .boolean)) (r : Int32) (w' : pm_W) : ∀ n : Nat, (∀ (x2 : Int32) (x3 : Int32) (w : pm_W), l_Md_areParameters  n 0 x2 x3 w = some (r, w') → pm_wk p l e { frames := 3, cells := 0, slots := 0, locals := 64 } s m args below meth c D vwCl shM ca ad 4 (some (.int r), w') 31 [(0, .ref (ad 0)), (2, .int x2), (3, .int x3)] [] w) := by
  intro n
  induction n with
  | zero => exact fun _ _ _ hf => (by cases hf)
  | succ n ih => exact fun x2 x3 w hf => t_Md_areParameters_31 K (l_Md_areParameters n) r w' (ih) x2 x3 w hf
set_option maxHeartbeats 4000000 in
set_option maxRecDepth 100000 in
theorem t_Md_areParameters {p : Program} {l : Launch} {e : Env} {s : State} {m : MethodId} {args : Array Value} {below : List Frame} {meth : Method} {c : Code} {D : va_G} {ca : Nat → ClassId} {ad : Nat → Nat} {E : (Nat → Prop) → State → Heap → Prop} (K : pm_ok p s m args meth c k_Md_areParameters 4 pmTs R_Md D vwCl (tyl ca) shM ad E (some .boolean)) (r : Int32) (w' : pm_W) (x1 : Int32) (w : pm_W) (hf : f_Md_areParameters  x1 w = some (r, w')) : pm_wk p l e { frames := 3, cells := 0, slots := 0, locals := 64 } s m args below meth c D vwCl shM ca ad 4 (some (.int r), w') 0 [(0, .ref (ad 0)), (1, .int x1)] [] w := by
  unfold f_Md_areParameters at hf
  have h31 := (a_Md_areParameters (l := l) (e := e) (below := below) K  r w' pm_fuel)
  refine pm_iload_n K d_Md_areParameters_0 1 rfl rfl ?_
  refine pm_ldc K tw_662 d_Md_areParameters_1 ?_
  refine pm_icmp_eq K d_Md_areParameters_3 23 (by decide) (fun c1 => ?_) (fun c1 => ?_)
  · have hf := pm_ift c1 hf
    refine pm_iconst (v := 1) K d_Md_areParameters_23 (by decide) ?_
    refine pm_goto K d_Md_areParameters_24 28 (by decide) ?_
    refine pm_istore_n (lv' := [(2, .int (1 : Int32)), (0, .ref (ad 0)), (1, .int x1)]) K d_Md_areParameters_28 rfl (by decide) rfl ?_
    refine pm_iload_n K d_Md_areParameters_29 2 rfl rfl ?_
    refine pm_istore_n (lv' := [(3, .int x1), (2, .int (1 : Int32)), (0, .ref (ad 0)), (1, .int x1)]) K d_Md_areParameters_30 rfl (by decide) rfl ?_
    refine pm_sub (lv' := [(0, .ref (ad 0)), (2, .int (1 : Int32)), (3, .int x1)]) [2, 1, 0] rfl ?_
    exact h31 (1 : Int32) x1 w hf
  · have hf := pm_iff c1 hf
    refine pm_aload_n K d_Md_areParameters_6 0 rfl rfl ?_
    refine pm_iload_n K d_Md_areParameters_7 1 rfl rfl ?_
    obtain ⟨o2, z2, hf⟩ := pm_bind hf
    refine pm_callV (As := [.int x1]) (rest := []) (o := 0) K (c_Md_isPair K.2.2.2.2.2.2.2.2.2.2.2.2 o2.1 o2.2 x1 w z2) mi_Md_isPair rfl rfl tw_787 tw_63 tw_786 rfl ⟨rfl, rfl, Nat.le_of_ble_eq_true rfl, Nat.le_of_ble_eq_true rfl⟩ rfl (Nat.le_of_ble_eq_true rfl) d_Md_areParameters_8 ?_
    refine pm_if_eq K d_Md_areParameters_11 27 (by decide) (fun c3 => ?_) (fun c3 => ?_)
    · have hf := pm_ift c3 hf
      refine pm_iconst (v := 0) K d_Md_areParameters_27 (by decide) ?_
      refine pm_istore_n (lv' := [(2, .int (0 : Int32)), (0, .ref (ad 0)), (1, .int x1)]) K d_Md_areParameters_28 rfl (by decide) rfl ?_
      refine pm_iload_n K d_Md_areParameters_29 2 rfl rfl ?_
      refine pm_istore_n (lv' := [(3, .int x1), (2, .int (0 : Int32)), (0, .ref (ad 0)), (1, .int x1)]) K d_Md_areParameters_30 rfl (by decide) rfl ?_
      refine pm_sub (lv' := [(0, .ref (ad 0)), (2, .int (0 : Int32)), (3, .int x1)]) [2, 1, 0] rfl ?_
      exact h31 (0 : Int32) x1 o2.2 hf
    · have hf := pm_iff c3 hf
      refine pm_aload_n K d_Md_areParameters_14 0 rfl rfl ?_
      refine pm_iload_n K d_Md_areParameters_15 1 rfl rfl ?_
      obtain ⟨o4, z4, hf⟩ := pm_bind hf
      refine pm_callV (As := [.int x1]) (rest := []) (o := 0) K (c_Md_lengthOf K.2.2.2.2.2.2.2.2.2.2.2.2 o4.1 o4.2 x1 o2.2 z4) mi_Md_lengthOf rfl rfl tw_829 tw_75 tw_828 rfl ⟨rfl, rfl, Nat.le_of_ble_eq_true rfl, Nat.le_of_ble_eq_true rfl⟩ rfl (Nat.le_of_ble_eq_true rfl) d_Md_areParameters_16 ?_
      refine pm_iconst (v := 5) K d_Md_areParameters_19 (by decide) ?_
      refine pm_icmp_ge K d_Md_areParameters_20 27 (by decide) (fun c5 => ?_) (fun c5 => ?_)
      · have hf := pm_ift c5 hf
        refine pm_iconst (v := 0) K d_Md_areParameters_27 (by decide) ?_
        refine pm_istore_n (lv' := [(2, .int (0 : Int32)), (0, .ref (ad 0)), (1, .int x1)]) K d_Md_areParameters_28 rfl (by decide) rfl ?_
        refine pm_iload_n K d_Md_areParameters_29 2 rfl rfl ?_
        refine pm_istore_n (lv' := [(3, .int x1), (2, .int (0 : Int32)), (0, .ref (ad 0)), (1, .int x1)]) K d_Md_areParameters_30 rfl (by decide) rfl ?_
        refine pm_sub (lv' := [(0, .ref (ad 0)), (2, .int (0 : Int32)), (3, .int x1)]) [2, 1, 0] rfl ?_
        exact h31 (0 : Int32) x1 o4.2 hf
      · have hf := pm_iff c5 hf
        refine pm_iconst (v := 1) K d_Md_areParameters_23 (by decide) ?_
        refine pm_goto K d_Md_areParameters_24 28 (by decide) ?_
        refine pm_istore_n (lv' := [(2, .int (1 : Int32)), (0, .ref (ad 0)), (1, .int x1)]) K d_Md_areParameters_28 rfl (by decide) rfl ?_
        refine pm_iload_n K d_Md_areParameters_29 2 rfl rfl ?_
        refine pm_istore_n (lv' := [(3, .int x1), (2, .int (1 : Int32)), (0, .ref (ad 0)), (1, .int x1)]) K d_Md_areParameters_30 rfl (by decide) rfl ?_
        refine pm_sub (lv' := [(0, .ref (ad 0)), (2, .int (1 : Int32)), (3, .int x1)]) [2, 1, 0] rfl ?_
        exact h31 (1 : Int32) x1 o4.2 hf
/-- CellLispModel.areParameters(I)Z -/
theorem c_Md_areParameters {l : Launch} {D : va_G} {ca : Nat → ClassId} {ad : Nat → Nat} {E : (Nat → Prop) → State → Heap → Prop} (hEc : pm_Ecl E) (r : Int32) (w' : pm_W) (x1 : Int32) (w : pm_W) (hf : f_Md_areParameters  x1 w = some (r, w')) : pm_Met l pmTs D vwCl (tyl ca) shM ca ad E y_Md_areParameters k_Md_areParameters 4 (some .boolean) { frames := 3, cells := 0, slots := 0, locals := 64 } [.ref (ad 0), .int x1] w (some (.int r), w') :=
  pm_start pmTs_good hEc (by decide) (Nat.le_of_ble_eq_true rfl) (fun p e s m below meth c K => t_Md_areParameters K r w' x1 w hf)
def b_Md_special_228 (x1 : Int32) (x2 : Int32) (s0 : Int32) (w : pm_W) : Option (Int32 × pm_W) :=
  if s0 = (-6 : Int32) then
    some ((-6 : Int32), w)
  else
    if x1 = (11 : Int32) then
      Option.bind (f_Md_car x2 w) fun o39 =>
      Option.bind (f_Md_go o39.1 (o39.2.1 0 16) o39.2) fun o40 =>
      some (o40.1, o40.2)
    else
      Option.bind (f_Md_at x2 (1 : Int32) w) fun o37 =>
      Option.bind (f_Md_go o37.1 (o37.2.1 0 16) o37.2) fun o38 =>
      some (o38.1, o38.2)
def b_Md_special_100 (x1 : Int32) (x2 : Int32) (s0 : Int32) (w : pm_W) : Option (Int32 × pm_W) :=
  if s0 = 0 then
    some ((-3 : Int32), w)
  else
    if x1 = (10 : Int32) then
      Option.bind (f_Md_car x2 w) fun o33 =>
      Option.bind (f_Md_give o33.1 o33.2) fun o34 =>
      some (o34.1, o34.2)
    else
      if x1 = (12 : Int32) then
        Option.bind (f_Md_room (3 : Int32) w) fun o27 =>
        if o27.1 = 0 then
          some ((-7 : Int32), o27.2)
        else
          Option.bind (f_Md_car x2 o27.2) fun o29 =>
          Option.bind (f_Md_at x2 (1 : Int32) o29.2) fun o30 =>
          Option.bind (f_Md_make (3 : Int32) o29.1 o30.1 (o30.2.1 0 16) o30.2) fun o31 =>
          Option.bind (f_Md_give o31.1 o31.2) fun o32 =>
          some (o32.1, o32.2)
      else
        if x1 = (11 : Int32) then
          Option.bind (f_Md_cdr x2 w) fun o25 =>
          Option.bind (f_Md_push (1 : Int32) o25.1 (o25.2.1 0 16) o25.2) fun o26 =>
          b_Md_special_228   x1 x2 o26.1 o26.2
        else
          if x1 = (13 : Int32) then
            Option.bind (f_Md_car x2 w) fun o23 =>
            Option.bind (f_Md_push (2 : Int32) o23.1 (536870912 : Int32) o23.2) fun o24 =>
            b_Md_special_228   x1 x2 o24.1 o24.2
          else
            Option.bind (f_Md_car x2 w) fun o21 =>
            Option.bind (f_Md_push (3 : Int32) o21.1 (o21.2.1 0 16) o21.2) fun o22 =>
            b_Md_special_228   x1 x2 o22.1 o22.2
def f_Md_special (x1 : Int32) (w : pm_W) : Option (Int32 × pm_W) :=
  Option.bind (f_Md_cdr (w.1 0 15) w) fun o1 =>
  Option.bind (f_Md_lengthOf o1.1 o1.2) fun o2 =>
  if x1 = (10 : Int32) then
    if o2.1 = (1 : Int32) then
      b_Md_special_100   x1 o1.1 (1 : Int32) o2.2
    else
      b_Md_special_100   x1 o1.1 (0 : Int32) o2.2
  else
    if x1 = (11 : Int32) then
      if o2.1 = (2 : Int32) then
        b_Md_special_100   x1 o1.1 (1 : Int32) o2.2
      else
        if o2.1 = (3 : Int32) then
          b_Md_special_100   x1 o1.1 (1 : Int32) o2.2
        else
          b_Md_special_100   x1 o1.1 (0 : Int32) o2.2
    else
      if o2.1 = (2 : Int32) then
        if x1 = (12 : Int32) then
          Option.bind (f_Md_car o1.1 o2.2) fun o10 =>
          Option.bind (f_Md_areParameters o10.1 o10.2) fun o11 =>
          if o11.1 = 0 then
            b_Md_special_100   x1 o1.1 (0 : Int32) o11.2
          else
            b_Md_special_100   x1 o1.1 (1 : Int32) o11.2
        else
          Option.bind (f_Md_car o1.1 o2.2) fun o7 =>
          Option.bind (f_Md_isSymbol o7.1 o7.2) fun o8 =>
          if o8.1 = 0 then
            b_Md_special_100   x1 o1.1 (0 : Int32) o8.2
          else
            b_Md_special_100   x1 o1.1 (1 : Int32) o8.2
      else
        b_Md_special_100   x1 o1.1 (0 : Int32) o2.2
set_option maxHeartbeats 4000000 in
set_option maxRecDepth 100000 in
theorem t_Md_special_228 {p : Program} {l : Launch} {e : Env} {s : State} {m : MethodId} {args : Array Value} {below : List Frame} {meth : Method} {c : Code} {D : va_G} {ca : Nat → ClassId} {ad : Nat → Nat} {E : (Nat → Prop) → State → Heap → Prop} (K : pm_ok p s m args meth c k_Md_special 6 pmTs R_Md D vwCl (tyl ca) shM ad E (some .int)) (r : Int32) (w' : pm_W) (x1 : Int32) (x2 : Int32) (s0 : Int32) (w : pm_W) (hf : b_Md_special_228  x1 x2 s0 w = some (r, w')) : pm_wk p l e { frames := 4, cells := 0, slots := 0, locals := 87 } s m args below meth c D vwCl shM ca ad 6 (some (.int r), w') 228 [(0, .ref (ad 0)), (1, .int x1), (2, .int x2)] [.int s0] w := by
  unfold b_Md_special_228 at hf
  refine pm_istore (lv' := [(5, .int s0), (0, .ref (ad 0)), (1, .int x1), (2, .int x2)]) K d_Md_special_228 (by decide) rfl ?_
  refine pm_iload K d_Md_special_230 0 rfl ?_
  refine pm_bipush (v := -6) K d_Md_special_232 (by decide) ?_
  refine pm_icmp_ne K d_Md_special_234 242 (by decide) (fun c35 => ?_) (fun c35 => ?_)
  · have hf := pm_iff c35 hf
    refine pm_aload_n K d_Md_special_242 1 rfl rfl ?_
    refine pm_iload_n K d_Md_special_243 2 rfl rfl ?_
    refine pm_bipush (v := 11) K d_Md_special_244 (by decide) ?_
    refine pm_icmp_ne K d_Md_special_246 257 (by decide) (fun c36 => ?_) (fun c36 => ?_)
    · have hf := pm_iff c36 hf
      refine pm_aload_n K d_Md_special_257 1 rfl rfl ?_
      refine pm_iload_n K d_Md_special_258 3 rfl rfl ?_
      refine pm_iconst (v := 1) K d_Md_special_259 (by decide) ?_
      obtain ⟨o37, z37, hf⟩ := pm_bind hf
      refine pm_callV (As := [.int x2, .int (1 : Int32)]) (rest := [.ref (ad 0)]) (o := 0) K (c_Md_at K.2.2.2.2.2.2.2.2.2.2.2.2 o37.1 o37.2 x2 (1 : Int32) w z37) mi_Md_at rfl rfl tw_832 tw_76 tw_831 rfl ⟨rfl, rfl, Nat.le_of_ble_eq_true rfl, Nat.le_of_ble_eq_true rfl⟩ rfl (Nat.le_of_ble_eq_true rfl) d_Md_special_260 ?_
      refine pm_aload_n K d_Md_special_263 1 rfl rfl ?_
      refine pm_getI K fc_9 (o := 0) rfl 16 rfl (by decide) tw_685 d_Md_special_264 (v := o37.2.1 0 16) rfl ?_
      obtain ⟨o38, z38, hf⟩ := pm_bind hf
      refine pm_callV (As := [.int o37.1, .int (o37.2.1 0 16)]) (rest := []) (o := 0) K (c_Md_go K.2.2.2.2.2.2.2.2.2.2.2.2 o38.1 o38.2 o37.1 (o37.2.1 0 16) o37.2 z38) mi_Md_go rfl rfl tw_841 tw_79 tw_840 rfl ⟨rfl, rfl, Nat.le_of_ble_eq_true rfl, Nat.le_of_ble_eq_true rfl⟩ rfl (Nat.le_of_ble_eq_true rfl) d_Md_special_267 ?_
      cases hf
      exact pm_iret K d_Md_special_270
    · have hf := pm_ift c36 hf
      refine pm_aload_n K d_Md_special_249 1 rfl rfl ?_
      refine pm_iload_n K d_Md_special_250 3 rfl rfl ?_
      obtain ⟨o39, z39, hf⟩ := pm_bind hf
      refine pm_callV (As := [.int x2]) (rest := [.ref (ad 0)]) (o := 0) K (c_Md_car K.2.2.2.2.2.2.2.2.2.2.2.2 o39.1 o39.2 x2 w z39) mi_Md_car rfl rfl tw_817 tw_71 tw_816 rfl ⟨rfl, rfl, Nat.le_of_ble_eq_true rfl, Nat.le_of_ble_eq_true rfl⟩ rfl (Nat.le_of_ble_eq_true rfl) d_Md_special_251 ?_
      refine pm_goto K d_Md_special_254 263 (by decide) ?_
      refine pm_aload_n K d_Md_special_263 1 rfl rfl ?_
      refine pm_getI K fc_9 (o := 0) rfl 16 rfl (by decide) tw_685 d_Md_special_264 (v := o39.2.1 0 16) rfl ?_
      obtain ⟨o40, z40, hf⟩ := pm_bind hf
      refine pm_callV (As := [.int o39.1, .int (o39.2.1 0 16)]) (rest := []) (o := 0) K (c_Md_go K.2.2.2.2.2.2.2.2.2.2.2.2 o40.1 o40.2 o39.1 (o39.2.1 0 16) o39.2 z40) mi_Md_go rfl rfl tw_841 tw_79 tw_840 rfl ⟨rfl, rfl, Nat.le_of_ble_eq_true rfl, Nat.le_of_ble_eq_true rfl⟩ rfl (Nat.le_of_ble_eq_true rfl) d_Md_special_267 ?_
      cases hf
      exact pm_iret K d_Md_special_270
  · have hf := pm_ift c35 hf
    refine pm_bipush (v := -6) K d_Md_special_237 (by decide) ?_
    refine pm_goto K d_Md_special_239 270 (by decide) ?_
    cases hf
    exact pm_iret K d_Md_special_270
set_option maxHeartbeats 4000000 in
set_option maxRecDepth 100000 in
theorem t_Md_special_100 {p : Program} {l : Launch} {e : Env} {s : State} {m : MethodId} {args : Array Value} {below : List Frame} {meth : Method} {c : Code} {D : va_G} {ca : Nat → ClassId} {ad : Nat → Nat} {E : (Nat → Prop) → State → Heap → Prop} (K : pm_ok p s m args meth c k_Md_special 6 pmTs R_Md D vwCl (tyl ca) shM ad E (some .int)) (r : Int32) (w' : pm_W) (x1 : Int32) (x2 : Int32) (s0 : Int32) (w : pm_W) (hf : b_Md_special_100  x1 x2 s0 w = some (r, w')) : pm_wk p l e { frames := 4, cells := 0, slots := 0, locals := 87 } s m args below meth c D vwCl shM ca ad 6 (some (.int r), w') 100 [(0, .ref (ad 0)), (1, .int x1), (2, .int x2)] [.int s0] w := by
  unfold b_Md_special_100 at hf
  refine pm_istore (lv' := [(4, .int s0), (0, .ref (ad 0)), (1, .int x1), (2, .int x2)]) K d_Md_special_100 (by decide) rfl ?_
  refine pm_iload K d_Md_special_102 0 rfl ?_
  refine pm_if_ne K d_Md_special_104 110 (by decide) (fun c16 => ?_) (fun c16 => ?_)
  · have hf := pm_iff c16 hf
    refine pm_iload_n K d_Md_special_110 2 rfl rfl ?_
    refine pm_bipush (v := 10) K d_Md_special_111 (by decide) ?_
    refine pm_icmp_ne K d_Md_special_113 126 (by decide) (fun c17 => ?_) (fun c17 => ?_)
    · have hf := pm_iff c17 hf
      refine pm_iload_n K d_Md_special_126 2 rfl rfl ?_
      refine pm_bipush (v := 12) K d_Md_special_127 (by decide) ?_
      refine pm_icmp_ne K d_Md_special_129 170 (by decide) (fun c18 => ?_) (fun c18 => ?_)
      · have hf := pm_iff c18 hf
        refine pm_iload_n K d_Md_special_170 2 rfl rfl ?_
        refine pm_bipush (v := 11) K d_Md_special_171 (by decide) ?_
        refine pm_icmp_ne K d_Md_special_173 193 (by decide) (fun c19 => ?_) (fun c19 => ?_)
        · have hf := pm_iff c19 hf
          refine pm_iload_n K d_Md_special_193 2 rfl rfl ?_
          refine pm_bipush (v := 13) K d_Md_special_194 (by decide) ?_
          refine pm_icmp_ne K d_Md_special_196 214 (by decide) (fun c20 => ?_) (fun c20 => ?_)
          · have hf := pm_iff c20 hf
            refine pm_aload_n K d_Md_special_214 1 rfl rfl ?_
            refine pm_iconst (v := 3) K d_Md_special_215 (by decide) ?_
            refine pm_aload_n K d_Md_special_216 1 rfl rfl ?_
            refine pm_iload_n K d_Md_special_217 3 rfl rfl ?_
            obtain ⟨o21, z21, hf⟩ := pm_bind hf
            refine pm_callV (As := [.int x2]) (rest := [.int (3 : Int32), .ref (ad 0)]) (o := 0) K (c_Md_car K.2.2.2.2.2.2.2.2.2.2.2.2 o21.1 o21.2 x2 w z21) mi_Md_car rfl rfl tw_817 tw_71 tw_816 rfl ⟨rfl, rfl, Nat.le_of_ble_eq_true rfl, Nat.le_of_ble_eq_true rfl⟩ rfl (Nat.le_of_ble_eq_true rfl) d_Md_special_218 ?_
            refine pm_aload_n K d_Md_special_221 1 rfl rfl ?_
            refine pm_getI K fc_9 (o := 0) rfl 16 rfl (by decide) tw_685 d_Md_special_222 (v := o21.2.1 0 16) rfl ?_
            obtain ⟨o22, z22, hf⟩ := pm_bind hf
            refine pm_callV (As := [.int (3 : Int32), .int o21.1, .int (o21.2.1 0 16)]) (rest := []) (o := 0) K (c_Md_push K.2.2.2.2.2.2.2.2.2.2.2.2 o22.1 o22.2 (3 : Int32) o21.1 (o21.2.1 0 16) o21.2 z22) mi_Md_push rfl rfl tw_868 tw_88 tw_867 rfl ⟨rfl, rfl, Nat.le_of_ble_eq_true rfl, Nat.le_of_ble_eq_true rfl⟩ rfl (Nat.le_of_ble_eq_true rfl) d_Md_special_225 ?_
            refine pm_sub (lv' := [(0, .ref (ad 0)), (1, .int x1), (2, .int x2)]) [1, 2, 3] rfl ?_
            exact t_Md_special_228 K  r w'  x1 x2 o22.1 o22.2 hf
          · have hf := pm_ift c20 hf
            refine pm_aload_n K d_Md_special_199 1 rfl rfl ?_
            refine pm_iconst (v := 2) K d_Md_special_200 (by decide) ?_
            refine pm_aload_n K d_Md_special_201 1 rfl rfl ?_
            refine pm_iload_n K d_Md_special_202 3 rfl rfl ?_
            obtain ⟨o23, z23, hf⟩ := pm_bind hf
            refine pm_callV (As := [.int x2]) (rest := [.int (2 : Int32), .ref (ad 0)]) (o := 0) K (c_Md_car K.2.2.2.2.2.2.2.2.2.2.2.2 o23.1 o23.2 x2 w z23) mi_Md_car rfl rfl tw_817 tw_71 tw_816 rfl ⟨rfl, rfl, Nat.le_of_ble_eq_true rfl, Nat.le_of_ble_eq_true rfl⟩ rfl (Nat.le_of_ble_eq_true rfl) d_Md_special_203 ?_
            refine pm_ldc K tw_662 d_Md_special_206 ?_
            obtain ⟨o24, z24, hf⟩ := pm_bind hf
            refine pm_callV (As := [.int (2 : Int32), .int o23.1, .int (536870912 : Int32)]) (rest := []) (o := 0) K (c_Md_push K.2.2.2.2.2.2.2.2.2.2.2.2 o24.1 o24.2 (2 : Int32) o23.1 (536870912 : Int32) o23.2 z24) mi_Md_push rfl rfl tw_868 tw_88 tw_867 rfl ⟨rfl, rfl, Nat.le_of_ble_eq_true rfl, Nat.le_of_ble_eq_true rfl⟩ rfl (Nat.le_of_ble_eq_true rfl) d_Md_special_208 ?_
            refine pm_goto K d_Md_special_211 228 (by decide) ?_
            refine pm_sub (lv' := [(0, .ref (ad 0)), (1, .int x1), (2, .int x2)]) [1, 2, 3] rfl ?_
            exact t_Md_special_228 K  r w'  x1 x2 o24.1 o24.2 hf
        · have hf := pm_ift c19 hf
          refine pm_aload_n K d_Md_special_176 1 rfl rfl ?_
          refine pm_iconst (v := 1) K d_Md_special_177 (by decide) ?_
          refine pm_aload_n K d_Md_special_178 1 rfl rfl ?_
          refine pm_iload_n K d_Md_special_179 3 rfl rfl ?_
          obtain ⟨o25, z25, hf⟩ := pm_bind hf
          refine pm_callV (As := [.int x2]) (rest := [.int (1 : Int32), .ref (ad 0)]) (o := 0) K (c_Md_cdr K.2.2.2.2.2.2.2.2.2.2.2.2 o25.1 o25.2 x2 w z25) mi_Md_cdr rfl rfl tw_814 tw_70 tw_813 rfl ⟨rfl, rfl, Nat.le_of_ble_eq_true rfl, Nat.le_of_ble_eq_true rfl⟩ rfl (Nat.le_of_ble_eq_true rfl) d_Md_special_180 ?_
          refine pm_aload_n K d_Md_special_183 1 rfl rfl ?_
          refine pm_getI K fc_9 (o := 0) rfl 16 rfl (by decide) tw_685 d_Md_special_184 (v := o25.2.1 0 16) rfl ?_
          obtain ⟨o26, z26, hf⟩ := pm_bind hf
          refine pm_callV (As := [.int (1 : Int32), .int o25.1, .int (o25.2.1 0 16)]) (rest := []) (o := 0) K (c_Md_push K.2.2.2.2.2.2.2.2.2.2.2.2 o26.1 o26.2 (1 : Int32) o25.1 (o25.2.1 0 16) o25.2 z26) mi_Md_push rfl rfl tw_868 tw_88 tw_867 rfl ⟨rfl, rfl, Nat.le_of_ble_eq_true rfl, Nat.le_of_ble_eq_true rfl⟩ rfl (Nat.le_of_ble_eq_true rfl) d_Md_special_187 ?_
          refine pm_goto K d_Md_special_190 228 (by decide) ?_
          refine pm_sub (lv' := [(0, .ref (ad 0)), (1, .int x1), (2, .int x2)]) [1, 2, 3] rfl ?_
          exact t_Md_special_228 K  r w'  x1 x2 o26.1 o26.2 hf
      · have hf := pm_ift c18 hf
        refine pm_aload_n K d_Md_special_132 1 rfl rfl ?_
        refine pm_iconst (v := 3) K d_Md_special_133 (by decide) ?_
        obtain ⟨o27, z27, hf⟩ := pm_bind hf
        refine pm_callV (As := [.int (3 : Int32)]) (rest := []) (o := 0) K (c_Md_room K.2.2.2.2.2.2.2.2.2.2.2.2 o27.1 o27.2 (3 : Int32) w z27) mi_Md_room rfl rfl tw_739 tw_50 tw_738 rfl ⟨rfl, rfl, Nat.le_of_ble_eq_true rfl, Nat.le_of_ble_eq_true rfl⟩ rfl (Nat.le_of_ble_eq_true rfl) d_Md_special_134 ?_
        refine pm_if_eq K d_Md_special_137 167 (by decide) (fun c28 => ?_) (fun c28 => ?_)
        · have hf := pm_ift c28 hf
          refine pm_bipush (v := -7) K d_Md_special_167 (by decide) ?_
          cases hf
          exact pm_iret K d_Md_special_169
        · have hf := pm_iff c28 hf
          refine pm_aload_n K d_Md_special_140 1 rfl rfl ?_
          refine pm_aload_n K d_Md_special_141 1 rfl rfl ?_
          refine pm_iconst (v := 3) K d_Md_special_142 (by decide) ?_
          refine pm_aload_n K d_Md_special_143 1 rfl rfl ?_
          refine pm_iload_n K d_Md_special_144 3 rfl rfl ?_
          obtain ⟨o29, z29, hf⟩ := pm_bind hf
          refine pm_callV (As := [.int x2]) (rest := [.int (3 : Int32), .ref (ad 0), .ref (ad 0)]) (o := 0) K (c_Md_car K.2.2.2.2.2.2.2.2.2.2.2.2 o29.1 o29.2 x2 o27.2 z29) mi_Md_car rfl rfl tw_817 tw_71 tw_816 rfl ⟨rfl, rfl, Nat.le_of_ble_eq_true rfl, Nat.le_of_ble_eq_true rfl⟩ rfl (Nat.le_of_ble_eq_true rfl) d_Md_special_145 ?_
          refine pm_aload_n K d_Md_special_148 1 rfl rfl ?_
          refine pm_iload_n K d_Md_special_149 3 rfl rfl ?_
          refine pm_iconst (v := 1) K d_Md_special_150 (by decide) ?_
          obtain ⟨o30, z30, hf⟩ := pm_bind hf
          refine pm_callV (As := [.int x2, .int (1 : Int32)]) (rest := [.int o29.1, .int (3 : Int32), .ref (ad 0), .ref (ad 0)]) (o := 0) K (c_Md_at K.2.2.2.2.2.2.2.2.2.2.2.2 o30.1 o30.2 x2 (1 : Int32) o29.2 z30) mi_Md_at rfl rfl tw_832 tw_76 tw_831 rfl ⟨rfl, rfl, Nat.le_of_ble_eq_true rfl, Nat.le_of_ble_eq_true rfl⟩ rfl (Nat.le_of_ble_eq_true rfl) d_Md_special_151 ?_
          refine pm_aload_n K d_Md_special_154 1 rfl rfl ?_
          refine pm_getI K fc_9 (o := 0) rfl 16 rfl (by decide) tw_685 d_Md_special_155 (v := o30.2.1 0 16) rfl ?_
          obtain ⟨o31, z31, hf⟩ := pm_bind hf
          refine pm_callV (As := [.int (3 : Int32), .int o29.1, .int o30.1, .int (o30.2.1 0 16)]) (rest := [.ref (ad 0)]) (o := 0) K (c_Md_make K.2.2.2.2.2.2.2.2.2.2.2.2 o31.1 o31.2 (3 : Int32) o29.1 o30.1 (o30.2.1 0 16) o30.2 z31) mi_Md_make rfl rfl tw_762 tw_56 tw_761 rfl ⟨rfl, rfl, Nat.le_of_ble_eq_true rfl, Nat.le_of_ble_eq_true rfl⟩ rfl (Nat.le_of_ble_eq_true rfl) d_Md_special_158 ?_
          obtain ⟨o32, z32, hf⟩ := pm_bind hf
          refine pm_callV (As := [.int o31.1]) (rest := []) (o := 0) K (c_Md_give K.2.2.2.2.2.2.2.2.2.2.2.2 o32.1 o32.2 o31.1 o31.2 z32) mi_Md_give rfl rfl tw_850 tw_82 tw_849 rfl ⟨rfl, rfl, Nat.le_of_ble_eq_true rfl, Nat.le_of_ble_eq_true rfl⟩ rfl (Nat.le_of_ble_eq_true rfl) d_Md_special_161 ?_
          refine pm_goto K d_Md_special_164 169 (by decide) ?_
          cases hf
          exact pm_iret K d_Md_special_169
    · have hf := pm_ift c17 hf
      refine pm_aload_n K d_Md_special_116 1 rfl rfl ?_
      refine pm_aload_n K d_Md_special_117 1 rfl rfl ?_
      refine pm_iload_n K d_Md_special_118 3 rfl rfl ?_
      obtain ⟨o33, z33, hf⟩ := pm_bind hf
      refine pm_callV (As := [.int x2]) (rest := [.ref (ad 0)]) (o := 0) K (c_Md_car K.2.2.2.2.2.2.2.2.2.2.2.2 o33.1 o33.2 x2 w z33) mi_Md_car rfl rfl tw_817 tw_71 tw_816 rfl ⟨rfl, rfl, Nat.le_of_ble_eq_true rfl, Nat.le_of_ble_eq_true rfl⟩ rfl (Nat.le_of_ble_eq_true rfl) d_Md_special_119 ?_
      obtain ⟨o34, z34, hf⟩ := pm_bind hf
      refine pm_callV (As := [.int o33.1]) (rest := []) (o := 0) K (c_Md_give K.2.2.2.2.2.2.2.2.2.2.2.2 o34.1 o34.2 o33.1 o33.2 z34) mi_Md_give rfl rfl tw_850 tw_82 tw_849 rfl ⟨rfl, rfl, Nat.le_of_ble_eq_true rfl, Nat.le_of_ble_eq_true rfl⟩ rfl (Nat.le_of_ble_eq_true rfl) d_Md_special_122 ?_
      cases hf
      exact pm_iret K d_Md_special_125
  · have hf := pm_ift c16 hf
    refine pm_bipush (v := -3) K d_Md_special_107 (by decide) ?_
    cases hf
    exact pm_iret K d_Md_special_109
set_option maxHeartbeats 4000000 in
set_option maxRecDepth 100000 in
theorem t_Md_special {p : Program} {l : Launch} {e : Env} {s : State} {m : MethodId} {args : Array Value} {below : List Frame} {meth : Method} {c : Code} {D : va_G} {ca : Nat → ClassId} {ad : Nat → Nat} {E : (Nat → Prop) → State → Heap → Prop} (K : pm_ok p s m args meth c k_Md_special 6 pmTs R_Md D vwCl (tyl ca) shM ad E (some .int)) (r : Int32) (w' : pm_W) (x1 : Int32) (w : pm_W) (hf : f_Md_special  x1 w = some (r, w')) : pm_wk p l e { frames := 4, cells := 0, slots := 0, locals := 87 } s m args below meth c D vwCl shM ca ad 6 (some (.int r), w') 0 [(0, .ref (ad 0)), (1, .int x1)] [] w := by
  unfold f_Md_special at hf
  refine pm_aload_n K d_Md_special_0 0 rfl rfl ?_
  refine pm_aload_n K d_Md_special_1 0 rfl rfl ?_
  refine pm_getI K fc_9 (o := 0) rfl 15 rfl (by decide) tw_684 d_Md_special_2 (v := w.1 0 15) rfl ?_
  obtain ⟨o1, z1, hf⟩ := pm_bind hf
  refine pm_callV (As := [.int (w.1 0 15)]) (rest := []) (o := 0) K (c_Md_cdr K.2.2.2.2.2.2.2.2.2.2.2.2 o1.1 o1.2 (w.1 0 15) w z1) mi_Md_cdr rfl rfl tw_814 tw_70 tw_813 rfl ⟨rfl, rfl, Nat.le_of_ble_eq_true rfl, Nat.le_of_ble_eq_true rfl⟩ rfl (Nat.le_of_ble_eq_true rfl) d_Md_special_5 ?_
  refine pm_istore_n (lv' := [(2, .int o1.1), (0, .ref (ad 0)), (1, .int x1)]) K d_Md_special_8 rfl (by decide) rfl ?_
  refine pm_aload_n K d_Md_special_9 1 rfl rfl ?_
  refine pm_iload_n K d_Md_special_10 0 rfl rfl ?_
  obtain ⟨o2, z2, hf⟩ := pm_bind hf
  refine pm_callV (As := [.int o1.1]) (rest := []) (o := 0) K (c_Md_lengthOf K.2.2.2.2.2.2.2.2.2.2.2.2 o2.1 o2.2 o1.1 o1.2 z2) mi_Md_lengthOf rfl rfl tw_829 tw_75 tw_828 rfl ⟨rfl, rfl, Nat.le_of_ble_eq_true rfl, Nat.le_of_ble_eq_true rfl⟩ rfl (Nat.le_of_ble_eq_true rfl) d_Md_special_11 ?_
  refine pm_istore_n (lv' := [(3, .int o2.1), (2, .int o1.1), (0, .ref (ad 0)), (1, .int x1)]) K d_Md_special_14 rfl (by decide) rfl ?_
  refine pm_iload_n K d_Md_special_15 3 rfl rfl ?_
  refine pm_bipush (v := 10) K d_Md_special_16 (by decide) ?_
  refine pm_icmp_ne K d_Md_special_18 34 (by decide) (fun c3 => ?_) (fun c3 => ?_)
  · have hf := pm_iff c3 hf
    refine pm_iload_n K d_Md_special_34 3 rfl rfl ?_
    refine pm_bipush (v := 11) K d_Md_special_35 (by decide) ?_
    refine pm_icmp_ne K d_Md_special_37 58 (by decide) (fun c4 => ?_) (fun c4 => ?_)
    · have hf := pm_iff c4 hf
      refine pm_iload_n K d_Md_special_58 0 rfl rfl ?_
      refine pm_iconst (v := 2) K d_Md_special_59 (by decide) ?_
      refine pm_icmp_ne K d_Md_special_60 99 (by decide) (fun c5 => ?_) (fun c5 => ?_)
      · have hf := pm_iff c5 hf
        refine pm_iconst (v := 0) K d_Md_special_99 (by decide) ?_
        refine pm_sub (lv' := [(0, .ref (ad 0)), (1, .int x1), (2, .int o1.1)]) [2, 3, 1] rfl ?_
        exact t_Md_special_100 K  r w'  x1 o1.1 (0 : Int32) o2.2 hf
      · have hf := pm_ift c5 hf
        refine pm_iload_n K d_Md_special_63 3 rfl rfl ?_
        refine pm_bipush (v := 12) K d_Md_special_64 (by decide) ?_
        refine pm_icmp_ne K d_Md_special_66 84 (by decide) (fun c6 => ?_) (fun c6 => ?_)
        · have hf := pm_iff c6 hf
          refine pm_aload_n K d_Md_special_84 2 rfl rfl ?_
          refine pm_iload_n K d_Md_special_85 1 rfl rfl ?_
          obtain ⟨o7, z7, hf⟩ := pm_bind hf
          refine pm_callV (As := [.int o1.1]) (rest := []) (o := 0) K (c_Md_car K.2.2.2.2.2.2.2.2.2.2.2.2 o7.1 o7.2 o1.1 o2.2 z7) mi_Md_car rfl rfl tw_817 tw_71 tw_816 rfl ⟨rfl, rfl, Nat.le_of_ble_eq_true rfl, Nat.le_of_ble_eq_true rfl⟩ rfl (Nat.le_of_ble_eq_true rfl) d_Md_special_86 ?_
          obtain ⟨o8, z8, hf⟩ := pm_bind hf
          refine pm_callS (As := [.int o7.1]) (rest := []) K (c_Md_isSymbol K.2.2.2.2.2.2.2.2.2.2.2.2 o8.1 o8.2 o7.1 o7.2 z8) mi_Md_isSymbol tw_802 tw_801 rfl ⟨rfl, rfl, Nat.le_of_ble_eq_true rfl, Nat.le_of_ble_eq_true rfl⟩ rfl (Nat.le_of_ble_eq_true rfl) d_Md_special_89 ?_
          refine pm_if_eq K d_Md_special_92 99 (by decide) (fun c9 => ?_) (fun c9 => ?_)
          · have hf := pm_ift c9 hf
            refine pm_iconst (v := 0) K d_Md_special_99 (by decide) ?_
            refine pm_sub (lv' := [(0, .ref (ad 0)), (1, .int x1), (2, .int o1.1)]) [2, 3, 1] rfl ?_
            exact t_Md_special_100 K  r w'  x1 o1.1 (0 : Int32) o8.2 hf
          · have hf := pm_iff c9 hf
            refine pm_iconst (v := 1) K d_Md_special_95 (by decide) ?_
            refine pm_goto K d_Md_special_96 100 (by decide) ?_
            refine pm_sub (lv' := [(0, .ref (ad 0)), (1, .int x1), (2, .int o1.1)]) [2, 3, 1] rfl ?_
            exact t_Md_special_100 K  r w'  x1 o1.1 (1 : Int32) o8.2 hf
        · have hf := pm_ift c6 hf
          refine pm_aload_n K d_Md_special_69 2 rfl rfl ?_
          refine pm_aload_n K d_Md_special_70 2 rfl rfl ?_
          refine pm_iload_n K d_Md_special_71 1 rfl rfl ?_
          obtain ⟨o10, z10, hf⟩ := pm_bind hf
          refine pm_callV (As := [.int o1.1]) (rest := [.ref (ad 0)]) (o := 0) K (c_Md_car K.2.2.2.2.2.2.2.2.2.2.2.2 o10.1 o10.2 o1.1 o2.2 z10) mi_Md_car rfl rfl tw_817 tw_71 tw_816 rfl ⟨rfl, rfl, Nat.le_of_ble_eq_true rfl, Nat.le_of_ble_eq_true rfl⟩ rfl (Nat.le_of_ble_eq_true rfl) d_Md_special_72 ?_
          obtain ⟨o11, z11, hf⟩ := pm_bind hf
          refine pm_callV (As := [.int o10.1]) (rest := []) (o := 0) K (c_Md_areParameters K.2.2.2.2.2.2.2.2.2.2.2.2 o11.1 o11.2 o10.1 o10.2 z11) mi_Md_areParameters rfl rfl tw_865 tw_87 tw_864 rfl ⟨rfl, rfl, Nat.le_of_ble_eq_true rfl, Nat.le_of_ble_eq_true rfl⟩ rfl (Nat.le_of_ble_eq_true rfl) d_Md_special_75 ?_
          refine pm_if_eq K d_Md_special_78 99 (by decide) (fun c12 => ?_) (fun c12 => ?_)
          · have hf := pm_ift c12 hf
            refine pm_iconst (v := 0) K d_Md_special_99 (by decide) ?_
            refine pm_sub (lv' := [(0, .ref (ad 0)), (1, .int x1), (2, .int o1.1)]) [2, 3, 1] rfl ?_
            exact t_Md_special_100 K  r w'  x1 o1.1 (0 : Int32) o11.2 hf
          · have hf := pm_iff c12 hf
            refine pm_goto K d_Md_special_81 95 (by decide) ?_
            refine pm_iconst (v := 1) K d_Md_special_95 (by decide) ?_
            refine pm_goto K d_Md_special_96 100 (by decide) ?_
            refine pm_sub (lv' := [(0, .ref (ad 0)), (1, .int x1), (2, .int o1.1)]) [2, 3, 1] rfl ?_
            exact t_Md_special_100 K  r w'  x1 o1.1 (1 : Int32) o11.2 hf
    · have hf := pm_ift c4 hf
      refine pm_iload_n K d_Md_special_40 0 rfl rfl ?_
      refine pm_iconst (v := 2) K d_Md_special_41 (by decide) ?_
      refine pm_icmp_eq K d_Md_special_42 50 (by decide) (fun c13 => ?_) (fun c13 => ?_)
      · have hf := pm_ift c13 hf
        refine pm_iconst (v := 1) K d_Md_special_50 (by decide) ?_
        refine pm_goto K d_Md_special_51 100 (by decide) ?_
        refine pm_sub (lv' := [(0, .ref (ad 0)), (1, .int x1), (2, .int o1.1)]) [2, 3, 1] rfl ?_
        exact t_Md_special_100 K  r w'  x1 o1.1 (1 : Int32) o2.2 hf
      · have hf := pm_iff c13 hf
        refine pm_iload_n K d_Md_special_45 0 rfl rfl ?_
        refine pm_iconst (v := 3) K d_Md_special_46 (by decide) ?_
        refine pm_icmp_ne K d_Md_special_47 54 (by decide) (fun c14 => ?_) (fun c14 => ?_)
        · have hf := pm_iff c14 hf
          refine pm_iconst (v := 0) K d_Md_special_54 (by decide) ?_
          refine pm_goto K d_Md_special_55 100 (by decide) ?_
          refine pm_sub (lv' := [(0, .ref (ad 0)), (1, .int x1), (2, .int o1.1)]) [2, 3, 1] rfl ?_
          exact t_Md_special_100 K  r w'  x1 o1.1 (0 : Int32) o2.2 hf
        · have hf := pm_ift c14 hf
          refine pm_iconst (v := 1) K d_Md_special_50 (by decide) ?_
          refine pm_goto K d_Md_special_51 100 (by decide) ?_
          refine pm_sub (lv' := [(0, .ref (ad 0)), (1, .int x1), (2, .int o1.1)]) [2, 3, 1] rfl ?_
          exact t_Md_special_100 K  r w'  x1 o1.1 (1 : Int32) o2.2 hf
  · have hf := pm_ift c3 hf
    refine pm_iload_n K d_Md_special_21 0 rfl rfl ?_
    refine pm_iconst (v := 1) K d_Md_special_22 (by decide) ?_
    refine pm_icmp_ne K d_Md_special_23 30 (by decide) (fun c15 => ?_) (fun c15 => ?_)
    · have hf := pm_iff c15 hf
      refine pm_iconst (v := 0) K d_Md_special_30 (by decide) ?_
      refine pm_goto K d_Md_special_31 100 (by decide) ?_
      refine pm_sub (lv' := [(0, .ref (ad 0)), (1, .int x1), (2, .int o1.1)]) [2, 3, 1] rfl ?_
      exact t_Md_special_100 K  r w'  x1 o1.1 (0 : Int32) o2.2 hf
    · have hf := pm_ift c15 hf
      refine pm_iconst (v := 1) K d_Md_special_26 (by decide) ?_
      refine pm_goto K d_Md_special_27 100 (by decide) ?_
      refine pm_sub (lv' := [(0, .ref (ad 0)), (1, .int x1), (2, .int o1.1)]) [2, 3, 1] rfl ?_
      exact t_Md_special_100 K  r w'  x1 o1.1 (1 : Int32) o2.2 hf
/-- CellLispModel.special(I)I -/
theorem c_Md_special {l : Launch} {D : va_G} {ca : Nat → ClassId} {ad : Nat → Nat} {E : (Nat → Prop) → State → Heap → Prop} (hEc : pm_Ecl E) (r : Int32) (w' : pm_W) (x1 : Int32) (w : pm_W) (hf : f_Md_special  x1 w = some (r, w')) : pm_Met l pmTs D vwCl (tyl ca) shM ca ad E y_Md_special k_Md_special 6 (some .int) { frames := 4, cells := 0, slots := 0, locals := 87 } [.ref (ad 0), .int x1] w (some (.int r), w') :=
  pm_start pmTs_good hEc (by decide) (Nat.le_of_ble_eq_true rfl) (fun p e s m below meth c K => t_Md_special K r w' x1 w hf)
