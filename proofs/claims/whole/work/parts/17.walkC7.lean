def f_Machine_faultOfCall (S : Nat) (x1 : Int32) (x2 : Int32) (w : pm_W) : Option (Int32 × pm_W) :=
  Option.bind (f_Value_kind S x1 w) fun o1 =>
  if o1.1 = (3 : Int32) then
    Option.bind (f_Value_content S x1 o1.2) fun o3 =>
    Option.bind (f_Machine_faultOfPrimitive S o3.1 x2 o3.2) fun o4 =>
    some (o4.1, o4.2)
  else
    if o1.1 = (5 : Int32) then
      Option.bind (f_Room_first S x1 o1.2) fun o6 =>
      Option.bind (f_Room_length S o6.1 o6.2) fun o7 =>
      if x2 = o7.1 then
        some ((1 : Int32), o7.2)
      else
        some ((-4 : Int32), o7.2)
    else
      some ((-5 : Int32), o1.2)
set_option maxHeartbeats 4000000 in
set_option maxRecDepth 100000 in
theorem t_Machine_faultOfCall {p : Program} {l : Launch} {e : Env} {s : State} {m : MethodId} {args : Array Value} {below : List Frame} {meth : Method} {c : Code} {D : va_G} {ca : Nat → ClassId} {ad : Nat → Nat} {E : (Nat → Prop) → State → Heap → Prop} {S : Nat} (K : pm_ok p s m args meth c k_Machine_faultOfCall 3 pmTs R_Machine D vwCl (tyl ca) (shC S) ad E (some .int)) (r : Int32) (w' : pm_W) (x1 : Int32) (x2 : Int32) (w : pm_W) (hf : f_Machine_faultOfCall  S x1 x2 w = some (r, w')) : pm_wk p l e { frames := 3, cells := 0, slots := 0, locals := 68 } s m args below meth c D vwCl (shC S) ca ad 3 (some (.int r), w') 0 [(0, .ref (ad 6)), (1, .int x1), (2, .int x2)] [] w := by
  unfold f_Machine_faultOfCall at hf
  refine pm_iload_n K d_Machine_faultOfCall_0 1 rfl rfl ?_
  obtain ⟨o1, z1, hf⟩ := pm_bind hf
  refine pm_callS (As := [.int x1]) (rest := []) K (c_Value_kind K.2.2.2.2.2.2.2.2.2.2.2.2 o1.1 o1.2 x1 w z1) mi_Value_kind tw_374 tw_555 rfl ⟨rfl, rfl, Nat.le_of_ble_eq_true rfl, Nat.le_of_ble_eq_true rfl⟩ rfl (Nat.le_of_ble_eq_true rfl) d_Machine_faultOfCall_1 ?_
  by_cases c2 : o1.1 = (3 : Int32)
  · have hf := pm_ift c2 hf
    refine pm_lookup (off := 54) K d_Machine_faultOfCall_4 (by decide) (by first | (rw [c2]; done) | (rw [c2]; rfl)) 58 (by decide) ?_
    refine pm_aload_n K d_Machine_faultOfCall_58 0 rfl rfl ?_
    refine pm_iload_n K d_Machine_faultOfCall_59 1 rfl rfl ?_
    obtain ⟨o3, z3, hf⟩ := pm_bind hf
    refine pm_callS (As := [.int x1]) (rest := [.ref (ad 6)]) K (c_Value_content K.2.2.2.2.2.2.2.2.2.2.2.2 o3.1 o3.2 x1 o1.2 z3) mi_Value_content tw_377 tw_449 rfl ⟨rfl, rfl, Nat.le_of_ble_eq_true rfl, Nat.le_of_ble_eq_true rfl⟩ rfl (Nat.le_of_ble_eq_true rfl) d_Machine_faultOfCall_60 ?_
    refine pm_iload_n K d_Machine_faultOfCall_63 2 rfl rfl ?_
    obtain ⟨o4, z4, hf⟩ := pm_bind hf
    refine pm_callV (As := [.int o3.1, .int x2]) (rest := []) (o := 6) K (c_Machine_faultOfPrimitive K.2.2.2.2.2.2.2.2.2.2.2.2 o4.1 o4.2 o3.1 x2 o3.2 z4) mi_Machine_faultOfPrimitive rfl rfl tw_557 tw_31 tw_556 rfl ⟨rfl, rfl, Nat.le_of_ble_eq_true rfl, Nat.le_of_ble_eq_true rfl⟩ rfl (Nat.le_of_ble_eq_true rfl) d_Machine_faultOfCall_64 ?_
    cases hf
    exact pm_iret K d_Machine_faultOfCall_67
  have hf := pm_iff c2 hf
  by_cases c5 : o1.1 = (5 : Int32)
  · have hf := pm_ift c5 hf
    refine pm_lookup (off := 28) K d_Machine_faultOfCall_4 (by decide) (by first | (rw [lv_osw (k := (3 : Int32)) c2 (by decide)]; rw [c5]; done) | (rw [lv_osw (k := (3 : Int32)) c2 (by decide)]; rw [c5]; rfl)) 32 (by decide) ?_
    refine pm_iload_n K d_Machine_faultOfCall_32 2 rfl rfl ?_
    refine pm_aload_n K d_Machine_faultOfCall_33 0 rfl rfl ?_
    refine pm_getR K fc_6 (o := 6) rfl 1 rfl (by decide) tw_281 d_Machine_faultOfCall_34 ?_
    refine pm_aload_n K d_Machine_faultOfCall_37 0 rfl rfl ?_
    refine pm_getR K fc_6 (o := 6) rfl 1 rfl (by decide) tw_281 d_Machine_faultOfCall_38 ?_
    refine pm_iload_n K d_Machine_faultOfCall_41 1 rfl rfl ?_
    obtain ⟨o6, z6, hf⟩ := pm_bind hf
    refine pm_callV (As := [.int x1]) (rest := [.ref (ad 5), .int x2]) (o := 5) K (c_Room_first K.2.2.2.2.2.2.2.2.2.2.2.2 o6.1 o6.2 x1 o1.2 z6) mi_Room_first rfl rfl tw_438 tw_439 tw_455 rfl ⟨rfl, rfl, Nat.le_of_ble_eq_true rfl, Nat.le_of_ble_eq_true rfl⟩ rfl (Nat.le_of_ble_eq_true rfl) d_Machine_faultOfCall_42 ?_
    obtain ⟨o7, z7, hf⟩ := pm_bind hf
    refine pm_callV (As := [.int o6.1]) (rest := [.int x2]) (o := 5) K (c_Room_length K.2.2.2.2.2.2.2.2.2.2.2.2 o7.1 o7.2 o6.1 o6.2 z7) mi_Room_length rfl rfl tw_460 tw_461 tw_459 rfl ⟨rfl, rfl, Nat.le_of_ble_eq_true rfl, Nat.le_of_ble_eq_true rfl⟩ rfl (Nat.le_of_ble_eq_true rfl) d_Machine_faultOfCall_45 ?_
    refine pm_icmp_ne K d_Machine_faultOfCall_48 55 (by decide) (fun c8 => ?_) (fun c8 => ?_)
    · have hf := pm_iff c8 hf
      refine pm_bipush (v := -4) K d_Machine_faultOfCall_55 (by decide) ?_
      cases hf
      exact pm_iret K d_Machine_faultOfCall_57
    · have hf := pm_ift c8 hf
      refine pm_iconst (v := 1) K d_Machine_faultOfCall_51 (by decide) ?_
      refine pm_goto K d_Machine_faultOfCall_52 57 (by decide) ?_
      cases hf
      exact pm_iret K d_Machine_faultOfCall_57
  have hf := pm_iff c5 hf
  refine pm_lookup (off := 64) K d_Machine_faultOfCall_4 (by decide) (by first | (rw [lv_osw (k := (3 : Int32)) c2 (by decide)]; rw [lv_osw (k := (5 : Int32)) c5 (by decide)]; done) | (rw [lv_osw (k := (3 : Int32)) c2 (by decide)]; rw [lv_osw (k := (5 : Int32)) c5 (by decide)]; rfl)) 68 (by decide) ?_
  refine pm_bipush (v := -5) K d_Machine_faultOfCall_68 (by decide) ?_
  cases hf
  exact pm_iret K d_Machine_faultOfCall_70
/-- CellLisp$Machine.faultOfCall(II)I -/
theorem c_Machine_faultOfCall {l : Launch} {D : va_G} {ca : Nat → ClassId} {ad : Nat → Nat} {E : (Nat → Prop) → State → Heap → Prop} {S : Nat} (hEc : pm_Ecl E) (r : Int32) (w' : pm_W) (x1 : Int32) (x2 : Int32) (w : pm_W) (hf : f_Machine_faultOfCall  S x1 x2 w = some (r, w')) : pm_Met l pmTs D vwCl (tyl ca) (shC S) ca ad E y_Machine_faultOfCall k_Machine_faultOfCall 3 (some .int) { frames := 3, cells := 0, slots := 0, locals := 68 } [.ref (ad 6), .int x1, .int x2] w (some (.int r), w') :=
  pm_start pmTs_good hEc (by decide) (Nat.le_of_ble_eq_true rfl) (fun p e s m below meth c K => t_Machine_faultOfCall K r w' x1 x2 w hf)
def f_Machine_cellsOfCall (S : Nat) (x0 : Int32) (x1 : Int32) (w : pm_W) : Option (Int32 × pm_W) :=
  Option.bind (f_Value_kind S x0 w) fun o1 =>
  if o1.1 = (5 : Int32) then
    some (((2 : Int32) * x1) * (2 : Int32), o1.2)
  else
    Option.bind (f_Value_content S x0 o1.2) fun o3 =>
    if o3.1 = (6 : Int32) then
      some ((2 : Int32), o3.2)
    else
      if o3.1 = (9 : Int32) then
        some (x1 * (2 : Int32), o3.2)
      else
        some ((0 : Int32), o3.2)
set_option maxHeartbeats 4000000 in
set_option maxRecDepth 100000 in
theorem t_Machine_cellsOfCall {p : Program} {l : Launch} {e : Env} {s : State} {m : MethodId} {args : Array Value} {below : List Frame} {meth : Method} {c : Code} {D : va_G} {ca : Nat → ClassId} {ad : Nat → Nat} {E : (Nat → Prop) → State → Heap → Prop} {S : Nat} (K : pm_ok p s m args meth c k_Machine_cellsOfCall 2 pmTs R_Machine D vwCl (tyl ca) (shC S) ad E (some .int)) (r : Int32) (w' : pm_W) (x0 : Int32) (x1 : Int32) (w : pm_W) (hf : f_Machine_cellsOfCall  S x0 x1 w = some (r, w')) : pm_wk p l e { frames := 1, cells := 0, slots := 0, locals := 20 } s m args below meth c D vwCl (shC S) ca ad 2 (some (.int r), w') 0 [(0, .int x0), (1, .int x1)] [] w := by
  unfold f_Machine_cellsOfCall at hf
  refine pm_iload_n K d_Machine_cellsOfCall_0 0 rfl rfl ?_
  obtain ⟨o1, z1, hf⟩ := pm_bind hf
  refine pm_callS (As := [.int x0]) (rest := []) K (c_Value_kind K.2.2.2.2.2.2.2.2.2.2.2.2 o1.1 o1.2 x0 w z1) mi_Value_kind tw_374 tw_555 rfl ⟨rfl, rfl, Nat.le_of_ble_eq_true rfl, Nat.le_of_ble_eq_true rfl⟩ rfl (Nat.le_of_ble_eq_true rfl) d_Machine_cellsOfCall_1 ?_
  refine pm_iconst (v := 5) K d_Machine_cellsOfCall_4 (by decide) ?_
  refine pm_icmp_ne K d_Machine_cellsOfCall_5 14 (by decide) (fun c2 => ?_) (fun c2 => ?_)
  · have hf := pm_iff c2 hf
    refine pm_iload_n K d_Machine_cellsOfCall_14 0 rfl rfl ?_
    obtain ⟨o3, z3, hf⟩ := pm_bind hf
    refine pm_callS (As := [.int x0]) (rest := []) K (c_Value_content K.2.2.2.2.2.2.2.2.2.2.2.2 o3.1 o3.2 x0 o1.2 z3) mi_Value_content tw_377 tw_449 rfl ⟨rfl, rfl, Nat.le_of_ble_eq_true rfl, Nat.le_of_ble_eq_true rfl⟩ rfl (Nat.le_of_ble_eq_true rfl) d_Machine_cellsOfCall_15 ?_
    by_cases c4 : o3.1 = (6 : Int32)
    · have hf := pm_ift c4 hf
      refine pm_lookup (off := 26) K d_Machine_cellsOfCall_18 (by decide) (by first | (rw [c4]; done) | (rw [c4]; rfl)) 44 (by decide) ?_
      refine pm_iconst (v := 2) K d_Machine_cellsOfCall_44 (by decide) ?_
      cases hf
      exact pm_iret K d_Machine_cellsOfCall_45
    have hf := pm_iff c4 hf
    by_cases c5 : o3.1 = (9 : Int32)
    · have hf := pm_ift c5 hf
      refine pm_lookup (off := 28) K d_Machine_cellsOfCall_18 (by decide) (by first | (rw [lv_osw (k := (6 : Int32)) c4 (by decide)]; rw [c5]; done) | (rw [lv_osw (k := (6 : Int32)) c4 (by decide)]; rw [c5]; rfl)) 46 (by decide) ?_
      refine pm_iload_n K d_Machine_cellsOfCall_46 1 rfl rfl ?_
      refine pm_iconst (v := 2) K d_Machine_cellsOfCall_47 (by decide) ?_
      refine pm_imul K d_Machine_cellsOfCall_48 ?_
      cases hf
      exact pm_iret K d_Machine_cellsOfCall_49
    have hf := pm_iff c5 hf
    refine pm_lookup (off := 32) K d_Machine_cellsOfCall_18 (by decide) (by first | (rw [lv_osw (k := (6 : Int32)) c4 (by decide)]; rw [lv_osw (k := (9 : Int32)) c5 (by decide)]; done) | (rw [lv_osw (k := (6 : Int32)) c4 (by decide)]; rw [lv_osw (k := (9 : Int32)) c5 (by decide)]; rfl)) 50 (by decide) ?_
    refine pm_iconst (v := 0) K d_Machine_cellsOfCall_50 (by decide) ?_
    cases hf
    exact pm_iret K d_Machine_cellsOfCall_51
  · have hf := pm_ift c2 hf
    refine pm_iconst (v := 2) K d_Machine_cellsOfCall_8 (by decide) ?_
    refine pm_iload_n K d_Machine_cellsOfCall_9 1 rfl rfl ?_
    refine pm_imul K d_Machine_cellsOfCall_10 ?_
    refine pm_iconst (v := 2) K d_Machine_cellsOfCall_11 (by decide) ?_
    refine pm_imul K d_Machine_cellsOfCall_12 ?_
    cases hf
    exact pm_iret K d_Machine_cellsOfCall_13
/-- CellLisp$Machine.cellsOfCall(II)I -/
theorem c_Machine_cellsOfCall {l : Launch} {D : va_G} {ca : Nat → ClassId} {ad : Nat → Nat} {E : (Nat → Prop) → State → Heap → Prop} {S : Nat} (hEc : pm_Ecl E) (r : Int32) (w' : pm_W) (x0 : Int32) (x1 : Int32) (w : pm_W) (hf : f_Machine_cellsOfCall  S x0 x1 w = some (r, w')) : pm_Met l pmTs D vwCl (tyl ca) (shC S) ca ad E y_Machine_cellsOfCall k_Machine_cellsOfCall 2 (some .int) { frames := 1, cells := 0, slots := 0, locals := 20 } [.int x0, .int x1] w (some (.int r), w') :=
  pm_start pmTs_good hEc (by decide) (Nat.le_of_ble_eq_true rfl) (fun p e s m below meth c K => t_Machine_cellsOfCall K r w' x0 x1 w hf)
def f_Machine_truth (S : Nat) (x0 : Int32) (w : pm_W) : Option (Int32 × pm_W) :=
  if x0 = 0 then
    some ((2 : Int32), w)
  else
    Option.bind (f_Value_of S (1 : Int32) (15 : Int32) w) fun o2 =>
    some (o2.1, o2.2)
set_option maxHeartbeats 4000000 in
set_option maxRecDepth 100000 in
theorem t_Machine_truth {p : Program} {l : Launch} {e : Env} {s : State} {m : MethodId} {args : Array Value} {below : List Frame} {meth : Method} {c : Code} {D : va_G} {ca : Nat → ClassId} {ad : Nat → Nat} {E : (Nat → Prop) → State → Heap → Prop} {S : Nat} (K : pm_ok p s m args meth c k_Machine_truth 1 pmTs R_Machine D vwCl (tyl ca) (shC S) ad E (some .int)) (r : Int32) (w' : pm_W) (x0 : Int32) (w : pm_W) (hf : f_Machine_truth  S x0 w = some (r, w')) : pm_wk p l e { frames := 1, cells := 0, slots := 0, locals := 21 } s m args below meth c D vwCl (shC S) ca ad 1 (some (.int r), w') 0 [(0, .int x0)] [] w := by
  unfold f_Machine_truth at hf
  refine pm_iload_n K d_Machine_truth_0 0 rfl rfl ?_
  refine pm_if_eq K d_Machine_truth_1 13 (by decide) (fun c1 => ?_) (fun c1 => ?_)
  · have hf := pm_ift c1 hf
    refine pm_iconst (v := 2) K d_Machine_truth_13 (by decide) ?_
    cases hf
    exact pm_iret K d_Machine_truth_14
  · have hf := pm_iff c1 hf
    refine pm_iconst (v := 1) K d_Machine_truth_4 (by decide) ?_
    refine pm_bipush (v := 15) K d_Machine_truth_5 (by decide) ?_
    obtain ⟨o2, z2, hf⟩ := pm_bind hf
    refine pm_callS (As := [.int (1 : Int32), .int (15 : Int32)]) (rest := []) K (c_Value_of K.2.2.2.2.2.2.2.2.2.2.2.2 o2.1 o2.2 (1 : Int32) (15 : Int32) w z2) mi_Value_of tw_190 tw_575 rfl ⟨rfl, rfl, Nat.le_of_ble_eq_true rfl, Nat.le_of_ble_eq_true rfl⟩ rfl (Nat.le_of_ble_eq_true rfl) d_Machine_truth_7 ?_
    refine pm_goto K d_Machine_truth_10 14 (by decide) ?_
    cases hf
    exact pm_iret K d_Machine_truth_14
/-- CellLisp$Machine.truth(Z)I -/
theorem c_Machine_truth {l : Launch} {D : va_G} {ca : Nat → ClassId} {ad : Nat → Nat} {E : (Nat → Prop) → State → Heap → Prop} {S : Nat} (hEc : pm_Ecl E) (r : Int32) (w' : pm_W) (x0 : Int32) (w : pm_W) (hf : f_Machine_truth  S x0 w = some (r, w')) : pm_Met l pmTs D vwCl (tyl ca) (shC S) ca ad E y_Machine_truth k_Machine_truth 1 (some .int) { frames := 1, cells := 0, slots := 0, locals := 21 } [.int x0] w (some (.int r), w') :=
  pm_start pmTs_good hEc (by decide) (Nat.le_of_ble_eq_true rfl) (fun p e s m below meth c K => t_Machine_truth K r w' x0 w hf)
def b_Machine_listOf_8 (S : Nat) (rec : Nat → Int32 → Int32 → Int32 → Int32 → pm_W → Option (Int32 × pm_W)) (x2 : Int32) (x3 : Int32) (x4 : Int32) (x5 : Int32) (w : pm_W) : Option (Int32 × pm_W) :=
  if x2 ≤ x5 then
    some (x3, w)
  else
    Option.bind (f_Value_isPair S x4 w) fun o2 =>
    if o2.1 = 0 then
      some (x3, o2.2)
    else
      Option.bind (f_Room_first S x4 o2.2) fun o4 =>
      Option.bind (f_Room_pair S o4.1 x3 o4.2) fun o5 =>
      Option.bind (f_Room_second S x4 o5.2) fun o6 =>
      rec 0 x2 o5.1 o6.1 (x5 + (1 : Int32)) o6.2
def l_Machine_listOf (S : Nat) : Nat → Nat → Int32 → Int32 → Int32 → Int32 → pm_W → Option (Int32 × pm_W) := pm_it (fun _ _ _ _ _ _ => none) (fun rec k x2 x3 x4 x5 w => b_Machine_listOf_8  S rec x2 x3 x4 x5 w)
def f_Machine_listOf (S : Nat) (x1 : Int32) (x2 : Int32) (w : pm_W) : Option (Int32 × pm_W) :=
  (l_Machine_listOf  S pm_fuel) 0 x2 (2 : Int32) x1 (0 : Int32) w
set_option maxHeartbeats 4000000 in
set_option maxRecDepth 100000 in
theorem t_Machine_listOf_8 {p : Program} {l : Launch} {e : Env} {s : State} {m : MethodId} {args : Array Value} {below : List Frame} {meth : Method} {c : Code} {D : va_G} {ca : Nat → ClassId} {ad : Nat → Nat} {E : (Nat → Prop) → State → Heap → Prop} {S : Nat} (K : pm_ok p s m args meth c k_Machine_listOf 6 pmTs R_Machine D vwCl (tyl ca) (shC S) ad E (some .int)) (rec : Nat → Int32 → Int32 → Int32 → Int32 → pm_W → Option (Int32 × pm_W)) (r : Int32) (w' : pm_W) (h8 : ∀ (x2 : Int32) (x3 : Int32) (x4 : Int32) (x5 : Int32) (w : pm_W), rec 0 x2 x3 x4 x5 w = some (r, w') → pm_wk p l e { frames := 2, cells := 0, slots := 0, locals := 47 } s m args below meth c D vwCl (shC S) ca ad 6 (some (.int r), w') 8 [(0, .ref (ad 6)), (2, .int x2), (3, .int x3), (4, .int x4), (5, .int x5)] [] w) (x2 : Int32) (x3 : Int32) (x4 : Int32) (x5 : Int32) (w : pm_W) (hf : b_Machine_listOf_8  S rec x2 x3 x4 x5 w = some (r, w')) : pm_wk p l e { frames := 2, cells := 0, slots := 0, locals := 47 } s m args below meth c D vwCl (shC S) ca ad 6 (some (.int r), w') 8 [(0, .ref (ad 6)), (2, .int x2), (3, .int x3), (4, .int x4), (5, .int x5)] [] w := by
  unfold b_Machine_listOf_8 at hf
  refine pm_iload K d_Machine_listOf_8 4 rfl ?_
  refine pm_iload_n K d_Machine_listOf_10 1 rfl rfl ?_
  refine pm_icmp_ge K d_Machine_listOf_11 57 (by decide) (fun c1 => ?_) (fun c1 => ?_)
  · have hf := pm_ift c1 hf
    refine pm_iload_n K d_Machine_listOf_57 2 rfl rfl ?_
    cases hf
    exact pm_iret K d_Machine_listOf_58
  · have hf := pm_iff c1 hf
    refine pm_iload K d_Machine_listOf_14 3 rfl ?_
    obtain ⟨o2, z2, hf⟩ := pm_bind hf
    refine pm_callS (As := [.int x4]) (rest := []) K (c_Value_isPair K.2.2.2.2.2.2.2.2.2.2.2.2 o2.1 o2.2 x4 w z2) mi_Value_isPair tw_435 tw_454 rfl ⟨rfl, rfl, Nat.le_of_ble_eq_true rfl, Nat.le_of_ble_eq_true rfl⟩ rfl (Nat.le_of_ble_eq_true rfl) d_Machine_listOf_16 ?_
    refine pm_if_eq K d_Machine_listOf_19 57 (by decide) (fun c3 => ?_) (fun c3 => ?_)
    · have hf := pm_ift c3 hf
      refine pm_iload_n K d_Machine_listOf_57 2 rfl rfl ?_
      cases hf
      exact pm_iret K d_Machine_listOf_58
    · have hf := pm_iff c3 hf
      refine pm_aload_n K d_Machine_listOf_22 0 rfl rfl ?_
      refine pm_getR K fc_6 (o := 6) rfl 1 rfl (by decide) tw_281 d_Machine_listOf_23 ?_
      refine pm_aload_n K d_Machine_listOf_26 0 rfl rfl ?_
      refine pm_getR K fc_6 (o := 6) rfl 1 rfl (by decide) tw_281 d_Machine_listOf_27 ?_
      refine pm_iload K d_Machine_listOf_30 3 rfl ?_
      obtain ⟨o4, z4, hf⟩ := pm_bind hf
      refine pm_callV (As := [.int x4]) (rest := [.ref (ad 5)]) (o := 5) K (c_Room_first K.2.2.2.2.2.2.2.2.2.2.2.2 o4.1 o4.2 x4 o2.2 z4) mi_Room_first rfl rfl tw_438 tw_439 tw_455 rfl ⟨rfl, rfl, Nat.le_of_ble_eq_true rfl, Nat.le_of_ble_eq_true rfl⟩ rfl (Nat.le_of_ble_eq_true rfl) d_Machine_listOf_32 ?_
      refine pm_iload_n K d_Machine_listOf_35 2 rfl rfl ?_
      obtain ⟨o5, z5, hf⟩ := pm_bind hf
      refine pm_callV (As := [.int o4.1, .int x3]) (rest := []) (o := 5) K (c_Room_pair K.2.2.2.2.2.2.2.2.2.2.2.2 o5.1 o5.2 o4.1 x3 o4.2 z5) mi_Room_pair rfl rfl tw_390 tw_391 tw_537 rfl ⟨rfl, rfl, Nat.le_of_ble_eq_true rfl, Nat.le_of_ble_eq_true rfl⟩ rfl (Nat.le_of_ble_eq_true rfl) d_Machine_listOf_36 ?_
      refine pm_istore_n (lv' := [(3, .int o5.1), (0, .ref (ad 6)), (2, .int x2), (4, .int x4), (5, .int x5)]) K d_Machine_listOf_39 rfl (by decide) rfl ?_
      refine pm_aload_n K d_Machine_listOf_40 1 rfl rfl ?_
      refine pm_getR K fc_6 (o := 6) rfl 1 rfl (by decide) tw_281 d_Machine_listOf_41 ?_
      refine pm_iload K d_Machine_listOf_44 3 rfl ?_
      obtain ⟨o6, z6, hf⟩ := pm_bind hf
      refine pm_callV (As := [.int x4]) (rest := []) (o := 5) K (c_Room_second K.2.2.2.2.2.2.2.2.2.2.2.2 o6.1 o6.2 x4 o5.2 z6) mi_Room_second rfl rfl tw_442 tw_443 tw_445 rfl ⟨rfl, rfl, Nat.le_of_ble_eq_true rfl, Nat.le_of_ble_eq_true rfl⟩ rfl (Nat.le_of_ble_eq_true rfl) d_Machine_listOf_46 ?_
      refine pm_istore (lv' := [(4, .int o6.1), (3, .int o5.1), (0, .ref (ad 6)), (2, .int x2), (5, .int x5)]) K d_Machine_listOf_49 (by decide) rfl ?_
      refine pm_iinc (v := x5 + (1 : Int32)) (lv' := [(5, .int (x5 + (1 : Int32))), (4, .int o6.1), (3, .int o5.1), (0, .ref (ad 6)), (2, .int x2)]) K d_Machine_listOf_51 4 rfl rfl (by decide) rfl ?_
      refine pm_goto K d_Machine_listOf_54 8 (by decide) ?_
      refine pm_sub (lv' := [(0, .ref (ad 6)), (2, .int x2), (3, .int o5.1), (4, .int o6.1), (5, .int (x5 + (1 : Int32)))]) [3, 4, 2, 1, 0] rfl ?_
      exact h8 x2 o5.1 o6.1 (x5 + (1 : Int32)) o6.2 hf
set_option maxHeartbeats 4000000 in
set_option maxRecDepth 100000 in
theorem a_Machine_listOf {p : Program} {l : Launch} {e : Env} {s : State} {m : MethodId} {args : Array Value} {below : List Frame} {meth : Method} {c : Code} {D : va_G} {ca : Nat → ClassId} {ad : Nat → Nat} {E : (Nat → Prop) → State → Heap → Prop} {S : Nat} (K : pm_ok p s m args meth c k_Machine_listOf 6 pmTs R_Machine D vwCl (tyl ca) (shC S) ad E (some .int)) (r : Int32) (w' : pm_W) : ∀ n : Nat, (∀ (x2 : Int32) (x3 : Int32) (x4 : Int32) (x5 : Int32) (w : pm_W), l_Machine_listOf  S n 0 x2 x3 x4 x5 w = some (r, w') → pm_wk p l e { frames := 2, cells := 0, slots := 0, locals := 47 } s m args below meth c D vwCl (shC S) ca ad 6 (some (.int r), w') 8 [(0, .ref (ad 6)), (2, .int x2), (3, .int x3), (4, .int x4), (5, .int x5)] [] w) := by
  intro n
  induction n with
  | zero => exact fun _ _ _ _ _ hf => (by cases hf)
  | succ n ih => exact fun x2 x3 x4 x5 w hf => t_Machine_listOf_8 K (l_Machine_listOf S n) r w' (ih) x2 x3 x4 x5 w hf
set_option maxHeartbeats 4000000 in
set_option maxRecDepth 100000 in
theorem t_Machine_listOf {p : Program} {l : Launch} {e : Env} {s : State} {m : MethodId} {args : Array Value} {below : List Frame} {meth : Method} {c : Code} {D : va_G} {ca : Nat → ClassId} {ad : Nat → Nat} {E : (Nat → Prop) → State → Heap → Prop} {S : Nat} (K : pm_ok p s m args meth c k_Machine_listOf 6 pmTs R_Machine D vwCl (tyl ca) (shC S) ad E (some .int)) (r : Int32) (w' : pm_W) (x1 : Int32) (x2 : Int32) (w : pm_W) (hf : f_Machine_listOf  S x1 x2 w = some (r, w')) : pm_wk p l e { frames := 2, cells := 0, slots := 0, locals := 47 } s m args below meth c D vwCl (shC S) ca ad 6 (some (.int r), w') 0 [(0, .ref (ad 6)), (1, .int x1), (2, .int x2)] [] w := by
  unfold f_Machine_listOf at hf
  have h8 := (a_Machine_listOf (l := l) (e := e) (below := below) K  r w' pm_fuel)
  refine pm_iconst (v := 2) K d_Machine_listOf_0 (by decide) ?_
  refine pm_istore_n (lv' := [(3, .int (2 : Int32)), (0, .ref (ad 6)), (1, .int x1), (2, .int x2)]) K d_Machine_listOf_1 rfl (by decide) rfl ?_
  refine pm_iload_n K d_Machine_listOf_2 2 rfl rfl ?_
  refine pm_istore (lv' := [(4, .int x1), (3, .int (2 : Int32)), (0, .ref (ad 6)), (1, .int x1), (2, .int x2)]) K d_Machine_listOf_3 (by decide) rfl ?_
  refine pm_iconst (v := 0) K d_Machine_listOf_5 (by decide) ?_
  refine pm_istore (lv' := [(5, .int (0 : Int32)), (4, .int x1), (3, .int (2 : Int32)), (0, .ref (ad 6)), (1, .int x1), (2, .int x2)]) K d_Machine_listOf_6 (by decide) rfl ?_
  refine pm_sub (lv' := [(0, .ref (ad 6)), (2, .int x2), (3, .int (2 : Int32)), (4, .int x1), (5, .int (0 : Int32))]) [3, 5, 2, 1, 0] rfl ?_
  exact h8 x2 (2 : Int32) x1 (0 : Int32) w hf
/-- CellLisp$Machine.listOf(II)I -/
theorem c_Machine_listOf {l : Launch} {D : va_G} {ca : Nat → ClassId} {ad : Nat → Nat} {E : (Nat → Prop) → State → Heap → Prop} {S : Nat} (hEc : pm_Ecl E) (r : Int32) (w' : pm_W) (x1 : Int32) (x2 : Int32) (w : pm_W) (hf : f_Machine_listOf  S x1 x2 w = some (r, w')) : pm_Met l pmTs D vwCl (tyl ca) (shC S) ca ad E y_Machine_listOf k_Machine_listOf 6 (some .int) { frames := 2, cells := 0, slots := 0, locals := 47 } [.ref (ad 6), .int x1, .int x2] w (some (.int r), w') :=
  pm_start pmTs_good hEc (by decide) (Nat.le_of_ble_eq_true rfl) (fun p e s m below meth c K => t_Machine_listOf K r w' x1 x2 w hf)
def f_Machine_primitiveResult (S : Nat) (x1 : Int32) (x2 : Int32) (x3 : Int32) (w : pm_W) : Option (Int32 × pm_W) :=
  Option.bind (f_Room_first S x2 w) fun o1 =>
  Option.bind (f_Room_second S x2 o1.2) fun o2 =>
  Option.bind (f_Room_first S o2.1 o2.2) fun o3 =>
  if x1 = (0 : Int32) then
    Option.bind (f_Value_content S o3.1 o3.2) fun o5 =>
    Option.bind (f_Value_content S o1.1 o5.2) fun o6 =>
    Option.bind (f_Value_of S (0 : Int32) (o5.1 + o6.1) o6.2) fun o7 =>
    some (o7.1, o7.2)
  else
    if x1 = (1 : Int32) then
      Option.bind (f_Value_content S o3.1 o3.2) fun o9 =>
      Option.bind (f_Value_content S o1.1 o9.2) fun o10 =>
      Option.bind (f_Value_of S (0 : Int32) (o9.1 - o10.1) o10.2) fun o11 =>
      some (o11.1, o11.2)
    else
      if x1 = (2 : Int32) then
        Option.bind (f_Value_content S o3.1 o3.2) fun o13 =>
        Option.bind (f_Value_content S o1.1 o13.2) fun o14 =>
        Option.bind (f_Value_of S (0 : Int32) (o13.1 * o14.1) o14.2) fun o15 =>
        some (o15.1, o15.2)
      else
        if x1 = (3 : Int32) then
          Option.bind (f_Value_content S o3.1 o3.2) fun o17 =>
          Option.bind (f_Value_content S o1.1 o17.2) fun o18 =>
          if o18.1 ≤ o17.1 then
            Option.bind (f_Machine_truth S (0 : Int32) o18.2) fun o20 =>
            some (o20.1, o20.2)
          else
            Option.bind (f_Machine_truth S (1 : Int32) o18.2) fun o21 =>
            some (o21.1, o21.2)
        else
          if x1 = (4 : Int32) then
            if o3.1 = o1.1 then
              Option.bind (f_Machine_truth S (1 : Int32) o3.2) fun o25 =>
              some (o25.1, o25.2)
            else
              Option.bind (f_Machine_truth S (0 : Int32) o3.2) fun o24 =>
              some (o24.1, o24.2)
          else
            if x1 = (5 : Int32) then
              Option.bind (f_Value_isPair S o1.1 o3.2) fun o27 =>
              if o27.1 = 0 then
                Option.bind (f_Machine_truth S (1 : Int32) o27.2) fun o30 =>
                some (o30.1, o30.2)
              else
                Option.bind (f_Machine_truth S (0 : Int32) o27.2) fun o29 =>
                some (o29.1, o29.2)
            else
              if x1 = (6 : Int32) then
                Option.bind (f_Room_pair S o3.1 o1.1 o3.2) fun o32 =>
                some (o32.1, o32.2)
              else
                if x1 = (7 : Int32) then
                  Option.bind (f_Room_first S o1.1 o3.2) fun o34 =>
                  some (o34.1, o34.2)
                else
                  if x1 = (8 : Int32) then
                    Option.bind (f_Room_second S o1.1 o3.2) fun o36 =>
                    some (o36.1, o36.2)
                  else
                    Option.bind (f_Machine_listOf S x2 x3 o3.2) fun o37 =>
                    some (o37.1, o37.2)
set_option maxHeartbeats 4000000 in
set_option maxRecDepth 100000 in
theorem t_Machine_primitiveResult {p : Program} {l : Launch} {e : Env} {s : State} {m : MethodId} {args : Array Value} {below : List Frame} {meth : Method} {c : Code} {D : va_G} {ca : Nat → ClassId} {ad : Nat → Nat} {E : (Nat → Prop) → State → Heap → Prop} {S : Nat} (K : pm_ok p s m args meth c k_Machine_primitiveResult 6 pmTs R_Machine D vwCl (tyl ca) (shC S) ad E (some .int)) (r : Int32) (w' : pm_W) (x1 : Int32) (x2 : Int32) (x3 : Int32) (w : pm_W) (hf : f_Machine_primitiveResult  S x1 x2 x3 w = some (r, w')) : pm_wk p l e { frames := 3, cells := 0, slots := 0, locals := 72 } s m args below meth c D vwCl (shC S) ca ad 6 (some (.int r), w') 0 [(0, .ref (ad 6)), (1, .int x1), (2, .int x2), (3, .int x3)] [] w := by
  unfold f_Machine_primitiveResult at hf
  refine pm_aload_n K d_Machine_primitiveResult_0 0 rfl rfl ?_
  refine pm_getR K fc_6 (o := 6) rfl 1 rfl (by decide) tw_281 d_Machine_primitiveResult_1 ?_
  refine pm_iload_n K d_Machine_primitiveResult_4 2 rfl rfl ?_
  obtain ⟨o1, z1, hf⟩ := pm_bind hf
  refine pm_callV (As := [.int x2]) (rest := []) (o := 5) K (c_Room_first K.2.2.2.2.2.2.2.2.2.2.2.2 o1.1 o1.2 x2 w z1) mi_Room_first rfl rfl tw_438 tw_439 tw_455 rfl ⟨rfl, rfl, Nat.le_of_ble_eq_true rfl, Nat.le_of_ble_eq_true rfl⟩ rfl (Nat.le_of_ble_eq_true rfl) d_Machine_primitiveResult_5 ?_
  refine pm_istore (lv' := [(4, .int o1.1), (0, .ref (ad 6)), (1, .int x1), (2, .int x2), (3, .int x3)]) K d_Machine_primitiveResult_8 (by decide) rfl ?_
  refine pm_aload_n K d_Machine_primitiveResult_10 1 rfl rfl ?_
  refine pm_getR K fc_6 (o := 6) rfl 1 rfl (by decide) tw_281 d_Machine_primitiveResult_11 ?_
  refine pm_aload_n K d_Machine_primitiveResult_14 1 rfl rfl ?_
  refine pm_getR K fc_6 (o := 6) rfl 1 rfl (by decide) tw_281 d_Machine_primitiveResult_15 ?_
  refine pm_iload_n K d_Machine_primitiveResult_18 3 rfl rfl ?_
  obtain ⟨o2, z2, hf⟩ := pm_bind hf
  refine pm_callV (As := [.int x2]) (rest := [.ref (ad 5)]) (o := 5) K (c_Room_second K.2.2.2.2.2.2.2.2.2.2.2.2 o2.1 o2.2 x2 o1.2 z2) mi_Room_second rfl rfl tw_442 tw_443 tw_445 rfl ⟨rfl, rfl, Nat.le_of_ble_eq_true rfl, Nat.le_of_ble_eq_true rfl⟩ rfl (Nat.le_of_ble_eq_true rfl) d_Machine_primitiveResult_19 ?_
  obtain ⟨o3, z3, hf⟩ := pm_bind hf
  refine pm_callV (As := [.int o2.1]) (rest := []) (o := 5) K (c_Room_first K.2.2.2.2.2.2.2.2.2.2.2.2 o3.1 o3.2 o2.1 o2.2 z3) mi_Room_first rfl rfl tw_438 tw_439 tw_455 rfl ⟨rfl, rfl, Nat.le_of_ble_eq_true rfl, Nat.le_of_ble_eq_true rfl⟩ rfl (Nat.le_of_ble_eq_true rfl) d_Machine_primitiveResult_22 ?_
  refine pm_istore (lv' := [(5, .int o3.1), (4, .int o1.1), (0, .ref (ad 6)), (1, .int x1), (2, .int x2), (3, .int x3)]) K d_Machine_primitiveResult_25 (by decide) rfl ?_
  refine pm_iload_n K d_Machine_primitiveResult_27 3 rfl rfl ?_
  by_cases c4 : x1 = (0 : Int32)
  · have hf := pm_ift c4 hf
    refine pm_tableIn K d_Machine_primitiveResult_28 (by rw [c4]; decide) (by rw [c4]; decide) (by rw [c4]; rfl) 80 (by decide) ?_
    refine pm_iconst (v := 0) K d_Machine_primitiveResult_80 (by decide) ?_
    refine pm_iload K d_Machine_primitiveResult_81 0 rfl ?_
    obtain ⟨o5, z5, hf⟩ := pm_bind hf
    refine pm_callS (As := [.int o3.1]) (rest := [.int (0 : Int32)]) K (c_Value_content K.2.2.2.2.2.2.2.2.2.2.2.2 o5.1 o5.2 o3.1 o3.2 z5) mi_Value_content tw_377 tw_449 rfl ⟨rfl, rfl, Nat.le_of_ble_eq_true rfl, Nat.le_of_ble_eq_true rfl⟩ rfl (Nat.le_of_ble_eq_true rfl) d_Machine_primitiveResult_83 ?_
    refine pm_iload K d_Machine_primitiveResult_86 1 rfl ?_
    obtain ⟨o6, z6, hf⟩ := pm_bind hf
    refine pm_callS (As := [.int o1.1]) (rest := [.int o5.1, .int (0 : Int32)]) K (c_Value_content K.2.2.2.2.2.2.2.2.2.2.2.2 o6.1 o6.2 o1.1 o5.2 z6) mi_Value_content tw_377 tw_449 rfl ⟨rfl, rfl, Nat.le_of_ble_eq_true rfl, Nat.le_of_ble_eq_true rfl⟩ rfl (Nat.le_of_ble_eq_true rfl) d_Machine_primitiveResult_88 ?_
    refine pm_iadd K d_Machine_primitiveResult_91 ?_
    obtain ⟨o7, z7, hf⟩ := pm_bind hf
    refine pm_callS (As := [.int (0 : Int32), .int (o5.1 + o6.1)]) (rest := []) K (c_Value_of K.2.2.2.2.2.2.2.2.2.2.2.2 o7.1 o7.2 (0 : Int32) (o5.1 + o6.1) o6.2 z7) mi_Value_of tw_190 tw_575 rfl ⟨rfl, rfl, Nat.le_of_ble_eq_true rfl, Nat.le_of_ble_eq_true rfl⟩ rfl (Nat.le_of_ble_eq_true rfl) d_Machine_primitiveResult_92 ?_
    cases hf
    exact pm_iret K d_Machine_primitiveResult_95
  have hf := pm_iff c4 hf
  by_cases c8 : x1 = (1 : Int32)
  · have hf := pm_ift c8 hf
    refine pm_tableIn K d_Machine_primitiveResult_28 (by rw [c8]; decide) (by rw [c8]; decide) (by rw [c8]; rfl) 96 (by decide) ?_
    refine pm_iconst (v := 0) K d_Machine_primitiveResult_96 (by decide) ?_
    refine pm_iload K d_Machine_primitiveResult_97 0 rfl ?_
    obtain ⟨o9, z9, hf⟩ := pm_bind hf
    refine pm_callS (As := [.int o3.1]) (rest := [.int (0 : Int32)]) K (c_Value_content K.2.2.2.2.2.2.2.2.2.2.2.2 o9.1 o9.2 o3.1 o3.2 z9) mi_Value_content tw_377 tw_449 rfl ⟨rfl, rfl, Nat.le_of_ble_eq_true rfl, Nat.le_of_ble_eq_true rfl⟩ rfl (Nat.le_of_ble_eq_true rfl) d_Machine_primitiveResult_99 ?_
    refine pm_iload K d_Machine_primitiveResult_102 1 rfl ?_
    obtain ⟨o10, z10, hf⟩ := pm_bind hf
    refine pm_callS (As := [.int o1.1]) (rest := [.int o9.1, .int (0 : Int32)]) K (c_Value_content K.2.2.2.2.2.2.2.2.2.2.2.2 o10.1 o10.2 o1.1 o9.2 z10) mi_Value_content tw_377 tw_449 rfl ⟨rfl, rfl, Nat.le_of_ble_eq_true rfl, Nat.le_of_ble_eq_true rfl⟩ rfl (Nat.le_of_ble_eq_true rfl) d_Machine_primitiveResult_104 ?_
    refine pm_isub K d_Machine_primitiveResult_107 ?_
    obtain ⟨o11, z11, hf⟩ := pm_bind hf
    refine pm_callS (As := [.int (0 : Int32), .int (o9.1 - o10.1)]) (rest := []) K (c_Value_of K.2.2.2.2.2.2.2.2.2.2.2.2 o11.1 o11.2 (0 : Int32) (o9.1 - o10.1) o10.2 z11) mi_Value_of tw_190 tw_575 rfl ⟨rfl, rfl, Nat.le_of_ble_eq_true rfl, Nat.le_of_ble_eq_true rfl⟩ rfl (Nat.le_of_ble_eq_true rfl) d_Machine_primitiveResult_108 ?_
    cases hf
    exact pm_iret K d_Machine_primitiveResult_111
  have hf := pm_iff c8 hf
  by_cases c12 : x1 = (2 : Int32)
  · have hf := pm_ift c12 hf
    refine pm_tableIn K d_Machine_primitiveResult_28 (by rw [c12]; decide) (by rw [c12]; decide) (by rw [c12]; rfl) 112 (by decide) ?_
    refine pm_iconst (v := 0) K d_Machine_primitiveResult_112 (by decide) ?_
    refine pm_iload K d_Machine_primitiveResult_113 0 rfl ?_
    obtain ⟨o13, z13, hf⟩ := pm_bind hf
    refine pm_callS (As := [.int o3.1]) (rest := [.int (0 : Int32)]) K (c_Value_content K.2.2.2.2.2.2.2.2.2.2.2.2 o13.1 o13.2 o3.1 o3.2 z13) mi_Value_content tw_377 tw_449 rfl ⟨rfl, rfl, Nat.le_of_ble_eq_true rfl, Nat.le_of_ble_eq_true rfl⟩ rfl (Nat.le_of_ble_eq_true rfl) d_Machine_primitiveResult_115 ?_
    refine pm_iload K d_Machine_primitiveResult_118 1 rfl ?_
    obtain ⟨o14, z14, hf⟩ := pm_bind hf
    refine pm_callS (As := [.int o1.1]) (rest := [.int o13.1, .int (0 : Int32)]) K (c_Value_content K.2.2.2.2.2.2.2.2.2.2.2.2 o14.1 o14.2 o1.1 o13.2 z14) mi_Value_content tw_377 tw_449 rfl ⟨rfl, rfl, Nat.le_of_ble_eq_true rfl, Nat.le_of_ble_eq_true rfl⟩ rfl (Nat.le_of_ble_eq_true rfl) d_Machine_primitiveResult_120 ?_
    refine pm_imul K d_Machine_primitiveResult_123 ?_
    obtain ⟨o15, z15, hf⟩ := pm_bind hf
    refine pm_callS (As := [.int (0 : Int32), .int (o13.1 * o14.1)]) (rest := []) K (c_Value_of K.2.2.2.2.2.2.2.2.2.2.2.2 o15.1 o15.2 (0 : Int32) (o13.1 * o14.1) o14.2 z15) mi_Value_of tw_190 tw_575 rfl ⟨rfl, rfl, Nat.le_of_ble_eq_true rfl, Nat.le_of_ble_eq_true rfl⟩ rfl (Nat.le_of_ble_eq_true rfl) d_Machine_primitiveResult_124 ?_
    cases hf
    exact pm_iret K d_Machine_primitiveResult_127
  have hf := pm_iff c12 hf
  by_cases c16 : x1 = (3 : Int32)
  · have hf := pm_ift c16 hf
    refine pm_tableIn K d_Machine_primitiveResult_28 (by rw [c16]; decide) (by rw [c16]; decide) (by rw [c16]; rfl) 128 (by decide) ?_
    refine pm_iload K d_Machine_primitiveResult_128 0 rfl ?_
    obtain ⟨o17, z17, hf⟩ := pm_bind hf
    refine pm_callS (As := [.int o3.1]) (rest := []) K (c_Value_content K.2.2.2.2.2.2.2.2.2.2.2.2 o17.1 o17.2 o3.1 o3.2 z17) mi_Value_content tw_377 tw_449 rfl ⟨rfl, rfl, Nat.le_of_ble_eq_true rfl, Nat.le_of_ble_eq_true rfl⟩ rfl (Nat.le_of_ble_eq_true rfl) d_Machine_primitiveResult_130 ?_
    refine pm_iload K d_Machine_primitiveResult_133 1 rfl ?_
    obtain ⟨o18, z18, hf⟩ := pm_bind hf
    refine pm_callS (As := [.int o1.1]) (rest := [.int o17.1]) K (c_Value_content K.2.2.2.2.2.2.2.2.2.2.2.2 o18.1 o18.2 o1.1 o17.2 z18) mi_Value_content tw_377 tw_449 rfl ⟨rfl, rfl, Nat.le_of_ble_eq_true rfl, Nat.le_of_ble_eq_true rfl⟩ rfl (Nat.le_of_ble_eq_true rfl) d_Machine_primitiveResult_135 ?_
    refine pm_icmp_ge K d_Machine_primitiveResult_138 145 (by decide) (fun c19 => ?_) (fun c19 => ?_)
    · have hf := pm_ift c19 hf
      refine pm_iconst (v := 0) K d_Machine_primitiveResult_145 (by decide) ?_
      obtain ⟨o20, z20, hf⟩ := pm_bind hf
      refine pm_callS (As := [.int (0 : Int32)]) (rest := []) K (c_Machine_truth K.2.2.2.2.2.2.2.2.2.2.2.2 o20.1 o20.2 (0 : Int32) o18.2 z20) mi_Machine_truth tw_577 tw_576 rfl ⟨rfl, rfl, Nat.le_of_ble_eq_true rfl, Nat.le_of_ble_eq_true rfl⟩ rfl (Nat.le_of_ble_eq_true rfl) d_Machine_primitiveResult_146 ?_
      cases hf
      exact pm_iret K d_Machine_primitiveResult_149
    · have hf := pm_iff c19 hf
      refine pm_iconst (v := 1) K d_Machine_primitiveResult_141 (by decide) ?_
      refine pm_goto K d_Machine_primitiveResult_142 146 (by decide) ?_
      obtain ⟨o21, z21, hf⟩ := pm_bind hf
      refine pm_callS (As := [.int (1 : Int32)]) (rest := []) K (c_Machine_truth K.2.2.2.2.2.2.2.2.2.2.2.2 o21.1 o21.2 (1 : Int32) o18.2 z21) mi_Machine_truth tw_577 tw_576 rfl ⟨rfl, rfl, Nat.le_of_ble_eq_true rfl, Nat.le_of_ble_eq_true rfl⟩ rfl (Nat.le_of_ble_eq_true rfl) d_Machine_primitiveResult_146 ?_
      cases hf
      exact pm_iret K d_Machine_primitiveResult_149
  have hf := pm_iff c16 hf
  by_cases c22 : x1 = (4 : Int32)
  · have hf := pm_ift c22 hf
    refine pm_tableIn K d_Machine_primitiveResult_28 (by rw [c22]; decide) (by rw [c22]; decide) (by rw [c22]; rfl) 150 (by decide) ?_
    refine pm_iload K d_Machine_primitiveResult_150 0 rfl ?_
    refine pm_iload K d_Machine_primitiveResult_152 1 rfl ?_
    refine pm_icmp_ne K d_Machine_primitiveResult_154 161 (by decide) (fun c23 => ?_) (fun c23 => ?_)
    · have hf := pm_iff c23 hf
      refine pm_iconst (v := 0) K d_Machine_primitiveResult_161 (by decide) ?_
      obtain ⟨o24, z24, hf⟩ := pm_bind hf
      refine pm_callS (As := [.int (0 : Int32)]) (rest := []) K (c_Machine_truth K.2.2.2.2.2.2.2.2.2.2.2.2 o24.1 o24.2 (0 : Int32) o3.2 z24) mi_Machine_truth tw_577 tw_576 rfl ⟨rfl, rfl, Nat.le_of_ble_eq_true rfl, Nat.le_of_ble_eq_true rfl⟩ rfl (Nat.le_of_ble_eq_true rfl) d_Machine_primitiveResult_162 ?_
      cases hf
      exact pm_iret K d_Machine_primitiveResult_165
    · have hf := pm_ift c23 hf
      refine pm_iconst (v := 1) K d_Machine_primitiveResult_157 (by decide) ?_
      refine pm_goto K d_Machine_primitiveResult_158 162 (by decide) ?_
      obtain ⟨o25, z25, hf⟩ := pm_bind hf
      refine pm_callS (As := [.int (1 : Int32)]) (rest := []) K (c_Machine_truth K.2.2.2.2.2.2.2.2.2.2.2.2 o25.1 o25.2 (1 : Int32) o3.2 z25) mi_Machine_truth tw_577 tw_576 rfl ⟨rfl, rfl, Nat.le_of_ble_eq_true rfl, Nat.le_of_ble_eq_true rfl⟩ rfl (Nat.le_of_ble_eq_true rfl) d_Machine_primitiveResult_162 ?_
      cases hf
      exact pm_iret K d_Machine_primitiveResult_165
  have hf := pm_iff c22 hf
  by_cases c26 : x1 = (5 : Int32)
  · have hf := pm_ift c26 hf
    refine pm_tableIn K d_Machine_primitiveResult_28 (by rw [c26]; decide) (by rw [c26]; decide) (by rw [c26]; rfl) 166 (by decide) ?_
    refine pm_iload K d_Machine_primitiveResult_166 1 rfl ?_
    obtain ⟨o27, z27, hf⟩ := pm_bind hf
    refine pm_callS (As := [.int o1.1]) (rest := []) K (c_Value_isPair K.2.2.2.2.2.2.2.2.2.2.2.2 o27.1 o27.2 o1.1 o3.2 z27) mi_Value_isPair tw_435 tw_454 rfl ⟨rfl, rfl, Nat.le_of_ble_eq_true rfl, Nat.le_of_ble_eq_true rfl⟩ rfl (Nat.le_of_ble_eq_true rfl) d_Machine_primitiveResult_168 ?_
    refine pm_if_ne K d_Machine_primitiveResult_171 178 (by decide) (fun c28 => ?_) (fun c28 => ?_)
    · have hf := pm_iff c28 hf
      refine pm_iconst (v := 0) K d_Machine_primitiveResult_178 (by decide) ?_
      obtain ⟨o29, z29, hf⟩ := pm_bind hf
      refine pm_callS (As := [.int (0 : Int32)]) (rest := []) K (c_Machine_truth K.2.2.2.2.2.2.2.2.2.2.2.2 o29.1 o29.2 (0 : Int32) o27.2 z29) mi_Machine_truth tw_577 tw_576 rfl ⟨rfl, rfl, Nat.le_of_ble_eq_true rfl, Nat.le_of_ble_eq_true rfl⟩ rfl (Nat.le_of_ble_eq_true rfl) d_Machine_primitiveResult_179 ?_
      cases hf
      exact pm_iret K d_Machine_primitiveResult_182
    · have hf := pm_ift c28 hf
      refine pm_iconst (v := 1) K d_Machine_primitiveResult_174 (by decide) ?_
      refine pm_goto K d_Machine_primitiveResult_175 179 (by decide) ?_
      obtain ⟨o30, z30, hf⟩ := pm_bind hf
      refine pm_callS (As := [.int (1 : Int32)]) (rest := []) K (c_Machine_truth K.2.2.2.2.2.2.2.2.2.2.2.2 o30.1 o30.2 (1 : Int32) o27.2 z30) mi_Machine_truth tw_577 tw_576 rfl ⟨rfl, rfl, Nat.le_of_ble_eq_true rfl, Nat.le_of_ble_eq_true rfl⟩ rfl (Nat.le_of_ble_eq_true rfl) d_Machine_primitiveResult_179 ?_
      cases hf
      exact pm_iret K d_Machine_primitiveResult_182
  have hf := pm_iff c26 hf
  by_cases c31 : x1 = (6 : Int32)
  · have hf := pm_ift c31 hf
    refine pm_tableIn K d_Machine_primitiveResult_28 (by rw [c31]; decide) (by rw [c31]; decide) (by rw [c31]; rfl) 183 (by decide) ?_
    refine pm_aload_n K d_Machine_primitiveResult_183 2 rfl rfl ?_
    refine pm_getR K fc_6 (o := 6) rfl 1 rfl (by decide) tw_281 d_Machine_primitiveResult_184 ?_
    refine pm_iload K d_Machine_primitiveResult_187 0 rfl ?_
    refine pm_iload K d_Machine_primitiveResult_189 1 rfl ?_
    obtain ⟨o32, z32, hf⟩ := pm_bind hf
    refine pm_callV (As := [.int o3.1, .int o1.1]) (rest := []) (o := 5) K (c_Room_pair K.2.2.2.2.2.2.2.2.2.2.2.2 o32.1 o32.2 o3.1 o1.1 o3.2 z32) mi_Room_pair rfl rfl tw_390 tw_391 tw_537 rfl ⟨rfl, rfl, Nat.le_of_ble_eq_true rfl, Nat.le_of_ble_eq_true rfl⟩ rfl (Nat.le_of_ble_eq_true rfl) d_Machine_primitiveResult_191 ?_
    cases hf
    exact pm_iret K d_Machine_primitiveResult_194
  have hf := pm_iff c31 hf
  by_cases c33 : x1 = (7 : Int32)
  · have hf := pm_ift c33 hf
    refine pm_tableIn K d_Machine_primitiveResult_28 (by rw [c33]; decide) (by rw [c33]; decide) (by rw [c33]; rfl) 195 (by decide) ?_
    refine pm_aload_n K d_Machine_primitiveResult_195 2 rfl rfl ?_
    refine pm_getR K fc_6 (o := 6) rfl 1 rfl (by decide) tw_281 d_Machine_primitiveResult_196 ?_
    refine pm_iload K d_Machine_primitiveResult_199 1 rfl ?_
    obtain ⟨o34, z34, hf⟩ := pm_bind hf
    refine pm_callV (As := [.int o1.1]) (rest := []) (o := 5) K (c_Room_first K.2.2.2.2.2.2.2.2.2.2.2.2 o34.1 o34.2 o1.1 o3.2 z34) mi_Room_first rfl rfl tw_438 tw_439 tw_455 rfl ⟨rfl, rfl, Nat.le_of_ble_eq_true rfl, Nat.le_of_ble_eq_true rfl⟩ rfl (Nat.le_of_ble_eq_true rfl) d_Machine_primitiveResult_201 ?_
    cases hf
    exact pm_iret K d_Machine_primitiveResult_204
  have hf := pm_iff c33 hf
  by_cases c35 : x1 = (8 : Int32)
  · have hf := pm_ift c35 hf
    refine pm_tableIn K d_Machine_primitiveResult_28 (by rw [c35]; decide) (by rw [c35]; decide) (by rw [c35]; rfl) 205 (by decide) ?_
    refine pm_aload_n K d_Machine_primitiveResult_205 2 rfl rfl ?_
    refine pm_getR K fc_6 (o := 6) rfl 1 rfl (by decide) tw_281 d_Machine_primitiveResult_206 ?_
    refine pm_iload K d_Machine_primitiveResult_209 1 rfl ?_
    obtain ⟨o36, z36, hf⟩ := pm_bind hf
    refine pm_callV (As := [.int o1.1]) (rest := []) (o := 5) K (c_Room_second K.2.2.2.2.2.2.2.2.2.2.2.2 o36.1 o36.2 o1.1 o3.2 z36) mi_Room_second rfl rfl tw_442 tw_443 tw_445 rfl ⟨rfl, rfl, Nat.le_of_ble_eq_true rfl, Nat.le_of_ble_eq_true rfl⟩ rfl (Nat.le_of_ble_eq_true rfl) d_Machine_primitiveResult_211 ?_
    cases hf
    exact pm_iret K d_Machine_primitiveResult_214
  have hf := pm_iff c35 hf
  have hne : ¬ x1.toInt = 0 ∧ ¬ x1.toInt = 1 ∧ ¬ x1.toInt = 2 ∧ ¬ x1.toInt = 3 ∧ ¬ x1.toInt = 4 ∧ ¬ x1.toInt = 5 ∧ ¬ x1.toInt = 6 ∧ ¬ x1.toInt = 7 ∧ ¬ x1.toInt = 8 := ⟨lv_neT c4 (by decide), lv_neT c8 (by decide), lv_neT c12 (by decide), lv_neT c16 (by decide), lv_neT c22 (by decide), lv_neT c26 (by decide), lv_neT c31 (by decide), lv_neT c33 (by decide), lv_neT c35 (by decide)⟩
  refine pm_tableOut K d_Machine_primitiveResult_28 (by omega) 215 (by decide) ?_
  refine pm_aload_n K d_Machine_primitiveResult_215 2 rfl rfl ?_
  refine pm_iload_n K d_Machine_primitiveResult_216 4 rfl rfl ?_
  refine pm_iload_n K d_Machine_primitiveResult_217 5 rfl rfl ?_
  obtain ⟨o37, z37, hf⟩ := pm_bind hf
  refine pm_callV (As := [.int x2, .int x3]) (rest := []) (o := 6) K (c_Machine_listOf K.2.2.2.2.2.2.2.2.2.2.2.2 o37.1 o37.2 x2 x3 o3.2 z37) mi_Machine_listOf rfl rfl tw_580 tw_34 tw_579 rfl ⟨rfl, rfl, Nat.le_of_ble_eq_true rfl, Nat.le_of_ble_eq_true rfl⟩ rfl (Nat.le_of_ble_eq_true rfl) d_Machine_primitiveResult_218 ?_
  cases hf
  exact pm_iret K d_Machine_primitiveResult_221
/-- CellLisp$Machine.primitiveResult(III)I -/
theorem c_Machine_primitiveResult {l : Launch} {D : va_G} {ca : Nat → ClassId} {ad : Nat → Nat} {E : (Nat → Prop) → State → Heap → Prop} {S : Nat} (hEc : pm_Ecl E) (r : Int32) (w' : pm_W) (x1 : Int32) (x2 : Int32) (x3 : Int32) (w : pm_W) (hf : f_Machine_primitiveResult  S x1 x2 x3 w = some (r, w')) : pm_Met l pmTs D vwCl (tyl ca) (shC S) ca ad E y_Machine_primitiveResult k_Machine_primitiveResult 6 (some .int) { frames := 3, cells := 0, slots := 0, locals := 72 } [.ref (ad 6), .int x1, .int x2, .int x3] w (some (.int r), w') :=
  pm_start pmTs_good hEc (by decide) (Nat.le_of_ble_eq_true rfl) (fun p e s m below meth c K => t_Machine_primitiveResult K r w' x1 x2 x3 w hf)
def b_Machine_boundEnvironment_23 (S : Nat) (rec : Nat → Int32 → Int32 → Int32 → Int32 → Int32 → pm_W → Option (Int32 × pm_W)) (x2 : Int32) (x3 : Int32) (x4 : Int32) (x5 : Int32) (x6 : Int32) (w : pm_W) : Option (Int32 × pm_W) :=
  if x3 ≤ x6 then
    some (x4, w)
  else
    Option.bind (f_Room_tail S x2 ((x3 - (1 : Int32)) - x6) w) fun o4 =>
    Option.bind (f_Room_first S o4.1 o4.2) fun o5 =>
    Option.bind (f_Room_first S x5 o5.2) fun o6 =>
    Option.bind (f_Room_pair S o6.1 o5.1 o6.2) fun o7 =>
    Option.bind (f_Room_pair S o7.1 x4 o7.2) fun o8 =>
    Option.bind (f_Room_second S x5 o8.2) fun o9 =>
    rec 0 x2 x3 o8.1 o9.1 (x6 + (1 : Int32)) o9.2
def l_Machine_boundEnvironment (S : Nat) : Nat → Nat → Int32 → Int32 → Int32 → Int32 → Int32 → pm_W → Option (Int32 × pm_W) := pm_it (fun _ _ _ _ _ _ _ => none) (fun rec k x2 x3 x4 x5 x6 w => b_Machine_boundEnvironment_23  S rec x2 x3 x4 x5 x6 w)
def f_Machine_boundEnvironment (S : Nat) (x1 : Int32) (x2 : Int32) (x3 : Int32) (w : pm_W) : Option (Int32 × pm_W) :=
  Option.bind (f_Room_third S x1 w) fun o1 =>
  Option.bind (f_Room_first S x1 o1.2) fun o2 =>
  (l_Machine_boundEnvironment  S pm_fuel) 0 x2 x3 o1.1 o2.1 (0 : Int32) o2.2
set_option maxHeartbeats 4000000 in
set_option maxRecDepth 100000 in
theorem t_Machine_boundEnvironment_23 {p : Program} {l : Launch} {e : Env} {s : State} {m : MethodId} {args : Array Value} {below : List Frame} {meth : Method} {c : Code} {D : va_G} {ca : Nat → ClassId} {ad : Nat → Nat} {E : (Nat → Prop) → State → Heap → Prop} {S : Nat} (K : pm_ok p s m args meth c k_Machine_boundEnvironment 9 pmTs R_Machine D vwCl (tyl ca) (shC S) ad E (some .int)) (rec : Nat → Int32 → Int32 → Int32 → Int32 → Int32 → pm_W → Option (Int32 × pm_W)) (r : Int32) (w' : pm_W) (h23 : ∀ (x2 : Int32) (x3 : Int32) (x4 : Int32) (x5 : Int32) (x6 : Int32) (w : pm_W), rec 0 x2 x3 x4 x5 x6 w = some (r, w') → pm_wk p l e { frames := 3, cells := 0, slots := 0, locals := 68 } s m args below meth c D vwCl (shC S) ca ad 9 (some (.int r), w') 23 [(0, .ref (ad 6)), (2, .int x2), (3, .int x3), (4, .int x4), (5, .int x5), (6, .int x6)] [] w) (x2 : Int32) (x3 : Int32) (x4 : Int32) (x5 : Int32) (x6 : Int32) (w : pm_W) (hf : b_Machine_boundEnvironment_23  S rec x2 x3 x4 x5 x6 w = some (r, w')) : pm_wk p l e { frames := 3, cells := 0, slots := 0, locals := 68 } s m args below meth c D vwCl (shC S) ca ad 9 (some (.int r), w') 23 [(0, .ref (ad 6)), (2, .int x2), (3, .int x3), (4, .int x4), (5, .int x5), (6, .int x6)] [] w := by
  unfold b_Machine_boundEnvironment_23 at hf
  refine pm_iload K d_Machine_boundEnvironment_23 5 rfl ?_
  refine pm_iload_n K d_Machine_boundEnvironment_25 2 rfl rfl ?_
  refine pm_icmp_ge K d_Machine_boundEnvironment_26 102 (by decide) (fun c3 => ?_) (fun c3 => ?_)
  · have hf := pm_ift c3 hf
    refine pm_iload K d_Machine_boundEnvironment_102 3 rfl ?_
    cases hf
    exact pm_iret K d_Machine_boundEnvironment_104
  · have hf := pm_iff c3 hf
    refine pm_aload_n K d_Machine_boundEnvironment_29 0 rfl rfl ?_
    refine pm_getR K fc_6 (o := 6) rfl 1 rfl (by decide) tw_281 d_Machine_boundEnvironment_30 ?_
    refine pm_aload_n K d_Machine_boundEnvironment_33 0 rfl rfl ?_
    refine pm_getR K fc_6 (o := 6) rfl 1 rfl (by decide) tw_281 d_Machine_boundEnvironment_34 ?_
    refine pm_iload_n K d_Machine_boundEnvironment_37 1 rfl rfl ?_
    refine pm_iload_n K d_Machine_boundEnvironment_38 2 rfl rfl ?_
    refine pm_iconst (v := 1) K d_Machine_boundEnvironment_39 (by decide) ?_
    refine pm_isub K d_Machine_boundEnvironment_40 ?_
    refine pm_iload K d_Machine_boundEnvironment_41 5 rfl ?_
    refine pm_isub K d_Machine_boundEnvironment_43 ?_
    obtain ⟨o4, z4, hf⟩ := pm_bind hf
    refine pm_callV (As := [.int x2, .int ((x3 - (1 : Int32)) - x6)]) (rest := [.ref (ad 5)]) (o := 5) K (c_Room_tail K.2.2.2.2.2.2.2.2.2.2.2.2 o4.1 o4.2 x2 ((x3 - (1 : Int32)) - x6) w z4) mi_Room_tail rfl rfl tw_467 tw_468 tw_466 rfl ⟨rfl, rfl, Nat.le_of_ble_eq_true rfl, Nat.le_of_ble_eq_true rfl⟩ rfl (Nat.le_of_ble_eq_true rfl) d_Machine_boundEnvironment_44 ?_
    obtain ⟨o5, z5, hf⟩ := pm_bind hf
    refine pm_callV (As := [.int o4.1]) (rest := []) (o := 5) K (c_Room_first K.2.2.2.2.2.2.2.2.2.2.2.2 o5.1 o5.2 o4.1 o4.2 z5) mi_Room_first rfl rfl tw_438 tw_439 tw_455 rfl ⟨rfl, rfl, Nat.le_of_ble_eq_true rfl, Nat.le_of_ble_eq_true rfl⟩ rfl (Nat.le_of_ble_eq_true rfl) d_Machine_boundEnvironment_47 ?_
    refine pm_istore (lv' := [(7, .int o5.1), (0, .ref (ad 6)), (2, .int x2), (3, .int x3), (4, .int x4), (5, .int x5), (6, .int x6)]) K d_Machine_boundEnvironment_50 (by decide) rfl ?_
    refine pm_aload_n K d_Machine_boundEnvironment_52 1 rfl rfl ?_
    refine pm_getR K fc_6 (o := 6) rfl 1 rfl (by decide) tw_281 d_Machine_boundEnvironment_53 ?_
    refine pm_aload_n K d_Machine_boundEnvironment_56 1 rfl rfl ?_
    refine pm_getR K fc_6 (o := 6) rfl 1 rfl (by decide) tw_281 d_Machine_boundEnvironment_57 ?_
    refine pm_iload K d_Machine_boundEnvironment_60 5 rfl ?_
    obtain ⟨o6, z6, hf⟩ := pm_bind hf
    refine pm_callV (As := [.int x5]) (rest := [.ref (ad 5)]) (o := 5) K (c_Room_first K.2.2.2.2.2.2.2.2.2.2.2.2 o6.1 o6.2 x5 o5.2 z6) mi_Room_first rfl rfl tw_438 tw_439 tw_455 rfl ⟨rfl, rfl, Nat.le_of_ble_eq_true rfl, Nat.le_of_ble_eq_true rfl⟩ rfl (Nat.le_of_ble_eq_true rfl) d_Machine_boundEnvironment_62 ?_
    refine pm_iload K d_Machine_boundEnvironment_65 0 rfl ?_
    obtain ⟨o7, z7, hf⟩ := pm_bind hf
    refine pm_callV (As := [.int o6.1, .int o5.1]) (rest := []) (o := 5) K (c_Room_pair K.2.2.2.2.2.2.2.2.2.2.2.2 o7.1 o7.2 o6.1 o5.1 o6.2 z7) mi_Room_pair rfl rfl tw_390 tw_391 tw_537 rfl ⟨rfl, rfl, Nat.le_of_ble_eq_true rfl, Nat.le_of_ble_eq_true rfl⟩ rfl (Nat.le_of_ble_eq_true rfl) d_Machine_boundEnvironment_67 ?_
    refine pm_istore (lv' := [(8, .int o7.1), (7, .int o5.1), (0, .ref (ad 6)), (2, .int x2), (3, .int x3), (4, .int x4), (5, .int x5), (6, .int x6)]) K d_Machine_boundEnvironment_70 (by decide) rfl ?_
    refine pm_aload_n K d_Machine_boundEnvironment_72 2 rfl rfl ?_
    refine pm_getR K fc_6 (o := 6) rfl 1 rfl (by decide) tw_281 d_Machine_boundEnvironment_73 ?_
    refine pm_iload K d_Machine_boundEnvironment_76 0 rfl ?_
    refine pm_iload K d_Machine_boundEnvironment_78 5 rfl ?_
    obtain ⟨o8, z8, hf⟩ := pm_bind hf
    refine pm_callV (As := [.int o7.1, .int x4]) (rest := []) (o := 5) K (c_Room_pair K.2.2.2.2.2.2.2.2.2.2.2.2 o8.1 o8.2 o7.1 x4 o7.2 z8) mi_Room_pair rfl rfl tw_390 tw_391 tw_537 rfl ⟨rfl, rfl, Nat.le_of_ble_eq_true rfl, Nat.le_of_ble_eq_true rfl⟩ rfl (Nat.le_of_ble_eq_true rfl) d_Machine_boundEnvironment_80 ?_
    refine pm_istore (lv' := [(4, .int o8.1), (8, .int o7.1), (7, .int o5.1), (0, .ref (ad 6)), (2, .int x2), (3, .int x3), (5, .int x5), (6, .int x6)]) K d_Machine_boundEnvironment_83 (by decide) rfl ?_
    refine pm_aload_n K d_Machine_boundEnvironment_85 3 rfl rfl ?_
    refine pm_getR K fc_6 (o := 6) rfl 1 rfl (by decide) tw_281 d_Machine_boundEnvironment_86 ?_
    refine pm_iload K d_Machine_boundEnvironment_89 6 rfl ?_
    obtain ⟨o9, z9, hf⟩ := pm_bind hf
    refine pm_callV (As := [.int x5]) (rest := []) (o := 5) K (c_Room_second K.2.2.2.2.2.2.2.2.2.2.2.2 o9.1 o9.2 x5 o8.2 z9) mi_Room_second rfl rfl tw_442 tw_443 tw_445 rfl ⟨rfl, rfl, Nat.le_of_ble_eq_true rfl, Nat.le_of_ble_eq_true rfl⟩ rfl (Nat.le_of_ble_eq_true rfl) d_Machine_boundEnvironment_91 ?_
    refine pm_istore (lv' := [(5, .int o9.1), (4, .int o8.1), (8, .int o7.1), (7, .int o5.1), (0, .ref (ad 6)), (2, .int x2), (3, .int x3), (6, .int x6)]) K d_Machine_boundEnvironment_94 (by decide) rfl ?_
    refine pm_iinc (v := x6 + (1 : Int32)) (lv' := [(6, .int (x6 + (1 : Int32))), (5, .int o9.1), (4, .int o8.1), (8, .int o7.1), (7, .int o5.1), (0, .ref (ad 6)), (2, .int x2), (3, .int x3)]) K d_Machine_boundEnvironment_96 7 rfl rfl (by decide) rfl ?_
    refine pm_goto K d_Machine_boundEnvironment_99 23 (by decide) ?_
    refine pm_sub (lv' := [(0, .ref (ad 6)), (2, .int x2), (3, .int x3), (4, .int o8.1), (5, .int o9.1), (6, .int (x6 + (1 : Int32)))]) [5, 6, 7, 2, 1, 0] rfl ?_
    exact h23 x2 x3 o8.1 o9.1 (x6 + (1 : Int32)) o9.2 hf
set_option maxHeartbeats 4000000 in
set_option maxRecDepth 100000 in
theorem a_Machine_boundEnvironment {p : Program} {l : Launch} {e : Env} {s : State} {m : MethodId} {args : Array Value} {below : List Frame} {meth : Method} {c : Code} {D : va_G} {ca : Nat → ClassId} {ad : Nat → Nat} {E : (Nat → Prop) → State → Heap → Prop} {S : Nat} (K : pm_ok p s m args meth c k_Machine_boundEnvironment 9 pmTs R_Machine D vwCl (tyl ca) (shC S) ad E (some .int)) (r : Int32) (w' : pm_W) : ∀ n : Nat, (∀ (x2 : Int32) (x3 : Int32) (x4 : Int32) (x5 : Int32) (x6 : Int32) (w : pm_W), l_Machine_boundEnvironment  S n 0 x2 x3 x4 x5 x6 w = some (r, w') → pm_wk p l e { frames := 3, cells := 0, slots := 0, locals := 68 } s m args below meth c D vwCl (shC S) ca ad 9 (some (.int r), w') 23 [(0, .ref (ad 6)), (2, .int x2), (3, .int x3), (4, .int x4), (5, .int x5), (6, .int x6)] [] w) := by
  intro n
  induction n with
  | zero => exact fun _ _ _ _ _ _ hf => (by cases hf)
  | succ n ih => exact fun x2 x3 x4 x5 x6 w hf => t_Machine_boundEnvironment_23 K (l_Machine_boundEnvironment S n) r w' (ih) x2 x3 x4 x5 x6 w hf
set_option maxHeartbeats 4000000 in
set_option maxRecDepth 100000 in
theorem t_Machine_boundEnvironment {p : Program} {l : Launch} {e : Env} {s : State} {m : MethodId} {args : Array Value} {below : List Frame} {meth : Method} {c : Code} {D : va_G} {ca : Nat → ClassId} {ad : Nat → Nat} {E : (Nat → Prop) → State → Heap → Prop} {S : Nat} (K : pm_ok p s m args meth c k_Machine_boundEnvironment 9 pmTs R_Machine D vwCl (tyl ca) (shC S) ad E (some .int)) (r : Int32) (w' : pm_W) (x1 : Int32) (x2 : Int32) (x3 : Int32) (w : pm_W) (hf : f_Machine_boundEnvironment  S x1 x2 x3 w = some (r, w')) : pm_wk p l e { frames := 3, cells := 0, slots := 0, locals := 68 } s m args below meth c D vwCl (shC S) ca ad 9 (some (.int r), w') 0 [(0, .ref (ad 6)), (1, .int x1), (2, .int x2), (3, .int x3)] [] w := by
  unfold f_Machine_boundEnvironment at hf
  have h23 := (a_Machine_boundEnvironment (l := l) (e := e) (below := below) K  r w' pm_fuel)
  refine pm_aload_n K d_Machine_boundEnvironment_0 0 rfl rfl ?_
  refine pm_getR K fc_6 (o := 6) rfl 1 rfl (by decide) tw_281 d_Machine_boundEnvironment_1 ?_
  refine pm_iload_n K d_Machine_boundEnvironment_4 1 rfl rfl ?_
  obtain ⟨o1, z1, hf⟩ := pm_bind hf
  refine pm_callV (As := [.int x1]) (rest := []) (o := 5) K (c_Room_third K.2.2.2.2.2.2.2.2.2.2.2.2 o1.1 o1.2 x1 w z1) mi_Room_third rfl rfl tw_569 tw_570 tw_568 rfl ⟨rfl, rfl, Nat.le_of_ble_eq_true rfl, Nat.le_of_ble_eq_true rfl⟩ rfl (Nat.le_of_ble_eq_true rfl) d_Machine_boundEnvironment_5 ?_
  refine pm_istore (lv' := [(4, .int o1.1), (0, .ref (ad 6)), (1, .int x1), (2, .int x2), (3, .int x3)]) K d_Machine_boundEnvironment_8 (by decide) rfl ?_
  refine pm_aload_n K d_Machine_boundEnvironment_10 1 rfl rfl ?_
  refine pm_getR K fc_6 (o := 6) rfl 1 rfl (by decide) tw_281 d_Machine_boundEnvironment_11 ?_
  refine pm_iload_n K d_Machine_boundEnvironment_14 2 rfl rfl ?_
  obtain ⟨o2, z2, hf⟩ := pm_bind hf
  refine pm_callV (As := [.int x1]) (rest := []) (o := 5) K (c_Room_first K.2.2.2.2.2.2.2.2.2.2.2.2 o2.1 o2.2 x1 o1.2 z2) mi_Room_first rfl rfl tw_438 tw_439 tw_455 rfl ⟨rfl, rfl, Nat.le_of_ble_eq_true rfl, Nat.le_of_ble_eq_true rfl⟩ rfl (Nat.le_of_ble_eq_true rfl) d_Machine_boundEnvironment_15 ?_
  refine pm_istore (lv' := [(5, .int o2.1), (4, .int o1.1), (0, .ref (ad 6)), (1, .int x1), (2, .int x2), (3, .int x3)]) K d_Machine_boundEnvironment_18 (by decide) rfl ?_
  refine pm_iconst (v := 0) K d_Machine_boundEnvironment_20 (by decide) ?_
  refine pm_istore (lv' := [(6, .int (0 : Int32)), (5, .int o2.1), (4, .int o1.1), (0, .ref (ad 6)), (1, .int x1), (2, .int x2), (3, .int x3)]) K d_Machine_boundEnvironment_21 (by decide) rfl ?_
  refine pm_sub (lv' := [(0, .ref (ad 6)), (2, .int x2), (3, .int x3), (4, .int o1.1), (5, .int o2.1), (6, .int (0 : Int32))]) [3, 5, 6, 2, 1, 0] rfl ?_
  exact h23 x2 x3 o1.1 o2.1 (0 : Int32) o2.2 hf
/-- CellLisp$Machine.boundEnvironment(III)I -/
theorem c_Machine_boundEnvironment {l : Launch} {D : va_G} {ca : Nat → ClassId} {ad : Nat → Nat} {E : (Nat → Prop) → State → Heap → Prop} {S : Nat} (hEc : pm_Ecl E) (r : Int32) (w' : pm_W) (x1 : Int32) (x2 : Int32) (x3 : Int32) (w : pm_W) (hf : f_Machine_boundEnvironment  S x1 x2 x3 w = some (r, w')) : pm_Met l pmTs D vwCl (tyl ca) (shC S) ca ad E y_Machine_boundEnvironment k_Machine_boundEnvironment 9 (some .int) { frames := 3, cells := 0, slots := 0, locals := 68 } [.ref (ad 6), .int x1, .int x2, .int x3] w (some (.int r), w') :=
  pm_start pmTs_good hEc (by decide) (Nat.le_of_ble_eq_true rfl) (fun p e s m below meth c K => t_Machine_boundEnvironment K r w' x1 x2 x3 w hf)
def f_Machine_apply (S : Nat) (w : pm_W) : Option (Int32 × pm_W) :=
  Option.bind (f_State_c S w) fun o1 =>
  Option.bind (f_Room_length S o1.1 o1.2) fun o2 =>
  Option.bind (f_Room_tail S o1.1 (o2.1 - (1 : Int32)) o2.2) fun o3 =>
  Option.bind (f_Room_first S o3.1 o3.2) fun o4 =>
  Option.bind (f_Machine_faultOfCall S o4.1 (o2.1 - (1 : Int32)) o4.2) fun o5 =>
  if o5.1 = (1 : Int32) then
    Option.bind (f_Machine_cellsOfCall S o4.1 (o2.1 - (1 : Int32)) o5.2) fun o7 =>
    Option.bind (f_Room_hasFor S o7.1 o7.2) fun o8 =>
    if o8.1 = 0 then
      some ((-7 : Int32), o8.2)
    else
      Option.bind (f_State_pop S o8.2) fun o10 =>
      Option.bind (f_Value_kind S o4.1 o10) fun o11 =>
      if o11.1 = (5 : Int32) then
        Option.bind (f_Room_second S o4.1 o11.2) fun o16 =>
        Option.bind (f_Machine_boundEnvironment S o4.1 o1.1 (o2.1 - (1 : Int32)) o16.2) fun o17 =>
        Option.bind (f_Machine_evaluateNext S o16.1 o17.1 o17.2) fun o18 =>
        some (o18.1, o18.2)
      else
        Option.bind (f_Value_content S o4.1 o11.2) fun o13 =>
        Option.bind (f_Machine_primitiveResult S o13.1 o1.1 (o2.1 - (1 : Int32)) o13.2) fun o14 =>
        Option.bind (f_Machine_returnNext S o14.1 o14.2) fun o15 =>
        some (o15.1, o15.2)
  else
    some (o5.1, o5.2)
set_option maxHeartbeats 4000000 in
set_option maxRecDepth 100000 in
theorem t_Machine_apply {p : Program} {l : Launch} {e : Env} {s : State} {m : MethodId} {args : Array Value} {below : List Frame} {meth : Method} {c : Code} {D : va_G} {ca : Nat → ClassId} {ad : Nat → Nat} {E : (Nat → Prop) → State → Heap → Prop} {S : Nat} (K : pm_ok p s m args meth c k_Machine_apply 5 pmTs R_Machine D vwCl (tyl ca) (shC S) ad E (some .int)) (r : Int32) (w' : pm_W) (w : pm_W) (hf : f_Machine_apply  S w = some (r, w')) : pm_wk p l e { frames := 4, cells := 0, slots := 0, locals := 97 } s m args below meth c D vwCl (shC S) ca ad 5 (some (.int r), w') 0 [(0, .ref (ad 6))] [] w := by
  unfold f_Machine_apply at hf
  refine pm_aload_n K d_Machine_apply_0 0 rfl rfl ?_
  refine pm_getR K fc_6 (o := 6) rfl 0 rfl (by decide) tw_280 d_Machine_apply_1 ?_
  obtain ⟨o1, z1, hf⟩ := pm_bind hf
  refine pm_callV (As := []) (rest := []) (o := 4) K (c_State_c K.2.2.2.2.2.2.2.2.2.2.2.2 o1.1 o1.2 w z1) mi_State_c rfl rfl tw_534 tw_535 tw_533 rfl ⟨rfl, rfl, Nat.le_of_ble_eq_true rfl, Nat.le_of_ble_eq_true rfl⟩ rfl (Nat.le_of_ble_eq_true rfl) d_Machine_apply_4 ?_
  refine pm_istore_n (lv' := [(1, .int o1.1), (0, .ref (ad 6))]) K d_Machine_apply_7 rfl (by decide) rfl ?_
  refine pm_aload_n K d_Machine_apply_8 1 rfl rfl ?_
  refine pm_getR K fc_6 (o := 6) rfl 1 rfl (by decide) tw_281 d_Machine_apply_9 ?_
  refine pm_iload_n K d_Machine_apply_12 0 rfl rfl ?_
  obtain ⟨o2, z2, hf⟩ := pm_bind hf
  refine pm_callV (As := [.int o1.1]) (rest := []) (o := 5) K (c_Room_length K.2.2.2.2.2.2.2.2.2.2.2.2 o2.1 o2.2 o1.1 o1.2 z2) mi_Room_length rfl rfl tw_460 tw_461 tw_459 rfl ⟨rfl, rfl, Nat.le_of_ble_eq_true rfl, Nat.le_of_ble_eq_true rfl⟩ rfl (Nat.le_of_ble_eq_true rfl) d_Machine_apply_13 ?_
  refine pm_iconst (v := 1) K d_Machine_apply_16 (by decide) ?_
  refine pm_isub K d_Machine_apply_17 ?_
  refine pm_istore_n (lv' := [(2, .int (o2.1 - (1 : Int32))), (1, .int o1.1), (0, .ref (ad 6))]) K d_Machine_apply_18 rfl (by decide) rfl ?_
  refine pm_aload_n K d_Machine_apply_19 2 rfl rfl ?_
  refine pm_getR K fc_6 (o := 6) rfl 1 rfl (by decide) tw_281 d_Machine_apply_20 ?_
  refine pm_aload_n K d_Machine_apply_23 2 rfl rfl ?_
  refine pm_getR K fc_6 (o := 6) rfl 1 rfl (by decide) tw_281 d_Machine_apply_24 ?_
  refine pm_iload_n K d_Machine_apply_27 1 rfl rfl ?_
  refine pm_iload_n K d_Machine_apply_28 0 rfl rfl ?_
  obtain ⟨o3, z3, hf⟩ := pm_bind hf
  refine pm_callV (As := [.int o1.1, .int (o2.1 - (1 : Int32))]) (rest := [.ref (ad 5)]) (o := 5) K (c_Room_tail K.2.2.2.2.2.2.2.2.2.2.2.2 o3.1 o3.2 o1.1 (o2.1 - (1 : Int32)) o2.2 z3) mi_Room_tail rfl rfl tw_467 tw_468 tw_466 rfl ⟨rfl, rfl, Nat.le_of_ble_eq_true rfl, Nat.le_of_ble_eq_true rfl⟩ rfl (Nat.le_of_ble_eq_true rfl) d_Machine_apply_29 ?_
  obtain ⟨o4, z4, hf⟩ := pm_bind hf
  refine pm_callV (As := [.int o3.1]) (rest := []) (o := 5) K (c_Room_first K.2.2.2.2.2.2.2.2.2.2.2.2 o4.1 o4.2 o3.1 o3.2 z4) mi_Room_first rfl rfl tw_438 tw_439 tw_455 rfl ⟨rfl, rfl, Nat.le_of_ble_eq_true rfl, Nat.le_of_ble_eq_true rfl⟩ rfl (Nat.le_of_ble_eq_true rfl) d_Machine_apply_32 ?_
  refine pm_istore_n (lv' := [(3, .int o4.1), (2, .int (o2.1 - (1 : Int32))), (1, .int o1.1), (0, .ref (ad 6))]) K d_Machine_apply_35 rfl (by decide) rfl ?_
  refine pm_aload_n K d_Machine_apply_36 3 rfl rfl ?_
  refine pm_iload_n K d_Machine_apply_37 0 rfl rfl ?_
  refine pm_iload_n K d_Machine_apply_38 1 rfl rfl ?_
  obtain ⟨o5, z5, hf⟩ := pm_bind hf
  refine pm_callV (As := [.int o4.1, .int (o2.1 - (1 : Int32))]) (rest := []) (o := 6) K (c_Machine_faultOfCall K.2.2.2.2.2.2.2.2.2.2.2.2 o5.1 o5.2 o4.1 (o2.1 - (1 : Int32)) o4.2 z5) mi_Machine_faultOfCall rfl rfl tw_553 tw_30 tw_552 rfl ⟨rfl, rfl, Nat.le_of_ble_eq_true rfl, Nat.le_of_ble_eq_true rfl⟩ rfl (Nat.le_of_ble_eq_true rfl) d_Machine_apply_39 ?_
  refine pm_istore (lv' := [(4, .int o5.1), (3, .int o4.1), (2, .int (o2.1 - (1 : Int32))), (1, .int o1.1), (0, .ref (ad 6))]) K d_Machine_apply_42 (by decide) rfl ?_
  refine pm_iload K d_Machine_apply_44 0 rfl ?_
  refine pm_iconst (v := 1) K d_Machine_apply_46 (by decide) ?_
  refine pm_icmp_eq K d_Machine_apply_47 53 (by decide) (fun c6 => ?_) (fun c6 => ?_)
  · have hf := pm_ift c6 hf
    refine pm_aload_n K d_Machine_apply_53 4 rfl rfl ?_
    refine pm_getR K fc_6 (o := 6) rfl 1 rfl (by decide) tw_281 d_Machine_apply_54 ?_
    refine pm_iload_n K d_Machine_apply_57 1 rfl rfl ?_
    refine pm_iload_n K d_Machine_apply_58 2 rfl rfl ?_
    obtain ⟨o7, z7, hf⟩ := pm_bind hf
    refine pm_callS (As := [.int o4.1, .int (o2.1 - (1 : Int32))]) (rest := [.ref (ad 5)]) K (c_Machine_cellsOfCall K.2.2.2.2.2.2.2.2.2.2.2.2 o7.1 o7.2 o4.1 (o2.1 - (1 : Int32)) o5.2 z7) mi_Machine_cellsOfCall tw_563 tw_562 rfl ⟨rfl, rfl, Nat.le_of_ble_eq_true rfl, Nat.le_of_ble_eq_true rfl⟩ rfl (Nat.le_of_ble_eq_true rfl) d_Machine_apply_59 ?_
    obtain ⟨o8, z8, hf⟩ := pm_bind hf
    refine pm_callV (As := [.int o7.1]) (rest := []) (o := 5) K (c_Room_hasFor K.2.2.2.2.2.2.2.2.2.2.2.2 o8.1 o8.2 o7.1 o7.2 z8) mi_Room_hasFor rfl rfl tw_363 tw_364 tw_486 rfl ⟨rfl, rfl, Nat.le_of_ble_eq_true rfl, Nat.le_of_ble_eq_true rfl⟩ rfl (Nat.le_of_ble_eq_true rfl) d_Machine_apply_62 ?_
    refine pm_if_ne K d_Machine_apply_65 71 (by decide) (fun c9 => ?_) (fun c9 => ?_)
    · have hf := pm_iff c9 hf
      refine pm_aload_n K d_Machine_apply_71 4 rfl rfl ?_
      refine pm_getR K fc_6 (o := 6) rfl 0 rfl (by decide) tw_280 d_Machine_apply_72 ?_
      obtain ⟨o10, z10, hf⟩ := pm_bind hf
      refine pm_callV (As := []) (rest := []) (o := 4) K (c_State_pop K.2.2.2.2.2.2.2.2.2.2.2.2 o10 o8.2 z10) mi_State_pop rfl rfl tw_516 tw_517 tw_515 rfl ⟨rfl, rfl, Nat.le_of_ble_eq_true rfl, Nat.le_of_ble_eq_true rfl⟩ rfl (Nat.le_of_ble_eq_true rfl) d_Machine_apply_75 ?_
      refine pm_iload_n K d_Machine_apply_78 1 rfl rfl ?_
      obtain ⟨o11, z11, hf⟩ := pm_bind hf
      refine pm_callS (As := [.int o4.1]) (rest := []) K (c_Value_kind K.2.2.2.2.2.2.2.2.2.2.2.2 o11.1 o11.2 o4.1 o10 z11) mi_Value_kind tw_374 tw_555 rfl ⟨rfl, rfl, Nat.le_of_ble_eq_true rfl, Nat.le_of_ble_eq_true rfl⟩ rfl (Nat.le_of_ble_eq_true rfl) d_Machine_apply_79 ?_
      refine pm_iconst (v := 5) K d_Machine_apply_82 (by decide) ?_
      refine pm_icmp_ne K d_Machine_apply_83 106 (by decide) (fun c12 => ?_) (fun c12 => ?_)
      · have hf := pm_iff c12 hf
        refine pm_aload_n K d_Machine_apply_106 4 rfl rfl ?_
        refine pm_aload_n K d_Machine_apply_107 4 rfl rfl ?_
        refine pm_iload_n K d_Machine_apply_108 1 rfl rfl ?_
        obtain ⟨o13, z13, hf⟩ := pm_bind hf
        refine pm_callS (As := [.int o4.1]) (rest := [.ref (ad 6), .ref (ad 6)]) K (c_Value_content K.2.2.2.2.2.2.2.2.2.2.2.2 o13.1 o13.2 o4.1 o11.2 z13) mi_Value_content tw_377 tw_449 rfl ⟨rfl, rfl, Nat.le_of_ble_eq_true rfl, Nat.le_of_ble_eq_true rfl⟩ rfl (Nat.le_of_ble_eq_true rfl) d_Machine_apply_109 ?_
        refine pm_iload_n K d_Machine_apply_112 3 rfl rfl ?_
        refine pm_iload_n K d_Machine_apply_113 2 rfl rfl ?_
        obtain ⟨o14, z14, hf⟩ := pm_bind hf
        refine pm_callV (As := [.int o13.1, .int o1.1, .int (o2.1 - (1 : Int32))]) (rest := [.ref (ad 6)]) (o := 6) K (c_Machine_primitiveResult K.2.2.2.2.2.2.2.2.2.2.2.2 o14.1 o14.2 o13.1 o1.1 (o2.1 - (1 : Int32)) o13.2 z14) mi_Machine_primitiveResult rfl rfl tw_573 tw_33 tw_572 rfl ⟨rfl, rfl, Nat.le_of_ble_eq_true rfl, Nat.le_of_ble_eq_true rfl⟩ rfl (Nat.le_of_ble_eq_true rfl) d_Machine_apply_114 ?_
        obtain ⟨o15, z15, hf⟩ := pm_bind hf
        refine pm_callV (As := [.int o14.1]) (rest := []) (o := 6) K (c_Machine_returnNext K.2.2.2.2.2.2.2.2.2.2.2.2 o15.1 o15.2 o14.1 o14.2 z15) mi_Machine_returnNext rfl rfl tw_447 tw_14 tw_446 rfl ⟨rfl, rfl, Nat.le_of_ble_eq_true rfl, Nat.le_of_ble_eq_true rfl⟩ rfl (Nat.le_of_ble_eq_true rfl) d_Machine_apply_117 ?_
        cases hf
        exact pm_iret K d_Machine_apply_120
      · have hf := pm_ift c12 hf
        refine pm_aload_n K d_Machine_apply_86 4 rfl rfl ?_
        refine pm_aload_n K d_Machine_apply_87 4 rfl rfl ?_
        refine pm_getR K fc_6 (o := 6) rfl 1 rfl (by decide) tw_281 d_Machine_apply_88 ?_
        refine pm_iload_n K d_Machine_apply_91 1 rfl rfl ?_
        obtain ⟨o16, z16, hf⟩ := pm_bind hf
        refine pm_callV (As := [.int o4.1]) (rest := [.ref (ad 6)]) (o := 5) K (c_Room_second K.2.2.2.2.2.2.2.2.2.2.2.2 o16.1 o16.2 o4.1 o11.2 z16) mi_Room_second rfl rfl tw_442 tw_443 tw_445 rfl ⟨rfl, rfl, Nat.le_of_ble_eq_true rfl, Nat.le_of_ble_eq_true rfl⟩ rfl (Nat.le_of_ble_eq_true rfl) d_Machine_apply_92 ?_
        refine pm_aload_n K d_Machine_apply_95 4 rfl rfl ?_
        refine pm_iload_n K d_Machine_apply_96 1 rfl rfl ?_
        refine pm_iload_n K d_Machine_apply_97 3 rfl rfl ?_
        refine pm_iload_n K d_Machine_apply_98 2 rfl rfl ?_
        obtain ⟨o17, z17, hf⟩ := pm_bind hf
        refine pm_callV (As := [.int o4.1, .int o1.1, .int (o2.1 - (1 : Int32))]) (rest := [.int o16.1, .ref (ad 6)]) (o := 6) K (c_Machine_boundEnvironment K.2.2.2.2.2.2.2.2.2.2.2.2 o17.1 o17.2 o4.1 o1.1 (o2.1 - (1 : Int32)) o16.2 z17) mi_Machine_boundEnvironment rfl rfl tw_566 tw_32 tw_565 rfl ⟨rfl, rfl, Nat.le_of_ble_eq_true rfl, Nat.le_of_ble_eq_true rfl⟩ rfl (Nat.le_of_ble_eq_true rfl) d_Machine_apply_99 ?_
        obtain ⟨o18, z18, hf⟩ := pm_bind hf
        refine pm_callV (As := [.int o16.1, .int o17.1]) (rest := []) (o := 6) K (c_Machine_evaluateNext K.2.2.2.2.2.2.2.2.2.2.2.2 o18.1 o18.2 o16.1 o17.1 o17.2 z18) mi_Machine_evaluateNext rfl rfl tw_418 tw_11 tw_417 rfl ⟨rfl, rfl, Nat.le_of_ble_eq_true rfl, Nat.le_of_ble_eq_true rfl⟩ rfl (Nat.le_of_ble_eq_true rfl) d_Machine_apply_102 ?_
        cases hf
        exact pm_iret K d_Machine_apply_105
    · have hf := pm_ift c9 hf
      refine pm_bipush (v := -7) K d_Machine_apply_68 (by decide) ?_
      cases hf
      exact pm_iret K d_Machine_apply_70
  · have hf := pm_iff c6 hf
    refine pm_iload K d_Machine_apply_50 0 rfl ?_
    cases hf
    exact pm_iret K d_Machine_apply_52
/-- CellLisp$Machine.apply()I -/
theorem c_Machine_apply {l : Launch} {D : va_G} {ca : Nat → ClassId} {ad : Nat → Nat} {E : (Nat → Prop) → State → Heap → Prop} {S : Nat} (hEc : pm_Ecl E) (r : Int32) (w' : pm_W) (w : pm_W) (hf : f_Machine_apply  S w = some (r, w')) : pm_Met l pmTs D vwCl (tyl ca) (shC S) ca ad E y_Machine_apply k_Machine_apply 5 (some .int) { frames := 4, cells := 0, slots := 0, locals := 97 } [.ref (ad 6)] w (some (.int r), w') :=
  pm_start pmTs_good hEc (by decide) (Nat.le_of_ble_eq_true rfl) (fun p e s m below meth c K => t_Machine_apply K r w'  w hf)
