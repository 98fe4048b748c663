def b_Printer_printNumber_21 (S : Nat) (rec : Nat → Int32 → Int32 → pm_W → Option pm_W) (x2 : Int32) (x3 : Int32) (w : pm_W) : Option pm_W :=
  if x3 ≤ 0 then
    some w
  else
    if x3 ≤ x2 then
      if x3 = 0 then none else
      Option.bind (f_Output_put S ((((48 : Int32) + ((x2 / x3) - (x2 / x3) / (10 : Int32) * (10 : Int32))).toUInt32 % 65536).toInt32) w) fun o6 =>
      rec 0 x2 (x3 / (10 : Int32)) o6
    else
      if x3 = (1 : Int32) then
        if x3 = 0 then none else
        Option.bind (f_Output_put S ((((48 : Int32) + ((x2 / x3) - (x2 / x3) / (10 : Int32) * (10 : Int32))).toUInt32 % 65536).toInt32) w) fun o9 =>
        rec 0 x2 (x3 / (10 : Int32)) o9
      else
        rec 0 x2 (x3 / (10 : Int32)) w
def l_Printer_printNumber (S : Nat) : Nat → Nat → Int32 → Int32 → pm_W → Option pm_W := pm_it (fun _ _ _ _ => none) (fun rec k x2 x3 w => b_Printer_printNumber_21  S rec x2 x3 w)
def f_Printer_printNumber (S : Nat) (x1 : Int32) (w : pm_W) : Option pm_W :=
  if 0 ≤ x1 then
    (l_Printer_printNumber  S pm_fuel) 0 (if 0 ≤ x1 then x1 else 0 - x1) (100000000 : Int32) w
  else
    Option.bind (f_Output_put S (45 : Int32) w) fun o2 =>
    (l_Printer_printNumber  S pm_fuel) 0 (if 0 ≤ x1 then x1 else 0 - x1) (100000000 : Int32) o2
set_option maxHeartbeats 4000000 in
set_option maxRecDepth 100000 in
theorem t_Printer_printNumber_21 {p : Program} {l : Launch} {e : Env} {s : State} {m : MethodId} {args : Array Value} {below : List Frame} {meth : Method} {c : Code} {D : va_G} {ca : Nat → ClassId} {ad : Nat → Nat} {E : (Nat → Prop) → State → Heap → Prop} {S : Nat} (K : pm_ok p s m args meth c k_Printer_printNumber 4 pmTs R_Printer D vwCl (tyl ca) (shC S) ad E none) (rec : Nat → Int32 → Int32 → pm_W → Option pm_W) (w' : pm_W) (h21 : ∀ (x2 : Int32) (x3 : Int32) (w : pm_W), rec 0 x2 x3 w = some w' → pm_wk p l e { frames := 1, cells := 0, slots := 0, locals := 21 } s m args below meth c D vwCl (shC S) ca ad 4 (none, w') 21 [(0, .ref (ad 8)), (2, .int x2), (3, .int x3)] [] w) (x2 : Int32) (x3 : Int32) (w : pm_W) (hf : b_Printer_printNumber_21  S rec x2 x3 w = some w') : pm_wk p l e { frames := 1, cells := 0, slots := 0, locals := 21 } s m args below meth c D vwCl (shC S) ca ad 4 (none, w') 21 [(0, .ref (ad 8)), (2, .int x2), (3, .int x3)] [] w := by
  unfold b_Printer_printNumber_21 at hf
  refine pm_iload_n K d_Printer_printNumber_21 2 rfl rfl ?_
  refine pm_if_le K d_Printer_printNumber_22 60 (by decide) (fun c3 => ?_) (fun c3 => ?_)
  · have hf := pm_ift c3 hf
    cases hf
    exact pm_vret K d_Printer_printNumber_60
  · have hf := pm_iff c3 hf
    refine pm_iload_n K d_Printer_printNumber_25 1 rfl rfl ?_
    refine pm_iload_n K d_Printer_printNumber_26 2 rfl rfl ?_
    refine pm_icmp_ge K d_Printer_printNumber_27 35 (by decide) (fun c4 => ?_) (fun c4 => ?_)
    · have hf := pm_ift c4 hf
      refine pm_aload_n K d_Printer_printNumber_35 0 rfl rfl ?_
      refine pm_getR K fc_8 (o := 8) rfl 0 rfl (by decide) tw_273 d_Printer_printNumber_36 ?_
      refine pm_bipush (v := 48) K d_Printer_printNumber_39 (by decide) ?_
      refine pm_iload_n K d_Printer_printNumber_41 1 rfl rfl ?_
      refine pm_iload_n K d_Printer_printNumber_42 2 rfl rfl ?_
      obtain ⟨q5, hf⟩ := pm_bnd hf
      refine pm_idiv K d_Printer_printNumber_43 q5 ?_
      refine pm_bipush (v := 10) K d_Printer_printNumber_44 (by decide) ?_
      refine pm_irem K d_Printer_printNumber_46 (by decide) ?_
      refine pm_iadd K d_Printer_printNumber_47 ?_
      refine pm_i2c K d_Printer_printNumber_48 rfl ?_
      obtain ⟨o6, z6, hf⟩ := pm_bind hf
      refine pm_callV (As := [.int ((((48 : Int32) + ((x2 / x3) - (x2 / x3) / (10 : Int32) * (10 : Int32))).toUInt32 % 65536).toInt32)]) (rest := []) (o := 2) K (c_Output_put K.2.2.2.2.2.2.2.2.2.2.2.2 o6 ((((48 : Int32) + ((x2 / x3) - (x2 / x3) / (10 : Int32) * (10 : Int32))).toUInt32 % 65536).toInt32) w z6) mi_Output_put rfl rfl tw_595 tw_596 tw_594 rfl ⟨rfl, rfl, Nat.le_of_ble_eq_true rfl, Nat.le_of_ble_eq_true rfl⟩ rfl (Nat.le_of_ble_eq_true rfl) d_Printer_printNumber_49 ?_
      refine pm_iload_n K d_Printer_printNumber_52 2 rfl rfl ?_
      refine pm_bipush (v := 10) K d_Printer_printNumber_53 (by decide) ?_
      refine pm_idiv K d_Printer_printNumber_55 (by decide) ?_
      refine pm_istore_n (lv' := [(3, .int (x3 / (10 : Int32))), (0, .ref (ad 8)), (2, .int x2)]) K d_Printer_printNumber_56 rfl (by decide) rfl ?_
      refine pm_goto K d_Printer_printNumber_57 21 (by decide) ?_
      refine pm_sub (lv' := [(0, .ref (ad 8)), (2, .int x2), (3, .int (x3 / (10 : Int32)))]) [1, 2, 0] rfl ?_
      exact h21 x2 (x3 / (10 : Int32)) o6 hf
    · have hf := pm_iff c4 hf
      refine pm_iload_n K d_Printer_printNumber_30 2 rfl rfl ?_
      refine pm_iconst (v := 1) K d_Printer_printNumber_31 (by decide) ?_
      refine pm_icmp_ne K d_Printer_printNumber_32 52 (by decide) (fun c7 => ?_) (fun c7 => ?_)
      · have hf := pm_iff c7 hf
        refine pm_iload_n K d_Printer_printNumber_52 2 rfl rfl ?_
        refine pm_bipush (v := 10) K d_Printer_printNumber_53 (by decide) ?_
        refine pm_idiv K d_Printer_printNumber_55 (by decide) ?_
        refine pm_istore_n (lv' := [(3, .int (x3 / (10 : Int32))), (0, .ref (ad 8)), (2, .int x2)]) K d_Printer_printNumber_56 rfl (by decide) rfl ?_
        refine pm_goto K d_Printer_printNumber_57 21 (by decide) ?_
        refine pm_sub (lv' := [(0, .ref (ad 8)), (2, .int x2), (3, .int (x3 / (10 : Int32)))]) [1, 2, 0] rfl ?_
        exact h21 x2 (x3 / (10 : Int32)) w hf
      · have hf := pm_ift c7 hf
        refine pm_aload_n K d_Printer_printNumber_35 0 rfl rfl ?_
        refine pm_getR K fc_8 (o := 8) rfl 0 rfl (by decide) tw_273 d_Printer_printNumber_36 ?_
        refine pm_bipush (v := 48) K d_Printer_printNumber_39 (by decide) ?_
        refine pm_iload_n K d_Printer_printNumber_41 1 rfl rfl ?_
        refine pm_iload_n K d_Printer_printNumber_42 2 rfl rfl ?_
        obtain ⟨q8, hf⟩ := pm_bnd hf
        refine pm_idiv K d_Printer_printNumber_43 q8 ?_
        refine pm_bipush (v := 10) K d_Printer_printNumber_44 (by decide) ?_
        refine pm_irem K d_Printer_printNumber_46 (by decide) ?_
        refine pm_iadd K d_Printer_printNumber_47 ?_
        refine pm_i2c K d_Printer_printNumber_48 rfl ?_
        obtain ⟨o9, z9, hf⟩ := pm_bind hf
        refine pm_callV (As := [.int ((((48 : Int32) + ((x2 / x3) - (x2 / x3) / (10 : Int32) * (10 : Int32))).toUInt32 % 65536).toInt32)]) (rest := []) (o := 2) K (c_Output_put K.2.2.2.2.2.2.2.2.2.2.2.2 o9 ((((48 : Int32) + ((x2 / x3) - (x2 / x3) / (10 : Int32) * (10 : Int32))).toUInt32 % 65536).toInt32) w z9) mi_Output_put rfl rfl tw_595 tw_596 tw_594 rfl ⟨rfl, rfl, Nat.le_of_ble_eq_true rfl, Nat.le_of_ble_eq_true rfl⟩ rfl (Nat.le_of_ble_eq_true rfl) d_Printer_printNumber_49 ?_
        refine pm_iload_n K d_Printer_printNumber_52 2 rfl rfl ?_
        refine pm_bipush (v := 10) K d_Printer_printNumber_53 (by decide) ?_
        refine pm_idiv K d_Printer_printNumber_55 (by decide) ?_
        refine pm_istore_n (lv' := [(3, .int (x3 / (10 : Int32))), (0, .ref (ad 8)), (2, .int x2)]) K d_Printer_printNumber_56 rfl (by decide) rfl ?_
        refine pm_goto K d_Printer_printNumber_57 21 (by decide) ?_
        refine pm_sub (lv' := [(0, .ref (ad 8)), (2, .int x2), (3, .int (x3 / (10 : Int32)))]) [1, 2, 0] rfl ?_
        exact h21 x2 (x3 / (10 : Int32)) o9 hf
set_option maxHeartbeats 4000000 in
set_option maxRecDepth 100000 in
theorem a_Printer_printNumber {p : Program} {l : Launch} {e : Env} {s : State} {m : MethodId} {args : Array Value} {below : List Frame} {meth : Method} {c : Code} {D : va_G} {ca : Nat → ClassId} {ad : Nat → Nat} {E : (Nat → Prop) → State → Heap → Prop} {S : Nat} (K : pm_ok p s m args meth c k_Printer_printNumber 4 pmTs R_Printer D vwCl (tyl ca) (shC S) ad E none) (w' : pm_W) : ∀ n : Nat, (∀ (x2 : Int32) (x3 : Int32) (w : pm_W), l_Printer_printNumber  S n 0 x2 x3 w = some w' → pm_wk p l e { frames := 1, cells := 0, slots := 0, locals := 21 } s m args below meth c D vwCl (shC S) ca ad 4 (none, w') 21 [(0, .ref (ad 8)), (2, .int x2), (3, .int x3)] [] w) := by
  intro n
  induction n with
  | zero => exact fun _ _ _ hf => (by cases hf)
  | succ n ih => exact fun x2 x3 w hf => t_Printer_printNumber_21 K (l_Printer_printNumber S n) w' (ih) x2 x3 w hf
set_option maxHeartbeats 4000000 in
set_option maxRecDepth 100000 in
theorem t_Printer_printNumber {p : Program} {l : Launch} {e : Env} {s : State} {m : MethodId} {args : Array Value} {below : List Frame} {meth : Method} {c : Code} {D : va_G} {ca : Nat → ClassId} {ad : Nat → Nat} {E : (Nat → Prop) → State → Heap → Prop} {S : Nat} (K : pm_ok p s m args meth c k_Printer_printNumber 4 pmTs R_Printer D vwCl (tyl ca) (shC S) ad E none) (w' : pm_W) (x1 : Int32) (w : pm_W) (hf : f_Printer_printNumber  S x1 w = some w') : pm_wk p l e { frames := 1, cells := 0, slots := 0, locals := 21 } s m args below meth c D vwCl (shC S) ca ad 4 (none, w') 0 [(0, .ref (ad 8)), (1, .int x1)] [] w := by
  unfold f_Printer_printNumber at hf
  have h21 := (a_Printer_printNumber (l := l) (e := e) (below := below) K  w' pm_fuel)
  refine pm_iload_n K d_Printer_printNumber_0 1 rfl rfl ?_
  refine pm_if_ge K d_Printer_printNumber_1 13 (by decide) (fun c1 => ?_) (fun c1 => ?_)
  · have hf := pm_ift c1 hf
    refine pm_iload_n K d_Printer_printNumber_13 1 rfl rfl ?_
    refine pm_mabs K tw_598 tw_599 tw_101 tw_600 (Nat.le_of_ble_eq_true rfl) (Nat.le_of_ble_eq_true rfl) d_Printer_printNumber_14 ?_
    refine pm_istore_n (lv' := [(2, .int (if 0 ≤ x1 then x1 else 0 - x1)), (0, .ref (ad 8)), (1, .int x1)]) K d_Printer_printNumber_17 rfl (by decide) rfl ?_
    refine pm_ldc K tw_601 d_Printer_printNumber_18 ?_
    refine pm_istore_n (lv' := [(3, .int (100000000 : Int32)), (2, .int (if 0 ≤ x1 then x1 else 0 - x1)), (0, .ref (ad 8)), (1, .int x1)]) K d_Printer_printNumber_20 rfl (by decide) rfl ?_
    refine pm_sub (lv' := [(0, .ref (ad 8)), (2, .int (if 0 ≤ x1 then x1 else 0 - x1)), (3, .int (100000000 : Int32))]) [2, 1, 0] rfl ?_
    exact h21 (if 0 ≤ x1 then x1 else 0 - x1) (100000000 : Int32) w hf
  · have hf := pm_iff c1 hf
    refine pm_aload_n K d_Printer_printNumber_4 0 rfl rfl ?_
    refine pm_getR K fc_8 (o := 8) rfl 0 rfl (by decide) tw_273 d_Printer_printNumber_5 ?_
    refine pm_bipush (v := 45) K d_Printer_printNumber_8 (by decide) ?_
    obtain ⟨o2, z2, hf⟩ := pm_bind hf
    refine pm_callV (As := [.int (45 : Int32)]) (rest := []) (o := 2) K (c_Output_put K.2.2.2.2.2.2.2.2.2.2.2.2 o2 (45 : Int32) w z2) mi_Output_put rfl rfl tw_595 tw_596 tw_594 rfl ⟨rfl, rfl, Nat.le_of_ble_eq_true rfl, Nat.le_of_ble_eq_true rfl⟩ rfl (Nat.le_of_ble_eq_true rfl) d_Printer_printNumber_10 ?_
    refine pm_iload_n K d_Printer_printNumber_13 1 rfl rfl ?_
    refine pm_mabs K tw_598 tw_599 tw_101 tw_600 (Nat.le_of_ble_eq_true rfl) (Nat.le_of_ble_eq_true rfl) d_Printer_printNumber_14 ?_
    refine pm_istore_n (lv' := [(2, .int (if 0 ≤ x1 then x1 else 0 - x1)), (0, .ref (ad 8)), (1, .int x1)]) K d_Printer_printNumber_17 rfl (by decide) rfl ?_
    refine pm_ldc K tw_601 d_Printer_printNumber_18 ?_
    refine pm_istore_n (lv' := [(3, .int (100000000 : Int32)), (2, .int (if 0 ≤ x1 then x1 else 0 - x1)), (0, .ref (ad 8)), (1, .int x1)]) K d_Printer_printNumber_20 rfl (by decide) rfl ?_
    refine pm_sub (lv' := [(0, .ref (ad 8)), (2, .int (if 0 ≤ x1 then x1 else 0 - x1)), (3, .int (100000000 : Int32))]) [2, 1, 0] rfl ?_
    exact h21 (if 0 ≤ x1 then x1 else 0 - x1) (100000000 : Int32) o2 hf
/-- CellLisp$Printer.printNumber(I)V -/
theorem c_Printer_printNumber {l : Launch} {D : va_G} {ca : Nat → ClassId} {ad : Nat → Nat} {E : (Nat → Prop) → State → Heap → Prop} {S : Nat} (hEc : pm_Ecl E) (w' : pm_W) (x1 : Int32) (w : pm_W) (hf : f_Printer_printNumber  S x1 w = some w') : pm_Met l pmTs D vwCl (tyl ca) (shC S) ca ad E y_Printer_printNumber k_Printer_printNumber 4 none { frames := 1, cells := 0, slots := 0, locals := 21 } [.ref (ad 8), .int x1] w (none, w') :=
  pm_start pmTs_good hEc (by decide) (Nat.le_of_ble_eq_true rfl) (fun p e s m below meth c K => t_Printer_printNumber K w' x1 w hf)
def b_Printer_printName_3 (S : Nat) (rec : Nat → Int64 → Int32 → pm_W → Option pm_W) (y1 : Int64) (x3 : Int32) (w : pm_W) : Option pm_W :=
  if x3 < 0 then
    some w
  else
    if ((((y1.toUInt64 >>> (x3.toInt64.toUInt64 &&& Int64.toUInt64 63)).toInt64) &&& (255 : Int64)).toInt32) = 0 then
      rec 0 y1 (x3 + (-8 : Int32)) w
    else
      Option.bind (f_Output_put S ((((((y1.toUInt64 >>> (x3.toInt64.toUInt64 &&& Int64.toUInt64 63)).toInt64) &&& (255 : Int64)).toInt32).toUInt32 % 65536).toInt32) w) fun o3 =>
      rec 0 y1 (x3 + (-8 : Int32)) o3
def l_Printer_printName (S : Nat) : Nat → Nat → Int64 → Int32 → pm_W → Option pm_W := pm_it (fun _ _ _ _ => none) (fun rec k y1 x3 w => b_Printer_printName_3  S rec y1 x3 w)
def f_Printer_printName (S : Nat) (y1 : Int64) (w : pm_W) : Option pm_W :=
  (l_Printer_printName  S pm_fuel) 0 y1 (56 : Int32) w
set_option maxHeartbeats 4000000 in
set_option maxRecDepth 100000 in
theorem t_Printer_printName_3 {p : Program} {l : Launch} {e : Env} {s : State} {m : MethodId} {args : Array Value} {below : List Frame} {meth : Method} {c : Code} {D : va_G} {ca : Nat → ClassId} {ad : Nat → Nat} {E : (Nat → Prop) → State → Heap → Prop} {S : Nat} (K : pm_ok p s m args meth c k_Printer_printName 5 pmTs R_Printer D vwCl (tyl ca) (shC S) ad E none) (rec : Nat → Int64 → Int32 → pm_W → Option pm_W) (w' : pm_W) (h3 : ∀ (y1 : Int64) (x3 : Int32) (w : pm_W), rec 0 y1 x3 w = some w' → pm_wk p l e { frames := 1, cells := 0, slots := 0, locals := 21 } s m args below meth c D vwCl (shC S) ca ad 5 (none, w') 3 [(0, .ref (ad 8)), (1, .long y1), (3, .int x3)] [] w) (y1 : Int64) (x3 : Int32) (w : pm_W) (hf : b_Printer_printName_3  S rec y1 x3 w = some w') : pm_wk p l e { frames := 1, cells := 0, slots := 0, locals := 21 } s m args below meth c D vwCl (shC S) ca ad 5 (none, w') 3 [(0, .ref (ad 8)), (1, .long y1), (3, .int x3)] [] w := by
  unfold b_Printer_printName_3 at hf
  refine pm_iload_n K d_Printer_printName_3 2 rfl rfl ?_
  refine pm_if_lt K d_Printer_printName_4 38 (by decide) (fun c1 => ?_) (fun c1 => ?_)
  · have hf := pm_ift c1 hf
    cases hf
    exact pm_vret K d_Printer_printName_38
  · have hf := pm_iff c1 hf
    refine pm_lload_n K d_Printer_printName_7 1 rfl rfl ?_
    refine pm_iload_n K d_Printer_printName_8 2 rfl rfl ?_
    refine pm_lushr K d_Printer_printName_9 rfl ?_
    refine pm_ldc2 K tw_609 d_Printer_printName_10 ?_
    refine pm_land K d_Printer_printName_13 ?_
    refine pm_l2i K d_Printer_printName_14 rfl ?_
    refine pm_istore (lv' := [(4, .int ((((y1.toUInt64 >>> (x3.toInt64.toUInt64 &&& Int64.toUInt64 63)).toInt64) &&& (255 : Int64)).toInt32)), (0, .ref (ad 8)), (1, .long y1), (3, .int x3)]) K d_Printer_printName_15 (by decide) rfl ?_
    refine pm_iload K d_Printer_printName_17 0 rfl ?_
    refine pm_if_eq K d_Printer_printName_19 32 (by decide) (fun c2 => ?_) (fun c2 => ?_)
    · have hf := pm_ift c2 hf
      refine pm_iinc (v := x3 + (-8 : Int32)) (lv' := [(3, .int (x3 + (-8 : Int32))), (4, .int ((((y1.toUInt64 >>> (x3.toInt64.toUInt64 &&& Int64.toUInt64 63)).toInt64) &&& (255 : Int64)).toInt32)), (0, .ref (ad 8)), (1, .long y1)]) K d_Printer_printName_32 3 rfl rfl (by decide) rfl ?_
      refine pm_goto K d_Printer_printName_35 3 (by decide) ?_
      refine pm_sub (lv' := [(0, .ref (ad 8)), (1, .long y1), (3, .int (x3 + (-8 : Int32)))]) [2, 3, 0] rfl ?_
      exact h3 y1 (x3 + (-8 : Int32)) w hf
    · have hf := pm_iff c2 hf
      refine pm_aload_n K d_Printer_printName_22 1 rfl rfl ?_
      refine pm_getR K fc_8 (o := 8) rfl 0 rfl (by decide) tw_273 d_Printer_printName_23 ?_
      refine pm_iload K d_Printer_printName_26 0 rfl ?_
      refine pm_i2c K d_Printer_printName_28 rfl ?_
      obtain ⟨o3, z3, hf⟩ := pm_bind hf
      refine pm_callV (As := [.int ((((((y1.toUInt64 >>> (x3.toInt64.toUInt64 &&& Int64.toUInt64 63)).toInt64) &&& (255 : Int64)).toInt32).toUInt32 % 65536).toInt32)]) (rest := []) (o := 2) K (c_Output_put K.2.2.2.2.2.2.2.2.2.2.2.2 o3 ((((((y1.toUInt64 >>> (x3.toInt64.toUInt64 &&& Int64.toUInt64 63)).toInt64) &&& (255 : Int64)).toInt32).toUInt32 % 65536).toInt32) w z3) mi_Output_put rfl rfl tw_595 tw_596 tw_594 rfl ⟨rfl, rfl, Nat.le_of_ble_eq_true rfl, Nat.le_of_ble_eq_true rfl⟩ rfl (Nat.le_of_ble_eq_true rfl) d_Printer_printName_29 ?_
      refine pm_iinc (v := x3 + (-8 : Int32)) (lv' := [(3, .int (x3 + (-8 : Int32))), (4, .int ((((y1.toUInt64 >>> (x3.toInt64.toUInt64 &&& Int64.toUInt64 63)).toInt64) &&& (255 : Int64)).toInt32)), (0, .ref (ad 8)), (1, .long y1)]) K d_Printer_printName_32 3 rfl rfl (by decide) rfl ?_
      refine pm_goto K d_Printer_printName_35 3 (by decide) ?_
      refine pm_sub (lv' := [(0, .ref (ad 8)), (1, .long y1), (3, .int (x3 + (-8 : Int32)))]) [2, 3, 0] rfl ?_
      exact h3 y1 (x3 + (-8 : Int32)) o3 hf
set_option maxHeartbeats 4000000 in
set_option maxRecDepth 100000 in
theorem a_Printer_printName {p : Program} {l : Launch} {e : Env} {s : State} {m : MethodId} {args : Array Value} {below : List Frame} {meth : Method} {c : Code} {D : va_G} {ca : Nat → ClassId} {ad : Nat → Nat} {E : (Nat → Prop) → State → Heap → Prop} {S : Nat} (K : pm_ok p s m args meth c k_Printer_printName 5 pmTs R_Printer D vwCl (tyl ca) (shC S) ad E none) (w' : pm_W) : ∀ n : Nat, (∀ (y1 : Int64) (x3 : Int32) (w : pm_W), l_Printer_printName  S n 0 y1 x3 w = some w' → pm_wk p l e { frames := 1, cells := 0, slots := 0, locals := 21 } s m args below meth c D vwCl (shC S) ca ad 5 (none, w') 3 [(0, .ref (ad 8)), (1, .long y1), (3, .int x3)] [] w) := by
  intro n
  induction n with
  | zero => exact fun _ _ _ hf => (by cases hf)
  | succ n ih => exact fun y1 x3 w hf => t_Printer_printName_3 K (l_Printer_printName S n) w' (ih) y1 x3 w hf
set_option maxHeartbeats 4000000 in
set_option maxRecDepth 100000 in
theorem t_Printer_printName {p : Program} {l : Launch} {e : Env} {s : State} {m : MethodId} {args : Array Value} {below : List Frame} {meth : Method} {c : Code} {D : va_G} {ca : Nat → ClassId} {ad : Nat → Nat} {E : (Nat → Prop) → State → Heap → Prop} {S : Nat} (K : pm_ok p s m args meth c k_Printer_printName 5 pmTs R_Printer D vwCl (tyl ca) (shC S) ad E none) (w' : pm_W) (y1 : Int64) (w : pm_W) (hf : f_Printer_printName  S y1 w = some w') : pm_wk p l e { frames := 1, cells := 0, slots := 0, locals := 21 } s m args below meth c D vwCl (shC S) ca ad 5 (none, w') 0 [(0, .ref (ad 8)), (1, .long y1)] [] w := by
  unfold f_Printer_printName at hf
  have h3 := (a_Printer_printName (l := l) (e := e) (below := below) K  w' pm_fuel)
  refine pm_bipush (v := 56) K d_Printer_printName_0 (by decide) ?_
  refine pm_istore_n (lv' := [(3, .int (56 : Int32)), (0, .ref (ad 8)), (1, .long y1)]) K d_Printer_printName_2 rfl (by decide) rfl ?_
  refine pm_sub (lv' := [(0, .ref (ad 8)), (1, .long y1), (3, .int (56 : Int32))]) [1, 2, 0] rfl ?_
  exact h3 y1 (56 : Int32) w hf
/-- CellLisp$Printer.printName(J)V -/
theorem c_Printer_printName {l : Launch} {D : va_G} {ca : Nat → ClassId} {ad : Nat → Nat} {E : (Nat → Prop) → State → Heap → Prop} {S : Nat} (hEc : pm_Ecl E) (w' : pm_W) (y1 : Int64) (w : pm_W) (hf : f_Printer_printName  S y1 w = some w') : pm_Met l pmTs D vwCl (tyl ca) (shC S) ca ad E y_Printer_printName k_Printer_printName 5 none { frames := 1, cells := 0, slots := 0, locals := 21 } [.ref (ad 8), .long y1] w (none, w') :=
  pm_start pmTs_good hEc (by decide) (Nat.le_of_ble_eq_true rfl) (fun p e s m below meth c K => t_Printer_printName K w' y1 w hf)
