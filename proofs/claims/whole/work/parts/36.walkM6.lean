def f_Md_argument (x1 : Int32) (w : pm_W) : Option (Int32 × pm_W) :=
  Option.bind (f_Md_room (2 : Int32) w) fun o1 =>
  if o1.1 = 0 then
    some ((-7 : Int32), o1.2)
  else
    if x1 < 0 ∨ 30 ≤ x1.toNatClampNeg then none else
    Option.bind (f_Md_pair (o1.2.1 0 15) (o1.2.1 9 x1.toNatClampNeg) o1.2) fun o4 =>
    if x1 < 0 ∨ 30 ≤ x1.toNatClampNeg then none else
    if x1 < 0 ∨ 30 ≤ x1.toNatClampNeg then none else
    if (o4.2.1 7 x1.toNatClampNeg) = (536870912 : Int32) then
      if x1 < 0 ∨ 30 ≤ x1.toNatClampNeg then none else
      Option.bind (f_Md_apply ((pm_setI o4.2 9 x1.toNatClampNeg o4.1).1 9 x1.toNatClampNeg) (pm_setI o4.2 9 x1.toNatClampNeg o4.1)) fun o14 =>
      some (o14.1, o14.2)
    else
      Option.bind (f_Md_cdr (o4.2.1 7 x1.toNatClampNeg) (pm_setI o4.2 9 x1.toNatClampNeg o4.1)) fun o8 =>
      if x1 < 0 ∨ 30 ≤ x1.toNatClampNeg then none else
      Option.bind (f_Md_car (o4.2.1 7 x1.toNatClampNeg) (pm_setI o8.2 7 x1.toNatClampNeg o8.1)) fun o10 =>
      if x1 < 0 ∨ 30 ≤ x1.toNatClampNeg then none else
      Option.bind (f_Md_go o10.1 (o10.2.1 8 x1.toNatClampNeg) o10.2) fun o12 =>
      some (o12.1, o12.2)
set_option maxHeartbeats 4000000 in
set_option maxRecDepth 100000 in
theorem t_Md_argument {p : Program} {l : Launch} {e : Env} {s : State} {m : MethodId} {args : Array Value} {below : List Frame} {meth : Method} {c : Code} {D : va_G} {ca : Nat → ClassId} {ad : Nat → Nat} {E : (Nat → Prop) → State → Heap → Prop} (K : pm_ok p s m args meth c k_Md_argument 3 pmTs R_Md D vwCl (tyl ca) shM ad E (some .int)) (r : Int32) (w' : pm_W) (x1 : Int32) (w : pm_W) (hf : f_Md_argument  x1 w = some (r, w')) : pm_wk p l e { frames := 6, cells := 0, slots := 0, locals := 139 } s m args below meth c D vwCl shM ca ad 3 (some (.int r), w') 0 [(0, .ref (ad 0)), (1, .int x1)] [] w := by
  unfold f_Md_argument at hf
  refine pm_aload_n K d_Md_argument_0 0 rfl rfl ?_
  refine pm_iconst (v := 2) K d_Md_argument_1 (by decide) ?_
  obtain ⟨o1, z1, hf⟩ := pm_bind hf
  refine pm_callV (As := [.int (2 : Int32)]) (rest := []) (o := 0) K (c_Md_room K.2.2.2.2.2.2.2.2.2.2.2.2 o1.1 o1.2 (2 : Int32) w z1) mi_Md_room rfl rfl tw_739 tw_50 tw_738 rfl ⟨rfl, rfl, Nat.le_of_ble_eq_true rfl, Nat.le_of_ble_eq_true rfl⟩ rfl (Nat.le_of_ble_eq_true rfl) d_Md_argument_2 ?_
  refine pm_if_ne K d_Md_argument_5 11 (by decide) (fun c2 => ?_) (fun c2 => ?_)
  · have hf := pm_iff c2 hf
    refine pm_aload_n K d_Md_argument_11 0 rfl rfl ?_
    refine pm_getR K fc_9 (o := 0) rfl 10 rfl (by decide) tw_679 d_Md_argument_12 ?_
    refine pm_iload_n K d_Md_argument_15 1 rfl rfl ?_
    refine pm_aload_n K d_Md_argument_16 0 rfl rfl ?_
    refine pm_aload_n K d_Md_argument_17 0 rfl rfl ?_
    refine pm_getI K fc_9 (o := 0) rfl 15 rfl (by decide) tw_684 d_Md_argument_18 (v := o1.2.1 0 15) rfl ?_
    refine pm_aload_n K d_Md_argument_21 0 rfl rfl ?_
    refine pm_getR K fc_9 (o := 0) rfl 10 rfl (by decide) tw_679 d_Md_argument_22 ?_
    refine pm_iload_n K d_Md_argument_25 1 rfl rfl ?_
    obtain ⟨q3, hf⟩ := pm_bnd hf
    refine pm_iald K (o := 9) rfl rfl q3 d_Md_argument_26 (v := o1.2.1 9 x1.toNatClampNeg) rfl ?_
    obtain ⟨o4, z4, hf⟩ := pm_bind hf
    refine pm_callV (As := [.int (o1.2.1 0 15), .int (o1.2.1 9 x1.toNatClampNeg)]) (rest := [.int x1, .ref (ad 9)]) (o := 0) K (c_Md_pair K.2.2.2.2.2.2.2.2.2.2.2.2 o4.1 o4.2 (o1.2.1 0 15) (o1.2.1 9 x1.toNatClampNeg) o1.2 z4) mi_Md_pair rfl rfl tw_759 tw_55 tw_758 rfl ⟨rfl, rfl, Nat.le_of_ble_eq_true rfl, Nat.le_of_ble_eq_true rfl⟩ rfl (Nat.le_of_ble_eq_true rfl) d_Md_argument_27 ?_
    obtain ⟨q5, hf⟩ := pm_bnd hf
    refine pm_iast K (o := 9) rfl rfl q5 d_Md_argument_30 ?_
    refine pm_aload_n K d_Md_argument_31 0 rfl rfl ?_
    refine pm_getR K fc_9 (o := 0) rfl 8 rfl (by decide) tw_677 d_Md_argument_32 ?_
    refine pm_iload_n K d_Md_argument_35 1 rfl rfl ?_
    obtain ⟨q6, hf⟩ := pm_bnd hf
    refine pm_iald K (o := 7) rfl rfl q6 d_Md_argument_36 (v := o4.2.1 7 x1.toNatClampNeg) rfl ?_
    refine pm_istore_n (lv' := [(2, .int (o4.2.1 7 x1.toNatClampNeg)), (0, .ref (ad 0)), (1, .int x1)]) K d_Md_argument_37 rfl (by decide) rfl ?_
    refine pm_iload_n K d_Md_argument_38 0 rfl rfl ?_
    refine pm_ldc K tw_662 d_Md_argument_39 ?_
    refine pm_icmp_ne K d_Md_argument_41 55 (by decide) (fun c7 => ?_) (fun c7 => ?_)
    · have hf := pm_iff c7 hf
      refine pm_aload_n K d_Md_argument_55 1 rfl rfl ?_
      refine pm_getR K fc_9 (o := 0) rfl 8 rfl (by decide) tw_677 d_Md_argument_56 ?_
      refine pm_iload_n K d_Md_argument_59 2 rfl rfl ?_
      refine pm_aload_n K d_Md_argument_60 1 rfl rfl ?_
      refine pm_iload_n K d_Md_argument_61 0 rfl rfl ?_
      obtain ⟨o8, z8, hf⟩ := pm_bind hf
      refine pm_callV (As := [.int (o4.2.1 7 x1.toNatClampNeg)]) (rest := [.int x1, .ref (ad 7)]) (o := 0) K (c_Md_cdr K.2.2.2.2.2.2.2.2.2.2.2.2 o8.1 o8.2 (o4.2.1 7 x1.toNatClampNeg) (pm_setI o4.2 9 x1.toNatClampNeg o4.1) z8) mi_Md_cdr rfl rfl tw_814 tw_70 tw_813 rfl ⟨rfl, rfl, Nat.le_of_ble_eq_true rfl, Nat.le_of_ble_eq_true rfl⟩ rfl (Nat.le_of_ble_eq_true rfl) d_Md_argument_62 ?_
      obtain ⟨q9, hf⟩ := pm_bnd hf
      refine pm_iast K (o := 7) rfl rfl q9 d_Md_argument_65 ?_
      refine pm_aload_n K d_Md_argument_66 1 rfl rfl ?_
      refine pm_aload_n K d_Md_argument_67 1 rfl rfl ?_
      refine pm_iload_n K d_Md_argument_68 0 rfl rfl ?_
      obtain ⟨o10, z10, hf⟩ := pm_bind hf
      refine pm_callV (As := [.int (o4.2.1 7 x1.toNatClampNeg)]) (rest := [.ref (ad 0)]) (o := 0) K (c_Md_car K.2.2.2.2.2.2.2.2.2.2.2.2 o10.1 o10.2 (o4.2.1 7 x1.toNatClampNeg) (pm_setI o8.2 7 x1.toNatClampNeg o8.1) z10) mi_Md_car rfl rfl tw_817 tw_71 tw_816 rfl ⟨rfl, rfl, Nat.le_of_ble_eq_true rfl, Nat.le_of_ble_eq_true rfl⟩ rfl (Nat.le_of_ble_eq_true rfl) d_Md_argument_69 ?_
      refine pm_aload_n K d_Md_argument_72 1 rfl rfl ?_
      refine pm_getR K fc_9 (o := 0) rfl 9 rfl (by decide) tw_678 d_Md_argument_73 ?_
      refine pm_iload_n K d_Md_argument_76 2 rfl rfl ?_
      obtain ⟨q11, hf⟩ := pm_bnd hf
      refine pm_iald K (o := 8) rfl rfl q11 d_Md_argument_77 (v := o10.2.1 8 x1.toNatClampNeg) rfl ?_
      obtain ⟨o12, z12, hf⟩ := pm_bind hf
      refine pm_callV (As := [.int o10.1, .int (o10.2.1 8 x1.toNatClampNeg)]) (rest := []) (o := 0) K (c_Md_go K.2.2.2.2.2.2.2.2.2.2.2.2 o12.1 o12.2 o10.1 (o10.2.1 8 x1.toNatClampNeg) o10.2 z12) mi_Md_go rfl rfl tw_841 tw_79 tw_840 rfl ⟨rfl, rfl, Nat.le_of_ble_eq_true rfl, Nat.le_of_ble_eq_true rfl⟩ rfl (Nat.le_of_ble_eq_true rfl) d_Md_argument_78 ?_
      cases hf
      exact pm_iret K d_Md_argument_81
    · have hf := pm_ift c7 hf
      refine pm_aload_n K d_Md_argument_44 1 rfl rfl ?_
      refine pm_aload_n K d_Md_argument_45 1 rfl rfl ?_
      refine pm_getR K fc_9 (o := 0) rfl 10 rfl (by decide) tw_679 d_Md_argument_46 ?_
      refine pm_iload_n K d_Md_argument_49 2 rfl rfl ?_
      obtain ⟨q13, hf⟩ := pm_bnd hf
      refine pm_iald K (o := 9) rfl rfl q13 d_Md_argument_50 (v := (pm_setI o4.2 9 x1.toNatClampNeg o4.1).1 9 x1.toNatClampNeg) rfl ?_
      obtain ⟨o14, z14, hf⟩ := pm_bind hf
      refine pm_callV (As := [.int ((pm_setI o4.2 9 x1.toNatClampNeg o4.1).1 9 x1.toNatClampNeg)]) (rest := []) (o := 0) K (c_Md_apply K.2.2.2.2.2.2.2.2.2.2.2.2 o14.1 o14.2 ((pm_setI o4.2 9 x1.toNatClampNeg o4.1).1 9 x1.toNatClampNeg) (pm_setI o4.2 9 x1.toNatClampNeg o4.1) z14) mi_Md_apply rfl rfl tw_826 tw_74 tw_825 rfl ⟨rfl, rfl, Nat.le_of_ble_eq_true rfl, Nat.le_of_ble_eq_true rfl⟩ rfl (Nat.le_of_ble_eq_true rfl) d_Md_argument_51 ?_
      cases hf
      exact pm_iret K d_Md_argument_54
  · have hf := pm_ift c2 hf
    refine pm_bipush (v := -7) K d_Md_argument_8 (by decide) ?_
    cases hf
    exact pm_iret K d_Md_argument_10
/-- CellLispModel.argument(I)I -/
theorem c_Md_argument {l : Launch} {D : va_G} {ca : Nat → ClassId} {ad : Nat → Nat} {E : (Nat → Prop) → State → Heap → Prop} (hEc : pm_Ecl E) (r : Int32) (w' : pm_W) (x1 : Int32) (w : pm_W) (hf : f_Md_argument  x1 w = some (r, w')) : pm_Met l pmTs D vwCl (tyl ca) shM ca ad E y_Md_argument k_Md_argument 3 (some .int) { frames := 6, cells := 0, slots := 0, locals := 139 } [.ref (ad 0), .int x1] w (some (.int r), w') :=
  pm_start pmTs_good hEc (by decide) (Nat.le_of_ble_eq_true rfl) (fun p e s m below meth c K => t_Md_argument K r w' x1 w hf)
def f_Md_put (x1 : Int32) (w : pm_W) : Option pm_W :=
  if (200 : Int32) ≤ (w.1 0 22) then
    some w
  else
    if (w.1 0 22) < 0 ∨ 200 ≤ (w.1 0 22).toNatClampNeg then none else
    some (pm_setI (pm_setI w 13 (w.1 0 22).toNatClampNeg (vp_nar .char ((x1.toUInt32 % 65536).toInt32))) 0 22 ((w.1 0 22) + (1 : Int32)))
set_option maxHeartbeats 4000000 in
set_option maxRecDepth 100000 in
theorem t_Md_put {p : Program} {l : Launch} {e : Env} {s : State} {m : MethodId} {args : Array Value} {below : List Frame} {meth : Method} {c : Code} {D : va_G} {ca : Nat → ClassId} {ad : Nat → Nat} {E : (Nat → Prop) → State → Heap → Prop} (K : pm_ok p s m args meth c k_Md_put 2 pmTs R_Md D vwCl (tyl ca) shM ad E none) (w' : pm_W) (x1 : Int32) (w : pm_W) (hf : f_Md_put  x1 w = some w') : pm_wk p l e { frames := 0, cells := 0, slots := 0, locals := 0 } s m args below meth c D vwCl shM ca ad 2 (none, w') 0 [(0, .ref (ad 0)), (1, .int x1)] [] w := by
  unfold f_Md_put at hf
  refine pm_aload_n K d_Md_put_0 0 rfl rfl ?_
  refine pm_getI K fc_9 (o := 0) rfl 22 rfl (by decide) tw_691 d_Md_put_1 (v := w.1 0 22) rfl ?_
  refine pm_sipush (v := 200) K d_Md_put_4 (by decide) ?_
  refine pm_icmp_ge K d_Md_put_7 31 (by decide) (fun c1 => ?_) (fun c1 => ?_)
  · have hf := pm_ift c1 hf
    cases hf
    exact pm_vret K d_Md_put_31
  · have hf := pm_iff c1 hf
    refine pm_aload_n K d_Md_put_10 0 rfl rfl ?_
    refine pm_getR K fc_9 (o := 0) rfl 23 rfl (by decide) tw_692 d_Md_put_11 ?_
    refine pm_aload_n K d_Md_put_14 0 rfl rfl ?_
    refine pm_getI K fc_9 (o := 0) rfl 22 rfl (by decide) tw_691 d_Md_put_15 (v := w.1 0 22) rfl ?_
    refine pm_iload_n K d_Md_put_18 1 rfl rfl ?_
    refine pm_i2c K d_Md_put_19 rfl ?_
    obtain ⟨q2, hf⟩ := pm_bnd hf
    refine pm_cast K (o := 13) rfl rfl q2 d_Md_put_20 ?_
    refine pm_aload_n K d_Md_put_21 0 rfl rfl ?_
    refine pm_dup K d_Md_put_22 rfl ?_
    refine pm_getI K fc_9 (o := 0) rfl 22 rfl (by decide) tw_691 d_Md_put_23 (v := w.1 0 22) rfl ?_
    refine pm_iconst (v := 1) K d_Md_put_26 (by decide) ?_
    refine pm_iadd K d_Md_put_27 ?_
    refine pm_putI K fc_9 (o := 0) (ty := .int) rfl 22 rfl (by decide) tw_691 rfl rfl rfl rfl d_Md_put_28 ?_
    cases hf
    exact pm_vret K d_Md_put_31
/-- CellLispModel.put(I)V -/
theorem c_Md_put {l : Launch} {D : va_G} {ca : Nat → ClassId} {ad : Nat → Nat} {E : (Nat → Prop) → State → Heap → Prop} (hEc : pm_Ecl E) (w' : pm_W) (x1 : Int32) (w : pm_W) (hf : f_Md_put  x1 w = some w') : pm_Met l pmTs D vwCl (tyl ca) shM ca ad E y_Md_put k_Md_put 2 none { frames := 0, cells := 0, slots := 0, locals := 0 } [.ref (ad 0), .int x1] w (none, w') :=
  pm_start pmTs_good hEc (by decide) (Nat.le_of_ble_eq_true rfl) (fun p e s m below meth c K => t_Md_put K w' x1 w hf)
def f_Md_putDots (w : pm_W) : Option pm_W :=
  Option.bind (f_Md_put (46 : Int32) w) fun o1 =>
  Option.bind (f_Md_put (46 : Int32) o1) fun o2 =>
  Option.bind (f_Md_put (46 : Int32) o2) fun o3 =>
  some o3
set_option maxHeartbeats 4000000 in
set_option maxRecDepth 100000 in
theorem t_Md_putDots {p : Program} {l : Launch} {e : Env} {s : State} {m : MethodId} {args : Array Value} {below : List Frame} {meth : Method} {c : Code} {D : va_G} {ca : Nat → ClassId} {ad : Nat → Nat} {E : (Nat → Prop) → State → Heap → Prop} (K : pm_ok p s m args meth c k_Md_putDots 1 pmTs R_Md D vwCl (tyl ca) shM ad E none) (w' : pm_W) (w : pm_W) (hf : f_Md_putDots  w = some w') : pm_wk p l e { frames := 1, cells := 0, slots := 0, locals := 21 } s m args below meth c D vwCl shM ca ad 1 (none, w') 0 [(0, .ref (ad 0))] [] w := by
  unfold f_Md_putDots at hf
  refine pm_aload_n K d_Md_putDots_0 0 rfl rfl ?_
  refine pm_bipush (v := 46) K d_Md_putDots_1 (by decide) ?_
  obtain ⟨o1, z1, hf⟩ := pm_bind hf
  refine pm_callV (As := [.int (46 : Int32)]) (rest := []) (o := 0) K (c_Md_put K.2.2.2.2.2.2.2.2.2.2.2.2 o1 (46 : Int32) w z1) mi_Md_put rfl rfl tw_799 tw_66 tw_798 rfl ⟨rfl, rfl, Nat.le_of_ble_eq_true rfl, Nat.le_of_ble_eq_true rfl⟩ rfl (Nat.le_of_ble_eq_true rfl) d_Md_putDots_3 ?_
  refine pm_aload_n K d_Md_putDots_6 0 rfl rfl ?_
  refine pm_bipush (v := 46) K d_Md_putDots_7 (by decide) ?_
  obtain ⟨o2, z2, hf⟩ := pm_bind hf
  refine pm_callV (As := [.int (46 : Int32)]) (rest := []) (o := 0) K (c_Md_put K.2.2.2.2.2.2.2.2.2.2.2.2 o2 (46 : Int32) o1 z2) mi_Md_put rfl rfl tw_799 tw_66 tw_798 rfl ⟨rfl, rfl, Nat.le_of_ble_eq_true rfl, Nat.le_of_ble_eq_true rfl⟩ rfl (Nat.le_of_ble_eq_true rfl) d_Md_putDots_9 ?_
  refine pm_aload_n K d_Md_putDots_12 0 rfl rfl ?_
  refine pm_bipush (v := 46) K d_Md_putDots_13 (by decide) ?_
  obtain ⟨o3, z3, hf⟩ := pm_bind hf
  refine pm_callV (As := [.int (46 : Int32)]) (rest := []) (o := 0) K (c_Md_put K.2.2.2.2.2.2.2.2.2.2.2.2 o3 (46 : Int32) o2 z3) mi_Md_put rfl rfl tw_799 tw_66 tw_798 rfl ⟨rfl, rfl, Nat.le_of_ble_eq_true rfl, Nat.le_of_ble_eq_true rfl⟩ rfl (Nat.le_of_ble_eq_true rfl) d_Md_putDots_15 ?_
  cases hf
  exact pm_vret K d_Md_putDots_18
/-- CellLispModel.putDots()V -/
theorem c_Md_putDots {l : Launch} {D : va_G} {ca : Nat → ClassId} {ad : Nat → Nat} {E : (Nat → Prop) → State → Heap → Prop} (hEc : pm_Ecl E) (w' : pm_W) (w : pm_W) (hf : f_Md_putDots  w = some w') : pm_Met l pmTs D vwCl (tyl ca) shM ca ad E y_Md_putDots k_Md_putDots 1 none { frames := 1, cells := 0, slots := 0, locals := 21 } [.ref (ad 0)] w (none, w') :=
  pm_start pmTs_good hEc (by decide) (Nat.le_of_ble_eq_true rfl) (fun p e s m below meth c K => t_Md_putDots K w'  w hf)
def b_Md_putName_2 (rec : Nat → Int32 → Int32 → pm_W → Option pm_W) (x1 : Int32) (x2 : Int32) (w : pm_W) : Option pm_W :=
  if (8 : Int32) ≤ x2 then
    some w
  else
    if (((8 : Int32) * x1) + x2) < 0 ∨ 320 ≤ (((8 : Int32) * x1) + x2).toNatClampNeg then none else
    if (w.1 10 (((8 : Int32) * x1) + x2).toNatClampNeg) ≤ 0 then
      rec 0 x1 (x2 + (1 : Int32)) w
    else
      if (((8 : Int32) * x1) + x2) < 0 ∨ 320 ≤ (((8 : Int32) * x1) + x2).toNatClampNeg then none else
      Option.bind (f_Md_put (w.1 10 (((8 : Int32) * x1) + x2).toNatClampNeg) w) fun o5 =>
      rec 0 x1 (x2 + (1 : Int32)) o5
def l_Md_putName : Nat → Nat → Int32 → Int32 → pm_W → Option pm_W := pm_it (fun _ _ _ _ => none) (fun rec k x1 x2 w => b_Md_putName_2  rec x1 x2 w)
def f_Md_putName (x1 : Int32) (w : pm_W) : Option pm_W :=
  (l_Md_putName  pm_fuel) 0 x1 (0 : Int32) w
set_option maxHeartbeats 4000000 in
set_option maxRecDepth 100000 in
theorem t_Md_putName_2 {p : Program} {l : Launch} {e : Env} {s : State} {m : MethodId} {args : Array Value} {below : List Frame} {meth : Method} {c : Code} {D : va_G} {ca : Nat → ClassId} {ad : Nat → Nat} {E : (Nat → Prop) → State → Heap → Prop} (K : pm_ok p s m args meth c k_Md_putName 3 pmTs R_Md D vwCl (tyl ca) shM ad E none) (rec : Nat → Int32 → Int32 → pm_W → Option pm_W) (w' : pm_W) (h2 : ∀ (x1 : Int32) (x2 : Int32) (w : pm_W), rec 0 x1 x2 w = some w' → pm_wk p l e { frames := 1, cells := 0, slots := 0, locals := 21 } s m args below meth c D vwCl shM ca ad 3 (none, w') 2 [(0, .ref (ad 0)), (1, .int x1), (2, .int x2)] [] w) (x1 : Int32) (x2 : Int32) (w : pm_W) (hf : b_Md_putName_2  rec x1 x2 w = some w') : pm_wk p l e { frames := 1, cells := 0, slots := 0, locals := 21 } s m args below meth c D vwCl shM ca ad 3 (none, w') 2 [(0, .ref (ad 0)), (1, .int x1), (2, .int x2)] [] w := by
  unfold b_Md_putName_2 at hf
  refine pm_iload_n K d_Md_putName_2 2 rfl rfl ?_
  refine pm_bipush (v := 8) K d_Md_putName_3 (by decide) ?_
  refine pm_icmp_ge K d_Md_putName_5 43 (by decide) (fun c1 => ?_) (fun c1 => ?_)
  · have hf := pm_ift c1 hf
    cases hf
    exact pm_vret K d_Md_putName_43
  · have hf := pm_iff c1 hf
    refine pm_aload_n K d_Md_putName_8 0 rfl rfl ?_
    refine pm_getR K fc_9 (o := 0) rfl 13 rfl (by decide) tw_682 d_Md_putName_9 ?_
    refine pm_bipush (v := 8) K d_Md_putName_12 (by decide) ?_
    refine pm_iload_n K d_Md_putName_14 1 rfl rfl ?_
    refine pm_imul K d_Md_putName_15 ?_
    refine pm_iload_n K d_Md_putName_16 2 rfl rfl ?_
    refine pm_iadd K d_Md_putName_17 ?_
    obtain ⟨q2, hf⟩ := pm_bnd hf
    refine pm_cald K (o := 10) rfl rfl q2 d_Md_putName_18 (v := w.1 10 (((8 : Int32) * x1) + x2).toNatClampNeg) rfl ?_
    refine pm_if_le K d_Md_putName_19 37 (by decide) (fun c3 => ?_) (fun c3 => ?_)
    · have hf := pm_ift c3 hf
      refine pm_iinc (v := x2 + (1 : Int32)) (lv' := [(2, .int (x2 + (1 : Int32))), (0, .ref (ad 0)), (1, .int x1)]) K d_Md_putName_37 2 rfl rfl (by decide) rfl ?_
      refine pm_goto K d_Md_putName_40 2 (by decide) ?_
      refine pm_sub (lv' := [(0, .ref (ad 0)), (1, .int x1), (2, .int (x2 + (1 : Int32)))]) [1, 2, 0] rfl ?_
      exact h2 x1 (x2 + (1 : Int32)) w hf
    · have hf := pm_iff c3 hf
      refine pm_aload_n K d_Md_putName_22 0 rfl rfl ?_
      refine pm_aload_n K d_Md_putName_23 0 rfl rfl ?_
      refine pm_getR K fc_9 (o := 0) rfl 13 rfl (by decide) tw_682 d_Md_putName_24 ?_
      refine pm_bipush (v := 8) K d_Md_putName_27 (by decide) ?_
      refine pm_iload_n K d_Md_putName_29 1 rfl rfl ?_
      refine pm_imul K d_Md_putName_30 ?_
      refine pm_iload_n K d_Md_putName_31 2 rfl rfl ?_
      refine pm_iadd K d_Md_putName_32 ?_
      obtain ⟨q4, hf⟩ := pm_bnd hf
      refine pm_cald K (o := 10) rfl rfl q4 d_Md_putName_33 (v := w.1 10 (((8 : Int32) * x1) + x2).toNatClampNeg) rfl ?_
      obtain ⟨o5, z5, hf⟩ := pm_bind hf
      refine pm_callV (As := [.int (w.1 10 (((8 : Int32) * x1) + x2).toNatClampNeg)]) (rest := []) (o := 0) K (c_Md_put K.2.2.2.2.2.2.2.2.2.2.2.2 o5 (w.1 10 (((8 : Int32) * x1) + x2).toNatClampNeg) w z5) mi_Md_put rfl rfl tw_799 tw_66 tw_798 rfl ⟨rfl, rfl, Nat.le_of_ble_eq_true rfl, Nat.le_of_ble_eq_true rfl⟩ rfl (Nat.le_of_ble_eq_true rfl) d_Md_putName_34 ?_
      refine pm_iinc (v := x2 + (1 : Int32)) (lv' := [(2, .int (x2 + (1 : Int32))), (0, .ref (ad 0)), (1, .int x1)]) K d_Md_putName_37 2 rfl rfl (by decide) rfl ?_
      refine pm_goto K d_Md_putName_40 2 (by decide) ?_
      refine pm_sub (lv' := [(0, .ref (ad 0)), (1, .int x1), (2, .int (x2 + (1 : Int32)))]) [1, 2, 0] rfl ?_
      exact h2 x1 (x2 + (1 : Int32)) o5 hf
set_option maxHeartbeats 4000000 in
set_option maxRecDepth 100000 in
theorem a_Md_putName {p : Program} {l : Launch} {e : Env} {s : State} {m : MethodId} {args : Array Value} {below : List Frame} {meth : Method} {c : Code} {D : va_G} {ca : Nat → ClassId} {ad : Nat → Nat} {E : (Nat → Prop) → State → Heap → Prop} (K : pm_ok p s m args meth c k_Md_putName 3 pmTs R_Md D vwCl (tyl ca) shM ad E none) (w' : pm_W) : ∀ n : Nat, (∀ (x1 : Int32) (x2 : Int32) (w : pm_W), l_Md_putName  n 0 x1 x2 w = some w' → pm_wk p l e { frames := 1, cells := 0, slots := 0, locals := 21 } s m args below meth c D vwCl shM ca ad 3 (none, w') 2 [(0, .ref (ad 0)), (1, .int x1), (2, .int x2)] [] w) := by
  intro n
  induction n with
  | zero => exact fun _ _ _ hf => (by cases hf)
  | succ n ih => exact fun x1 x2 w hf => t_Md_putName_2 K (l_Md_putName n) w' (ih) x1 x2 w hf
set_option maxHeartbeats 4000000 in
set_option maxRecDepth 100000 in
theorem t_Md_putName {p : Program} {l : Launch} {e : Env} {s : State} {m : MethodId} {args : Array Value} {below : List Frame} {meth : Method} {c : Code} {D : va_G} {ca : Nat → ClassId} {ad : Nat → Nat} {E : (Nat → Prop) → State → Heap → Prop} (K : pm_ok p s m args meth c k_Md_putName 3 pmTs R_Md D vwCl (tyl ca) shM ad E none) (w' : pm_W) (x1 : Int32) (w : pm_W) (hf : f_Md_putName  x1 w = some w') : pm_wk p l e { frames := 1, cells := 0, slots := 0, locals := 21 } s m args below meth c D vwCl shM ca ad 3 (none, w') 0 [(0, .ref (ad 0)), (1, .int x1)] [] w := by
  unfold f_Md_putName at hf
  have h2 := (a_Md_putName (l := l) (e := e) (below := below) K  w' pm_fuel)
  refine pm_iconst (v := 0) K d_Md_putName_0 (by decide) ?_
  refine pm_istore_n (lv' := [(2, .int (0 : Int32)), (0, .ref (ad 0)), (1, .int x1)]) K d_Md_putName_1 rfl (by decide) rfl ?_
  refine pm_sub (lv' := [(0, .ref (ad 0)), (1, .int x1), (2, .int (0 : Int32))]) [1, 2, 0] rfl ?_
  exact h2 x1 (0 : Int32) w hf
/-- CellLispModel.putName(I)V -/
theorem c_Md_putName {l : Launch} {D : va_G} {ca : Nat → ClassId} {ad : Nat → Nat} {E : (Nat → Prop) → State → Heap → Prop} (hEc : pm_Ecl E) (w' : pm_W) (x1 : Int32) (w : pm_W) (hf : f_Md_putName  x1 w = some w') : pm_Met l pmTs D vwCl (tyl ca) shM ca ad E y_Md_putName k_Md_putName 3 none { frames := 1, cells := 0, slots := 0, locals := 21 } [.ref (ad 0), .int x1] w (none, w') :=
  pm_start pmTs_good hEc (by decide) (Nat.le_of_ble_eq_true rfl) (fun p e s m below meth c K => t_Md_putName K w' x1 w hf)
def b_Md_putNumber_23 (rec : Nat → Int32 → Int32 → pm_W → Option pm_W) (x2 : Int32) (x3 : Int32) (w : pm_W) : Option pm_W :=
  if x3 = 0 then none else
  if (x2 / x3) ≤ (9 : Int32) then
    rec 1 x2 x3 w
  else
    rec 0 x2 (x3 * (10 : Int32)) w
def b_Md_putNumber_39 (rec : Nat → Int32 → Int32 → pm_W → Option pm_W) (x2 : Int32) (x3 : Int32) (w : pm_W) : Option pm_W :=
  if x3 ≤ 0 then
    some w
  else
    if x3 = 0 then none else
    Option.bind (f_Md_put ((48 : Int32) + ((x2 / x3) - (x2 / x3) / (10 : Int32) * (10 : Int32))) w) fun o9 =>
    rec 1 x2 (x3 / (10 : Int32)) o9
def l_Md_putNumber : Nat → Nat → Int32 → Int32 → pm_W → Option pm_W := pm_it (fun _ _ _ _ => none) (fun rec k x2 x3 w => match k with | 0 => b_Md_putNumber_23  rec x2 x3 w | _ => b_Md_putNumber_39  rec x2 x3 w)
def f_Md_putNumber (x1 : Int32) (w : pm_W) : Option pm_W :=
  if 0 ≤ x1 then
    if 0 ≤ x1 then
      (l_Md_putNumber  pm_fuel) 0 x1 (1 : Int32) w
    else
      (l_Md_putNumber  pm_fuel) 0 (-x1) (1 : Int32) w
  else
    Option.bind (f_Md_put (45 : Int32) w) fun o3 =>
    if 0 ≤ x1 then
      (l_Md_putNumber  pm_fuel) 0 x1 (1 : Int32) o3
    else
      (l_Md_putNumber  pm_fuel) 0 (-x1) (1 : Int32) o3
set_option maxHeartbeats 4000000 in
set_option maxRecDepth 100000 in
theorem t_Md_putNumber_23 {p : Program} {l : Launch} {e : Env} {s : State} {m : MethodId} {args : Array Value} {below : List Frame} {meth : Method} {c : Code} {D : va_G} {ca : Nat → ClassId} {ad : Nat → Nat} {E : (Nat → Prop) → State → Heap → Prop} (K : pm_ok p s m args meth c k_Md_putNumber 4 pmTs R_Md D vwCl (tyl ca) shM ad E none) (rec : Nat → Int32 → Int32 → pm_W → Option pm_W) (w' : pm_W) (h23 : ∀ (x2 : Int32) (x3 : Int32) (w : pm_W), rec 0 x2 x3 w = some w' → pm_wk p l e { frames := 1, cells := 0, slots := 0, locals := 21 } s m args below meth c D vwCl shM ca ad 4 (none, w') 23 [(0, .ref (ad 0)), (2, .int x2), (3, .int x3)] [] w) (h39 : ∀ (x2 : Int32) (x3 : Int32) (w : pm_W), rec 1 x2 x3 w = some w' → pm_wk p l e { frames := 1, cells := 0, slots := 0, locals := 21 } s m args below meth c D vwCl shM ca ad 4 (none, w') 39 [(0, .ref (ad 0)), (2, .int x2), (3, .int x3)] [] w) (x2 : Int32) (x3 : Int32) (w : pm_W) (hf : b_Md_putNumber_23  rec x2 x3 w = some w') : pm_wk p l e { frames := 1, cells := 0, slots := 0, locals := 21 } s m args below meth c D vwCl shM ca ad 4 (none, w') 23 [(0, .ref (ad 0)), (2, .int x2), (3, .int x3)] [] w := by
  unfold b_Md_putNumber_23 at hf
  refine pm_iload_n K d_Md_putNumber_23 1 rfl rfl ?_
  refine pm_iload_n K d_Md_putNumber_24 2 rfl rfl ?_
  obtain ⟨q5, hf⟩ := pm_bnd hf
  refine pm_idiv K d_Md_putNumber_25 q5 ?_
  refine pm_bipush (v := 9) K d_Md_putNumber_26 (by decide) ?_
  refine pm_icmp_le K d_Md_putNumber_28 39 (by decide) (fun c6 => ?_) (fun c6 => ?_)
  · have hf := pm_ift c6 hf
    refine pm_sub (lv' := [(0, .ref (ad 0)), (2, .int x2), (3, .int x3)]) [0, 1, 2] rfl ?_
    exact h39 x2 x3 w hf
  · have hf := pm_iff c6 hf
    refine pm_iload_n K d_Md_putNumber_31 2 rfl rfl ?_
    refine pm_bipush (v := 10) K d_Md_putNumber_32 (by decide) ?_
    refine pm_imul K d_Md_putNumber_34 ?_
    refine pm_istore_n (lv' := [(3, .int (x3 * (10 : Int32))), (0, .ref (ad 0)), (2, .int x2)]) K d_Md_putNumber_35 rfl (by decide) rfl ?_
    refine pm_goto K d_Md_putNumber_36 23 (by decide) ?_
    refine pm_sub (lv' := [(0, .ref (ad 0)), (2, .int x2), (3, .int (x3 * (10 : Int32)))]) [1, 2, 0] rfl ?_
    exact h23 x2 (x3 * (10 : Int32)) w hf
set_option maxHeartbeats 4000000 in
set_option maxRecDepth 100000 in
theorem t_Md_putNumber_39 {p : Program} {l : Launch} {e : Env} {s : State} {m : MethodId} {args : Array Value} {below : List Frame} {meth : Method} {c : Code} {D : va_G} {ca : Nat → ClassId} {ad : Nat → Nat} {E : (Nat → Prop) → State → Heap → Prop} (K : pm_ok p s m args meth c k_Md_putNumber 4 pmTs R_Md D vwCl (tyl ca) shM ad E none) (rec : Nat → Int32 → Int32 → pm_W → Option pm_W) (w' : pm_W) (h23 : ∀ (x2 : Int32) (x3 : Int32) (w : pm_W), rec 0 x2 x3 w = some w' → pm_wk p l e { frames := 1, cells := 0, slots := 0, locals := 21 } s m args below meth c D vwCl shM ca ad 4 (none, w') 23 [(0, .ref (ad 0)), (2, .int x2), (3, .int x3)] [] w) (h39 : ∀ (x2 : Int32) (x3 : Int32) (w : pm_W), rec 1 x2 x3 w = some w' → pm_wk p l e { frames := 1, cells := 0, slots := 0, locals := 21 } s m args below meth c D vwCl shM ca ad 4 (none, w') 39 [(0, .ref (ad 0)), (2, .int x2), (3, .int x3)] [] w) (x2 : Int32) (x3 : Int32) (w : pm_W) (hf : b_Md_putNumber_39  rec x2 x3 w = some w') : pm_wk p l e { frames := 1, cells := 0, slots := 0, locals := 21 } s m args below meth c D vwCl shM ca ad 4 (none, w') 39 [(0, .ref (ad 0)), (2, .int x2), (3, .int x3)] [] w := by
  unfold b_Md_putNumber_39 at hf
  refine pm_iload_n K d_Md_putNumber_39 2 rfl rfl ?_
  refine pm_if_le K d_Md_putNumber_40 64 (by decide) (fun c7 => ?_) (fun c7 => ?_)
  · have hf := pm_ift c7 hf
    cases hf
    exact pm_vret K d_Md_putNumber_64
  · have hf := pm_iff c7 hf
    refine pm_aload_n K d_Md_putNumber_43 0 rfl rfl ?_
    refine pm_bipush (v := 48) K d_Md_putNumber_44 (by decide) ?_
    refine pm_iload_n K d_Md_putNumber_46 1 rfl rfl ?_
    refine pm_iload_n K d_Md_putNumber_47 2 rfl rfl ?_
    obtain ⟨q8, hf⟩ := pm_bnd hf
    refine pm_idiv K d_Md_putNumber_48 q8 ?_
    refine pm_bipush (v := 10) K d_Md_putNumber_49 (by decide) ?_
    refine pm_irem K d_Md_putNumber_51 (by decide) ?_
    refine pm_iadd K d_Md_putNumber_52 ?_
    obtain ⟨o9, z9, hf⟩ := pm_bind hf
    refine pm_callV (As := [.int ((48 : Int32) + ((x2 / x3) - (x2 / x3) / (10 : Int32) * (10 : Int32)))]) (rest := []) (o := 0) K (c_Md_put K.2.2.2.2.2.2.2.2.2.2.2.2 o9 ((48 : Int32) + ((x2 / x3) - (x2 / x3) / (10 : Int32) * (10 : Int32))) w z9) mi_Md_put rfl rfl tw_799 tw_66 tw_798 rfl ⟨rfl, rfl, Nat.le_of_ble_eq_true rfl, Nat.le_of_ble_eq_true rfl⟩ rfl (Nat.le_of_ble_eq_true rfl) d_Md_putNumber_53 ?_
    refine pm_iload_n K d_Md_putNumber_56 2 rfl rfl ?_
    refine pm_bipush (v := 10) K d_Md_putNumber_57 (by decide) ?_
    refine pm_idiv K d_Md_putNumber_59 (by decide) ?_
    refine pm_istore_n (lv' := [(3, .int (x3 / (10 : Int32))), (0, .ref (ad 0)), (2, .int x2)]) K d_Md_putNumber_60 rfl (by decide) rfl ?_
    refine pm_goto K d_Md_putNumber_61 39 (by decide) ?_
    refine pm_sub (lv' := [(0, .ref (ad 0)), (2, .int x2), (3, .int (x3 / (10 : Int32)))]) [1, 2, 0] rfl ?_
    exact h39 x2 (x3 / (10 : Int32)) o9 hf
set_option maxHeartbeats 4000000 in
set_option maxRecDepth 100000 in
theorem a_Md_putNumber {p : Program} {l : Launch} {e : Env} {s : State} {m : MethodId} {args : Array Value} {below : List Frame} {meth : Method} {c : Code} {D : va_G} {ca : Nat → ClassId} {ad : Nat → Nat} {E : (Nat → Prop) → State → Heap → Prop} (K : pm_ok p s m args meth c k_Md_putNumber 4 pmTs R_Md D vwCl (tyl ca) shM ad E none) (w' : pm_W) : ∀ n : Nat, (∀ (x2 : Int32) (x3 : Int32) (w : pm_W), l_Md_putNumber  n 0 x2 x3 w = some w' → pm_wk p l e { frames := 1, cells := 0, slots := 0, locals := 21 } s m args below meth c D vwCl shM ca ad 4 (none, w') 23 [(0, .ref (ad 0)), (2, .int x2), (3, .int x3)] [] w) ∧ (∀ (x2 : Int32) (x3 : Int32) (w : pm_W), l_Md_putNumber  n 1 x2 x3 w = some w' → pm_wk p l e { frames := 1, cells := 0, slots := 0, locals := 21 } s m args below meth c D vwCl shM ca ad 4 (none, w') 39 [(0, .ref (ad 0)), (2, .int x2), (3, .int x3)] [] w) := by
  intro n
  induction n with
  | zero => exact ⟨fun _ _ _ hf => (by cases hf), fun _ _ _ hf => (by cases hf)⟩
  | succ n ih => exact ⟨fun x2 x3 w hf => t_Md_putNumber_23 K (l_Md_putNumber n) w' (ih.1) (ih.2) x2 x3 w hf, fun x2 x3 w hf => t_Md_putNumber_39 K (l_Md_putNumber n) w' (ih.1) (ih.2) x2 x3 w hf⟩
set_option maxHeartbeats 4000000 in
set_option maxRecDepth 100000 in
theorem t_Md_putNumber {p : Program} {l : Launch} {e : Env} {s : State} {m : MethodId} {args : Array Value} {below : List Frame} {meth : Method} {c : Code} {D : va_G} {ca : Nat → ClassId} {ad : Nat → Nat} {E : (Nat → Prop) → State → Heap → Prop} (K : pm_ok p s m args meth c k_Md_putNumber 4 pmTs R_Md D vwCl (tyl ca) shM ad E none) (w' : pm_W) (x1 : Int32) (w : pm_W) (hf : f_Md_putNumber  x1 w = some w') : pm_wk p l e { frames := 1, cells := 0, slots := 0, locals := 21 } s m args below meth c D vwCl shM ca ad 4 (none, w') 0 [(0, .ref (ad 0)), (1, .int x1)] [] w := by
  unfold f_Md_putNumber at hf
  have h23 := (a_Md_putNumber (l := l) (e := e) (below := below) K  w' pm_fuel).1
  have h39 := (a_Md_putNumber (l := l) (e := e) (below := below) K  w' pm_fuel).2
  refine pm_iload_n K d_Md_putNumber_0 1 rfl rfl ?_
  refine pm_if_ge K d_Md_putNumber_1 10 (by decide) (fun c1 => ?_) (fun c1 => ?_)
  · have hf := pm_ift c1 hf
    refine pm_iload_n K d_Md_putNumber_10 1 rfl rfl ?_
    refine pm_if_ge K d_Md_putNumber_11 19 (by decide) (fun c2 => ?_) (fun c2 => ?_)
    · have hf := pm_ift c2 hf
      refine pm_iload_n K d_Md_putNumber_19 1 rfl rfl ?_
      refine pm_istore_n (lv' := [(2, .int x1), (0, .ref (ad 0)), (1, .int x1)]) K d_Md_putNumber_20 rfl (by decide) rfl ?_
      refine pm_iconst (v := 1) K d_Md_putNumber_21 (by decide) ?_
      refine pm_istore_n (lv' := [(3, .int (1 : Int32)), (2, .int x1), (0, .ref (ad 0)), (1, .int x1)]) K d_Md_putNumber_22 rfl (by decide) rfl ?_
      refine pm_sub (lv' := [(0, .ref (ad 0)), (2, .int x1), (3, .int (1 : Int32))]) [2, 1, 0] rfl ?_
      exact h23 x1 (1 : Int32) w hf
    · have hf := pm_iff c2 hf
      refine pm_iload_n K d_Md_putNumber_14 1 rfl rfl ?_
      refine pm_ineg K d_Md_putNumber_15 ?_
      refine pm_goto K d_Md_putNumber_16 20 (by decide) ?_
      refine pm_istore_n (lv' := [(2, .int (-x1)), (0, .ref (ad 0)), (1, .int x1)]) K d_Md_putNumber_20 rfl (by decide) rfl ?_
      refine pm_iconst (v := 1) K d_Md_putNumber_21 (by decide) ?_
      refine pm_istore_n (lv' := [(3, .int (1 : Int32)), (2, .int (-x1)), (0, .ref (ad 0)), (1, .int x1)]) K d_Md_putNumber_22 rfl (by decide) rfl ?_
      refine pm_sub (lv' := [(0, .ref (ad 0)), (2, .int (-x1)), (3, .int (1 : Int32))]) [2, 1, 0] rfl ?_
      exact h23 (-x1) (1 : Int32) w hf
  · have hf := pm_iff c1 hf
    refine pm_aload_n K d_Md_putNumber_4 0 rfl rfl ?_
    refine pm_bipush (v := 45) K d_Md_putNumber_5 (by decide) ?_
    obtain ⟨o3, z3, hf⟩ := pm_bind hf
    refine pm_callV (As := [.int (45 : Int32)]) (rest := []) (o := 0) K (c_Md_put K.2.2.2.2.2.2.2.2.2.2.2.2 o3 (45 : Int32) w z3) mi_Md_put rfl rfl tw_799 tw_66 tw_798 rfl ⟨rfl, rfl, Nat.le_of_ble_eq_true rfl, Nat.le_of_ble_eq_true rfl⟩ rfl (Nat.le_of_ble_eq_true rfl) d_Md_putNumber_7 ?_
    refine pm_iload_n K d_Md_putNumber_10 1 rfl rfl ?_
    refine pm_if_ge K d_Md_putNumber_11 19 (by decide) (fun c4 => ?_) (fun c4 => ?_)
    · have hf := pm_ift c4 hf
      refine pm_iload_n K d_Md_putNumber_19 1 rfl rfl ?_
      refine pm_istore_n (lv' := [(2, .int x1), (0, .ref (ad 0)), (1, .int x1)]) K d_Md_putNumber_20 rfl (by decide) rfl ?_
      refine pm_iconst (v := 1) K d_Md_putNumber_21 (by decide) ?_
      refine pm_istore_n (lv' := [(3, .int (1 : Int32)), (2, .int x1), (0, .ref (ad 0)), (1, .int x1)]) K d_Md_putNumber_22 rfl (by decide) rfl ?_
      refine pm_sub (lv' := [(0, .ref (ad 0)), (2, .int x1), (3, .int (1 : Int32))]) [2, 1, 0] rfl ?_
      exact h23 x1 (1 : Int32) o3 hf
    · have hf := pm_iff c4 hf
      refine pm_iload_n K d_Md_putNumber_14 1 rfl rfl ?_
      refine pm_ineg K d_Md_putNumber_15 ?_
      refine pm_goto K d_Md_putNumber_16 20 (by decide) ?_
      refine pm_istore_n (lv' := [(2, .int (-x1)), (0, .ref (ad 0)), (1, .int x1)]) K d_Md_putNumber_20 rfl (by decide) rfl ?_
      refine pm_iconst (v := 1) K d_Md_putNumber_21 (by decide) ?_
      refine pm_istore_n (lv' := [(3, .int (1 : Int32)), (2, .int (-x1)), (0, .ref (ad 0)), (1, .int x1)]) K d_Md_putNumber_22 rfl (by decide) rfl ?_
      refine pm_sub (lv' := [(0, .ref (ad 0)), (2, .int (-x1)), (3, .int (1 : Int32))]) [2, 1, 0] rfl ?_
      exact h23 (-x1) (1 : Int32) o3 hf
/-- CellLispModel.putNumber(I)V -/
theorem c_Md_putNumber {l : Launch} {D : va_G} {ca : Nat → ClassId} {ad : Nat → Nat} {E : (Nat → Prop) → State → Heap → Prop} (hEc : pm_Ecl E) (w' : pm_W) (x1 : Int32) (w : pm_W) (hf : f_Md_putNumber  x1 w = some w') : pm_Met l pmTs D vwCl (tyl ca) shM ca ad E y_Md_putNumber k_Md_putNumber 4 none { frames := 1, cells := 0, slots := 0, locals := 21 } [.ref (ad 0), .int x1] w (none, w') :=
  pm_start pmTs_good hEc (by decide) (Nat.le_of_ble_eq_true rfl) (fun p e s m below meth c K => t_Md_putNumber K w' x1 w hf)
def f_Md_putPlain (x1 : Int32) (w : pm_W) : Option pm_W :=
  Option.bind (f_Md_isNumber x1 w) fun o1 =>
  if o1.1 = 0 then
    if x1 = (536870912 : Int32) then
      Option.bind (f_Md_put (40 : Int32) o1.2) fun o14 =>
      Option.bind (f_Md_put (41 : Int32) o14) fun o15 =>
      some o15
    else
      Option.bind (f_Md_isThing x1 o1.2) fun o4 =>
      if o4.1 = 0 then
        Option.bind (f_Md_isSymbol x1 o4.2) fun o6 =>
        if o6.1 = 0 then
          Option.bind (f_Md_putName (x1 - (536872000 : Int32)) o6.2) fun o8 =>
          some o8
        else
          Option.bind (f_Md_putName (x1 - (536871000 : Int32)) o6.2) fun o9 =>
          some o9
      else
        Option.bind (f_Md_put (60 : Int32) o4.2) fun o10 =>
        Option.bind (f_Md_put (102 : Int32) o10) fun o11 =>
        Option.bind (f_Md_put (110 : Int32) o11) fun o12 =>
        Option.bind (f_Md_put (62 : Int32) o12) fun o13 =>
        some o13
  else
    Option.bind (f_Md_putNumber x1 o1.2) fun o16 =>
    some o16
set_option maxHeartbeats 4000000 in
set_option maxRecDepth 100000 in
theorem t_Md_putPlain {p : Program} {l : Launch} {e : Env} {s : State} {m : MethodId} {args : Array Value} {below : List Frame} {meth : Method} {c : Code} {D : va_G} {ca : Nat → ClassId} {ad : Nat → Nat} {E : (Nat → Prop) → State → Heap → Prop} (K : pm_ok p s m args meth c k_Md_putPlain 2 pmTs R_Md D vwCl (tyl ca) shM ad E none) (w' : pm_W) (x1 : Int32) (w : pm_W) (hf : f_Md_putPlain  x1 w = some w') : pm_wk p l e { frames := 2, cells := 0, slots := 0, locals := 44 } s m args below meth c D vwCl shM ca ad 2 (none, w') 0 [(0, .ref (ad 0)), (1, .int x1)] [] w := by
  unfold f_Md_putPlain at hf
  refine pm_iload_n K d_Md_putPlain_0 1 rfl rfl ?_
  obtain ⟨o1, z1, hf⟩ := pm_bind hf
  refine pm_callS (As := [.int x1]) (rest := []) K (c_Md_isNumber K.2.2.2.2.2.2.2.2.2.2.2.2 o1.1 o1.2 x1 w z1) mi_Md_isNumber tw_793 tw_792 rfl ⟨rfl, rfl, Nat.le_of_ble_eq_true rfl, Nat.le_of_ble_eq_true rfl⟩ rfl (Nat.le_of_ble_eq_true rfl) d_Md_putPlain_1 ?_
  refine pm_if_eq K d_Md_putPlain_4 15 (by decide) (fun c2 => ?_) (fun c2 => ?_)
  · have hf := pm_ift c2 hf
    refine pm_iload_n K d_Md_putPlain_15 1 rfl rfl ?_
    refine pm_ldc K tw_662 d_Md_putPlain_16 ?_
    refine pm_icmp_ne K d_Md_putPlain_18 36 (by decide) (fun c3 => ?_) (fun c3 => ?_)
    · have hf := pm_iff c3 hf
      refine pm_iload_n K d_Md_putPlain_36 1 rfl rfl ?_
      obtain ⟨o4, z4, hf⟩ := pm_bind hf
      refine pm_callS (As := [.int x1]) (rest := []) K (c_Md_isThing K.2.2.2.2.2.2.2.2.2.2.2.2 o4.1 o4.2 x1 o1.2 z4) mi_Md_isThing tw_748 tw_747 rfl ⟨rfl, rfl, Nat.le_of_ble_eq_true rfl, Nat.le_of_ble_eq_true rfl⟩ rfl (Nat.le_of_ble_eq_true rfl) d_Md_putPlain_37 ?_
      refine pm_if_eq K d_Md_putPlain_40 70 (by decide) (fun c5 => ?_) (fun c5 => ?_)
      · have hf := pm_ift c5 hf
        refine pm_aload_n K d_Md_putPlain_70 0 rfl rfl ?_
        refine pm_iload_n K d_Md_putPlain_71 1 rfl rfl ?_
        obtain ⟨o6, z6, hf⟩ := pm_bind hf
        refine pm_callS (As := [.int x1]) (rest := [.ref (ad 0)]) K (c_Md_isSymbol K.2.2.2.2.2.2.2.2.2.2.2.2 o6.1 o6.2 x1 o4.2 z6) mi_Md_isSymbol tw_802 tw_801 rfl ⟨rfl, rfl, Nat.le_of_ble_eq_true rfl, Nat.le_of_ble_eq_true rfl⟩ rfl (Nat.le_of_ble_eq_true rfl) d_Md_putPlain_72 ?_
        refine pm_if_eq K d_Md_putPlain_75 85 (by decide) (fun c7 => ?_) (fun c7 => ?_)
        · have hf := pm_ift c7 hf
          refine pm_iload_n K d_Md_putPlain_85 1 rfl rfl ?_
          refine pm_ldc K tw_663 d_Md_putPlain_86 ?_
          refine pm_isub K d_Md_putPlain_88 ?_
          obtain ⟨o8, z8, hf⟩ := pm_bind hf
          refine pm_callV (As := [.int (x1 - (536872000 : Int32))]) (rest := []) (o := 0) K (c_Md_putName K.2.2.2.2.2.2.2.2.2.2.2.2 o8 (x1 - (536872000 : Int32)) o6.2 z8) mi_Md_putName rfl rfl tw_805 tw_67 tw_804 rfl ⟨rfl, rfl, Nat.le_of_ble_eq_true rfl, Nat.le_of_ble_eq_true rfl⟩ rfl (Nat.le_of_ble_eq_true rfl) d_Md_putPlain_89 ?_
          cases hf
          exact pm_vret K d_Md_putPlain_92
        · have hf := pm_iff c7 hf
          refine pm_iload_n K d_Md_putPlain_78 1 rfl rfl ?_
          refine pm_ldc K tw_773 d_Md_putPlain_79 ?_
          refine pm_isub K d_Md_putPlain_81 ?_
          refine pm_goto K d_Md_putPlain_82 89 (by decide) ?_
          obtain ⟨o9, z9, hf⟩ := pm_bind hf
          refine pm_callV (As := [.int (x1 - (536871000 : Int32))]) (rest := []) (o := 0) K (c_Md_putName K.2.2.2.2.2.2.2.2.2.2.2.2 o9 (x1 - (536871000 : Int32)) o6.2 z9) mi_Md_putName rfl rfl tw_805 tw_67 tw_804 rfl ⟨rfl, rfl, Nat.le_of_ble_eq_true rfl, Nat.le_of_ble_eq_true rfl⟩ rfl (Nat.le_of_ble_eq_true rfl) d_Md_putPlain_89 ?_
          cases hf
          exact pm_vret K d_Md_putPlain_92
      · have hf := pm_iff c5 hf
        refine pm_aload_n K d_Md_putPlain_43 0 rfl rfl ?_
        refine pm_bipush (v := 60) K d_Md_putPlain_44 (by decide) ?_
        obtain ⟨o10, z10, hf⟩ := pm_bind hf
        refine pm_callV (As := [.int (60 : Int32)]) (rest := []) (o := 0) K (c_Md_put K.2.2.2.2.2.2.2.2.2.2.2.2 o10 (60 : Int32) o4.2 z10) mi_Md_put rfl rfl tw_799 tw_66 tw_798 rfl ⟨rfl, rfl, Nat.le_of_ble_eq_true rfl, Nat.le_of_ble_eq_true rfl⟩ rfl (Nat.le_of_ble_eq_true rfl) d_Md_putPlain_46 ?_
        refine pm_aload_n K d_Md_putPlain_49 0 rfl rfl ?_
        refine pm_bipush (v := 102) K d_Md_putPlain_50 (by decide) ?_
        obtain ⟨o11, z11, hf⟩ := pm_bind hf
        refine pm_callV (As := [.int (102 : Int32)]) (rest := []) (o := 0) K (c_Md_put K.2.2.2.2.2.2.2.2.2.2.2.2 o11 (102 : Int32) o10 z11) mi_Md_put rfl rfl tw_799 tw_66 tw_798 rfl ⟨rfl, rfl, Nat.le_of_ble_eq_true rfl, Nat.le_of_ble_eq_true rfl⟩ rfl (Nat.le_of_ble_eq_true rfl) d_Md_putPlain_52 ?_
        refine pm_aload_n K d_Md_putPlain_55 0 rfl rfl ?_
        refine pm_bipush (v := 110) K d_Md_putPlain_56 (by decide) ?_
        obtain ⟨o12, z12, hf⟩ := pm_bind hf
        refine pm_callV (As := [.int (110 : Int32)]) (rest := []) (o := 0) K (c_Md_put K.2.2.2.2.2.2.2.2.2.2.2.2 o12 (110 : Int32) o11 z12) mi_Md_put rfl rfl tw_799 tw_66 tw_798 rfl ⟨rfl, rfl, Nat.le_of_ble_eq_true rfl, Nat.le_of_ble_eq_true rfl⟩ rfl (Nat.le_of_ble_eq_true rfl) d_Md_putPlain_58 ?_
        refine pm_aload_n K d_Md_putPlain_61 0 rfl rfl ?_
        refine pm_bipush (v := 62) K d_Md_putPlain_62 (by decide) ?_
        obtain ⟨o13, z13, hf⟩ := pm_bind hf
        refine pm_callV (As := [.int (62 : Int32)]) (rest := []) (o := 0) K (c_Md_put K.2.2.2.2.2.2.2.2.2.2.2.2 o13 (62 : Int32) o12 z13) mi_Md_put rfl rfl tw_799 tw_66 tw_798 rfl ⟨rfl, rfl, Nat.le_of_ble_eq_true rfl, Nat.le_of_ble_eq_true rfl⟩ rfl (Nat.le_of_ble_eq_true rfl) d_Md_putPlain_64 ?_
        refine pm_goto K d_Md_putPlain_67 92 (by decide) ?_
        cases hf
        exact pm_vret K d_Md_putPlain_92
    · have hf := pm_ift c3 hf
      refine pm_aload_n K d_Md_putPlain_21 0 rfl rfl ?_
      refine pm_bipush (v := 40) K d_Md_putPlain_22 (by decide) ?_
      obtain ⟨o14, z14, hf⟩ := pm_bind hf
      refine pm_callV (As := [.int (40 : Int32)]) (rest := []) (o := 0) K (c_Md_put K.2.2.2.2.2.2.2.2.2.2.2.2 o14 (40 : Int32) o1.2 z14) mi_Md_put rfl rfl tw_799 tw_66 tw_798 rfl ⟨rfl, rfl, Nat.le_of_ble_eq_true rfl, Nat.le_of_ble_eq_true rfl⟩ rfl (Nat.le_of_ble_eq_true rfl) d_Md_putPlain_24 ?_
      refine pm_aload_n K d_Md_putPlain_27 0 rfl rfl ?_
      refine pm_bipush (v := 41) K d_Md_putPlain_28 (by decide) ?_
      obtain ⟨o15, z15, hf⟩ := pm_bind hf
      refine pm_callV (As := [.int (41 : Int32)]) (rest := []) (o := 0) K (c_Md_put K.2.2.2.2.2.2.2.2.2.2.2.2 o15 (41 : Int32) o14 z15) mi_Md_put rfl rfl tw_799 tw_66 tw_798 rfl ⟨rfl, rfl, Nat.le_of_ble_eq_true rfl, Nat.le_of_ble_eq_true rfl⟩ rfl (Nat.le_of_ble_eq_true rfl) d_Md_putPlain_30 ?_
      refine pm_goto K d_Md_putPlain_33 92 (by decide) ?_
      cases hf
      exact pm_vret K d_Md_putPlain_92
  · have hf := pm_iff c2 hf
    refine pm_aload_n K d_Md_putPlain_7 0 rfl rfl ?_
    refine pm_iload_n K d_Md_putPlain_8 1 rfl rfl ?_
    obtain ⟨o16, z16, hf⟩ := pm_bind hf
    refine pm_callV (As := [.int x1]) (rest := []) (o := 0) K (c_Md_putNumber K.2.2.2.2.2.2.2.2.2.2.2.2 o16 x1 o1.2 z16) mi_Md_putNumber rfl rfl tw_796 tw_65 tw_795 rfl ⟨rfl, rfl, Nat.le_of_ble_eq_true rfl, Nat.le_of_ble_eq_true rfl⟩ rfl (Nat.le_of_ble_eq_true rfl) d_Md_putPlain_9 ?_
    refine pm_goto K d_Md_putPlain_12 92 (by decide) ?_
    cases hf
    exact pm_vret K d_Md_putPlain_92
/-- CellLispModel.putPlain(I)V -/
theorem c_Md_putPlain {l : Launch} {D : va_G} {ca : Nat → ClassId} {ad : Nat → Nat} {E : (Nat → Prop) → State → Heap → Prop} (hEc : pm_Ecl E) (w' : pm_W) (x1 : Int32) (w : pm_W) (hf : f_Md_putPlain  x1 w = some w') : pm_Met l pmTs D vwCl (tyl ca) shM ca ad E y_Md_putPlain k_Md_putPlain 2 none { frames := 2, cells := 0, slots := 0, locals := 44 } [.ref (ad 0), .int x1] w (none, w') :=
  pm_start pmTs_good hEc (by decide) (Nat.le_of_ble_eq_true rfl) (fun p e s m below meth c K => t_Md_putPlain K w' x1 w hf)
def b_Md_begin_35 (x1 : Int32) (x2 : Int32) (w : pm_W) : Option (Int32 × pm_W) :=
  Option.bind (f_Md_isPair x1 w) fun o7 =>
  if o7.1 = 0 then
    some (x2, o7.2)
  else
    if x2 = (16 : Int32) then
      some (x2, o7.2)
    else
      if (x2 + (1 : Int32)) < 0 ∨ 18 ≤ (x2 + (1 : Int32)).toNatClampNeg then none else
      if (x2 + (1 : Int32)) < 0 ∨ 18 ≤ (x2 + (1 : Int32)).toNatClampNeg then none else
      some (x2 + (1 : Int32), pm_setI (pm_setI o7.2 17 (x2 + (1 : Int32)).toNatClampNeg x1) 18 (x2 + (1 : Int32)).toNatClampNeg (0 : Int32))
def f_Md_begin (x1 : Int32) (x2 : Int32) (w : pm_W) : Option (Int32 × pm_W) :=
  Option.bind (f_Md_isPair x1 w) fun o1 =>
  if o1.1 = 0 then
    Option.bind (f_Md_putPlain x1 o1.2) fun o6 =>
    b_Md_begin_35   x1 x2 o6
  else
    if x2 = (16 : Int32) then
      Option.bind (f_Md_putDots o1.2) fun o5 =>
      b_Md_begin_35   x1 x2 o5
    else
      Option.bind (f_Md_put (40 : Int32) o1.2) fun o4 =>
      b_Md_begin_35   x1 x2 o4
set_option maxHeartbeats 4000000 in
set_option maxRecDepth 100000 in
theorem t_Md_begin_35 {p : Program} {l : Launch} {e : Env} {s : State} {m : MethodId} {args : Array Value} {below : List Frame} {meth : Method} {c : Code} {D : va_G} {ca : Nat → ClassId} {ad : Nat → Nat} {E : (Nat → Prop) → State → Heap → Prop} (K : pm_ok p s m args meth c k_Md_begin 3 pmTs R_Md D vwCl (tyl ca) shM ad E (some .int)) (r : Int32) (w' : pm_W) (x1 : Int32) (x2 : Int32) (w : pm_W) (hf : b_Md_begin_35  x1 x2 w = some (r, w')) : pm_wk p l e { frames := 3, cells := 0, slots := 0, locals := 65 } s m args below meth c D vwCl shM ca ad 3 (some (.int r), w') 35 [(0, .ref (ad 0)), (1, .int x1), (2, .int x2)] [] w := by
  unfold b_Md_begin_35 at hf
  refine pm_aload_n K d_Md_begin_35 0 rfl rfl ?_
  refine pm_iload_n K d_Md_begin_36 1 rfl rfl ?_
  obtain ⟨o7, z7, hf⟩ := pm_bind hf
  refine pm_callV (As := [.int x1]) (rest := []) (o := 0) K (c_Md_isPair K.2.2.2.2.2.2.2.2.2.2.2.2 o7.1 o7.2 x1 w z7) mi_Md_isPair rfl rfl tw_787 tw_63 tw_786 rfl ⟨rfl, rfl, Nat.le_of_ble_eq_true rfl, Nat.le_of_ble_eq_true rfl⟩ rfl (Nat.le_of_ble_eq_true rfl) d_Md_begin_37 ?_
  refine pm_if_eq K d_Md_begin_40 49 (by decide) (fun c8 => ?_) (fun c8 => ?_)
  · have hf := pm_ift c8 hf
    refine pm_iload_n K d_Md_begin_49 2 rfl rfl ?_
    cases hf
    exact pm_iret K d_Md_begin_50
  · have hf := pm_iff c8 hf
    refine pm_iload_n K d_Md_begin_43 2 rfl rfl ?_
    refine pm_bipush (v := 16) K d_Md_begin_44 (by decide) ?_
    refine pm_icmp_ne K d_Md_begin_46 51 (by decide) (fun c9 => ?_) (fun c9 => ?_)
    · have hf := pm_iff c9 hf
      refine pm_aload_n K d_Md_begin_51 0 rfl rfl ?_
      refine pm_getR K fc_9 (o := 0) rfl 27 rfl (by decide) tw_696 d_Md_begin_52 ?_
      refine pm_iload_n K d_Md_begin_55 2 rfl rfl ?_
      refine pm_iconst (v := 1) K d_Md_begin_56 (by decide) ?_
      refine pm_iadd K d_Md_begin_57 ?_
      refine pm_iload_n K d_Md_begin_58 1 rfl rfl ?_
      obtain ⟨q10, hf⟩ := pm_bnd hf
      refine pm_iast K (o := 17) rfl rfl q10 d_Md_begin_59 ?_
      refine pm_aload_n K d_Md_begin_60 0 rfl rfl ?_
      refine pm_getR K fc_9 (o := 0) rfl 28 rfl (by decide) tw_697 d_Md_begin_61 ?_
      refine pm_iload_n K d_Md_begin_64 2 rfl rfl ?_
      refine pm_iconst (v := 1) K d_Md_begin_65 (by decide) ?_
      refine pm_iadd K d_Md_begin_66 ?_
      refine pm_iconst (v := 0) K d_Md_begin_67 (by decide) ?_
      obtain ⟨q11, hf⟩ := pm_bnd hf
      refine pm_iast K (o := 18) rfl rfl q11 d_Md_begin_68 ?_
      refine pm_iload_n K d_Md_begin_69 2 rfl rfl ?_
      refine pm_iconst (v := 1) K d_Md_begin_70 (by decide) ?_
      refine pm_iadd K d_Md_begin_71 ?_
      cases hf
      exact pm_iret K d_Md_begin_72
    · have hf := pm_ift c9 hf
      refine pm_iload_n K d_Md_begin_49 2 rfl rfl ?_
      cases hf
      exact pm_iret K d_Md_begin_50
set_option maxHeartbeats 4000000 in
set_option maxRecDepth 100000 in
theorem t_Md_begin {p : Program} {l : Launch} {e : Env} {s : State} {m : MethodId} {args : Array Value} {below : List Frame} {meth : Method} {c : Code} {D : va_G} {ca : Nat → ClassId} {ad : Nat → Nat} {E : (Nat → Prop) → State → Heap → Prop} (K : pm_ok p s m args meth c k_Md_begin 3 pmTs R_Md D vwCl (tyl ca) shM ad E (some .int)) (r : Int32) (w' : pm_W) (x1 : Int32) (x2 : Int32) (w : pm_W) (hf : f_Md_begin  x1 x2 w = some (r, w')) : pm_wk p l e { frames := 3, cells := 0, slots := 0, locals := 65 } s m args below meth c D vwCl shM ca ad 3 (some (.int r), w') 0 [(0, .ref (ad 0)), (1, .int x1), (2, .int x2)] [] w := by
  unfold f_Md_begin at hf
  refine pm_aload_n K d_Md_begin_0 0 rfl rfl ?_
  refine pm_iload_n K d_Md_begin_1 1 rfl rfl ?_
  obtain ⟨o1, z1, hf⟩ := pm_bind hf
  refine pm_callV (As := [.int x1]) (rest := []) (o := 0) K (c_Md_isPair K.2.2.2.2.2.2.2.2.2.2.2.2 o1.1 o1.2 x1 w z1) mi_Md_isPair rfl rfl tw_787 tw_63 tw_786 rfl ⟨rfl, rfl, Nat.le_of_ble_eq_true rfl, Nat.le_of_ble_eq_true rfl⟩ rfl (Nat.le_of_ble_eq_true rfl) d_Md_begin_2 ?_
  refine pm_if_ne K d_Md_begin_5 16 (by decide) (fun c2 => ?_) (fun c2 => ?_)
  · have hf := pm_iff c2 hf
    refine pm_iload_n K d_Md_begin_16 2 rfl rfl ?_
    refine pm_bipush (v := 16) K d_Md_begin_17 (by decide) ?_
    refine pm_icmp_ne K d_Md_begin_19 29 (by decide) (fun c3 => ?_) (fun c3 => ?_)
    · have hf := pm_iff c3 hf
      refine pm_aload_n K d_Md_begin_29 0 rfl rfl ?_
      refine pm_bipush (v := 40) K d_Md_begin_30 (by decide) ?_
      obtain ⟨o4, z4, hf⟩ := pm_bind hf
      refine pm_callV (As := [.int (40 : Int32)]) (rest := []) (o := 0) K (c_Md_put K.2.2.2.2.2.2.2.2.2.2.2.2 o4 (40 : Int32) o1.2 z4) mi_Md_put rfl rfl tw_799 tw_66 tw_798 rfl ⟨rfl, rfl, Nat.le_of_ble_eq_true rfl, Nat.le_of_ble_eq_true rfl⟩ rfl (Nat.le_of_ble_eq_true rfl) d_Md_begin_32 ?_
      refine pm_sub (lv' := [(0, .ref (ad 0)), (1, .int x1), (2, .int x2)]) [0, 1, 2] rfl ?_
      exact t_Md_begin_35 K  r w'  x1 x2 o4 hf
    · have hf := pm_ift c3 hf
      refine pm_aload_n K d_Md_begin_22 0 rfl rfl ?_
      obtain ⟨o5, z5, hf⟩ := pm_bind hf
      refine pm_callV (As := []) (rest := []) (o := 0) K (c_Md_putDots K.2.2.2.2.2.2.2.2.2.2.2.2 o5 o1.2 z5) mi_Md_putDots rfl rfl tw_808 tw_68 tw_807 rfl ⟨rfl, rfl, Nat.le_of_ble_eq_true rfl, Nat.le_of_ble_eq_true rfl⟩ rfl (Nat.le_of_ble_eq_true rfl) d_Md_begin_23 ?_
      refine pm_goto K d_Md_begin_26 35 (by decide) ?_
      refine pm_sub (lv' := [(0, .ref (ad 0)), (1, .int x1), (2, .int x2)]) [0, 1, 2] rfl ?_
      exact t_Md_begin_35 K  r w'  x1 x2 o5 hf
  · have hf := pm_ift c2 hf
    refine pm_aload_n K d_Md_begin_8 0 rfl rfl ?_
    refine pm_iload_n K d_Md_begin_9 1 rfl rfl ?_
    obtain ⟨o6, z6, hf⟩ := pm_bind hf
    refine pm_callV (As := [.int x1]) (rest := []) (o := 0) K (c_Md_putPlain K.2.2.2.2.2.2.2.2.2.2.2.2 o6 x1 o1.2 z6) mi_Md_putPlain rfl rfl tw_790 tw_64 tw_789 rfl ⟨rfl, rfl, Nat.le_of_ble_eq_true rfl, Nat.le_of_ble_eq_true rfl⟩ rfl (Nat.le_of_ble_eq_true rfl) d_Md_begin_10 ?_
    refine pm_goto K d_Md_begin_13 35 (by decide) ?_
    refine pm_sub (lv' := [(0, .ref (ad 0)), (1, .int x1), (2, .int x2)]) [0, 1, 2] rfl ?_
    exact t_Md_begin_35 K  r w'  x1 x2 o6 hf
/-- CellLispModel.begin(II)I -/
theorem c_Md_begin {l : Launch} {D : va_G} {ca : Nat → ClassId} {ad : Nat → Nat} {E : (Nat → Prop) → State → Heap → Prop} (hEc : pm_Ecl E) (r : Int32) (w' : pm_W) (x1 : Int32) (x2 : Int32) (w : pm_W) (hf : f_Md_begin  x1 x2 w = some (r, w')) : pm_Met l pmTs D vwCl (tyl ca) shM ca ad E y_Md_begin k_Md_begin 3 (some .int) { frames := 3, cells := 0, slots := 0, locals := 65 } [.ref (ad 0), .int x1, .int x2] w (some (.int r), w') :=
  pm_start pmTs_good hEc (by decide) (Nat.le_of_ble_eq_true rfl) (fun p e s m below meth c K => t_Md_begin K r w' x1 x2 w hf)
def b_Md_further_85 (x1 : Int32) (x2 : Int32) (w : pm_W) : Option (Int32 × pm_W) :=
  Option.bind (f_Md_isPair x2 w) fun o25 =>
  if o25.1 = 0 then
    if x2 = (536870912 : Int32) then
      Option.bind (f_Md_put (41 : Int32) o25.2) fun o28 =>
      some (x1 - (1 : Int32), o28)
    else
      Option.bind (f_Md_put (46 : Int32) o25.2) fun o29 =>
      Option.bind (f_Md_put (32 : Int32) o29) fun o30 =>
      Option.bind (f_Md_putPlain x2 o30) fun o31 =>
      Option.bind (f_Md_put (41 : Int32) o31) fun o32 =>
      some (x1 - (1 : Int32), o32)
  else
    Option.bind (f_Md_putDots o25.2) fun o33 =>
    Option.bind (f_Md_put (41 : Int32) o33) fun o34 =>
    some (x1 - (1 : Int32), o34)
def f_Md_further (x1 : Int32) (w : pm_W) : Option (Int32 × pm_W) :=
  if x1 < 0 ∨ 18 ≤ x1.toNatClampNeg then none else
  Option.bind (f_Md_isPair (w.1 17 x1.toNatClampNeg) w) fun o2 =>
  if o2.1 = 0 then
    if (w.1 17 x1.toNatClampNeg) = (536870912 : Int32) then
      b_Md_further_85   x1 (w.1 17 x1.toNatClampNeg) o2.2
    else
      Option.bind (f_Md_put (32 : Int32) o2.2) fun o5 =>
      b_Md_further_85   x1 (w.1 17 x1.toNatClampNeg) o5
  else
    if x1 < 0 ∨ 18 ≤ x1.toNatClampNeg then none else
    if (40 : Int32) ≤ (o2.2.1 18 x1.toNatClampNeg) then
      if (w.1 17 x1.toNatClampNeg) = (536870912 : Int32) then
        b_Md_further_85   x1 (w.1 17 x1.toNatClampNeg) o2.2
      else
        Option.bind (f_Md_put (32 : Int32) o2.2) fun o9 =>
        b_Md_further_85   x1 (w.1 17 x1.toNatClampNeg) o9
    else
      if x1 < 0 ∨ 18 ≤ x1.toNatClampNeg then none else
      if (o2.2.1 18 x1.toNatClampNeg) ≤ 0 then
        if x1 < 0 ∨ 18 ≤ x1.toNatClampNeg then none else
        if x1 < 0 ∨ 18 ≤ x1.toNatClampNeg then none else
        Option.bind (f_Md_cdr (w.1 17 x1.toNatClampNeg) (pm_setI o2.2 18 x1.toNatClampNeg ((o2.2.1 18 x1.toNatClampNeg) + (1 : Int32)))) fun o14 =>
        if x1 < 0 ∨ 18 ≤ x1.toNatClampNeg then none else
        Option.bind (f_Md_car (w.1 17 x1.toNatClampNeg) (pm_setI o14.2 17 x1.toNatClampNeg o14.1)) fun o16 =>
        Option.bind (f_Md_begin o16.1 x1 o16.2) fun o17 =>
        some (o17.1, o17.2)
      else
        Option.bind (f_Md_put (32 : Int32) o2.2) fun o18 =>
        if x1 < 0 ∨ 18 ≤ x1.toNatClampNeg then none else
        if x1 < 0 ∨ 18 ≤ x1.toNatClampNeg then none else
        Option.bind (f_Md_cdr (w.1 17 x1.toNatClampNeg) (pm_setI o18 18 x1.toNatClampNeg ((o18.1 18 x1.toNatClampNeg) + (1 : Int32)))) fun o21 =>
        if x1 < 0 ∨ 18 ≤ x1.toNatClampNeg then none else
        Option.bind (f_Md_car (w.1 17 x1.toNatClampNeg) (pm_setI o21.2 17 x1.toNatClampNeg o21.1)) fun o23 =>
        Option.bind (f_Md_begin o23.1 x1 o23.2) fun o24 =>
        some (o24.1, o24.2)
set_option maxHeartbeats 4000000 in
set_option maxRecDepth 100000 in
theorem t_Md_further_85 {p : Program} {l : Launch} {e : Env} {s : State} {m : MethodId} {args : Array Value} {below : List Frame} {meth : Method} {c : Code} {D : va_G} {ca : Nat → ClassId} {ad : Nat → Nat} {E : (Nat → Prop) → State → Heap → Prop} (K : pm_ok p s m args meth c k_Md_further 3 pmTs R_Md D vwCl (tyl ca) shM ad E (some .int)) (r : Int32) (w' : pm_W) (x1 : Int32) (x2 : Int32) (w : pm_W) (hf : b_Md_further_85  x1 x2 w = some (r, w')) : pm_wk p l e { frames := 4, cells := 0, slots := 0, locals := 87 } s m args below meth c D vwCl shM ca ad 3 (some (.int r), w') 85 [(0, .ref (ad 0)), (1, .int x1), (2, .int x2)] [] w := by
  unfold b_Md_further_85 at hf
  refine pm_aload_n K d_Md_further_85 0 rfl rfl ?_
  refine pm_iload_n K d_Md_further_86 2 rfl rfl ?_
  obtain ⟨o25, z25, hf⟩ := pm_bind hf
  refine pm_callV (As := [.int x2]) (rest := []) (o := 0) K (c_Md_isPair K.2.2.2.2.2.2.2.2.2.2.2.2 o25.1 o25.2 x2 w z25) mi_Md_isPair rfl rfl tw_787 tw_63 tw_786 rfl ⟨rfl, rfl, Nat.le_of_ble_eq_true rfl, Nat.le_of_ble_eq_true rfl⟩ rfl (Nat.le_of_ble_eq_true rfl) d_Md_further_87 ?_
  refine pm_if_eq K d_Md_further_90 100 (by decide) (fun c26 => ?_) (fun c26 => ?_)
  · have hf := pm_ift c26 hf
    refine pm_iload_n K d_Md_further_100 2 rfl rfl ?_
    refine pm_ldc K tw_662 d_Md_further_101 ?_
    refine pm_icmp_eq K d_Md_further_103 123 (by decide) (fun c27 => ?_) (fun c27 => ?_)
    · have hf := pm_ift c27 hf
      refine pm_aload_n K d_Md_further_123 0 rfl rfl ?_
      refine pm_bipush (v := 41) K d_Md_further_124 (by decide) ?_
      obtain ⟨o28, z28, hf⟩ := pm_bind hf
      refine pm_callV (As := [.int (41 : Int32)]) (rest := []) (o := 0) K (c_Md_put K.2.2.2.2.2.2.2.2.2.2.2.2 o28 (41 : Int32) o25.2 z28) mi_Md_put rfl rfl tw_799 tw_66 tw_798 rfl ⟨rfl, rfl, Nat.le_of_ble_eq_true rfl, Nat.le_of_ble_eq_true rfl⟩ rfl (Nat.le_of_ble_eq_true rfl) d_Md_further_126 ?_
      refine pm_iload_n K d_Md_further_129 1 rfl rfl ?_
      refine pm_iconst (v := 1) K d_Md_further_130 (by decide) ?_
      refine pm_isub K d_Md_further_131 ?_
      cases hf
      exact pm_iret K d_Md_further_132
    · have hf := pm_iff c27 hf
      refine pm_aload_n K d_Md_further_106 0 rfl rfl ?_
      refine pm_bipush (v := 46) K d_Md_further_107 (by decide) ?_
      obtain ⟨o29, z29, hf⟩ := pm_bind hf
      refine pm_callV (As := [.int (46 : Int32)]) (rest := []) (o := 0) K (c_Md_put K.2.2.2.2.2.2.2.2.2.2.2.2 o29 (46 : Int32) o25.2 z29) mi_Md_put rfl rfl tw_799 tw_66 tw_798 rfl ⟨rfl, rfl, Nat.le_of_ble_eq_true rfl, Nat.le_of_ble_eq_true rfl⟩ rfl (Nat.le_of_ble_eq_true rfl) d_Md_further_109 ?_
      refine pm_aload_n K d_Md_further_112 0 rfl rfl ?_
      refine pm_bipush (v := 32) K d_Md_further_113 (by decide) ?_
      obtain ⟨o30, z30, hf⟩ := pm_bind hf
      refine pm_callV (As := [.int (32 : Int32)]) (rest := []) (o := 0) K (c_Md_put K.2.2.2.2.2.2.2.2.2.2.2.2 o30 (32 : Int32) o29 z30) mi_Md_put rfl rfl tw_799 tw_66 tw_798 rfl ⟨rfl, rfl, Nat.le_of_ble_eq_true rfl, Nat.le_of_ble_eq_true rfl⟩ rfl (Nat.le_of_ble_eq_true rfl) d_Md_further_115 ?_
      refine pm_aload_n K d_Md_further_118 0 rfl rfl ?_
      refine pm_iload_n K d_Md_further_119 2 rfl rfl ?_
      obtain ⟨o31, z31, hf⟩ := pm_bind hf
      refine pm_callV (As := [.int x2]) (rest := []) (o := 0) K (c_Md_putPlain K.2.2.2.2.2.2.2.2.2.2.2.2 o31 x2 o30 z31) mi_Md_putPlain rfl rfl tw_790 tw_64 tw_789 rfl ⟨rfl, rfl, Nat.le_of_ble_eq_true rfl, Nat.le_of_ble_eq_true rfl⟩ rfl (Nat.le_of_ble_eq_true rfl) d_Md_further_120 ?_
      refine pm_aload_n K d_Md_further_123 0 rfl rfl ?_
      refine pm_bipush (v := 41) K d_Md_further_124 (by decide) ?_
      obtain ⟨o32, z32, hf⟩ := pm_bind hf
      refine pm_callV (As := [.int (41 : Int32)]) (rest := []) (o := 0) K (c_Md_put K.2.2.2.2.2.2.2.2.2.2.2.2 o32 (41 : Int32) o31 z32) mi_Md_put rfl rfl tw_799 tw_66 tw_798 rfl ⟨rfl, rfl, Nat.le_of_ble_eq_true rfl, Nat.le_of_ble_eq_true rfl⟩ rfl (Nat.le_of_ble_eq_true rfl) d_Md_further_126 ?_
      refine pm_iload_n K d_Md_further_129 1 rfl rfl ?_
      refine pm_iconst (v := 1) K d_Md_further_130 (by decide) ?_
      refine pm_isub K d_Md_further_131 ?_
      cases hf
      exact pm_iret K d_Md_further_132
  · have hf := pm_iff c26 hf
    refine pm_aload_n K d_Md_further_93 0 rfl rfl ?_
    obtain ⟨o33, z33, hf⟩ := pm_bind hf
    refine pm_callV (As := []) (rest := []) (o := 0) K (c_Md_putDots K.2.2.2.2.2.2.2.2.2.2.2.2 o33 o25.2 z33) mi_Md_putDots rfl rfl tw_808 tw_68 tw_807 rfl ⟨rfl, rfl, Nat.le_of_ble_eq_true rfl, Nat.le_of_ble_eq_true rfl⟩ rfl (Nat.le_of_ble_eq_true rfl) d_Md_further_94 ?_
    refine pm_goto K d_Md_further_97 123 (by decide) ?_
    refine pm_aload_n K d_Md_further_123 0 rfl rfl ?_
    refine pm_bipush (v := 41) K d_Md_further_124 (by decide) ?_
    obtain ⟨o34, z34, hf⟩ := pm_bind hf
    refine pm_callV (As := [.int (41 : Int32)]) (rest := []) (o := 0) K (c_Md_put K.2.2.2.2.2.2.2.2.2.2.2.2 o34 (41 : Int32) o33 z34) mi_Md_put rfl rfl tw_799 tw_66 tw_798 rfl ⟨rfl, rfl, Nat.le_of_ble_eq_true rfl, Nat.le_of_ble_eq_true rfl⟩ rfl (Nat.le_of_ble_eq_true rfl) d_Md_further_126 ?_
    refine pm_iload_n K d_Md_further_129 1 rfl rfl ?_
    refine pm_iconst (v := 1) K d_Md_further_130 (by decide) ?_
    refine pm_isub K d_Md_further_131 ?_
    cases hf
    exact pm_iret K d_Md_further_132
set_option maxHeartbeats 4000000 in
set_option maxRecDepth 100000 in
theorem t_Md_further {p : Program} {l : Launch} {e : Env} {s : State} {m : MethodId} {args : Array Value} {below : List Frame} {meth : Method} {c : Code} {D : va_G} {ca : Nat → ClassId} {ad : Nat → Nat} {E : (Nat → Prop) → State → Heap → Prop} (K : pm_ok p s m args meth c k_Md_further 3 pmTs R_Md D vwCl (tyl ca) shM ad E (some .int)) (r : Int32) (w' : pm_W) (x1 : Int32) (w : pm_W) (hf : f_Md_further  x1 w = some (r, w')) : pm_wk p l e { frames := 4, cells := 0, slots := 0, locals := 87 } s m args below meth c D vwCl shM ca ad 3 (some (.int r), w') 0 [(0, .ref (ad 0)), (1, .int x1)] [] w := by
  unfold f_Md_further at hf
  refine pm_aload_n K d_Md_further_0 0 rfl rfl ?_
  refine pm_getR K fc_9 (o := 0) rfl 27 rfl (by decide) tw_696 d_Md_further_1 ?_
  refine pm_iload_n K d_Md_further_4 1 rfl rfl ?_
  obtain ⟨q1, hf⟩ := pm_bnd hf
  refine pm_iald K (o := 17) rfl rfl q1 d_Md_further_5 (v := w.1 17 x1.toNatClampNeg) rfl ?_
  refine pm_istore_n (lv' := [(2, .int (w.1 17 x1.toNatClampNeg)), (0, .ref (ad 0)), (1, .int x1)]) K d_Md_further_6 rfl (by decide) rfl ?_
  refine pm_aload_n K d_Md_further_7 1 rfl rfl ?_
  refine pm_iload_n K d_Md_further_8 0 rfl rfl ?_
  obtain ⟨o2, z2, hf⟩ := pm_bind hf
  refine pm_callV (As := [.int (w.1 17 x1.toNatClampNeg)]) (rest := []) (o := 0) K (c_Md_isPair K.2.2.2.2.2.2.2.2.2.2.2.2 o2.1 o2.2 (w.1 17 x1.toNatClampNeg) w z2) mi_Md_isPair rfl rfl tw_787 tw_63 tw_786 rfl ⟨rfl, rfl, Nat.le_of_ble_eq_true rfl, Nat.le_of_ble_eq_true rfl⟩ rfl (Nat.le_of_ble_eq_true rfl) d_Md_further_9 ?_
  refine pm_if_eq K d_Md_further_12 73 (by decide) (fun c3 => ?_) (fun c3 => ?_)
  · have hf := pm_ift c3 hf
    refine pm_iload_n K d_Md_further_73 0 rfl rfl ?_
    refine pm_ldc K tw_662 d_Md_further_74 ?_
    refine pm_icmp_eq K d_Md_further_76 85 (by decide) (fun c4 => ?_) (fun c4 => ?_)
    · have hf := pm_ift c4 hf
      refine pm_sub (lv' := [(0, .ref (ad 0)), (1, .int x1), (2, .int (w.1 17 x1.toNatClampNeg))]) [1, 2, 0] rfl ?_
      exact t_Md_further_85 K  r w'  x1 (w.1 17 x1.toNatClampNeg) o2.2 hf
    · have hf := pm_iff c4 hf
      refine pm_aload_n K d_Md_further_79 1 rfl rfl ?_
      refine pm_bipush (v := 32) K d_Md_further_80 (by decide) ?_
      obtain ⟨o5, z5, hf⟩ := pm_bind hf
      refine pm_callV (As := [.int (32 : Int32)]) (rest := []) (o := 0) K (c_Md_put K.2.2.2.2.2.2.2.2.2.2.2.2 o5 (32 : Int32) o2.2 z5) mi_Md_put rfl rfl tw_799 tw_66 tw_798 rfl ⟨rfl, rfl, Nat.le_of_ble_eq_true rfl, Nat.le_of_ble_eq_true rfl⟩ rfl (Nat.le_of_ble_eq_true rfl) d_Md_further_82 ?_
      refine pm_sub (lv' := [(0, .ref (ad 0)), (1, .int x1), (2, .int (w.1 17 x1.toNatClampNeg))]) [1, 2, 0] rfl ?_
      exact t_Md_further_85 K  r w'  x1 (w.1 17 x1.toNatClampNeg) o5 hf
  · have hf := pm_iff c3 hf
    refine pm_aload_n K d_Md_further_15 1 rfl rfl ?_
    refine pm_getR K fc_9 (o := 0) rfl 28 rfl (by decide) tw_697 d_Md_further_16 ?_
    refine pm_iload_n K d_Md_further_19 2 rfl rfl ?_
    obtain ⟨q6, hf⟩ := pm_bnd hf
    refine pm_iald K (o := 18) rfl rfl q6 d_Md_further_20 (v := o2.2.1 18 x1.toNatClampNeg) rfl ?_
    refine pm_bipush (v := 40) K d_Md_further_21 (by decide) ?_
    refine pm_icmp_ge K d_Md_further_23 73 (by decide) (fun c7 => ?_) (fun c7 => ?_)
    · have hf := pm_ift c7 hf
      refine pm_iload_n K d_Md_further_73 0 rfl rfl ?_
      refine pm_ldc K tw_662 d_Md_further_74 ?_
      refine pm_icmp_eq K d_Md_further_76 85 (by decide) (fun c8 => ?_) (fun c8 => ?_)
      · have hf := pm_ift c8 hf
        refine pm_sub (lv' := [(0, .ref (ad 0)), (1, .int x1), (2, .int (w.1 17 x1.toNatClampNeg))]) [1, 2, 0] rfl ?_
        exact t_Md_further_85 K  r w'  x1 (w.1 17 x1.toNatClampNeg) o2.2 hf
      · have hf := pm_iff c8 hf
        refine pm_aload_n K d_Md_further_79 1 rfl rfl ?_
        refine pm_bipush (v := 32) K d_Md_further_80 (by decide) ?_
        obtain ⟨o9, z9, hf⟩ := pm_bind hf
        refine pm_callV (As := [.int (32 : Int32)]) (rest := []) (o := 0) K (c_Md_put K.2.2.2.2.2.2.2.2.2.2.2.2 o9 (32 : Int32) o2.2 z9) mi_Md_put rfl rfl tw_799 tw_66 tw_798 rfl ⟨rfl, rfl, Nat.le_of_ble_eq_true rfl, Nat.le_of_ble_eq_true rfl⟩ rfl (Nat.le_of_ble_eq_true rfl) d_Md_further_82 ?_
        refine pm_sub (lv' := [(0, .ref (ad 0)), (1, .int x1), (2, .int (w.1 17 x1.toNatClampNeg))]) [1, 2, 0] rfl ?_
        exact t_Md_further_85 K  r w'  x1 (w.1 17 x1.toNatClampNeg) o9 hf
    · have hf := pm_iff c7 hf
      refine pm_aload_n K d_Md_further_26 1 rfl rfl ?_
      refine pm_getR K fc_9 (o := 0) rfl 28 rfl (by decide) tw_697 d_Md_further_27 ?_
      refine pm_iload_n K d_Md_further_30 2 rfl rfl ?_
      obtain ⟨q10, hf⟩ := pm_bnd hf
      refine pm_iald K (o := 18) rfl rfl q10 d_Md_further_31 (v := o2.2.1 18 x1.toNatClampNeg) rfl ?_
      refine pm_if_le K d_Md_further_32 41 (by decide) (fun c11 => ?_) (fun c11 => ?_)
      · have hf := pm_ift c11 hf
        refine pm_aload_n K d_Md_further_41 1 rfl rfl ?_
        refine pm_getR K fc_9 (o := 0) rfl 28 rfl (by decide) tw_697 d_Md_further_42 ?_
        refine pm_iload_n K d_Md_further_45 2 rfl rfl ?_
        refine pm_dup2_11 K d_Md_further_46 rfl rfl ?_
        obtain ⟨q12, hf⟩ := pm_bnd hf
        refine pm_iald K (o := 18) rfl rfl q12 d_Md_further_47 (v := o2.2.1 18 x1.toNatClampNeg) rfl ?_
        refine pm_iconst (v := 1) K d_Md_further_48 (by decide) ?_
        refine pm_iadd K d_Md_further_49 ?_
        obtain ⟨q13, hf⟩ := pm_bnd hf
        refine pm_iast K (o := 18) rfl rfl q13 d_Md_further_50 ?_
        refine pm_aload_n K d_Md_further_51 1 rfl rfl ?_
        refine pm_getR K fc_9 (o := 0) rfl 27 rfl (by decide) tw_696 d_Md_further_52 ?_
        refine pm_iload_n K d_Md_further_55 2 rfl rfl ?_
        refine pm_aload_n K d_Md_further_56 1 rfl rfl ?_
        refine pm_iload_n K d_Md_further_57 0 rfl rfl ?_
        obtain ⟨o14, z14, hf⟩ := pm_bind hf
        refine pm_callV (As := [.int (w.1 17 x1.toNatClampNeg)]) (rest := [.int x1, .ref (ad 17)]) (o := 0) K (c_Md_cdr K.2.2.2.2.2.2.2.2.2.2.2.2 o14.1 o14.2 (w.1 17 x1.toNatClampNeg) (pm_setI o2.2 18 x1.toNatClampNeg ((o2.2.1 18 x1.toNatClampNeg) + (1 : Int32))) z14) mi_Md_cdr rfl rfl tw_814 tw_70 tw_813 rfl ⟨rfl, rfl, Nat.le_of_ble_eq_true rfl, Nat.le_of_ble_eq_true rfl⟩ rfl (Nat.le_of_ble_eq_true rfl) d_Md_further_58 ?_
        obtain ⟨q15, hf⟩ := pm_bnd hf
        refine pm_iast K (o := 17) rfl rfl q15 d_Md_further_61 ?_
        refine pm_aload_n K d_Md_further_62 1 rfl rfl ?_
        refine pm_aload_n K d_Md_further_63 1 rfl rfl ?_
        refine pm_iload_n K d_Md_further_64 0 rfl rfl ?_
        obtain ⟨o16, z16, hf⟩ := pm_bind hf
        refine pm_callV (As := [.int (w.1 17 x1.toNatClampNeg)]) (rest := [.ref (ad 0)]) (o := 0) K (c_Md_car K.2.2.2.2.2.2.2.2.2.2.2.2 o16.1 o16.2 (w.1 17 x1.toNatClampNeg) (pm_setI o14.2 17 x1.toNatClampNeg o14.1) z16) mi_Md_car rfl rfl tw_817 tw_71 tw_816 rfl ⟨rfl, rfl, Nat.le_of_ble_eq_true rfl, Nat.le_of_ble_eq_true rfl⟩ rfl (Nat.le_of_ble_eq_true rfl) d_Md_further_65 ?_
        refine pm_iload_n K d_Md_further_68 2 rfl rfl ?_
        obtain ⟨o17, z17, hf⟩ := pm_bind hf
        refine pm_callV (As := [.int o16.1, .int x1]) (rest := []) (o := 0) K (c_Md_begin K.2.2.2.2.2.2.2.2.2.2.2.2 o17.1 o17.2 o16.1 x1 o16.2 z17) mi_Md_begin rfl rfl tw_784 tw_62 tw_783 rfl ⟨rfl, rfl, Nat.le_of_ble_eq_true rfl, Nat.le_of_ble_eq_true rfl⟩ rfl (Nat.le_of_ble_eq_true rfl) d_Md_further_69 ?_
        cases hf
        exact pm_iret K d_Md_further_72
      · have hf := pm_iff c11 hf
        refine pm_aload_n K d_Md_further_35 1 rfl rfl ?_
        refine pm_bipush (v := 32) K d_Md_further_36 (by decide) ?_
        obtain ⟨o18, z18, hf⟩ := pm_bind hf
        refine pm_callV (As := [.int (32 : Int32)]) (rest := []) (o := 0) K (c_Md_put K.2.2.2.2.2.2.2.2.2.2.2.2 o18 (32 : Int32) o2.2 z18) mi_Md_put rfl rfl tw_799 tw_66 tw_798 rfl ⟨rfl, rfl, Nat.le_of_ble_eq_true rfl, Nat.le_of_ble_eq_true rfl⟩ rfl (Nat.le_of_ble_eq_true rfl) d_Md_further_38 ?_
        refine pm_aload_n K d_Md_further_41 1 rfl rfl ?_
        refine pm_getR K fc_9 (o := 0) rfl 28 rfl (by decide) tw_697 d_Md_further_42 ?_
        refine pm_iload_n K d_Md_further_45 2 rfl rfl ?_
        refine pm_dup2_11 K d_Md_further_46 rfl rfl ?_
        obtain ⟨q19, hf⟩ := pm_bnd hf
        refine pm_iald K (o := 18) rfl rfl q19 d_Md_further_47 (v := o18.1 18 x1.toNatClampNeg) rfl ?_
        refine pm_iconst (v := 1) K d_Md_further_48 (by decide) ?_
        refine pm_iadd K d_Md_further_49 ?_
        obtain ⟨q20, hf⟩ := pm_bnd hf
        refine pm_iast K (o := 18) rfl rfl q20 d_Md_further_50 ?_
        refine pm_aload_n K d_Md_further_51 1 rfl rfl ?_
        refine pm_getR K fc_9 (o := 0) rfl 27 rfl (by decide) tw_696 d_Md_further_52 ?_
        refine pm_iload_n K d_Md_further_55 2 rfl rfl ?_
        refine pm_aload_n K d_Md_further_56 1 rfl rfl ?_
        refine pm_iload_n K d_Md_further_57 0 rfl rfl ?_
        obtain ⟨o21, z21, hf⟩ := pm_bind hf
        refine pm_callV (As := [.int (w.1 17 x1.toNatClampNeg)]) (rest := [.int x1, .ref (ad 17)]) (o := 0) K (c_Md_cdr K.2.2.2.2.2.2.2.2.2.2.2.2 o21.1 o21.2 (w.1 17 x1.toNatClampNeg) (pm_setI o18 18 x1.toNatClampNeg ((o18.1 18 x1.toNatClampNeg) + (1 : Int32))) z21) mi_Md_cdr rfl rfl tw_814 tw_70 tw_813 rfl ⟨rfl, rfl, Nat.le_of_ble_eq_true rfl, Nat.le_of_ble_eq_true rfl⟩ rfl (Nat.le_of_ble_eq_true rfl) d_Md_further_58 ?_
        obtain ⟨q22, hf⟩ := pm_bnd hf
        refine pm_iast K (o := 17) rfl rfl q22 d_Md_further_61 ?_
        refine pm_aload_n K d_Md_further_62 1 rfl rfl ?_
        refine pm_aload_n K d_Md_further_63 1 rfl rfl ?_
        refine pm_iload_n K d_Md_further_64 0 rfl rfl ?_
        obtain ⟨o23, z23, hf⟩ := pm_bind hf
        refine pm_callV (As := [.int (w.1 17 x1.toNatClampNeg)]) (rest := [.ref (ad 0)]) (o := 0) K (c_Md_car K.2.2.2.2.2.2.2.2.2.2.2.2 o23.1 o23.2 (w.1 17 x1.toNatClampNeg) (pm_setI o21.2 17 x1.toNatClampNeg o21.1) z23) mi_Md_car rfl rfl tw_817 tw_71 tw_816 rfl ⟨rfl, rfl, Nat.le_of_ble_eq_true rfl, Nat.le_of_ble_eq_true rfl⟩ rfl (Nat.le_of_ble_eq_true rfl) d_Md_further_65 ?_
        refine pm_iload_n K d_Md_further_68 2 rfl rfl ?_
        obtain ⟨o24, z24, hf⟩ := pm_bind hf
        refine pm_callV (As := [.int o23.1, .int x1]) (rest := []) (o := 0) K (c_Md_begin K.2.2.2.2.2.2.2.2.2.2.2.2 o24.1 o24.2 o23.1 x1 o23.2 z24) mi_Md_begin rfl rfl tw_784 tw_62 tw_783 rfl ⟨rfl, rfl, Nat.le_of_ble_eq_true rfl, Nat.le_of_ble_eq_true rfl⟩ rfl (Nat.le_of_ble_eq_true rfl) d_Md_further_69 ?_
        cases hf
        exact pm_iret K d_Md_further_72
/-- CellLispModel.further(I)I -/
theorem c_Md_further {l : Launch} {D : va_G} {ca : Nat → ClassId} {ad : Nat → Nat} {E : (Nat → Prop) → State → Heap → Prop} (hEc : pm_Ecl E) (r : Int32) (w' : pm_W) (x1 : Int32) (w : pm_W) (hf : f_Md_further  x1 w = some (r, w')) : pm_Met l pmTs D vwCl (tyl ca) shM ca ad E y_Md_further k_Md_further 3 (some .int) { frames := 4, cells := 0, slots := 0, locals := 87 } [.ref (ad 0), .int x1] w (some (.int r), w') :=
  pm_start pmTs_good hEc (by decide) (Nat.le_of_ble_eq_true rfl) (fun p e s m below meth c K => t_Md_further K r w' x1 w hf)
