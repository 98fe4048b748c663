def b_Md_arrived_26 (x1 : Int32) (s0 : Int32) (w : pm_W) : Option pm_W :=
  if x1 < 0 ∨ 12 ≤ x1.toNatClampNeg then none else
  if x1 = 0 then
    some (pm_setI (pm_setI w 16 x1.toNatClampNeg (vp_nar .boolean (0 : Int32))) 0 15 s0)
  else
    Option.bind (f_Md_pair s0 (536870912 : Int32) (pm_setI w 16 x1.toNatClampNeg (vp_nar .boolean (0 : Int32)))) fun o7 =>
    if x1 < 0 ∨ 12 ≤ x1.toNatClampNeg then none else
    if (o7.2.1 14 x1.toNatClampNeg) = (536870912 : Int32) then
      if x1 < 0 ∨ 12 ≤ x1.toNatClampNeg then none else
      if x1 < 0 ∨ 12 ≤ x1.toNatClampNeg then none else
      some (pm_setI (pm_setI o7.2 14 x1.toNatClampNeg o7.1) 15 x1.toNatClampNeg o7.1)
    else
      if x1 < 0 ∨ 12 ≤ x1.toNatClampNeg then none else
      if ((o7.2.1 15 x1.toNatClampNeg) - (536873000 : Int32)) < 0 ∨ 206 ≤ ((o7.2.1 15 x1.toNatClampNeg) - (536873000 : Int32)).toNatClampNeg then none else
      if x1 < 0 ∨ 12 ≤ x1.toNatClampNeg then none else
      some (pm_setI (pm_setI o7.2 3 ((o7.2.1 15 x1.toNatClampNeg) - (536873000 : Int32)).toNatClampNeg o7.1) 15 x1.toNatClampNeg o7.1)
def f_Md_arrived (x1 : Int32) (x2 : Int32) (w : pm_W) : Option pm_W :=
  if x1 < 0 ∨ 12 ≤ x1.toNatClampNeg then none else
  if (w.1 16 x1.toNatClampNeg) = 0 then
    b_Md_arrived_26   x1 x2 w
  else
    Option.bind (f_Md_pair x2 (536870912 : Int32) w) fun o3 =>
    Option.bind (f_Md_pair (536871010 : Int32) o3.1 o3.2) fun o4 =>
    b_Md_arrived_26   x1 o4.1 o4.2
set_option maxHeartbeats 4000000 in
set_option maxRecDepth 100000 in
theorem t_Md_arrived_26 {p : Program} {l : Launch} {e : Env} {s : State} {m : MethodId} {args : Array Value} {below : List Frame} {meth : Method} {c : Code} {D : va_G} {ca : Nat → ClassId} {ad : Nat → Nat} {E : (Nat → Prop) → State → Heap → Prop} (K : pm_ok p s m args meth c k_Md_arrived 5 pmTs R_Md D vwCl (tyl ca) shM ad E none) (w' : pm_W) (x1 : Int32) (s0 : Int32) (w : pm_W) (hf : b_Md_arrived_26  x1 s0 w = some w') : pm_wk p l e { frames := 2, cells := 0, slots := 0, locals := 47 } s m args below meth c D vwCl shM ca ad 5 (none, w') 26 [(0, .ref (ad 0)), (1, .int x1)] [.int s0] w := by
  unfold b_Md_arrived_26 at hf
  refine pm_istore_n (lv' := [(3, .int s0), (0, .ref (ad 0)), (1, .int x1)]) K d_Md_arrived_26 rfl (by decide) rfl ?_
  refine pm_aload_n K d_Md_arrived_27 1 rfl rfl ?_
  refine pm_getR K fc_9 (o := 0) rfl 26 rfl (by decide) tw_695 d_Md_arrived_28 ?_
  refine pm_iload_n K d_Md_arrived_31 2 rfl rfl ?_
  refine pm_iconst (v := 0) K d_Md_arrived_32 (by decide) ?_
  obtain ⟨q5, hf⟩ := pm_bnd hf
  refine pm_zast K (o := 16) rfl rfl q5 d_Md_arrived_33 ?_
  refine pm_iload_n K d_Md_arrived_34 2 rfl rfl ?_
  refine pm_if_ne K d_Md_arrived_35 44 (by decide) (fun c6 => ?_) (fun c6 => ?_)
  · have hf := pm_iff c6 hf
    refine pm_aload_n K d_Md_arrived_44 1 rfl rfl ?_
    refine pm_iload_n K d_Md_arrived_45 0 rfl rfl ?_
    refine pm_ldc K tw_662 d_Md_arrived_46 ?_
    obtain ⟨o7, z7, hf⟩ := pm_bind hf
    refine pm_callV (As := [.int s0, .int (536870912 : Int32)]) (rest := []) (o := 0) K (c_Md_pair K.2.2.2.2.2.2.2.2.2.2.2.2 o7.1 o7.2 s0 (536870912 : Int32) (pm_setI w 16 x1.toNatClampNeg (vp_nar .boolean (0 : Int32))) z7) mi_Md_pair rfl rfl tw_759 tw_55 tw_758 rfl ⟨rfl, rfl, Nat.le_of_ble_eq_true rfl, Nat.le_of_ble_eq_true rfl⟩ rfl (Nat.le_of_ble_eq_true rfl) d_Md_arrived_48 ?_
    refine pm_istore (lv' := [(4, .int o7.1), (3, .int s0), (0, .ref (ad 0)), (1, .int x1)]) K d_Md_arrived_51 (by decide) rfl ?_
    refine pm_aload_n K d_Md_arrived_53 2 rfl rfl ?_
    refine pm_getR K fc_9 (o := 0) rfl 24 rfl (by decide) tw_693 d_Md_arrived_54 ?_
    refine pm_iload_n K d_Md_arrived_57 3 rfl rfl ?_
    obtain ⟨q8, hf⟩ := pm_bnd hf
    refine pm_iald K (o := 14) rfl rfl q8 d_Md_arrived_58 (v := o7.2.1 14 x1.toNatClampNeg) rfl ?_
    refine pm_ldc K tw_662 d_Md_arrived_59 ?_
    refine pm_icmp_ne K d_Md_arrived_61 75 (by decide) (fun c9 => ?_) (fun c9 => ?_)
    · have hf := pm_iff c9 hf
      refine pm_aload_n K d_Md_arrived_75 2 rfl rfl ?_
      refine pm_getR K fc_9 (o := 0) rfl 4 rfl (by decide) tw_673 d_Md_arrived_76 ?_
      refine pm_aload_n K d_Md_arrived_79 2 rfl rfl ?_
      refine pm_getR K fc_9 (o := 0) rfl 25 rfl (by decide) tw_694 d_Md_arrived_80 ?_
      refine pm_iload_n K d_Md_arrived_83 3 rfl rfl ?_
      obtain ⟨q10, hf⟩ := pm_bnd hf
      refine pm_iald K (o := 15) rfl rfl q10 d_Md_arrived_84 (v := o7.2.1 15 x1.toNatClampNeg) rfl ?_
      refine pm_ldc K tw_750 d_Md_arrived_85 ?_
      refine pm_isub K d_Md_arrived_87 ?_
      refine pm_iload K d_Md_arrived_88 0 rfl ?_
      obtain ⟨q11, hf⟩ := pm_bnd hf
      refine pm_iast K (o := 3) rfl rfl q11 d_Md_arrived_90 ?_
      refine pm_aload_n K d_Md_arrived_91 2 rfl rfl ?_
      refine pm_getR K fc_9 (o := 0) rfl 25 rfl (by decide) tw_694 d_Md_arrived_92 ?_
      refine pm_iload_n K d_Md_arrived_95 3 rfl rfl ?_
      refine pm_iload K d_Md_arrived_96 0 rfl ?_
      obtain ⟨q12, hf⟩ := pm_bnd hf
      refine pm_iast K (o := 15) rfl rfl q12 d_Md_arrived_98 ?_
      cases hf
      exact pm_vret K d_Md_arrived_99
    · have hf := pm_ift c9 hf
      refine pm_aload_n K d_Md_arrived_64 2 rfl rfl ?_
      refine pm_getR K fc_9 (o := 0) rfl 24 rfl (by decide) tw_693 d_Md_arrived_65 ?_
      refine pm_iload_n K d_Md_arrived_68 3 rfl rfl ?_
      refine pm_iload K d_Md_arrived_69 0 rfl ?_
      obtain ⟨q13, hf⟩ := pm_bnd hf
      refine pm_iast K (o := 14) rfl rfl q13 d_Md_arrived_71 ?_
      refine pm_goto K d_Md_arrived_72 91 (by decide) ?_
      refine pm_aload_n K d_Md_arrived_91 2 rfl rfl ?_
      refine pm_getR K fc_9 (o := 0) rfl 25 rfl (by decide) tw_694 d_Md_arrived_92 ?_
      refine pm_iload_n K d_Md_arrived_95 3 rfl rfl ?_
      refine pm_iload K d_Md_arrived_96 0 rfl ?_
      obtain ⟨q14, hf⟩ := pm_bnd hf
      refine pm_iast K (o := 15) rfl rfl q14 d_Md_arrived_98 ?_
      cases hf
      exact pm_vret K d_Md_arrived_99
  · have hf := pm_ift c6 hf
    refine pm_aload_n K d_Md_arrived_38 1 rfl rfl ?_
    refine pm_iload_n K d_Md_arrived_39 0 rfl rfl ?_
    refine pm_putI K fc_9 (o := 0) (ty := .int) rfl 15 rfl (by decide) tw_684 rfl rfl rfl rfl d_Md_arrived_40 ?_
    cases hf
    exact pm_vret K d_Md_arrived_43
set_option maxHeartbeats 4000000 in
set_option maxRecDepth 100000 in
theorem t_Md_arrived {p : Program} {l : Launch} {e : Env} {s : State} {m : MethodId} {args : Array Value} {below : List Frame} {meth : Method} {c : Code} {D : va_G} {ca : Nat → ClassId} {ad : Nat → Nat} {E : (Nat → Prop) → State → Heap → Prop} (K : pm_ok p s m args meth c k_Md_arrived 5 pmTs R_Md D vwCl (tyl ca) shM ad E none) (w' : pm_W) (x1 : Int32) (x2 : Int32) (w : pm_W) (hf : f_Md_arrived  x1 x2 w = some w') : pm_wk p l e { frames := 2, cells := 0, slots := 0, locals := 47 } s m args below meth c D vwCl shM ca ad 5 (none, w') 0 [(0, .ref (ad 0)), (1, .int x1), (2, .int x2)] [] w := by
  unfold f_Md_arrived at hf
  refine pm_aload_n K d_Md_arrived_0 0 rfl rfl ?_
  refine pm_getR K fc_9 (o := 0) rfl 26 rfl (by decide) tw_695 d_Md_arrived_1 ?_
  refine pm_iload_n K d_Md_arrived_4 1 rfl rfl ?_
  obtain ⟨q1, hf⟩ := pm_bnd hf
  refine pm_zald K (o := 16) rfl rfl q1 d_Md_arrived_5 (v := w.1 16 x1.toNatClampNeg) rfl ?_
  refine pm_if_eq K d_Md_arrived_6 25 (by decide) (fun c2 => ?_) (fun c2 => ?_)
  · have hf := pm_ift c2 hf
    refine pm_iload_n K d_Md_arrived_25 2 rfl rfl ?_
    refine pm_sub (lv' := [(0, .ref (ad 0)), (1, .int x1)]) [0, 1] rfl ?_
    exact t_Md_arrived_26 K  w'  x1 x2 w hf
  · have hf := pm_iff c2 hf
    refine pm_aload_n K d_Md_arrived_9 0 rfl rfl ?_
    refine pm_ldc K tw_757 d_Md_arrived_10 ?_
    refine pm_aload_n K d_Md_arrived_12 0 rfl rfl ?_
    refine pm_iload_n K d_Md_arrived_13 2 rfl rfl ?_
    refine pm_ldc K tw_662 d_Md_arrived_14 ?_
    obtain ⟨o3, z3, hf⟩ := pm_bind hf
    refine pm_callV (As := [.int x2, .int (536870912 : Int32)]) (rest := [.int (536871010 : Int32), .ref (ad 0)]) (o := 0) K (c_Md_pair K.2.2.2.2.2.2.2.2.2.2.2.2 o3.1 o3.2 x2 (536870912 : Int32) w z3) mi_Md_pair rfl rfl tw_759 tw_55 tw_758 rfl ⟨rfl, rfl, Nat.le_of_ble_eq_true rfl, Nat.le_of_ble_eq_true rfl⟩ rfl (Nat.le_of_ble_eq_true rfl) d_Md_arrived_16 ?_
    obtain ⟨o4, z4, hf⟩ := pm_bind hf
    refine pm_callV (As := [.int (536871010 : Int32), .int o3.1]) (rest := []) (o := 0) K (c_Md_pair K.2.2.2.2.2.2.2.2.2.2.2.2 o4.1 o4.2 (536871010 : Int32) o3.1 o3.2 z4) mi_Md_pair rfl rfl tw_759 tw_55 tw_758 rfl ⟨rfl, rfl, Nat.le_of_ble_eq_true rfl, Nat.le_of_ble_eq_true rfl⟩ rfl (Nat.le_of_ble_eq_true rfl) d_Md_arrived_19 ?_
    refine pm_goto K d_Md_arrived_22 26 (by decide) ?_
    refine pm_sub (lv' := [(0, .ref (ad 0)), (1, .int x1)]) [0, 1] rfl ?_
    exact t_Md_arrived_26 K  w'  x1 o4.1 o4.2 hf
/-- CellLispModel.arrived(II)V -/
theorem c_Md_arrived {l : Launch} {D : va_G} {ca : Nat → ClassId} {ad : Nat → Nat} {E : (Nat → Prop) → State → Heap → Prop} (hEc : pm_Ecl E) (w' : pm_W) (x1 : Int32) (x2 : Int32) (w : pm_W) (hf : f_Md_arrived  x1 x2 w = some w') : pm_Met l pmTs D vwCl (tyl ca) shM ca ad E y_Md_arrived k_Md_arrived 5 none { frames := 2, cells := 0, slots := 0, locals := 47 } [.ref (ad 0), .int x1, .int x2] w (none, w') :=
  pm_start pmTs_good hEc (by decide) (Nat.le_of_ble_eq_true rfl) (fun p e s m below meth c K => t_Md_arrived K w' x1 x2 w hf)
def b_Md_read_15 (rec : Nat → Int32 → Int32 → pm_W → Option pm_W) (x1 : Int32) (x2 : Int32) (w : pm_W) : Option pm_W :=
  if (w.1 0 29) ≤ x2 then
    some w
  else
    if x2 < 0 ∨ 120 ≤ x2.toNatClampNeg then none else
    if (w.1 12 x2.toNatClampNeg) = (39 : Int32) then
      if x1 < 0 ∨ 12 ≤ x1.toNatClampNeg then none else
      Option.bind (f_Md_tokenEnd x2 (pm_setI w 16 x1.toNatClampNeg (vp_nar .boolean (1 : Int32)))) fun o23 =>
      Option.bind (f_Md_skip o23.1 o23.2) fun o24 =>
      rec 0 x1 o24.1 o24.2
    else
      if (w.1 12 x2.toNatClampNeg) = (40 : Int32) then
        if (x1 + (1 : Int32)) < 0 ∨ 12 ≤ (x1 + (1 : Int32)).toNatClampNeg then none else
        if (x1 + (1 : Int32)) < 0 ∨ 12 ≤ (x1 + (1 : Int32)).toNatClampNeg then none else
        if (x1 + (1 : Int32)) < 0 ∨ 12 ≤ (x1 + (1 : Int32)).toNatClampNeg then none else
        Option.bind (f_Md_tokenEnd x2 (pm_setI (pm_setI (pm_setI w 16 (x1 + (1 : Int32)).toNatClampNeg (vp_nar .boolean (0 : Int32))) 14 (x1 + (1 : Int32)).toNatClampNeg (536870912 : Int32)) 15 (x1 + (1 : Int32)).toNatClampNeg (536870912 : Int32))) fun o20 =>
        Option.bind (f_Md_skip o20.1 o20.2) fun o21 =>
        rec 0 (x1 + (1 : Int32)) o21.1 o21.2
      else
        if (w.1 12 x2.toNatClampNeg) = (41 : Int32) then
          if ((x1 + (-1 : Int32)) + (1 : Int32)) < 0 ∨ 12 ≤ ((x1 + (-1 : Int32)) + (1 : Int32)).toNatClampNeg then none else
          Option.bind (f_Md_arrived (x1 + (-1 : Int32)) (w.1 14 ((x1 + (-1 : Int32)) + (1 : Int32)).toNatClampNeg) w) fun o14 =>
          Option.bind (f_Md_tokenEnd x2 o14) fun o15 =>
          Option.bind (f_Md_skip o15.1 o15.2) fun o16 =>
          rec 0 (x1 + (-1 : Int32)) o16.1 o16.2
        else
          Option.bind (f_Md_tokenEnd x2 w) fun o8 =>
          Option.bind (f_Md_atom x2 o8.1 o8.2) fun o9 =>
          Option.bind (f_Md_arrived x1 o9.1 o9.2) fun o10 =>
          Option.bind (f_Md_tokenEnd x2 o10) fun o11 =>
          Option.bind (f_Md_skip o11.1 o11.2) fun o12 =>
          rec 0 x1 o12.1 o12.2
def l_Md_read : Nat → Nat → Int32 → Int32 → pm_W → Option pm_W := pm_it (fun _ _ _ _ => none) (fun rec k x1 x2 w => b_Md_read_15  rec x1 x2 w)
def f_Md_read (w : pm_W) : Option pm_W :=
  if (0 : Int32) < 0 ∨ 12 ≤ (0 : Int32).toNatClampNeg then none else
  Option.bind (f_Md_skip (0 : Int32) (pm_setI w 16 (0 : Int32).toNatClampNeg (vp_nar .boolean (0 : Int32)))) fun o2 =>
  (l_Md_read  pm_fuel) 0 (0 : Int32) o2.1 o2.2
set_option maxHeartbeats 4000000 in
set_option maxRecDepth 100000 in
theorem t_Md_read_15 {p : Program} {l : Launch} {e : Env} {s : State} {m : MethodId} {args : Array Value} {below : List Frame} {meth : Method} {c : Code} {D : va_G} {ca : Nat → ClassId} {ad : Nat → Nat} {E : (Nat → Prop) → State → Heap → Prop} (K : pm_ok p s m args meth c k_Md_read 4 pmTs R_Md D vwCl (tyl ca) shM ad E none) (rec : Nat → Int32 → Int32 → pm_W → Option pm_W) (w' : pm_W) (h15 : ∀ (x1 : Int32) (x2 : Int32) (w : pm_W), rec 0 x1 x2 w = some w' → pm_wk p l e { frames := 3, cells := 0, slots := 0, locals := 71 } s m args below meth c D vwCl shM ca ad 4 (none, w') 15 [(0, .ref (ad 0)), (1, .int x1), (2, .int x2)] [] w) (x1 : Int32) (x2 : Int32) (w : pm_W) (hf : b_Md_read_15  rec x1 x2 w = some w') : pm_wk p l e { frames := 3, cells := 0, slots := 0, locals := 71 } s m args below meth c D vwCl shM ca ad 4 (none, w') 15 [(0, .ref (ad 0)), (1, .int x1), (2, .int x2)] [] w := by
  unfold b_Md_read_15 at hf
  refine pm_iload_n K d_Md_read_15 2 rfl rfl ?_
  refine pm_aload_n K d_Md_read_16 0 rfl rfl ?_
  refine pm_getI K fc_9 (o := 0) rfl 29 rfl (by decide) tw_698 d_Md_read_17 (v := w.1 0 29) rfl ?_
  refine pm_icmp_ge K d_Md_read_20 134 (by decide) (fun c3 => ?_) (fun c3 => ?_)
  · have hf := pm_ift c3 hf
    cases hf
    exact pm_vret K d_Md_read_134
  · have hf := pm_iff c3 hf
    refine pm_aload_n K d_Md_read_23 0 rfl rfl ?_
    refine pm_getR K fc_9 (o := 0) rfl 21 rfl (by decide) tw_690 d_Md_read_24 ?_
    refine pm_iload_n K d_Md_read_27 2 rfl rfl ?_
    obtain ⟨q4, hf⟩ := pm_bnd hf
    refine pm_cald K (o := 12) rfl rfl q4 d_Md_read_28 (v := w.1 12 x2.toNatClampNeg) rfl ?_
    refine pm_istore_n (lv' := [(3, .int (w.1 12 x2.toNatClampNeg)), (0, .ref (ad 0)), (1, .int x1), (2, .int x2)]) K d_Md_read_29 rfl (by decide) rfl ?_
    refine pm_iload_n K d_Md_read_30 0 rfl rfl ?_
    refine pm_bipush (v := 39) K d_Md_read_31 (by decide) ?_
    refine pm_icmp_ne K d_Md_read_33 46 (by decide) (fun c5 => ?_) (fun c5 => ?_)
    · have hf := pm_iff c5 hf
      refine pm_iload_n K d_Md_read_46 0 rfl rfl ?_
      refine pm_bipush (v := 40) K d_Md_read_47 (by decide) ?_
      refine pm_icmp_ne K d_Md_read_49 81 (by decide) (fun c6 => ?_) (fun c6 => ?_)
      · have hf := pm_iff c6 hf
        refine pm_iload_n K d_Md_read_81 0 rfl rfl ?_
        refine pm_bipush (v := 41) K d_Md_read_82 (by decide) ?_
        refine pm_icmp_ne K d_Md_read_84 106 (by decide) (fun c7 => ?_) (fun c7 => ?_)
        · have hf := pm_iff c7 hf
          refine pm_aload_n K d_Md_read_106 1 rfl rfl ?_
          refine pm_iload_n K d_Md_read_107 2 rfl rfl ?_
          refine pm_aload_n K d_Md_read_108 1 rfl rfl ?_
          refine pm_iload_n K d_Md_read_109 3 rfl rfl ?_
          refine pm_aload_n K d_Md_read_110 1 rfl rfl ?_
          refine pm_iload_n K d_Md_read_111 3 rfl rfl ?_
          obtain ⟨o8, z8, hf⟩ := pm_bind hf
          refine pm_callV (As := [.int x2]) (rest := [.int x2, .ref (ad 0), .int x1, .ref (ad 0)]) (o := 0) K (c_Md_tokenEnd K.2.2.2.2.2.2.2.2.2.2.2.2 o8.1 o8.2 x2 w z8) mi_Md_tokenEnd rfl rfl tw_721 tw_45 tw_720 rfl ⟨rfl, rfl, Nat.le_of_ble_eq_true rfl, Nat.le_of_ble_eq_true rfl⟩ rfl (Nat.le_of_ble_eq_true rfl) d_Md_read_112 ?_
          obtain ⟨o9, z9, hf⟩ := pm_bind hf
          refine pm_callV (As := [.int x2, .int o8.1]) (rest := [.int x1, .ref (ad 0)]) (o := 0) K (c_Md_atom K.2.2.2.2.2.2.2.2.2.2.2.2 o9.1 o9.2 x2 o8.1 o8.2 z9) mi_Md_atom rfl rfl tw_765 tw_57 tw_764 rfl ⟨rfl, rfl, Nat.le_of_ble_eq_true rfl, Nat.le_of_ble_eq_true rfl⟩ rfl (Nat.le_of_ble_eq_true rfl) d_Md_read_115 ?_
          obtain ⟨o10, z10, hf⟩ := pm_bind hf
          refine pm_callV (As := [.int x1, .int o9.1]) (rest := []) (o := 0) K (c_Md_arrived K.2.2.2.2.2.2.2.2.2.2.2.2 o10 x1 o9.1 o9.2 z10) mi_Md_arrived rfl rfl tw_755 tw_54 tw_754 rfl ⟨rfl, rfl, Nat.le_of_ble_eq_true rfl, Nat.le_of_ble_eq_true rfl⟩ rfl (Nat.le_of_ble_eq_true rfl) d_Md_read_118 ?_
          refine pm_aload_n K d_Md_read_121 1 rfl rfl ?_
          refine pm_aload_n K d_Md_read_122 1 rfl rfl ?_
          refine pm_iload_n K d_Md_read_123 3 rfl rfl ?_
          obtain ⟨o11, z11, hf⟩ := pm_bind hf
          refine pm_callV (As := [.int x2]) (rest := [.ref (ad 0)]) (o := 0) K (c_Md_tokenEnd K.2.2.2.2.2.2.2.2.2.2.2.2 o11.1 o11.2 x2 o10 z11) mi_Md_tokenEnd rfl rfl tw_721 tw_45 tw_720 rfl ⟨rfl, rfl, Nat.le_of_ble_eq_true rfl, Nat.le_of_ble_eq_true rfl⟩ rfl (Nat.le_of_ble_eq_true rfl) d_Md_read_124 ?_
          obtain ⟨o12, z12, hf⟩ := pm_bind hf
          refine pm_callV (As := [.int o11.1]) (rest := []) (o := 0) K (c_Md_skip K.2.2.2.2.2.2.2.2.2.2.2.2 o12.1 o12.2 o11.1 o11.2 z12) mi_Md_skip rfl rfl tw_715 tw_44 tw_714 rfl ⟨rfl, rfl, Nat.le_of_ble_eq_true rfl, Nat.le_of_ble_eq_true rfl⟩ rfl (Nat.le_of_ble_eq_true rfl) d_Md_read_127 ?_
          refine pm_istore_n (lv' := [(2, .int o12.1), (3, .int (w.1 12 x2.toNatClampNeg)), (0, .ref (ad 0)), (1, .int x1)]) K d_Md_read_130 rfl (by decide) rfl ?_
          refine pm_goto K d_Md_read_131 15 (by decide) ?_
          refine pm_sub (lv' := [(0, .ref (ad 0)), (1, .int x1), (2, .int o12.1)]) [2, 3, 0] rfl ?_
          exact h15 x1 o12.1 o12.2 hf
        · have hf := pm_ift c7 hf
          refine pm_iinc (v := x1 + (-1 : Int32)) (lv' := [(1, .int (x1 + (-1 : Int32))), (3, .int (w.1 12 x2.toNatClampNeg)), (0, .ref (ad 0)), (2, .int x2)]) K d_Md_read_87 2 rfl rfl (by decide) rfl ?_
          refine pm_aload_n K d_Md_read_90 2 rfl rfl ?_
          refine pm_iload_n K d_Md_read_91 0 rfl rfl ?_
          refine pm_aload_n K d_Md_read_92 2 rfl rfl ?_
          refine pm_getR K fc_9 (o := 0) rfl 24 rfl (by decide) tw_693 d_Md_read_93 ?_
          refine pm_iload_n K d_Md_read_96 0 rfl rfl ?_
          refine pm_iconst (v := 1) K d_Md_read_97 (by decide) ?_
          refine pm_iadd K d_Md_read_98 ?_
          obtain ⟨q13, hf⟩ := pm_bnd hf
          refine pm_iald K (o := 14) rfl rfl q13 d_Md_read_99 (v := w.1 14 ((x1 + (-1 : Int32)) + (1 : Int32)).toNatClampNeg) rfl ?_
          obtain ⟨o14, z14, hf⟩ := pm_bind hf
          refine pm_callV (As := [.int (x1 + (-1 : Int32)), .int (w.1 14 ((x1 + (-1 : Int32)) + (1 : Int32)).toNatClampNeg)]) (rest := []) (o := 0) K (c_Md_arrived K.2.2.2.2.2.2.2.2.2.2.2.2 o14 (x1 + (-1 : Int32)) (w.1 14 ((x1 + (-1 : Int32)) + (1 : Int32)).toNatClampNeg) w z14) mi_Md_arrived rfl rfl tw_755 tw_54 tw_754 rfl ⟨rfl, rfl, Nat.le_of_ble_eq_true rfl, Nat.le_of_ble_eq_true rfl⟩ rfl (Nat.le_of_ble_eq_true rfl) d_Md_read_100 ?_
          refine pm_goto K d_Md_read_103 121 (by decide) ?_
          refine pm_aload_n K d_Md_read_121 2 rfl rfl ?_
          refine pm_aload_n K d_Md_read_122 2 rfl rfl ?_
          refine pm_iload_n K d_Md_read_123 3 rfl rfl ?_
          obtain ⟨o15, z15, hf⟩ := pm_bind hf
          refine pm_callV (As := [.int x2]) (rest := [.ref (ad 0)]) (o := 0) K (c_Md_tokenEnd K.2.2.2.2.2.2.2.2.2.2.2.2 o15.1 o15.2 x2 o14 z15) mi_Md_tokenEnd rfl rfl tw_721 tw_45 tw_720 rfl ⟨rfl, rfl, Nat.le_of_ble_eq_true rfl, Nat.le_of_ble_eq_true rfl⟩ rfl (Nat.le_of_ble_eq_true rfl) d_Md_read_124 ?_
          obtain ⟨o16, z16, hf⟩ := pm_bind hf
          refine pm_callV (As := [.int o15.1]) (rest := []) (o := 0) K (c_Md_skip K.2.2.2.2.2.2.2.2.2.2.2.2 o16.1 o16.2 o15.1 o15.2 z16) mi_Md_skip rfl rfl tw_715 tw_44 tw_714 rfl ⟨rfl, rfl, Nat.le_of_ble_eq_true rfl, Nat.le_of_ble_eq_true rfl⟩ rfl (Nat.le_of_ble_eq_true rfl) d_Md_read_127 ?_
          refine pm_istore_n (lv' := [(2, .int o16.1), (1, .int (x1 + (-1 : Int32))), (3, .int (w.1 12 x2.toNatClampNeg)), (0, .ref (ad 0))]) K d_Md_read_130 rfl (by decide) rfl ?_
          refine pm_goto K d_Md_read_131 15 (by decide) ?_
          refine pm_sub (lv' := [(0, .ref (ad 0)), (1, .int (x1 + (-1 : Int32))), (2, .int o16.1)]) [3, 1, 0] rfl ?_
          exact h15 (x1 + (-1 : Int32)) o16.1 o16.2 hf
      · have hf := pm_ift c6 hf
        refine pm_iinc (v := x1 + (1 : Int32)) (lv' := [(1, .int (x1 + (1 : Int32))), (3, .int (w.1 12 x2.toNatClampNeg)), (0, .ref (ad 0)), (2, .int x2)]) K d_Md_read_52 2 rfl rfl (by decide) rfl ?_
        refine pm_aload_n K d_Md_read_55 2 rfl rfl ?_
        refine pm_getR K fc_9 (o := 0) rfl 26 rfl (by decide) tw_695 d_Md_read_56 ?_
        refine pm_iload_n K d_Md_read_59 0 rfl rfl ?_
        refine pm_iconst (v := 0) K d_Md_read_60 (by decide) ?_
        obtain ⟨q17, hf⟩ := pm_bnd hf
        refine pm_zast K (o := 16) rfl rfl q17 d_Md_read_61 ?_
        refine pm_aload_n K d_Md_read_62 2 rfl rfl ?_
        refine pm_getR K fc_9 (o := 0) rfl 24 rfl (by decide) tw_693 d_Md_read_63 ?_
        refine pm_iload_n K d_Md_read_66 0 rfl rfl ?_
        refine pm_ldc K tw_662 d_Md_read_67 ?_
        obtain ⟨q18, hf⟩ := pm_bnd hf
        refine pm_iast K (o := 14) rfl rfl q18 d_Md_read_69 ?_
        refine pm_aload_n K d_Md_read_70 2 rfl rfl ?_
        refine pm_getR K fc_9 (o := 0) rfl 25 rfl (by decide) tw_694 d_Md_read_71 ?_
        refine pm_iload_n K d_Md_read_74 0 rfl rfl ?_
        refine pm_ldc K tw_662 d_Md_read_75 ?_
        obtain ⟨q19, hf⟩ := pm_bnd hf
        refine pm_iast K (o := 15) rfl rfl q19 d_Md_read_77 ?_
        refine pm_goto K d_Md_read_78 121 (by decide) ?_
        refine pm_aload_n K d_Md_read_121 2 rfl rfl ?_
        refine pm_aload_n K d_Md_read_122 2 rfl rfl ?_
        refine pm_iload_n K d_Md_read_123 3 rfl rfl ?_
        obtain ⟨o20, z20, hf⟩ := pm_bind hf
        refine pm_callV (As := [.int x2]) (rest := [.ref (ad 0)]) (o := 0) K (c_Md_tokenEnd K.2.2.2.2.2.2.2.2.2.2.2.2 o20.1 o20.2 x2 (pm_setI (pm_setI (pm_setI w 16 (x1 + (1 : Int32)).toNatClampNeg (vp_nar .boolean (0 : Int32))) 14 (x1 + (1 : Int32)).toNatClampNeg (536870912 : Int32)) 15 (x1 + (1 : Int32)).toNatClampNeg (536870912 : Int32)) z20) mi_Md_tokenEnd rfl rfl tw_721 tw_45 tw_720 rfl ⟨rfl, rfl, Nat.le_of_ble_eq_true rfl, Nat.le_of_ble_eq_true rfl⟩ rfl (Nat.le_of_ble_eq_true rfl) d_Md_read_124 ?_
        obtain ⟨o21, z21, hf⟩ := pm_bind hf
        refine pm_callV (As := [.int o20.1]) (rest := []) (o := 0) K (c_Md_skip K.2.2.2.2.2.2.2.2.2.2.2.2 o21.1 o21.2 o20.1 o20.2 z21) mi_Md_skip rfl rfl tw_715 tw_44 tw_714 rfl ⟨rfl, rfl, Nat.le_of_ble_eq_true rfl, Nat.le_of_ble_eq_true rfl⟩ rfl (Nat.le_of_ble_eq_true rfl) d_Md_read_127 ?_
        refine pm_istore_n (lv' := [(2, .int o21.1), (1, .int (x1 + (1 : Int32))), (3, .int (w.1 12 x2.toNatClampNeg)), (0, .ref (ad 0))]) K d_Md_read_130 rfl (by decide) rfl ?_
        refine pm_goto K d_Md_read_131 15 (by decide) ?_
        refine pm_sub (lv' := [(0, .ref (ad 0)), (1, .int (x1 + (1 : Int32))), (2, .int o21.1)]) [3, 1, 0] rfl ?_
        exact h15 (x1 + (1 : Int32)) o21.1 o21.2 hf
    · have hf := pm_ift c5 hf
      refine pm_aload_n K d_Md_read_36 1 rfl rfl ?_
      refine pm_getR K fc_9 (o := 0) rfl 26 rfl (by decide) tw_695 d_Md_read_37 ?_
      refine pm_iload_n K d_Md_read_40 2 rfl rfl ?_
      refine pm_iconst (v := 1) K d_Md_read_41 (by decide) ?_
      obtain ⟨q22, hf⟩ := pm_bnd hf
      refine pm_zast K (o := 16) rfl rfl q22 d_Md_read_42 ?_
      refine pm_goto K d_Md_read_43 121 (by decide) ?_
      refine pm_aload_n K d_Md_read_121 1 rfl rfl ?_
      refine pm_aload_n K d_Md_read_122 1 rfl rfl ?_
      refine pm_iload_n K d_Md_read_123 3 rfl rfl ?_
      obtain ⟨o23, z23, hf⟩ := pm_bind hf
      refine pm_callV (As := [.int x2]) (rest := [.ref (ad 0)]) (o := 0) K (c_Md_tokenEnd K.2.2.2.2.2.2.2.2.2.2.2.2 o23.1 o23.2 x2 (pm_setI w 16 x1.toNatClampNeg (vp_nar .boolean (1 : Int32))) z23) mi_Md_tokenEnd rfl rfl tw_721 tw_45 tw_720 rfl ⟨rfl, rfl, Nat.le_of_ble_eq_true rfl, Nat.le_of_ble_eq_true rfl⟩ rfl (Nat.le_of_ble_eq_true rfl) d_Md_read_124 ?_
      obtain ⟨o24, z24, hf⟩ := pm_bind hf
      refine pm_callV (As := [.int o23.1]) (rest := []) (o := 0) K (c_Md_skip K.2.2.2.2.2.2.2.2.2.2.2.2 o24.1 o24.2 o23.1 o23.2 z24) mi_Md_skip rfl rfl tw_715 tw_44 tw_714 rfl ⟨rfl, rfl, Nat.le_of_ble_eq_true rfl, Nat.le_of_ble_eq_true rfl⟩ rfl (Nat.le_of_ble_eq_true rfl) d_Md_read_127 ?_
      refine pm_istore_n (lv' := [(2, .int o24.1), (3, .int (w.1 12 x2.toNatClampNeg)), (0, .ref (ad 0)), (1, .int x1)]) K d_Md_read_130 rfl (by decide) rfl ?_
      refine pm_goto K d_Md_read_131 15 (by decide) ?_
      refine pm_sub (lv' := [(0, .ref (ad 0)), (1, .int x1), (2, .int o24.1)]) [2, 3, 0] rfl ?_
      exact h15 x1 o24.1 o24.2 hf
set_option maxHeartbeats 4000000 in
set_option maxRecDepth 100000 in
theorem a_Md_read {p : Program} {l : Launch} {e : Env} {s : State} {m : MethodId} {args : Array Value} {below : List Frame} {meth : Method} {c : Code} {D : va_G} {ca : Nat → ClassId} {ad : Nat → Nat} {E : (Nat → Prop) → State → Heap → Prop} (K : pm_ok p s m args meth c k_Md_read 4 pmTs R_Md D vwCl (tyl ca) shM ad E none) (w' : pm_W) : ∀ n : Nat, (∀ (x1 : Int32) (x2 : Int32) (w : pm_W), l_Md_read  n 0 x1 x2 w = some w' → pm_wk p l e { frames := 3, cells := 0, slots := 0, locals := 71 } s m args below meth c D vwCl shM ca ad 4 (none, w') 15 [(0, .ref (ad 0)), (1, .int x1), (2, .int x2)] [] w) := by
  intro n
  induction n with
  | zero => exact fun _ _ _ hf => (by cases hf)
  | succ n ih => exact fun x1 x2 w hf => t_Md_read_15 K (l_Md_read n) w' (ih) x1 x2 w hf
set_option maxHeartbeats 4000000 in
set_option maxRecDepth 100000 in
theorem t_Md_read {p : Program} {l : Launch} {e : Env} {s : State} {m : MethodId} {args : Array Value} {below : List Frame} {meth : Method} {c : Code} {D : va_G} {ca : Nat → ClassId} {ad : Nat → Nat} {E : (Nat → Prop) → State → Heap → Prop} (K : pm_ok p s m args meth c k_Md_read 4 pmTs R_Md D vwCl (tyl ca) shM ad E none) (w' : pm_W) (w : pm_W) (hf : f_Md_read  w = some w') : pm_wk p l e { frames := 3, cells := 0, slots := 0, locals := 71 } s m args below meth c D vwCl shM ca ad 4 (none, w') 0 [(0, .ref (ad 0))] [] w := by
  unfold f_Md_read at hf
  have h15 := (a_Md_read (l := l) (e := e) (below := below) K  w' pm_fuel)
  refine pm_iconst (v := 0) K d_Md_read_0 (by decide) ?_
  refine pm_istore_n (lv' := [(1, .int (0 : Int32)), (0, .ref (ad 0))]) K d_Md_read_1 rfl (by decide) rfl ?_
  refine pm_aload_n K d_Md_read_2 1 rfl rfl ?_
  refine pm_getR K fc_9 (o := 0) rfl 26 rfl (by decide) tw_695 d_Md_read_3 ?_
  refine pm_iconst (v := 0) K d_Md_read_6 (by decide) ?_
  refine pm_iconst (v := 0) K d_Md_read_7 (by decide) ?_
  obtain ⟨q1, hf⟩ := pm_bnd hf
  refine pm_zast K (o := 16) rfl rfl q1 d_Md_read_8 ?_
  refine pm_aload_n K d_Md_read_9 1 rfl rfl ?_
  refine pm_iconst (v := 0) K d_Md_read_10 (by decide) ?_
  obtain ⟨o2, z2, hf⟩ := pm_bind hf
  refine pm_callV (As := [.int (0 : Int32)]) (rest := []) (o := 0) K (c_Md_skip K.2.2.2.2.2.2.2.2.2.2.2.2 o2.1 o2.2 (0 : Int32) (pm_setI w 16 (0 : Int32).toNatClampNeg (vp_nar .boolean (0 : Int32))) z2) mi_Md_skip rfl rfl tw_715 tw_44 tw_714 rfl ⟨rfl, rfl, Nat.le_of_ble_eq_true rfl, Nat.le_of_ble_eq_true rfl⟩ rfl (Nat.le_of_ble_eq_true rfl) d_Md_read_11 ?_
  refine pm_istore_n (lv' := [(2, .int o2.1), (1, .int (0 : Int32)), (0, .ref (ad 0))]) K d_Md_read_14 rfl (by decide) rfl ?_
  refine pm_sub (lv' := [(0, .ref (ad 0)), (1, .int (0 : Int32)), (2, .int o2.1)]) [2, 1, 0] rfl ?_
  exact h15 (0 : Int32) o2.1 o2.2 hf
/-- CellLispModel.read()V -/
theorem c_Md_read {l : Launch} {D : va_G} {ca : Nat → ClassId} {ad : Nat → Nat} {E : (Nat → Prop) → State → Heap → Prop} (hEc : pm_Ecl E) (w' : pm_W) (w : pm_W) (hf : f_Md_read  w = some w') : pm_Met l pmTs D vwCl (tyl ca) shM ca ad E y_Md_read k_Md_read 4 none { frames := 3, cells := 0, slots := 0, locals := 71 } [.ref (ad 0)] w (none, w') :=
  pm_start pmTs_good hEc (by decide) (Nat.le_of_ble_eq_true rfl) (fun p e s m below meth c K => t_Md_read K w'  w hf)
def b_Md_reading_122 (rec : Nat → Int32 → Int32 → Int32 → pm_W → Option (Int32 × pm_W)) (s0 : Int32) (w : pm_W) : Option (Int32 × pm_W) :=
  if s0 = (1 : Int32) then
    Option.bind (f_Md_read w) fun o31 =>
    Option.bind (f_Md_drop (o31.1 0 29) o31) fun o32 =>
    if s0 = (1 : Int32) then
      some (s0, pm_setI (pm_setI o32 0 17 (1 : Int32)) 0 18 (0 : Int32))
    else
      some (s0, pm_setI (pm_setI o32 0 17 (0 : Int32)) 0 18 (0 : Int32))
  else
    Option.bind (f_Md_drop (w.1 0 29) w) fun o29 =>
    if s0 = (1 : Int32) then
      some (s0, pm_setI (pm_setI o29 0 17 (1 : Int32)) 0 18 (0 : Int32))
    else
      some (s0, pm_setI (pm_setI o29 0 17 (0 : Int32)) 0 18 (0 : Int32))
def b_Md_reading_32 (rec : Nat → Int32 → Int32 → Int32 → pm_W → Option (Int32 × pm_W)) (x1 : Int32) (x2 : Int32) (x3 : Int32) (w : pm_W) : Option (Int32 × pm_W) :=
  if (w.1 0 29) ≤ x3 then
    if 0 ≤ x1 then
      if x2 = 0 then
        b_Md_reading_122  rec (-8 : Int32) w
      else
        Option.bind (f_Md_room (w.1 0 30) w) fun o9 =>
        if o9.1 = 0 then
          b_Md_reading_122  rec (-7 : Int32) o9.2
        else
          b_Md_reading_122  rec (1 : Int32) o9.2
    else
      b_Md_reading_122  rec (-1 : Int32) w
  else
    if x2 = 0 then
      if 0 ≤ x1 then
        if x2 = 0 then
          b_Md_reading_122  rec (-8 : Int32) w
        else
          Option.bind (f_Md_room (w.1 0 30) w) fun o14 =>
          if o14.1 = 0 then
            b_Md_reading_122  rec (-7 : Int32) o14.2
          else
            b_Md_reading_122  rec (1 : Int32) o14.2
      else
        b_Md_reading_122  rec (-1 : Int32) w
    else
      if x3 < 0 ∨ 120 ≤ x3.toNatClampNeg then none else
      Option.bind (f_Md_isSign (w.1 12 x3.toNatClampNeg) w) fun o17 =>
      if o17.1 = 0 then
        Option.bind (f_Md_tokenEnd x3 o17.2) fun o21 =>
        Option.bind (f_Md_meet x3 o21.1 o21.2) fun o22 =>
        if o22.1 = 0 then
          Option.bind (f_Md_tokenEnd x3 o22.2) fun o24 =>
          Option.bind (f_Md_skip o24.1 o24.2) fun o25 =>
          rec 0 x1 (0 : Int32) o25.1 o25.2
        else
          Option.bind (f_Md_tokenEnd x3 o22.2) fun o26 =>
          Option.bind (f_Md_skip o26.1 o26.2) fun o27 =>
          rec 0 x1 (1 : Int32) o27.1 o27.2
      else
        Option.bind (f_Md_tokenEnd x3 o17.2) fun o19 =>
        Option.bind (f_Md_skip o19.1 o19.2) fun o20 =>
        rec 0 x1 (1 : Int32) o20.1 o20.2
def l_Md_reading : Nat → Nat → Int32 → Int32 → Int32 → pm_W → Option (Int32 × pm_W) := pm_it (fun _ _ _ _ _ => none) (fun rec k x1 x2 x3 w => b_Md_reading_32  rec x1 x2 x3 w)
def f_Md_reading (w : pm_W) : Option (Int32 × pm_W) :=
  Option.bind (f_Md_lookOver w) fun o1 =>
  if o1.1 = 0 then
    some ((2 : Int32), o1.2)
  else
    if o1.1 ≤ 0 then
      Option.bind (f_Md_skip (0 : Int32) (pm_setI o1.2 0 19 (1 : Int32))) fun o4 =>
      (l_Md_reading  pm_fuel) 0 o1.1 (0 : Int32) o4.1 o4.2
    else
      Option.bind (f_Md_skip (0 : Int32) (pm_setI o1.2 0 19 (1 : Int32))) fun o5 =>
      (l_Md_reading  pm_fuel) 0 o1.1 (1 : Int32) o5.1 o5.2
set_option maxHeartbeats 4000000 in
set_option maxRecDepth 100000 in
theorem t_Md_reading_122 {p : Program} {l : Launch} {e : Env} {s : State} {m : MethodId} {args : Array Value} {below : List Frame} {meth : Method} {c : Code} {D : va_G} {ca : Nat → ClassId} {ad : Nat → Nat} {E : (Nat → Prop) → State → Heap → Prop} (K : pm_ok p s m args meth c k_Md_reading 4 pmTs R_Md D vwCl (tyl ca) shM ad E (some .int)) (rec : Nat → Int32 → Int32 → Int32 → pm_W → Option (Int32 × pm_W)) (r : Int32) (w' : pm_W) (h32 : ∀ (x1 : Int32) (x2 : Int32) (x3 : Int32) (w : pm_W), rec 0 x1 x2 x3 w = some (r, w') → pm_wk p l e { frames := 4, cells := 0, slots := 0, locals := 94 } s m args below meth c D vwCl shM ca ad 4 (some (.int r), w') 32 [(0, .ref (ad 0)), (1, .int x1), (2, .int x2), (3, .int x3)] [] w) (s0 : Int32) (w : pm_W) (hf : b_Md_reading_122  rec s0 w = some (r, w')) : pm_wk p l e { frames := 4, cells := 0, slots := 0, locals := 94 } s m args below meth c D vwCl shM ca ad 4 (some (.int r), w') 122 [(0, .ref (ad 0))] [.int s0] w := by
  unfold b_Md_reading_122 at hf
  refine pm_istore_n (lv' := [(3, .int s0), (0, .ref (ad 0))]) K d_Md_reading_122 rfl (by decide) rfl ?_
  refine pm_iload_n K d_Md_reading_123 0 rfl rfl ?_
  refine pm_iconst (v := 1) K d_Md_reading_124 (by decide) ?_
  refine pm_icmp_ne K d_Md_reading_125 132 (by decide) (fun c28 => ?_) (fun c28 => ?_)
  · have hf := pm_iff c28 hf
    refine pm_aload_n K d_Md_reading_132 1 rfl rfl ?_
    refine pm_aload_n K d_Md_reading_133 1 rfl rfl ?_
    refine pm_getI K fc_9 (o := 0) rfl 29 rfl (by decide) tw_698 d_Md_reading_134 (v := w.1 0 29) rfl ?_
    obtain ⟨o29, z29, hf⟩ := pm_bind hf
    refine pm_callV (As := [.int (w.1 0 29)]) (rest := []) (o := 0) K (c_Md_drop K.2.2.2.2.2.2.2.2.2.2.2.2 o29 (w.1 0 29) w z29) mi_Md_drop rfl rfl tw_775 tw_59 tw_774 rfl ⟨rfl, rfl, Nat.le_of_ble_eq_true rfl, Nat.le_of_ble_eq_true rfl⟩ rfl (Nat.le_of_ble_eq_true rfl) d_Md_reading_137 ?_
    refine pm_aload_n K d_Md_reading_140 1 rfl rfl ?_
    refine pm_iload_n K d_Md_reading_141 0 rfl rfl ?_
    refine pm_iconst (v := 1) K d_Md_reading_142 (by decide) ?_
    refine pm_icmp_ne K d_Md_reading_143 150 (by decide) (fun c30 => ?_) (fun c30 => ?_)
    · have hf := pm_iff c30 hf
      refine pm_iconst (v := 0) K d_Md_reading_150 (by decide) ?_
      refine pm_putI K fc_9 (o := 0) (ty := .boolean) rfl 17 rfl (by decide) tw_686 rfl rfl (by decide) (by decide) d_Md_reading_151 ?_
      refine pm_aload_n K d_Md_reading_154 1 rfl rfl ?_
      refine pm_iconst (v := 0) K d_Md_reading_155 (by decide) ?_
      refine pm_putI K fc_9 (o := 0) (ty := .boolean) rfl 18 rfl (by decide) tw_687 rfl rfl (by decide) (by decide) d_Md_reading_156 ?_
      refine pm_iload_n K d_Md_reading_159 0 rfl rfl ?_
      cases hf
      exact pm_iret K d_Md_reading_160
    · have hf := pm_ift c30 hf
      refine pm_iconst (v := 1) K d_Md_reading_146 (by decide) ?_
      refine pm_goto K d_Md_reading_147 151 (by decide) ?_
      refine pm_putI K fc_9 (o := 0) (ty := .boolean) rfl 17 rfl (by decide) tw_686 rfl rfl (by decide) (by decide) d_Md_reading_151 ?_
      refine pm_aload_n K d_Md_reading_154 1 rfl rfl ?_
      refine pm_iconst (v := 0) K d_Md_reading_155 (by decide) ?_
      refine pm_putI K fc_9 (o := 0) (ty := .boolean) rfl 18 rfl (by decide) tw_687 rfl rfl (by decide) (by decide) d_Md_reading_156 ?_
      refine pm_iload_n K d_Md_reading_159 0 rfl rfl ?_
      cases hf
      exact pm_iret K d_Md_reading_160
  · have hf := pm_ift c28 hf
    refine pm_aload_n K d_Md_reading_128 1 rfl rfl ?_
    obtain ⟨o31, z31, hf⟩ := pm_bind hf
    refine pm_callV (As := []) (rest := []) (o := 0) K (c_Md_read K.2.2.2.2.2.2.2.2.2.2.2.2 o31 w z31) mi_Md_read rfl rfl tw_752 tw_53 tw_751 rfl ⟨rfl, rfl, Nat.le_of_ble_eq_true rfl, Nat.le_of_ble_eq_true rfl⟩ rfl (Nat.le_of_ble_eq_true rfl) d_Md_reading_129 ?_
    refine pm_aload_n K d_Md_reading_132 1 rfl rfl ?_
    refine pm_aload_n K d_Md_reading_133 1 rfl rfl ?_
    refine pm_getI K fc_9 (o := 0) rfl 29 rfl (by decide) tw_698 d_Md_reading_134 (v := o31.1 0 29) rfl ?_
    obtain ⟨o32, z32, hf⟩ := pm_bind hf
    refine pm_callV (As := [.int (o31.1 0 29)]) (rest := []) (o := 0) K (c_Md_drop K.2.2.2.2.2.2.2.2.2.2.2.2 o32 (o31.1 0 29) o31 z32) mi_Md_drop rfl rfl tw_775 tw_59 tw_774 rfl ⟨rfl, rfl, Nat.le_of_ble_eq_true rfl, Nat.le_of_ble_eq_true rfl⟩ rfl (Nat.le_of_ble_eq_true rfl) d_Md_reading_137 ?_
    refine pm_aload_n K d_Md_reading_140 1 rfl rfl ?_
    refine pm_iload_n K d_Md_reading_141 0 rfl rfl ?_
    refine pm_iconst (v := 1) K d_Md_reading_142 (by decide) ?_
    refine pm_icmp_ne K d_Md_reading_143 150 (by decide) (fun c33 => ?_) (fun c33 => ?_)
    · have hf := pm_iff c33 hf
      refine pm_iconst (v := 0) K d_Md_reading_150 (by decide) ?_
      refine pm_putI K fc_9 (o := 0) (ty := .boolean) rfl 17 rfl (by decide) tw_686 rfl rfl (by decide) (by decide) d_Md_reading_151 ?_
      refine pm_aload_n K d_Md_reading_154 1 rfl rfl ?_
      refine pm_iconst (v := 0) K d_Md_reading_155 (by decide) ?_
      refine pm_putI K fc_9 (o := 0) (ty := .boolean) rfl 18 rfl (by decide) tw_687 rfl rfl (by decide) (by decide) d_Md_reading_156 ?_
      refine pm_iload_n K d_Md_reading_159 0 rfl rfl ?_
      cases hf
      exact pm_iret K d_Md_reading_160
    · have hf := pm_ift c33 hf
      refine pm_iconst (v := 1) K d_Md_reading_146 (by decide) ?_
      refine pm_goto K d_Md_reading_147 151 (by decide) ?_
      refine pm_putI K fc_9 (o := 0) (ty := .boolean) rfl 17 rfl (by decide) tw_686 rfl rfl (by decide) (by decide) d_Md_reading_151 ?_
      refine pm_aload_n K d_Md_reading_154 1 rfl rfl ?_
      refine pm_iconst (v := 0) K d_Md_reading_155 (by decide) ?_
      refine pm_putI K fc_9 (o := 0) (ty := .boolean) rfl 18 rfl (by decide) tw_687 rfl rfl (by decide) (by decide) d_Md_reading_156 ?_
      refine pm_iload_n K d_Md_reading_159 0 rfl rfl ?_
      cases hf
      exact pm_iret K d_Md_reading_160
set_option maxHeartbeats 4000000 in
set_option maxRecDepth 100000 in
theorem t_Md_reading_32 {p : Program} {l : Launch} {e : Env} {s : State} {m : MethodId} {args : Array Value} {below : List Frame} {meth : Method} {c : Code} {D : va_G} {ca : Nat → ClassId} {ad : Nat → Nat} {E : (Nat → Prop) → State → Heap → Prop} (K : pm_ok p s m args meth c k_Md_reading 4 pmTs R_Md D vwCl (tyl ca) shM ad E (some .int)) (rec : Nat → Int32 → Int32 → Int32 → pm_W → Option (Int32 × pm_W)) (r : Int32) (w' : pm_W) (h32 : ∀ (x1 : Int32) (x2 : Int32) (x3 : Int32) (w : pm_W), rec 0 x1 x2 x3 w = some (r, w') → pm_wk p l e { frames := 4, cells := 0, slots := 0, locals := 94 } s m args below meth c D vwCl shM ca ad 4 (some (.int r), w') 32 [(0, .ref (ad 0)), (1, .int x1), (2, .int x2), (3, .int x3)] [] w) (x1 : Int32) (x2 : Int32) (x3 : Int32) (w : pm_W) (hf : b_Md_reading_32  rec x1 x2 x3 w = some (r, w')) : pm_wk p l e { frames := 4, cells := 0, slots := 0, locals := 94 } s m args below meth c D vwCl shM ca ad 4 (some (.int r), w') 32 [(0, .ref (ad 0)), (1, .int x1), (2, .int x2), (3, .int x3)] [] w := by
  unfold b_Md_reading_32 at hf
  refine pm_iload_n K d_Md_reading_32 3 rfl rfl ?_
  refine pm_aload_n K d_Md_reading_33 0 rfl rfl ?_
  refine pm_getI K fc_9 (o := 0) rfl 29 rfl (by decide) tw_698 d_Md_reading_34 (v := w.1 0 29) rfl ?_
  refine pm_icmp_ge K d_Md_reading_37 88 (by decide) (fun c6 => ?_) (fun c6 => ?_)
  · have hf := pm_ift c6 hf
    refine pm_iload_n K d_Md_reading_88 1 rfl rfl ?_
    refine pm_if_ge K d_Md_reading_89 96 (by decide) (fun c7 => ?_) (fun c7 => ?_)
    · have hf := pm_ift c7 hf
      refine pm_iload_n K d_Md_reading_96 2 rfl rfl ?_
      refine pm_if_ne K d_Md_reading_97 105 (by decide) (fun c8 => ?_) (fun c8 => ?_)
      · have hf := pm_iff c8 hf
        refine pm_aload_n K d_Md_reading_105 0 rfl rfl ?_
        refine pm_aload_n K d_Md_reading_106 0 rfl rfl ?_
        refine pm_getI K fc_9 (o := 0) rfl 30 rfl (by decide) tw_699 d_Md_reading_107 (v := w.1 0 30) rfl ?_
        obtain ⟨o9, z9, hf⟩ := pm_bind hf
        refine pm_callV (As := [.int (w.1 0 30)]) (rest := []) (o := 0) K (c_Md_room K.2.2.2.2.2.2.2.2.2.2.2.2 o9.1 o9.2 (w.1 0 30) w z9) mi_Md_room rfl rfl tw_739 tw_50 tw_738 rfl ⟨rfl, rfl, Nat.le_of_ble_eq_true rfl, Nat.le_of_ble_eq_true rfl⟩ rfl (Nat.le_of_ble_eq_true rfl) d_Md_reading_110 ?_
        refine pm_if_eq K d_Md_reading_113 120 (by decide) (fun c10 => ?_) (fun c10 => ?_)
        · have hf := pm_ift c10 hf
          refine pm_bipush (v := -7) K d_Md_reading_120 (by decide) ?_
          refine pm_sub (lv' := [(0, .ref (ad 0))]) [0] rfl ?_
          exact t_Md_reading_122 K  rec r w' h32 (-7 : Int32) o9.2 hf
        · have hf := pm_iff c10 hf
          refine pm_iconst (v := 1) K d_Md_reading_116 (by decide) ?_
          refine pm_goto K d_Md_reading_117 122 (by decide) ?_
          refine pm_sub (lv' := [(0, .ref (ad 0))]) [0] rfl ?_
          exact t_Md_reading_122 K  rec r w' h32 (1 : Int32) o9.2 hf
      · have hf := pm_ift c8 hf
        refine pm_bipush (v := -8) K d_Md_reading_100 (by decide) ?_
        refine pm_goto K d_Md_reading_102 122 (by decide) ?_
        refine pm_sub (lv' := [(0, .ref (ad 0))]) [0] rfl ?_
        exact t_Md_reading_122 K  rec r w' h32 (-8 : Int32) w hf
    · have hf := pm_iff c7 hf
      refine pm_iconst (v := -1) K d_Md_reading_92 (by decide) ?_
      refine pm_goto K d_Md_reading_93 122 (by decide) ?_
      refine pm_sub (lv' := [(0, .ref (ad 0))]) [0] rfl ?_
      exact t_Md_reading_122 K  rec r w' h32 (-1 : Int32) w hf
  · have hf := pm_iff c6 hf
    refine pm_iload_n K d_Md_reading_40 2 rfl rfl ?_
    refine pm_if_eq K d_Md_reading_41 88 (by decide) (fun c11 => ?_) (fun c11 => ?_)
    · have hf := pm_ift c11 hf
      refine pm_iload_n K d_Md_reading_88 1 rfl rfl ?_
      refine pm_if_ge K d_Md_reading_89 96 (by decide) (fun c12 => ?_) (fun c12 => ?_)
      · have hf := pm_ift c12 hf
        refine pm_iload_n K d_Md_reading_96 2 rfl rfl ?_
        refine pm_if_ne K d_Md_reading_97 105 (by decide) (fun c13 => ?_) (fun c13 => ?_)
        · have hf := pm_iff c13 hf
          refine pm_aload_n K d_Md_reading_105 0 rfl rfl ?_
          refine pm_aload_n K d_Md_reading_106 0 rfl rfl ?_
          refine pm_getI K fc_9 (o := 0) rfl 30 rfl (by decide) tw_699 d_Md_reading_107 (v := w.1 0 30) rfl ?_
          obtain ⟨o14, z14, hf⟩ := pm_bind hf
          refine pm_callV (As := [.int (w.1 0 30)]) (rest := []) (o := 0) K (c_Md_room K.2.2.2.2.2.2.2.2.2.2.2.2 o14.1 o14.2 (w.1 0 30) w z14) mi_Md_room rfl rfl tw_739 tw_50 tw_738 rfl ⟨rfl, rfl, Nat.le_of_ble_eq_true rfl, Nat.le_of_ble_eq_true rfl⟩ rfl (Nat.le_of_ble_eq_true rfl) d_Md_reading_110 ?_
          refine pm_if_eq K d_Md_reading_113 120 (by decide) (fun c15 => ?_) (fun c15 => ?_)
          · have hf := pm_ift c15 hf
            refine pm_bipush (v := -7) K d_Md_reading_120 (by decide) ?_
            refine pm_sub (lv' := [(0, .ref (ad 0))]) [0] rfl ?_
            exact t_Md_reading_122 K  rec r w' h32 (-7 : Int32) o14.2 hf
          · have hf := pm_iff c15 hf
            refine pm_iconst (v := 1) K d_Md_reading_116 (by decide) ?_
            refine pm_goto K d_Md_reading_117 122 (by decide) ?_
            refine pm_sub (lv' := [(0, .ref (ad 0))]) [0] rfl ?_
            exact t_Md_reading_122 K  rec r w' h32 (1 : Int32) o14.2 hf
        · have hf := pm_ift c13 hf
          refine pm_bipush (v := -8) K d_Md_reading_100 (by decide) ?_
          refine pm_goto K d_Md_reading_102 122 (by decide) ?_
          refine pm_sub (lv' := [(0, .ref (ad 0))]) [0] rfl ?_
          exact t_Md_reading_122 K  rec r w' h32 (-8 : Int32) w hf
      · have hf := pm_iff c12 hf
        refine pm_iconst (v := -1) K d_Md_reading_92 (by decide) ?_
        refine pm_goto K d_Md_reading_93 122 (by decide) ?_
        refine pm_sub (lv' := [(0, .ref (ad 0))]) [0] rfl ?_
        exact t_Md_reading_122 K  rec r w' h32 (-1 : Int32) w hf
    · have hf := pm_iff c11 hf
      refine pm_aload_n K d_Md_reading_44 0 rfl rfl ?_
      refine pm_getR K fc_9 (o := 0) rfl 21 rfl (by decide) tw_690 d_Md_reading_45 ?_
      refine pm_iload_n K d_Md_reading_48 3 rfl rfl ?_
      obtain ⟨q16, hf⟩ := pm_bnd hf
      refine pm_cald K (o := 12) rfl rfl q16 d_Md_reading_49 (v := w.1 12 x3.toNatClampNeg) rfl ?_
      obtain ⟨o17, z17, hf⟩ := pm_bind hf
      refine pm_callS (As := [.int (w.1 12 x3.toNatClampNeg)]) (rest := []) K (c_Md_isSign K.2.2.2.2.2.2.2.2.2.2.2.2 o17.1 o17.2 (w.1 12 x3.toNatClampNeg) w z17) mi_Md_isSign tw_724 tw_723 rfl ⟨rfl, rfl, Nat.le_of_ble_eq_true rfl, Nat.le_of_ble_eq_true rfl⟩ rfl (Nat.le_of_ble_eq_true rfl) d_Md_reading_50 ?_
      refine pm_if_ne K d_Md_reading_53 69 (by decide) (fun c18 => ?_) (fun c18 => ?_)
      · have hf := pm_iff c18 hf
        refine pm_iconst (v := 1) K d_Md_reading_69 (by decide) ?_
        refine pm_goto K d_Md_reading_70 74 (by decide) ?_
        refine pm_istore_n (lv' := [(2, .int (1 : Int32)), (0, .ref (ad 0)), (1, .int x1), (3, .int x3)]) K d_Md_reading_74 rfl (by decide) rfl ?_
        refine pm_aload_n K d_Md_reading_75 1 rfl rfl ?_
        refine pm_aload_n K d_Md_reading_76 1 rfl rfl ?_
        refine pm_iload_n K d_Md_reading_77 3 rfl rfl ?_
        obtain ⟨o19, z19, hf⟩ := pm_bind hf
        refine pm_callV (As := [.int x3]) (rest := [.ref (ad 0)]) (o := 0) K (c_Md_tokenEnd K.2.2.2.2.2.2.2.2.2.2.2.2 o19.1 o19.2 x3 o17.2 z19) mi_Md_tokenEnd rfl rfl tw_721 tw_45 tw_720 rfl ⟨rfl, rfl, Nat.le_of_ble_eq_true rfl, Nat.le_of_ble_eq_true rfl⟩ rfl (Nat.le_of_ble_eq_true rfl) d_Md_reading_78 ?_
        obtain ⟨o20, z20, hf⟩ := pm_bind hf
        refine pm_callV (As := [.int o19.1]) (rest := []) (o := 0) K (c_Md_skip K.2.2.2.2.2.2.2.2.2.2.2.2 o20.1 o20.2 o19.1 o19.2 z20) mi_Md_skip rfl rfl tw_715 tw_44 tw_714 rfl ⟨rfl, rfl, Nat.le_of_ble_eq_true rfl, Nat.le_of_ble_eq_true rfl⟩ rfl (Nat.le_of_ble_eq_true rfl) d_Md_reading_81 ?_
        refine pm_istore_n (lv' := [(3, .int o20.1), (2, .int (1 : Int32)), (0, .ref (ad 0)), (1, .int x1)]) K d_Md_reading_84 rfl (by decide) rfl ?_
        refine pm_goto K d_Md_reading_85 32 (by decide) ?_
        refine pm_sub (lv' := [(0, .ref (ad 0)), (1, .int x1), (2, .int (1 : Int32)), (3, .int o20.1)]) [2, 3, 1, 0] rfl ?_
        exact h32 x1 (1 : Int32) o20.1 o20.2 hf
      · have hf := pm_ift c18 hf
        refine pm_aload_n K d_Md_reading_56 0 rfl rfl ?_
        refine pm_iload_n K d_Md_reading_57 3 rfl rfl ?_
        refine pm_aload_n K d_Md_reading_58 0 rfl rfl ?_
        refine pm_iload_n K d_Md_reading_59 3 rfl rfl ?_
        obtain ⟨o21, z21, hf⟩ := pm_bind hf
        refine pm_callV (As := [.int x3]) (rest := [.int x3, .ref (ad 0)]) (o := 0) K (c_Md_tokenEnd K.2.2.2.2.2.2.2.2.2.2.2.2 o21.1 o21.2 x3 o17.2 z21) mi_Md_tokenEnd rfl rfl tw_721 tw_45 tw_720 rfl ⟨rfl, rfl, Nat.le_of_ble_eq_true rfl, Nat.le_of_ble_eq_true rfl⟩ rfl (Nat.le_of_ble_eq_true rfl) d_Md_reading_60 ?_
        obtain ⟨o22, z22, hf⟩ := pm_bind hf
        refine pm_callV (As := [.int x3, .int o21.1]) (rest := []) (o := 0) K (c_Md_meet K.2.2.2.2.2.2.2.2.2.2.2.2 o22.1 o22.2 x3 o21.1 o21.2 z22) mi_Md_meet rfl rfl tw_727 tw_46 tw_726 rfl ⟨rfl, rfl, Nat.le_of_ble_eq_true rfl, Nat.le_of_ble_eq_true rfl⟩ rfl (Nat.le_of_ble_eq_true rfl) d_Md_reading_63 ?_
        refine pm_if_eq K d_Md_reading_66 73 (by decide) (fun c23 => ?_) (fun c23 => ?_)
        · have hf := pm_ift c23 hf
          refine pm_iconst (v := 0) K d_Md_reading_73 (by decide) ?_
          refine pm_istore_n (lv' := [(2, .int (0 : Int32)), (0, .ref (ad 0)), (1, .int x1), (3, .int x3)]) K d_Md_reading_74 rfl (by decide) rfl ?_
          refine pm_aload_n K d_Md_reading_75 1 rfl rfl ?_
          refine pm_aload_n K d_Md_reading_76 1 rfl rfl ?_
          refine pm_iload_n K d_Md_reading_77 3 rfl rfl ?_
          obtain ⟨o24, z24, hf⟩ := pm_bind hf
          refine pm_callV (As := [.int x3]) (rest := [.ref (ad 0)]) (o := 0) K (c_Md_tokenEnd K.2.2.2.2.2.2.2.2.2.2.2.2 o24.1 o24.2 x3 o22.2 z24) mi_Md_tokenEnd rfl rfl tw_721 tw_45 tw_720 rfl ⟨rfl, rfl, Nat.le_of_ble_eq_true rfl, Nat.le_of_ble_eq_true rfl⟩ rfl (Nat.le_of_ble_eq_true rfl) d_Md_reading_78 ?_
          obtain ⟨o25, z25, hf⟩ := pm_bind hf
          refine pm_callV (As := [.int o24.1]) (rest := []) (o := 0) K (c_Md_skip K.2.2.2.2.2.2.2.2.2.2.2.2 o25.1 o25.2 o24.1 o24.2 z25) mi_Md_skip rfl rfl tw_715 tw_44 tw_714 rfl ⟨rfl, rfl, Nat.le_of_ble_eq_true rfl, Nat.le_of_ble_eq_true rfl⟩ rfl (Nat.le_of_ble_eq_true rfl) d_Md_reading_81 ?_
          refine pm_istore_n (lv' := [(3, .int o25.1), (2, .int (0 : Int32)), (0, .ref (ad 0)), (1, .int x1)]) K d_Md_reading_84 rfl (by decide) rfl ?_
          refine pm_goto K d_Md_reading_85 32 (by decide) ?_
          refine pm_sub (lv' := [(0, .ref (ad 0)), (1, .int x1), (2, .int (0 : Int32)), (3, .int o25.1)]) [2, 3, 1, 0] rfl ?_
          exact h32 x1 (0 : Int32) o25.1 o25.2 hf
        · have hf := pm_iff c23 hf
          refine pm_iconst (v := 1) K d_Md_reading_69 (by decide) ?_
          refine pm_goto K d_Md_reading_70 74 (by decide) ?_
          refine pm_istore_n (lv' := [(2, .int (1 : Int32)), (0, .ref (ad 0)), (1, .int x1), (3, .int x3)]) K d_Md_reading_74 rfl (by decide) rfl ?_
          refine pm_aload_n K d_Md_reading_75 1 rfl rfl ?_
          refine pm_aload_n K d_Md_reading_76 1 rfl rfl ?_
          refine pm_iload_n K d_Md_reading_77 3 rfl rfl ?_
          obtain ⟨o26, z26, hf⟩ := pm_bind hf
          refine pm_callV (As := [.int x3]) (rest := [.ref (ad 0)]) (o := 0) K (c_Md_tokenEnd K.2.2.2.2.2.2.2.2.2.2.2.2 o26.1 o26.2 x3 o22.2 z26) mi_Md_tokenEnd rfl rfl tw_721 tw_45 tw_720 rfl ⟨rfl, rfl, Nat.le_of_ble_eq_true rfl, Nat.le_of_ble_eq_true rfl⟩ rfl (Nat.le_of_ble_eq_true rfl) d_Md_reading_78 ?_
          obtain ⟨o27, z27, hf⟩ := pm_bind hf
          refine pm_callV (As := [.int o26.1]) (rest := []) (o := 0) K (c_Md_skip K.2.2.2.2.2.2.2.2.2.2.2.2 o27.1 o27.2 o26.1 o26.2 z27) mi_Md_skip rfl rfl tw_715 tw_44 tw_714 rfl ⟨rfl, rfl, Nat.le_of_ble_eq_true rfl, Nat.le_of_ble_eq_true rfl⟩ rfl (Nat.le_of_ble_eq_true rfl) d_Md_reading_81 ?_
          refine pm_istore_n (lv' := [(3, .int o27.1), (2, .int (1 : Int32)), (0, .ref (ad 0)), (1, .int x1)]) K d_Md_reading_84 rfl (by decide) rfl ?_
          refine pm_goto K d_Md_reading_85 32 (by decide) ?_
          refine pm_sub (lv' := [(0, .ref (ad 0)), (1, .int x1), (2, .int (1 : Int32)), (3, .int o27.1)]) [2, 3, 1, 0] rfl ?_
          exact h32 x1 (1 : Int32) o27.1 o27.2 hf
set_option maxHeartbeats 4000000 in
set_option maxRecDepth 100000 in
theorem a_Md_reading {p : Program} {l : Launch} {e : Env} {s : State} {m : MethodId} {args : Array Value} {below : List Frame} {meth : Method} {c : Code} {D : va_G} {ca : Nat → ClassId} {ad : Nat → Nat} {E : (Nat → Prop) → State → Heap → Prop} (K : pm_ok p s m args meth c k_Md_reading 4 pmTs R_Md D vwCl (tyl ca) shM ad E (some .int)) (r : Int32) (w' : pm_W) : ∀ n : Nat, (∀ (x1 : Int32) (x2 : Int32) (x3 : Int32) (w : pm_W), l_Md_reading  n 0 x1 x2 x3 w = some (r, w') → pm_wk p l e { frames := 4, cells := 0, slots := 0, locals := 94 } s m args below meth c D vwCl shM ca ad 4 (some (.int r), w') 32 [(0, .ref (ad 0)), (1, .int x1), (2, .int x2), (3, .int x3)] [] w) := by
  intro n
  induction n with
  | zero => exact fun _ _ _ _ hf => (by cases hf)
  | succ n ih => exact fun x1 x2 x3 w hf => t_Md_reading_32 K (l_Md_reading n) r w' (ih) x1 x2 x3 w hf
set_option maxHeartbeats 4000000 in
set_option maxRecDepth 100000 in
theorem t_Md_reading {p : Program} {l : Launch} {e : Env} {s : State} {m : MethodId} {args : Array Value} {below : List Frame} {meth : Method} {c : Code} {D : va_G} {ca : Nat → ClassId} {ad : Nat → Nat} {E : (Nat → Prop) → State → Heap → Prop} (K : pm_ok p s m args meth c k_Md_reading 4 pmTs R_Md D vwCl (tyl ca) shM ad E (some .int)) (r : Int32) (w' : pm_W) (w : pm_W) (hf : f_Md_reading  w = some (r, w')) : pm_wk p l e { frames := 4, cells := 0, slots := 0, locals := 94 } s m args below meth c D vwCl shM ca ad 4 (some (.int r), w') 0 [(0, .ref (ad 0))] [] w := by
  unfold f_Md_reading at hf
  have h32 := (a_Md_reading (l := l) (e := e) (below := below) K  r w' pm_fuel)
  refine pm_aload_n K d_Md_reading_0 0 rfl rfl ?_
  obtain ⟨o1, z1, hf⟩ := pm_bind hf
  refine pm_callV (As := []) (rest := []) (o := 0) K (c_Md_lookOver K.2.2.2.2.2.2.2.2.2.2.2.2 o1.1 o1.2 w z1) mi_Md_lookOver rfl rfl tw_712 tw_43 tw_711 rfl ⟨rfl, rfl, Nat.le_of_ble_eq_true rfl, Nat.le_of_ble_eq_true rfl⟩ rfl (Nat.le_of_ble_eq_true rfl) d_Md_reading_1 ?_
  refine pm_istore_n (lv' := [(1, .int o1.1), (0, .ref (ad 0))]) K d_Md_reading_4 rfl (by decide) rfl ?_
  refine pm_iload_n K d_Md_reading_5 0 rfl rfl ?_
  refine pm_if_ne K d_Md_reading_6 11 (by decide) (fun c2 => ?_) (fun c2 => ?_)
  · have hf := pm_iff c2 hf
    refine pm_aload_n K d_Md_reading_11 1 rfl rfl ?_
    refine pm_iconst (v := 1) K d_Md_reading_12 (by decide) ?_
    refine pm_putI K fc_9 (o := 0) (ty := .int) rfl 19 rfl (by decide) tw_688 rfl rfl rfl rfl d_Md_reading_13 ?_
    refine pm_iload_n K d_Md_reading_16 0 rfl rfl ?_
    refine pm_if_le K d_Md_reading_17 24 (by decide) (fun c3 => ?_) (fun c3 => ?_)
    · have hf := pm_ift c3 hf
      refine pm_iconst (v := 0) K d_Md_reading_24 (by decide) ?_
      refine pm_istore_n (lv' := [(2, .int (0 : Int32)), (1, .int o1.1), (0, .ref (ad 0))]) K d_Md_reading_25 rfl (by decide) rfl ?_
      refine pm_aload_n K d_Md_reading_26 2 rfl rfl ?_
      refine pm_iconst (v := 0) K d_Md_reading_27 (by decide) ?_
      obtain ⟨o4, z4, hf⟩ := pm_bind hf
      refine pm_callV (As := [.int (0 : Int32)]) (rest := []) (o := 0) K (c_Md_skip K.2.2.2.2.2.2.2.2.2.2.2.2 o4.1 o4.2 (0 : Int32) (pm_setI o1.2 0 19 (1 : Int32)) z4) mi_Md_skip rfl rfl tw_715 tw_44 tw_714 rfl ⟨rfl, rfl, Nat.le_of_ble_eq_true rfl, Nat.le_of_ble_eq_true rfl⟩ rfl (Nat.le_of_ble_eq_true rfl) d_Md_reading_28 ?_
      refine pm_istore_n (lv' := [(3, .int o4.1), (2, .int (0 : Int32)), (1, .int o1.1), (0, .ref (ad 0))]) K d_Md_reading_31 rfl (by decide) rfl ?_
      refine pm_sub (lv' := [(0, .ref (ad 0)), (1, .int o1.1), (2, .int (0 : Int32)), (3, .int o4.1)]) [3, 2, 1, 0] rfl ?_
      exact h32 o1.1 (0 : Int32) o4.1 o4.2 hf
    · have hf := pm_iff c3 hf
      refine pm_iconst (v := 1) K d_Md_reading_20 (by decide) ?_
      refine pm_goto K d_Md_reading_21 25 (by decide) ?_
      refine pm_istore_n (lv' := [(2, .int (1 : Int32)), (1, .int o1.1), (0, .ref (ad 0))]) K d_Md_reading_25 rfl (by decide) rfl ?_
      refine pm_aload_n K d_Md_reading_26 2 rfl rfl ?_
      refine pm_iconst (v := 0) K d_Md_reading_27 (by decide) ?_
      obtain ⟨o5, z5, hf⟩ := pm_bind hf
      refine pm_callV (As := [.int (0 : Int32)]) (rest := []) (o := 0) K (c_Md_skip K.2.2.2.2.2.2.2.2.2.2.2.2 o5.1 o5.2 (0 : Int32) (pm_setI o1.2 0 19 (1 : Int32)) z5) mi_Md_skip rfl rfl tw_715 tw_44 tw_714 rfl ⟨rfl, rfl, Nat.le_of_ble_eq_true rfl, Nat.le_of_ble_eq_true rfl⟩ rfl (Nat.le_of_ble_eq_true rfl) d_Md_reading_28 ?_
      refine pm_istore_n (lv' := [(3, .int o5.1), (2, .int (1 : Int32)), (1, .int o1.1), (0, .ref (ad 0))]) K d_Md_reading_31 rfl (by decide) rfl ?_
      refine pm_sub (lv' := [(0, .ref (ad 0)), (1, .int o1.1), (2, .int (1 : Int32)), (3, .int o5.1)]) [3, 2, 1, 0] rfl ?_
      exact h32 o1.1 (1 : Int32) o5.1 o5.2 hf
  · have hf := pm_ift c2 hf
    refine pm_iconst (v := 2) K d_Md_reading_9 (by decide) ?_
    cases hf
    exact pm_iret K d_Md_reading_10
/-- CellLispModel.reading()I -/
theorem c_Md_reading {l : Launch} {D : va_G} {ca : Nat → ClassId} {ad : Nat → Nat} {E : (Nat → Prop) → State → Heap → Prop} (hEc : pm_Ecl E) (r : Int32) (w' : pm_W) (w : pm_W) (hf : f_Md_reading  w = some (r, w')) : pm_Met l pmTs D vwCl (tyl ca) shM ca ad E y_Md_reading k_Md_reading 4 (some .int) { frames := 4, cells := 0, slots := 0, locals := 94 } [.ref (ad 0)] w (some (.int r), w') :=
  pm_start pmTs_good hEc (by decide) (Nat.le_of_ble_eq_true rfl) (fun p e s m below meth c K => t_Md_reading K r w'  w hf)
def f_Md_push (x1 : Int32) (x2 : Int32) (x3 : Int32) (w : pm_W) : Option (Int32 × pm_W) :=
  if (w.1 0 11) = (30 : Int32) then
    some ((-6 : Int32), w)
  else
    if (w.1 0 11) < 0 ∨ 30 ≤ (w.1 0 11).toNatClampNeg then none else
    if (w.1 0 11) < 0 ∨ 30 ≤ (w.1 0 11).toNatClampNeg then none else
    if (w.1 0 11) < 0 ∨ 30 ≤ (w.1 0 11).toNatClampNeg then none else
    if (w.1 0 11) < 0 ∨ 30 ≤ (w.1 0 11).toNatClampNeg then none else
    some ((1 : Int32), pm_setI (pm_setI (pm_setI (pm_setI (pm_setI w 6 (w.1 0 11).toNatClampNeg x1) 7 (w.1 0 11).toNatClampNeg x2) 8 (w.1 0 11).toNatClampNeg x3) 9 (w.1 0 11).toNatClampNeg (536870912 : Int32)) 0 11 ((w.1 0 11) + (1 : Int32)))
set_option maxHeartbeats 4000000 in
set_option maxRecDepth 100000 in
theorem t_Md_push {p : Program} {l : Launch} {e : Env} {s : State} {m : MethodId} {args : Array Value} {below : List Frame} {meth : Method} {c : Code} {D : va_G} {ca : Nat → ClassId} {ad : Nat → Nat} {E : (Nat → Prop) → State → Heap → Prop} (K : pm_ok p s m args meth c k_Md_push 4 pmTs R_Md D vwCl (tyl ca) shM ad E (some .int)) (r : Int32) (w' : pm_W) (x1 : Int32) (x2 : Int32) (x3 : Int32) (w : pm_W) (hf : f_Md_push  x1 x2 x3 w = some (r, w')) : pm_wk p l e { frames := 0, cells := 0, slots := 0, locals := 0 } s m args below meth c D vwCl shM ca ad 4 (some (.int r), w') 0 [(0, .ref (ad 0)), (1, .int x1), (2, .int x2), (3, .int x3)] [] w := by
  unfold f_Md_push at hf
  refine pm_aload_n K d_Md_push_0 0 rfl rfl ?_
  refine pm_getI K fc_9 (o := 0) rfl 11 rfl (by decide) tw_680 d_Md_push_1 (v := w.1 0 11) rfl ?_
  refine pm_bipush (v := 30) K d_Md_push_4 (by decide) ?_
  refine pm_icmp_ne K d_Md_push_6 12 (by decide) (fun c1 => ?_) (fun c1 => ?_)
  · have hf := pm_iff c1 hf
    refine pm_aload_n K d_Md_push_12 0 rfl rfl ?_
    refine pm_getR K fc_9 (o := 0) rfl 7 rfl (by decide) tw_676 d_Md_push_13 ?_
    refine pm_aload_n K d_Md_push_16 0 rfl rfl ?_
    refine pm_getI K fc_9 (o := 0) rfl 11 rfl (by decide) tw_680 d_Md_push_17 (v := w.1 0 11) rfl ?_
    refine pm_iload_n K d_Md_push_20 1 rfl rfl ?_
    obtain ⟨q2, hf⟩ := pm_bnd hf
    refine pm_iast K (o := 6) rfl rfl q2 d_Md_push_21 ?_
    refine pm_aload_n K d_Md_push_22 0 rfl rfl ?_
    refine pm_getR K fc_9 (o := 0) rfl 8 rfl (by decide) tw_677 d_Md_push_23 ?_
    refine pm_aload_n K d_Md_push_26 0 rfl rfl ?_
    refine pm_getI K fc_9 (o := 0) rfl 11 rfl (by decide) tw_680 d_Md_push_27 (v := w.1 0 11) rfl ?_
    refine pm_iload_n K d_Md_push_30 2 rfl rfl ?_
    obtain ⟨q3, hf⟩ := pm_bnd hf
    refine pm_iast K (o := 7) rfl rfl q3 d_Md_push_31 ?_
    refine pm_aload_n K d_Md_push_32 0 rfl rfl ?_
    refine pm_getR K fc_9 (o := 0) rfl 9 rfl (by decide) tw_678 d_Md_push_33 ?_
    refine pm_aload_n K d_Md_push_36 0 rfl rfl ?_
    refine pm_getI K fc_9 (o := 0) rfl 11 rfl (by decide) tw_680 d_Md_push_37 (v := w.1 0 11) rfl ?_
    refine pm_iload_n K d_Md_push_40 3 rfl rfl ?_
    obtain ⟨q4, hf⟩ := pm_bnd hf
    refine pm_iast K (o := 8) rfl rfl q4 d_Md_push_41 ?_
    refine pm_aload_n K d_Md_push_42 0 rfl rfl ?_
    refine pm_getR K fc_9 (o := 0) rfl 10 rfl (by decide) tw_679 d_Md_push_43 ?_
    refine pm_aload_n K d_Md_push_46 0 rfl rfl ?_
    refine pm_getI K fc_9 (o := 0) rfl 11 rfl (by decide) tw_680 d_Md_push_47 (v := w.1 0 11) rfl ?_
    refine pm_ldc K tw_662 d_Md_push_50 ?_
    obtain ⟨q5, hf⟩ := pm_bnd hf
    refine pm_iast K (o := 9) rfl rfl q5 d_Md_push_52 ?_
    refine pm_aload_n K d_Md_push_53 0 rfl rfl ?_
    refine pm_dup K d_Md_push_54 rfl ?_
    refine pm_getI K fc_9 (o := 0) rfl 11 rfl (by decide) tw_680 d_Md_push_55 (v := w.1 0 11) rfl ?_
    refine pm_iconst (v := 1) K d_Md_push_58 (by decide) ?_
    refine pm_iadd K d_Md_push_59 ?_
    refine pm_putI K fc_9 (o := 0) (ty := .int) rfl 11 rfl (by decide) tw_680 rfl rfl rfl rfl d_Md_push_60 ?_
    refine pm_iconst (v := 1) K d_Md_push_63 (by decide) ?_
    cases hf
    exact pm_iret K d_Md_push_64
  · have hf := pm_ift c1 hf
    refine pm_bipush (v := -6) K d_Md_push_9 (by decide) ?_
    cases hf
    exact pm_iret K d_Md_push_11
/-- CellLispModel.push(III)I -/
theorem c_Md_push {l : Launch} {D : va_G} {ca : Nat → ClassId} {ad : Nat → Nat} {E : (Nat → Prop) → State → Heap → Prop} (hEc : pm_Ecl E) (r : Int32) (w' : pm_W) (x1 : Int32) (x2 : Int32) (x3 : Int32) (w : pm_W) (hf : f_Md_push  x1 x2 x3 w = some (r, w')) : pm_Met l pmTs D vwCl (tyl ca) shM ca ad E y_Md_push k_Md_push 4 (some .int) { frames := 0, cells := 0, slots := 0, locals := 0 } [.ref (ad 0), .int x1, .int x2, .int x3] w (some (.int r), w') :=
  pm_start pmTs_good hEc (by decide) (Nat.le_of_ble_eq_true rfl) (fun p e s m below meth c K => t_Md_push K r w' x1 x2 x3 w hf)
def f_Md_give (x1 : Int32) (w : pm_W) : Option (Int32 × pm_W) :=
  some ((1 : Int32), pm_setI (pm_setI w 0 15 x1) 0 18 (1 : Int32))
set_option maxHeartbeats 4000000 in
set_option maxRecDepth 100000 in
theorem t_Md_give {p : Program} {l : Launch} {e : Env} {s : State} {m : MethodId} {args : Array Value} {below : List Frame} {meth : Method} {c : Code} {D : va_G} {ca : Nat → ClassId} {ad : Nat → Nat} {E : (Nat → Prop) → State → Heap → Prop} (K : pm_ok p s m args meth c k_Md_give 2 pmTs R_Md D vwCl (tyl ca) shM ad E (some .int)) (r : Int32) (w' : pm_W) (x1 : Int32) (w : pm_W) (hf : f_Md_give  x1 w = some (r, w')) : pm_wk p l e { frames := 0, cells := 0, slots := 0, locals := 0 } s m args below meth c D vwCl shM ca ad 2 (some (.int r), w') 0 [(0, .ref (ad 0)), (1, .int x1)] [] w := by
  unfold f_Md_give at hf
  refine pm_aload_n K d_Md_give_0 0 rfl rfl ?_
  refine pm_iload_n K d_Md_give_1 1 rfl rfl ?_
  refine pm_putI K fc_9 (o := 0) (ty := .int) rfl 15 rfl (by decide) tw_684 rfl rfl rfl rfl d_Md_give_2 ?_
  refine pm_aload_n K d_Md_give_5 0 rfl rfl ?_
  refine pm_iconst (v := 1) K d_Md_give_6 (by decide) ?_
  refine pm_putI K fc_9 (o := 0) (ty := .boolean) rfl 18 rfl (by decide) tw_687 rfl rfl (by decide) (by decide) d_Md_give_7 ?_
  refine pm_iconst (v := 1) K d_Md_give_10 (by decide) ?_
  cases hf
  exact pm_iret K d_Md_give_11
/-- CellLispModel.give(I)I -/
theorem c_Md_give {l : Launch} {D : va_G} {ca : Nat → ClassId} {ad : Nat → Nat} {E : (Nat → Prop) → State → Heap → Prop} (hEc : pm_Ecl E) (r : Int32) (w' : pm_W) (x1 : Int32) (w : pm_W) (hf : f_Md_give  x1 w = some (r, w')) : pm_Met l pmTs D vwCl (tyl ca) shM ca ad E y_Md_give k_Md_give 2 (some .int) { frames := 0, cells := 0, slots := 0, locals := 0 } [.ref (ad 0), .int x1] w (some (.int r), w') :=
  pm_start pmTs_good hEc (by decide) (Nat.le_of_ble_eq_true rfl) (fun p e s m below meth c K => t_Md_give K r w' x1 w hf)
