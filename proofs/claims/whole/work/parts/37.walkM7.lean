def b_Md_print_10 (rec : Nat → Int32 → pm_W → Option pm_W) (x1 : Int32) (w : pm_W) : Option pm_W :=
  if x1 ≤ 0 then
    Option.bind (f_Md_put (10 : Int32) w) fun o3 =>
    some o3
  else
    if (200 : Int32) ≤ (w.1 0 22) then
      Option.bind (f_Md_put (10 : Int32) w) fun o5 =>
      some o5
    else
      Option.bind (f_Md_further x1 w) fun o6 =>
      rec 0 o6.1 o6.2
def l_Md_print : Nat → Nat → Int32 → pm_W → Option pm_W := pm_it (fun _ _ _ => none) (fun rec k x1 w => b_Md_print_10  rec x1 w)
def f_Md_print (w : pm_W) : Option pm_W :=
  Option.bind (f_Md_begin (w.1 0 15) (0 : Int32) w) fun o1 =>
  (l_Md_print  pm_fuel) 0 o1.1 o1.2
set_option maxHeartbeats 4000000 in
set_option maxRecDepth 100000 in
theorem t_Md_print_10 {p : Program} {l : Launch} {e : Env} {s : State} {m : MethodId} {args : Array Value} {below : List Frame} {meth : Method} {c : Code} {D : va_G} {ca : Nat → ClassId} {ad : Nat → Nat} {E : (Nat → Prop) → State → Heap → Prop} (K : pm_ok p s m args meth c k_Md_print 2 pmTs R_Md D vwCl (tyl ca) shM ad E none) (rec : Nat → Int32 → pm_W → Option pm_W) (w' : pm_W) (h10 : ∀ (x1 : Int32) (w : pm_W), rec 0 x1 w = some w' → pm_wk p l e { frames := 5, cells := 0, slots := 0, locals := 109 } s m args below meth c D vwCl shM ca ad 2 (none, w') 10 [(0, .ref (ad 0)), (1, .int x1)] [] w) (x1 : Int32) (w : pm_W) (hf : b_Md_print_10  rec x1 w = some w') : pm_wk p l e { frames := 5, cells := 0, slots := 0, locals := 109 } s m args below meth c D vwCl shM ca ad 2 (none, w') 10 [(0, .ref (ad 0)), (1, .int x1)] [] w := by
  unfold b_Md_print_10 at hf
  refine pm_iload_n K d_Md_print_10 1 rfl rfl ?_
  refine pm_if_le K d_Md_print_11 33 (by decide) (fun c2 => ?_) (fun c2 => ?_)
  · have hf := pm_ift c2 hf
    refine pm_aload_n K d_Md_print_33 0 rfl rfl ?_
    refine pm_bipush (v := 10) K d_Md_print_34 (by decide) ?_
    obtain ⟨o3, z3, hf⟩ := pm_bind hf
    refine pm_callV (As := [.int (10 : Int32)]) (rest := []) (o := 0) K (c_Md_put K.2.2.2.2.2.2.2.2.2.2.2.2 o3 (10 : Int32) w z3) mi_Md_put rfl rfl tw_799 tw_66 tw_798 rfl ⟨rfl, rfl, Nat.le_of_ble_eq_true rfl, Nat.le_of_ble_eq_true rfl⟩ rfl (Nat.le_of_ble_eq_true rfl) d_Md_print_36 ?_
    cases hf
    exact pm_vret K d_Md_print_39
  · have hf := pm_iff c2 hf
    refine pm_aload_n K d_Md_print_14 0 rfl rfl ?_
    refine pm_getI K fc_9 (o := 0) rfl 22 rfl (by decide) tw_691 d_Md_print_15 (v := w.1 0 22) rfl ?_
    refine pm_sipush (v := 200) K d_Md_print_18 (by decide) ?_
    refine pm_icmp_ge K d_Md_print_21 33 (by decide) (fun c4 => ?_) (fun c4 => ?_)
    · have hf := pm_ift c4 hf
      refine pm_aload_n K d_Md_print_33 0 rfl rfl ?_
      refine pm_bipush (v := 10) K d_Md_print_34 (by decide) ?_
      obtain ⟨o5, z5, hf⟩ := pm_bind hf
      refine pm_callV (As := [.int (10 : Int32)]) (rest := []) (o := 0) K (c_Md_put K.2.2.2.2.2.2.2.2.2.2.2.2 o5 (10 : Int32) w z5) mi_Md_put rfl rfl tw_799 tw_66 tw_798 rfl ⟨rfl, rfl, Nat.le_of_ble_eq_true rfl, Nat.le_of_ble_eq_true rfl⟩ rfl (Nat.le_of_ble_eq_true rfl) d_Md_print_36 ?_
      cases hf
      exact pm_vret K d_Md_print_39
    · have hf := pm_iff c4 hf
      refine pm_aload_n K d_Md_print_24 0 rfl rfl ?_
      refine pm_iload_n K d_Md_print_25 1 rfl rfl ?_
      obtain ⟨o6, z6, hf⟩ := pm_bind hf
      refine pm_callV (As := [.int x1]) (rest := []) (o := 0) K (c_Md_further K.2.2.2.2.2.2.2.2.2.2.2.2 o6.1 o6.2 x1 w z6) mi_Md_further rfl rfl tw_811 tw_69 tw_810 rfl ⟨rfl, rfl, Nat.le_of_ble_eq_true rfl, Nat.le_of_ble_eq_true rfl⟩ rfl (Nat.le_of_ble_eq_true rfl) d_Md_print_26 ?_
      refine pm_istore_n (lv' := [(1, .int o6.1), (0, .ref (ad 0))]) K d_Md_print_29 rfl (by decide) rfl ?_
      refine pm_goto K d_Md_print_30 10 (by decide) ?_
      refine pm_sub (lv' := [(0, .ref (ad 0)), (1, .int o6.1)]) [1, 0] rfl ?_
      exact h10 o6.1 o6.2 hf
set_option maxHeartbeats 4000000 in
set_option maxRecDepth 100000 in
theorem a_Md_print {p : Program} {l : Launch} {e : Env} {s : State} {m : MethodId} {args : Array Value} {below : List Frame} {meth : Method} {c : Code} {D : va_G} {ca : Nat → ClassId} {ad : Nat → Nat} {E : (Nat → Prop) → State → Heap → Prop} (K : pm_ok p s m args meth c k_Md_print 2 pmTs R_Md D vwCl (tyl ca) shM ad E none) (w' : pm_W) : ∀ n : Nat, (∀ (x1 : Int32) (w : pm_W), l_Md_print  n 0 x1 w = some w' → pm_wk p l e { frames := 5, cells := 0, slots := 0, locals := 109 } s m args below meth c D vwCl shM ca ad 2 (none, w') 10 [(0, .ref (ad 0)), (1, .int x1)] [] w) := by
  intro n
  induction n with
  | zero => exact fun _ _ hf => (by cases hf)
  | succ n ih => exact fun x1 w hf => t_Md_print_10 K (l_Md_print n) w' (ih) x1 w hf
set_option maxHeartbeats 4000000 in
set_option maxRecDepth 100000 in
theorem t_Md_print {p : Program} {l : Launch} {e : Env} {s : State} {m : MethodId} {args : Array Value} {below : List Frame} {meth : Method} {c : Code} {D : va_G} {ca : Nat → ClassId} {ad : Nat → Nat} {E : (Nat → Prop) → State → Heap → Prop} (K : pm_ok p s m args meth c k_Md_print 2 pmTs R_Md D vwCl (tyl ca) shM ad E none) (w' : pm_W) (w : pm_W) (hf : f_Md_print  w = some w') : pm_wk p l e { frames := 5, cells := 0, slots := 0, locals := 109 } s m args below meth c D vwCl shM ca ad 2 (none, w') 0 [(0, .ref (ad 0))] [] w := by
  unfold f_Md_print at hf
  have h10 := (a_Md_print (l := l) (e := e) (below := below) K  w' pm_fuel)
  refine pm_aload_n K d_Md_print_0 0 rfl rfl ?_
  refine pm_aload_n K d_Md_print_1 0 rfl rfl ?_
  refine pm_getI K fc_9 (o := 0) rfl 15 rfl (by decide) tw_684 d_Md_print_2 (v := w.1 0 15) rfl ?_
  refine pm_iconst (v := 0) K d_Md_print_5 (by decide) ?_
  obtain ⟨o1, z1, hf⟩ := pm_bind hf
  refine pm_callV (As := [.int (w.1 0 15), .int (0 : Int32)]) (rest := []) (o := 0) K (c_Md_begin K.2.2.2.2.2.2.2.2.2.2.2.2 o1.1 o1.2 (w.1 0 15) (0 : Int32) w z1) mi_Md_begin rfl rfl tw_784 tw_62 tw_783 rfl ⟨rfl, rfl, Nat.le_of_ble_eq_true rfl, Nat.le_of_ble_eq_true rfl⟩ rfl (Nat.le_of_ble_eq_true rfl) d_Md_print_6 ?_
  refine pm_istore_n (lv' := [(1, .int o1.1), (0, .ref (ad 0))]) K d_Md_print_9 rfl (by decide) rfl ?_
  refine pm_sub (lv' := [(0, .ref (ad 0)), (1, .int o1.1)]) [1, 0] rfl ?_
  exact h10 o1.1 o1.2 hf
/-- CellLispModel.print()V -/
theorem c_Md_print {l : Launch} {D : va_G} {ca : Nat → ClassId} {ad : Nat → Nat} {E : (Nat → Prop) → State → Heap → Prop} (hEc : pm_Ecl E) (w' : pm_W) (w : pm_W) (hf : f_Md_print  w = some w') : pm_Met l pmTs D vwCl (tyl ca) shM ca ad E y_Md_print k_Md_print 2 none { frames := 5, cells := 0, slots := 0, locals := 109 } [.ref (ad 0)] w (none, w') :=
  pm_start pmTs_good hEc (by decide) (Nat.le_of_ble_eq_true rfl) (fun p e s m below meth c K => t_Md_print K w'  w hf)
def f_Md_clearAll (w : pm_W) : Option pm_W :=
  some (pm_setI (pm_setI (pm_setI w 0 11 (0 : Int32)) 0 15 (536870912 : Int32)) 0 16 (536870912 : Int32))
set_option maxHeartbeats 4000000 in
set_option maxRecDepth 100000 in
theorem t_Md_clearAll {p : Program} {l : Launch} {e : Env} {s : State} {m : MethodId} {args : Array Value} {below : List Frame} {meth : Method} {c : Code} {D : va_G} {ca : Nat → ClassId} {ad : Nat → Nat} {E : (Nat → Prop) → State → Heap → Prop} (K : pm_ok p s m args meth c k_Md_clearAll 1 pmTs R_Md D vwCl (tyl ca) shM ad E none) (w' : pm_W) (w : pm_W) (hf : f_Md_clearAll  w = some w') : pm_wk p l e { frames := 0, cells := 0, slots := 0, locals := 0 } s m args below meth c D vwCl shM ca ad 1 (none, w') 0 [(0, .ref (ad 0))] [] w := by
  unfold f_Md_clearAll at hf
  refine pm_aload_n K d_Md_clearAll_0 0 rfl rfl ?_
  refine pm_iconst (v := 0) K d_Md_clearAll_1 (by decide) ?_
  refine pm_putI K fc_9 (o := 0) (ty := .int) rfl 11 rfl (by decide) tw_680 rfl rfl rfl rfl d_Md_clearAll_2 ?_
  refine pm_aload_n K d_Md_clearAll_5 0 rfl rfl ?_
  refine pm_ldc K tw_662 d_Md_clearAll_6 ?_
  refine pm_putI K fc_9 (o := 0) (ty := .int) rfl 15 rfl (by decide) tw_684 rfl rfl rfl rfl d_Md_clearAll_8 ?_
  refine pm_aload_n K d_Md_clearAll_11 0 rfl rfl ?_
  refine pm_ldc K tw_662 d_Md_clearAll_12 ?_
  refine pm_putI K fc_9 (o := 0) (ty := .int) rfl 16 rfl (by decide) tw_685 rfl rfl rfl rfl d_Md_clearAll_14 ?_
  cases hf
  exact pm_vret K d_Md_clearAll_17
/-- CellLispModel.clearAll()V -/
theorem c_Md_clearAll {l : Launch} {D : va_G} {ca : Nat → ClassId} {ad : Nat → Nat} {E : (Nat → Prop) → State → Heap → Prop} (hEc : pm_Ecl E) (w' : pm_W) (w : pm_W) (hf : f_Md_clearAll  w = some w') : pm_Met l pmTs D vwCl (tyl ca) shM ca ad E y_Md_clearAll k_Md_clearAll 1 none { frames := 0, cells := 0, slots := 0, locals := 0 } [.ref (ad 0)] w (none, w') :=
  pm_start pmTs_good hEc (by decide) (Nat.le_of_ble_eq_true rfl) (fun p e s m below meth c K => t_Md_clearAll K w'  w hf)
def f_Md_back (w : pm_W) : Option (Int32 × pm_W) :=
  if (w.1 0 11) = 0 then
    Option.bind (f_Md_print w) fun o35 =>
    Option.bind (f_Md_clearAll (pm_setI o35 0 17 (0 : Int32))) fun o36 =>
    some ((0 : Int32), o36)
  else
    if ((w.1 0 11) - (1 : Int32)) < 0 ∨ 30 ≤ ((w.1 0 11) - (1 : Int32)).toNatClampNeg then none else
    if (w.1 6 ((w.1 0 11) - (1 : Int32)).toNatClampNeg) = (4 : Int32) then
      Option.bind (f_Md_argument ((w.1 0 11) - (1 : Int32)) w) fun o34 =>
      some (o34.1, o34.2)
    else
      if ((w.1 0 11) - (1 : Int32)) < 0 ∨ 30 ≤ ((w.1 0 11) - (1 : Int32)).toNatClampNeg then none else
      if ((w.1 0 11) - (1 : Int32)) < 0 ∨ 30 ≤ ((w.1 0 11) - (1 : Int32)).toNatClampNeg then none else
      if ((w.1 0 11) - (1 : Int32)) < 0 ∨ 30 ≤ ((w.1 0 11) - (1 : Int32)).toNatClampNeg then none else
      if (w.1 6 ((w.1 0 11) - (1 : Int32)).toNatClampNeg) = (1 : Int32) then
        if (w.1 0 15) = (536870912 : Int32) then
          Option.bind (f_Md_cdr (w.1 7 ((w.1 0 11) - (1 : Int32)).toNatClampNeg) (pm_setI w 0 11 ((w.1 0 11) - (1 : Int32)))) fun o27 =>
          if o27.1 = (536870912 : Int32) then
            Option.bind (f_Md_give (536870912 : Int32) o27.2) fun o31 =>
            some (o31.1, o31.2)
          else
            Option.bind (f_Md_at (w.1 7 ((w.1 0 11) - (1 : Int32)).toNatClampNeg) (1 : Int32) o27.2) fun o29 =>
            Option.bind (f_Md_go o29.1 (w.1 8 ((w.1 0 11) - (1 : Int32)).toNatClampNeg) o29.2) fun o30 =>
            some (o30.1, o30.2)
        else
          Option.bind (f_Md_car (w.1 7 ((w.1 0 11) - (1 : Int32)).toNatClampNeg) (pm_setI w 0 11 ((w.1 0 11) - (1 : Int32)))) fun o32 =>
          Option.bind (f_Md_go o32.1 (w.1 8 ((w.1 0 11) - (1 : Int32)).toNatClampNeg) o32.2) fun o33 =>
          some (o33.1, o33.2)
      else
        if ((w.1 0 11) - (1 : Int32)) < 0 ∨ 30 ≤ ((w.1 0 11) - (1 : Int32)).toNatClampNeg then none else
        if (w.1 6 ((w.1 0 11) - (1 : Int32)).toNatClampNeg) = (2 : Int32) then
          if ((w.1 7 ((w.1 0 11) - (1 : Int32)).toNatClampNeg) - (536871000 : Int32)) < 0 ∨ 40 ≤ ((w.1 7 ((w.1 0 11) - (1 : Int32)).toNatClampNeg) - (536871000 : Int32)).toNatClampNeg then none else
          Option.bind (f_Md_give (w.1 7 ((w.1 0 11) - (1 : Int32)).toNatClampNeg) (pm_setI (pm_setI w 0 11 ((w.1 0 11) - (1 : Int32))) 11 ((w.1 7 ((w.1 0 11) - (1 : Int32)).toNatClampNeg) - (536871000 : Int32)).toNatClampNeg (w.1 0 15))) fun o25 =>
          some (o25.1, o25.2)
        else
          Option.bind (f_Md_binding (w.1 7 ((w.1 0 11) - (1 : Int32)).toNatClampNeg) (w.1 8 ((w.1 0 11) - (1 : Int32)).toNatClampNeg) (pm_setI w 0 11 ((w.1 0 11) - (1 : Int32)))) fun o10 =>
          if o10.1 = (536870912 : Int32) then
            if ((w.1 7 ((w.1 0 11) - (1 : Int32)).toNatClampNeg) - (536871000 : Int32)) < 0 ∨ 40 ≤ ((w.1 7 ((w.1 0 11) - (1 : Int32)).toNatClampNeg) - (536871000 : Int32)).toNatClampNeg then none else
            if (o10.2.1 11 ((w.1 7 ((w.1 0 11) - (1 : Int32)).toNatClampNeg) - (536871000 : Int32)).toNatClampNeg) = (-2147483648 : Int32) then
              some ((-2 : Int32), o10.2)
            else
              if o10.1 = (536870912 : Int32) then
                if ((w.1 7 ((w.1 0 11) - (1 : Int32)).toNatClampNeg) - (536871000 : Int32)) < 0 ∨ 40 ≤ ((w.1 7 ((w.1 0 11) - (1 : Int32)).toNatClampNeg) - (536871000 : Int32)).toNatClampNeg then none else
                Option.bind (f_Md_give (o10.2.1 0 15) (pm_setI o10.2 11 ((w.1 7 ((w.1 0 11) - (1 : Int32)).toNatClampNeg) - (536871000 : Int32)).toNatClampNeg (o10.2.1 0 15))) fun o23 =>
                some (o23.1, o23.2)
              else
                if (o10.1 - (536873000 : Int32)) < 0 ∨ 206 ≤ (o10.1 - (536873000 : Int32)).toNatClampNeg then none else
                Option.bind (f_Md_give (o10.2.1 0 15) (pm_setI o10.2 3 (o10.1 - (536873000 : Int32)).toNatClampNeg (o10.2.1 0 15))) fun o21 =>
                some (o21.1, o21.2)
          else
            if o10.1 = (536870912 : Int32) then
              if ((w.1 7 ((w.1 0 11) - (1 : Int32)).toNatClampNeg) - (536871000 : Int32)) < 0 ∨ 40 ≤ ((w.1 7 ((w.1 0 11) - (1 : Int32)).toNatClampNeg) - (536871000 : Int32)).toNatClampNeg then none else
              Option.bind (f_Md_give (o10.2.1 0 15) (pm_setI o10.2 11 ((w.1 7 ((w.1 0 11) - (1 : Int32)).toNatClampNeg) - (536871000 : Int32)).toNatClampNeg (o10.2.1 0 15))) fun o16 =>
              some (o16.1, o16.2)
            else
              if (o10.1 - (536873000 : Int32)) < 0 ∨ 206 ≤ (o10.1 - (536873000 : Int32)).toNatClampNeg then none else
              Option.bind (f_Md_give (o10.2.1 0 15) (pm_setI o10.2 3 (o10.1 - (536873000 : Int32)).toNatClampNeg (o10.2.1 0 15))) fun o14 =>
              some (o14.1, o14.2)
set_option maxHeartbeats 4000000 in
set_option maxRecDepth 100000 in
theorem t_Md_back {p : Program} {l : Launch} {e : Env} {s : State} {m : MethodId} {args : Array Value} {below : List Frame} {meth : Method} {c : Code} {D : va_G} {ca : Nat → ClassId} {ad : Nat → Nat} {E : (Nat → Prop) → State → Heap → Prop} (K : pm_ok p s m args meth c k_Md_back 5 pmTs R_Md D vwCl (tyl ca) shM ad E (some .int)) (r : Int32) (w' : pm_W) (w : pm_W) (hf : f_Md_back  w = some (r, w')) : pm_wk p l e { frames := 7, cells := 0, slots := 0, locals := 161 } s m args below meth c D vwCl shM ca ad 5 (some (.int r), w') 0 [(0, .ref (ad 0))] [] w := by
  unfold f_Md_back at hf
  refine pm_aload_n K d_Md_back_0 0 rfl rfl ?_
  refine pm_getI K fc_9 (o := 0) rfl 11 rfl (by decide) tw_680 d_Md_back_1 (v := w.1 0 11) rfl ?_
  refine pm_if_ne K d_Md_back_4 22 (by decide) (fun c1 => ?_) (fun c1 => ?_)
  · have hf := pm_iff c1 hf
    refine pm_aload_n K d_Md_back_22 0 rfl rfl ?_
    refine pm_getI K fc_9 (o := 0) rfl 11 rfl (by decide) tw_680 d_Md_back_23 (v := w.1 0 11) rfl ?_
    refine pm_iconst (v := 1) K d_Md_back_26 (by decide) ?_
    refine pm_isub K d_Md_back_27 ?_
    refine pm_istore_n (lv' := [(1, .int ((w.1 0 11) - (1 : Int32))), (0, .ref (ad 0))]) K d_Md_back_28 rfl (by decide) rfl ?_
    refine pm_aload_n K d_Md_back_29 1 rfl rfl ?_
    refine pm_getR K fc_9 (o := 0) rfl 7 rfl (by decide) tw_676 d_Md_back_30 ?_
    refine pm_iload_n K d_Md_back_33 0 rfl rfl ?_
    obtain ⟨q2, hf⟩ := pm_bnd hf
    refine pm_iald K (o := 6) rfl rfl q2 d_Md_back_34 (v := w.1 6 ((w.1 0 11) - (1 : Int32)).toNatClampNeg) rfl ?_
    refine pm_iconst (v := 4) K d_Md_back_35 (by decide) ?_
    refine pm_icmp_ne K d_Md_back_36 45 (by decide) (fun c3 => ?_) (fun c3 => ?_)
    · have hf := pm_iff c3 hf
      refine pm_aload_n K d_Md_back_45 1 rfl rfl ?_
      refine pm_iload_n K d_Md_back_46 0 rfl rfl ?_
      refine pm_putI K fc_9 (o := 0) (ty := .int) rfl 11 rfl (by decide) tw_680 rfl rfl rfl rfl d_Md_back_47 ?_
      refine pm_aload_n K d_Md_back_50 1 rfl rfl ?_
      refine pm_getR K fc_9 (o := 0) rfl 8 rfl (by decide) tw_677 d_Md_back_51 ?_
      refine pm_iload_n K d_Md_back_54 0 rfl rfl ?_
      obtain ⟨q4, hf⟩ := pm_bnd hf
      refine pm_iald K (o := 7) rfl rfl q4 d_Md_back_55 (v := w.1 7 ((w.1 0 11) - (1 : Int32)).toNatClampNeg) rfl ?_
      refine pm_istore_n (lv' := [(2, .int (w.1 7 ((w.1 0 11) - (1 : Int32)).toNatClampNeg)), (1, .int ((w.1 0 11) - (1 : Int32))), (0, .ref (ad 0))]) K d_Md_back_56 rfl (by decide) rfl ?_
      refine pm_aload_n K d_Md_back_57 2 rfl rfl ?_
      refine pm_getR K fc_9 (o := 0) rfl 9 rfl (by decide) tw_678 d_Md_back_58 ?_
      refine pm_iload_n K d_Md_back_61 1 rfl rfl ?_
      obtain ⟨q5, hf⟩ := pm_bnd hf
      refine pm_iald K (o := 8) rfl rfl q5 d_Md_back_62 (v := w.1 8 ((w.1 0 11) - (1 : Int32)).toNatClampNeg) rfl ?_
      refine pm_istore_n (lv' := [(3, .int (w.1 8 ((w.1 0 11) - (1 : Int32)).toNatClampNeg)), (2, .int (w.1 7 ((w.1 0 11) - (1 : Int32)).toNatClampNeg)), (1, .int ((w.1 0 11) - (1 : Int32))), (0, .ref (ad 0))]) K d_Md_back_63 rfl (by decide) rfl ?_
      refine pm_aload_n K d_Md_back_64 3 rfl rfl ?_
      refine pm_getR K fc_9 (o := 0) rfl 7 rfl (by decide) tw_676 d_Md_back_65 ?_
      refine pm_iload_n K d_Md_back_68 2 rfl rfl ?_
      obtain ⟨q6, hf⟩ := pm_bnd hf
      refine pm_iald K (o := 6) rfl rfl q6 d_Md_back_69 (v := w.1 6 ((w.1 0 11) - (1 : Int32)).toNatClampNeg) rfl ?_
      refine pm_iconst (v := 1) K d_Md_back_70 (by decide) ?_
      refine pm_icmp_ne K d_Md_back_71 125 (by decide) (fun c7 => ?_) (fun c7 => ?_)
      · have hf := pm_iff c7 hf
        refine pm_aload_n K d_Md_back_125 3 rfl rfl ?_
        refine pm_getR K fc_9 (o := 0) rfl 7 rfl (by decide) tw_676 d_Md_back_126 ?_
        refine pm_iload_n K d_Md_back_129 2 rfl rfl ?_
        obtain ⟨q8, hf⟩ := pm_bnd hf
        refine pm_iald K (o := 6) rfl rfl q8 d_Md_back_130 (v := w.1 6 ((w.1 0 11) - (1 : Int32)).toNatClampNeg) rfl ?_
        refine pm_iconst (v := 2) K d_Md_back_131 (by decide) ?_
        refine pm_icmp_ne K d_Md_back_132 154 (by decide) (fun c9 => ?_) (fun c9 => ?_)
        · have hf := pm_iff c9 hf
          refine pm_aload_n K d_Md_back_154 3 rfl rfl ?_
          refine pm_iload_n K d_Md_back_155 1 rfl rfl ?_
          refine pm_iload_n K d_Md_back_156 0 rfl rfl ?_
          obtain ⟨o10, z10, hf⟩ := pm_bind hf
          refine pm_callV (As := [.int (w.1 7 ((w.1 0 11) - (1 : Int32)).toNatClampNeg), .int (w.1 8 ((w.1 0 11) - (1 : Int32)).toNatClampNeg)]) (rest := []) (o := 0) K (c_Md_binding K.2.2.2.2.2.2.2.2.2.2.2.2 o10.1 o10.2 (w.1 7 ((w.1 0 11) - (1 : Int32)).toNatClampNeg) (w.1 8 ((w.1 0 11) - (1 : Int32)).toNatClampNeg) (pm_setI w 0 11 ((w.1 0 11) - (1 : Int32))) z10) mi_Md_binding rfl rfl tw_853 tw_83 tw_852 rfl ⟨rfl, rfl, Nat.le_of_ble_eq_true rfl, Nat.le_of_ble_eq_true rfl⟩ rfl (Nat.le_of_ble_eq_true rfl) d_Md_back_157 ?_
          refine pm_istore (lv' := [(4, .int o10.1), (3, .int (w.1 8 ((w.1 0 11) - (1 : Int32)).toNatClampNeg)), (2, .int (w.1 7 ((w.1 0 11) - (1 : Int32)).toNatClampNeg)), (1, .int ((w.1 0 11) - (1 : Int32))), (0, .ref (ad 0))]) K d_Md_back_160 (by decide) rfl ?_
          refine pm_iload K d_Md_back_162 0 rfl ?_
          refine pm_ldc K tw_662 d_Md_back_164 ?_
          refine pm_icmp_ne K d_Md_back_166 186 (by decide) (fun c11 => ?_) (fun c11 => ?_)
          · have hf := pm_iff c11 hf
            refine pm_iload K d_Md_back_186 0 rfl ?_
            refine pm_ldc K tw_662 d_Md_back_188 ?_
            refine pm_icmp_ne K d_Md_back_190 209 (by decide) (fun c12 => ?_) (fun c12 => ?_)
            · have hf := pm_iff c12 hf
              refine pm_aload_n K d_Md_back_209 4 rfl rfl ?_
              refine pm_getR K fc_9 (o := 0) rfl 4 rfl (by decide) tw_673 d_Md_back_210 ?_
              refine pm_iload K d_Md_back_213 0 rfl ?_
              refine pm_ldc K tw_750 d_Md_back_215 ?_
              refine pm_isub K d_Md_back_217 ?_
              refine pm_aload_n K d_Md_back_218 4 rfl rfl ?_
              refine pm_getI K fc_9 (o := 0) rfl 15 rfl (by decide) tw_684 d_Md_back_219 (v := o10.2.1 0 15) rfl ?_
              obtain ⟨q13, hf⟩ := pm_bnd hf
              refine pm_iast K (o := 3) rfl rfl q13 d_Md_back_222 ?_
              refine pm_aload_n K d_Md_back_223 4 rfl rfl ?_
              refine pm_aload_n K d_Md_back_224 4 rfl rfl ?_
              refine pm_getI K fc_9 (o := 0) rfl 15 rfl (by decide) tw_684 d_Md_back_225 (v := o10.2.1 0 15) rfl ?_
              obtain ⟨o14, z14, hf⟩ := pm_bind hf
              refine pm_callV (As := [.int (o10.2.1 0 15)]) (rest := []) (o := 0) K (c_Md_give K.2.2.2.2.2.2.2.2.2.2.2.2 o14.1 o14.2 (o10.2.1 0 15) (pm_setI o10.2 3 (o10.1 - (536873000 : Int32)).toNatClampNeg (o10.2.1 0 15)) z14) mi_Md_give rfl rfl tw_850 tw_82 tw_849 rfl ⟨rfl, rfl, Nat.le_of_ble_eq_true rfl, Nat.le_of_ble_eq_true rfl⟩ rfl (Nat.le_of_ble_eq_true rfl) d_Md_back_228 ?_
              cases hf
              exact pm_iret K d_Md_back_231
            · have hf := pm_ift c12 hf
              refine pm_aload_n K d_Md_back_193 4 rfl rfl ?_
              refine pm_getR K fc_9 (o := 0) rfl 14 rfl (by decide) tw_683 d_Md_back_194 ?_
              refine pm_iload_n K d_Md_back_197 2 rfl rfl ?_
              refine pm_ldc K tw_773 d_Md_back_198 ?_
              refine pm_isub K d_Md_back_200 ?_
              refine pm_aload_n K d_Md_back_201 4 rfl rfl ?_
              refine pm_getI K fc_9 (o := 0) rfl 15 rfl (by decide) tw_684 d_Md_back_202 (v := o10.2.1 0 15) rfl ?_
              obtain ⟨q15, hf⟩ := pm_bnd hf
              refine pm_iast K (o := 11) rfl rfl q15 d_Md_back_205 ?_
              refine pm_goto K d_Md_back_206 223 (by decide) ?_
              refine pm_aload_n K d_Md_back_223 4 rfl rfl ?_
              refine pm_aload_n K d_Md_back_224 4 rfl rfl ?_
              refine pm_getI K fc_9 (o := 0) rfl 15 rfl (by decide) tw_684 d_Md_back_225 (v := o10.2.1 0 15) rfl ?_
              obtain ⟨o16, z16, hf⟩ := pm_bind hf
              refine pm_callV (As := [.int (o10.2.1 0 15)]) (rest := []) (o := 0) K (c_Md_give K.2.2.2.2.2.2.2.2.2.2.2.2 o16.1 o16.2 (o10.2.1 0 15) (pm_setI o10.2 11 ((w.1 7 ((w.1 0 11) - (1 : Int32)).toNatClampNeg) - (536871000 : Int32)).toNatClampNeg (o10.2.1 0 15)) z16) mi_Md_give rfl rfl tw_850 tw_82 tw_849 rfl ⟨rfl, rfl, Nat.le_of_ble_eq_true rfl, Nat.le_of_ble_eq_true rfl⟩ rfl (Nat.le_of_ble_eq_true rfl) d_Md_back_228 ?_
              cases hf
              exact pm_iret K d_Md_back_231
          · have hf := pm_ift c11 hf
            refine pm_aload_n K d_Md_back_169 4 rfl rfl ?_
            refine pm_getR K fc_9 (o := 0) rfl 14 rfl (by decide) tw_683 d_Md_back_170 ?_
            refine pm_iload_n K d_Md_back_173 2 rfl rfl ?_
            refine pm_ldc K tw_773 d_Md_back_174 ?_
            refine pm_isub K d_Md_back_176 ?_
            obtain ⟨q17, hf⟩ := pm_bnd hf
            refine pm_iald K (o := 11) rfl rfl q17 d_Md_back_177 (v := o10.2.1 11 ((w.1 7 ((w.1 0 11) - (1 : Int32)).toNatClampNeg) - (536871000 : Int32)).toNatClampNeg) rfl ?_
            refine pm_ldc K tw_664 d_Md_back_178 ?_
            refine pm_icmp_ne K d_Md_back_180 186 (by decide) (fun c18 => ?_) (fun c18 => ?_)
            · have hf := pm_iff c18 hf
              refine pm_iload K d_Md_back_186 0 rfl ?_
              refine pm_ldc K tw_662 d_Md_back_188 ?_
              refine pm_icmp_ne K d_Md_back_190 209 (by decide) (fun c19 => ?_) (fun c19 => ?_)
              · have hf := pm_iff c19 hf
                refine pm_aload_n K d_Md_back_209 4 rfl rfl ?_
                refine pm_getR K fc_9 (o := 0) rfl 4 rfl (by decide) tw_673 d_Md_back_210 ?_
                refine pm_iload K d_Md_back_213 0 rfl ?_
                refine pm_ldc K tw_750 d_Md_back_215 ?_
                refine pm_isub K d_Md_back_217 ?_
                refine pm_aload_n K d_Md_back_218 4 rfl rfl ?_
                refine pm_getI K fc_9 (o := 0) rfl 15 rfl (by decide) tw_684 d_Md_back_219 (v := o10.2.1 0 15) rfl ?_
                obtain ⟨q20, hf⟩ := pm_bnd hf
                refine pm_iast K (o := 3) rfl rfl q20 d_Md_back_222 ?_
                refine pm_aload_n K d_Md_back_223 4 rfl rfl ?_
                refine pm_aload_n K d_Md_back_224 4 rfl rfl ?_
                refine pm_getI K fc_9 (o := 0) rfl 15 rfl (by decide) tw_684 d_Md_back_225 (v := o10.2.1 0 15) rfl ?_
                obtain ⟨o21, z21, hf⟩ := pm_bind hf
                refine pm_callV (As := [.int (o10.2.1 0 15)]) (rest := []) (o := 0) K (c_Md_give K.2.2.2.2.2.2.2.2.2.2.2.2 o21.1 o21.2 (o10.2.1 0 15) (pm_setI o10.2 3 (o10.1 - (536873000 : Int32)).toNatClampNeg (o10.2.1 0 15)) z21) mi_Md_give rfl rfl tw_850 tw_82 tw_849 rfl ⟨rfl, rfl, Nat.le_of_ble_eq_true rfl, Nat.le_of_ble_eq_true rfl⟩ rfl (Nat.le_of_ble_eq_true rfl) d_Md_back_228 ?_
                cases hf
                exact pm_iret K d_Md_back_231
              · have hf := pm_ift c19 hf
                refine pm_aload_n K d_Md_back_193 4 rfl rfl ?_
                refine pm_getR K fc_9 (o := 0) rfl 14 rfl (by decide) tw_683 d_Md_back_194 ?_
                refine pm_iload_n K d_Md_back_197 2 rfl rfl ?_
                refine pm_ldc K tw_773 d_Md_back_198 ?_
                refine pm_isub K d_Md_back_200 ?_
                refine pm_aload_n K d_Md_back_201 4 rfl rfl ?_
                refine pm_getI K fc_9 (o := 0) rfl 15 rfl (by decide) tw_684 d_Md_back_202 (v := o10.2.1 0 15) rfl ?_
                obtain ⟨q22, hf⟩ := pm_bnd hf
                refine pm_iast K (o := 11) rfl rfl q22 d_Md_back_205 ?_
                refine pm_goto K d_Md_back_206 223 (by decide) ?_
                refine pm_aload_n K d_Md_back_223 4 rfl rfl ?_
                refine pm_aload_n K d_Md_back_224 4 rfl rfl ?_
                refine pm_getI K fc_9 (o := 0) rfl 15 rfl (by decide) tw_684 d_Md_back_225 (v := o10.2.1 0 15) rfl ?_
                obtain ⟨o23, z23, hf⟩ := pm_bind hf
                refine pm_callV (As := [.int (o10.2.1 0 15)]) (rest := []) (o := 0) K (c_Md_give K.2.2.2.2.2.2.2.2.2.2.2.2 o23.1 o23.2 (o10.2.1 0 15) (pm_setI o10.2 11 ((w.1 7 ((w.1 0 11) - (1 : Int32)).toNatClampNeg) - (536871000 : Int32)).toNatClampNeg (o10.2.1 0 15)) z23) mi_Md_give rfl rfl tw_850 tw_82 tw_849 rfl ⟨rfl, rfl, Nat.le_of_ble_eq_true rfl, Nat.le_of_ble_eq_true rfl⟩ rfl (Nat.le_of_ble_eq_true rfl) d_Md_back_228 ?_
                cases hf
                exact pm_iret K d_Md_back_231
            · have hf := pm_ift c18 hf
              refine pm_bipush (v := -2) K d_Md_back_183 (by decide) ?_
              cases hf
              exact pm_iret K d_Md_back_185
        · have hf := pm_ift c9 hf
          refine pm_aload_n K d_Md_back_135 3 rfl rfl ?_
          refine pm_getR K fc_9 (o := 0) rfl 14 rfl (by decide) tw_683 d_Md_back_136 ?_
          refine pm_iload_n K d_Md_back_139 1 rfl rfl ?_
          refine pm_ldc K tw_773 d_Md_back_140 ?_
          refine pm_isub K d_Md_back_142 ?_
          refine pm_aload_n K d_Md_back_143 3 rfl rfl ?_
          refine pm_getI K fc_9 (o := 0) rfl 15 rfl (by decide) tw_684 d_Md_back_144 (v := w.1 0 15) rfl ?_
          obtain ⟨q24, hf⟩ := pm_bnd hf
          refine pm_iast K (o := 11) rfl rfl q24 d_Md_back_147 ?_
          refine pm_aload_n K d_Md_back_148 3 rfl rfl ?_
          refine pm_iload_n K d_Md_back_149 1 rfl rfl ?_
          obtain ⟨o25, z25, hf⟩ := pm_bind hf
          refine pm_callV (As := [.int (w.1 7 ((w.1 0 11) - (1 : Int32)).toNatClampNeg)]) (rest := []) (o := 0) K (c_Md_give K.2.2.2.2.2.2.2.2.2.2.2.2 o25.1 o25.2 (w.1 7 ((w.1 0 11) - (1 : Int32)).toNatClampNeg) (pm_setI (pm_setI w 0 11 ((w.1 0 11) - (1 : Int32))) 11 ((w.1 7 ((w.1 0 11) - (1 : Int32)).toNatClampNeg) - (536871000 : Int32)).toNatClampNeg (w.1 0 15)) z25) mi_Md_give rfl rfl tw_850 tw_82 tw_849 rfl ⟨rfl, rfl, Nat.le_of_ble_eq_true rfl, Nat.le_of_ble_eq_true rfl⟩ rfl (Nat.le_of_ble_eq_true rfl) d_Md_back_150 ?_
          cases hf
          exact pm_iret K d_Md_back_153
      · have hf := pm_ift c7 hf
        refine pm_aload_n K d_Md_back_74 3 rfl rfl ?_
        refine pm_getI K fc_9 (o := 0) rfl 15 rfl (by decide) tw_684 d_Md_back_75 (v := w.1 0 15) rfl ?_
        refine pm_ldc K tw_662 d_Md_back_78 ?_
        refine pm_icmp_eq K d_Md_back_80 94 (by decide) (fun c26 => ?_) (fun c26 => ?_)
        · have hf := pm_ift c26 hf
          refine pm_aload_n K d_Md_back_94 3 rfl rfl ?_
          refine pm_iload_n K d_Md_back_95 1 rfl rfl ?_
          obtain ⟨o27, z27, hf⟩ := pm_bind hf
          refine pm_callV (As := [.int (w.1 7 ((w.1 0 11) - (1 : Int32)).toNatClampNeg)]) (rest := []) (o := 0) K (c_Md_cdr K.2.2.2.2.2.2.2.2.2.2.2.2 o27.1 o27.2 (w.1 7 ((w.1 0 11) - (1 : Int32)).toNatClampNeg) (pm_setI w 0 11 ((w.1 0 11) - (1 : Int32))) z27) mi_Md_cdr rfl rfl tw_814 tw_70 tw_813 rfl ⟨rfl, rfl, Nat.le_of_ble_eq_true rfl, Nat.le_of_ble_eq_true rfl⟩ rfl (Nat.le_of_ble_eq_true rfl) d_Md_back_96 ?_
          refine pm_ldc K tw_662 d_Md_back_99 ?_
          refine pm_icmp_ne K d_Md_back_101 113 (by decide) (fun c28 => ?_) (fun c28 => ?_)
          · have hf := pm_iff c28 hf
            refine pm_aload_n K d_Md_back_113 3 rfl rfl ?_
            refine pm_aload_n K d_Md_back_114 3 rfl rfl ?_
            refine pm_iload_n K d_Md_back_115 1 rfl rfl ?_
            refine pm_iconst (v := 1) K d_Md_back_116 (by decide) ?_
            obtain ⟨o29, z29, hf⟩ := pm_bind hf
            refine pm_callV (As := [.int (w.1 7 ((w.1 0 11) - (1 : Int32)).toNatClampNeg), .int (1 : Int32)]) (rest := [.ref (ad 0)]) (o := 0) K (c_Md_at K.2.2.2.2.2.2.2.2.2.2.2.2 o29.1 o29.2 (w.1 7 ((w.1 0 11) - (1 : Int32)).toNatClampNeg) (1 : Int32) o27.2 z29) mi_Md_at rfl rfl tw_832 tw_76 tw_831 rfl ⟨rfl, rfl, Nat.le_of_ble_eq_true rfl, Nat.le_of_ble_eq_true rfl⟩ rfl (Nat.le_of_ble_eq_true rfl) d_Md_back_117 ?_
            refine pm_iload_n K d_Md_back_120 0 rfl rfl ?_
            obtain ⟨o30, z30, hf⟩ := pm_bind hf
            refine pm_callV (As := [.int o29.1, .int (w.1 8 ((w.1 0 11) - (1 : Int32)).toNatClampNeg)]) (rest := []) (o := 0) K (c_Md_go K.2.2.2.2.2.2.2.2.2.2.2.2 o30.1 o30.2 o29.1 (w.1 8 ((w.1 0 11) - (1 : Int32)).toNatClampNeg) o29.2 z30) mi_Md_go rfl rfl tw_841 tw_79 tw_840 rfl ⟨rfl, rfl, Nat.le_of_ble_eq_true rfl, Nat.le_of_ble_eq_true rfl⟩ rfl (Nat.le_of_ble_eq_true rfl) d_Md_back_121 ?_
            cases hf
            exact pm_iret K d_Md_back_124
          · have hf := pm_ift c28 hf
            refine pm_aload_n K d_Md_back_104 3 rfl rfl ?_
            refine pm_ldc K tw_662 d_Md_back_105 ?_
            obtain ⟨o31, z31, hf⟩ := pm_bind hf
            refine pm_callV (As := [.int (536870912 : Int32)]) (rest := []) (o := 0) K (c_Md_give K.2.2.2.2.2.2.2.2.2.2.2.2 o31.1 o31.2 (536870912 : Int32) o27.2 z31) mi_Md_give rfl rfl tw_850 tw_82 tw_849 rfl ⟨rfl, rfl, Nat.le_of_ble_eq_true rfl, Nat.le_of_ble_eq_true rfl⟩ rfl (Nat.le_of_ble_eq_true rfl) d_Md_back_107 ?_
            refine pm_goto K d_Md_back_110 124 (by decide) ?_
            cases hf
            exact pm_iret K d_Md_back_124
        · have hf := pm_iff c26 hf
          refine pm_aload_n K d_Md_back_83 3 rfl rfl ?_
          refine pm_aload_n K d_Md_back_84 3 rfl rfl ?_
          refine pm_iload_n K d_Md_back_85 1 rfl rfl ?_
          obtain ⟨o32, z32, hf⟩ := pm_bind hf
          refine pm_callV (As := [.int (w.1 7 ((w.1 0 11) - (1 : Int32)).toNatClampNeg)]) (rest := [.ref (ad 0)]) (o := 0) K (c_Md_car K.2.2.2.2.2.2.2.2.2.2.2.2 o32.1 o32.2 (w.1 7 ((w.1 0 11) - (1 : Int32)).toNatClampNeg) (pm_setI w 0 11 ((w.1 0 11) - (1 : Int32))) z32) mi_Md_car rfl rfl tw_817 tw_71 tw_816 rfl ⟨rfl, rfl, Nat.le_of_ble_eq_true rfl, Nat.le_of_ble_eq_true rfl⟩ rfl (Nat.le_of_ble_eq_true rfl) d_Md_back_86 ?_
          refine pm_iload_n K d_Md_back_89 0 rfl rfl ?_
          obtain ⟨o33, z33, hf⟩ := pm_bind hf
          refine pm_callV (As := [.int o32.1, .int (w.1 8 ((w.1 0 11) - (1 : Int32)).toNatClampNeg)]) (rest := []) (o := 0) K (c_Md_go K.2.2.2.2.2.2.2.2.2.2.2.2 o33.1 o33.2 o32.1 (w.1 8 ((w.1 0 11) - (1 : Int32)).toNatClampNeg) o32.2 z33) mi_Md_go rfl rfl tw_841 tw_79 tw_840 rfl ⟨rfl, rfl, Nat.le_of_ble_eq_true rfl, Nat.le_of_ble_eq_true rfl⟩ rfl (Nat.le_of_ble_eq_true rfl) d_Md_back_90 ?_
          cases hf
          exact pm_iret K d_Md_back_93
    · have hf := pm_ift c3 hf
      refine pm_aload_n K d_Md_back_39 1 rfl rfl ?_
      refine pm_iload_n K d_Md_back_40 0 rfl rfl ?_
      obtain ⟨o34, z34, hf⟩ := pm_bind hf
      refine pm_callV (As := [.int ((w.1 0 11) - (1 : Int32))]) (rest := []) (o := 0) K (c_Md_argument K.2.2.2.2.2.2.2.2.2.2.2.2 o34.1 o34.2 ((w.1 0 11) - (1 : Int32)) w z34) mi_Md_argument rfl rfl tw_823 tw_73 tw_822 rfl ⟨rfl, rfl, Nat.le_of_ble_eq_true rfl, Nat.le_of_ble_eq_true rfl⟩ rfl (Nat.le_of_ble_eq_true rfl) d_Md_back_41 ?_
      cases hf
      exact pm_iret K d_Md_back_44
  · have hf := pm_ift c1 hf
    refine pm_aload_n K d_Md_back_7 0 rfl rfl ?_
    obtain ⟨o35, z35, hf⟩ := pm_bind hf
    refine pm_callV (As := []) (rest := []) (o := 0) K (c_Md_print K.2.2.2.2.2.2.2.2.2.2.2.2 o35 w z35) mi_Md_print rfl rfl tw_781 tw_61 tw_780 rfl ⟨rfl, rfl, Nat.le_of_ble_eq_true rfl, Nat.le_of_ble_eq_true rfl⟩ rfl (Nat.le_of_ble_eq_true rfl) d_Md_back_8 ?_
    refine pm_aload_n K d_Md_back_11 0 rfl rfl ?_
    refine pm_iconst (v := 0) K d_Md_back_12 (by decide) ?_
    refine pm_putI K fc_9 (o := 0) (ty := .boolean) rfl 17 rfl (by decide) tw_686 rfl rfl (by decide) (by decide) d_Md_back_13 ?_
    refine pm_aload_n K d_Md_back_16 0 rfl rfl ?_
    obtain ⟨o36, z36, hf⟩ := pm_bind hf
    refine pm_callV (As := []) (rest := []) (o := 0) K (c_Md_clearAll K.2.2.2.2.2.2.2.2.2.2.2.2 o36 (pm_setI o35 0 17 (0 : Int32)) z36) mi_Md_clearAll rfl rfl tw_820 tw_72 tw_819 rfl ⟨rfl, rfl, Nat.le_of_ble_eq_true rfl, Nat.le_of_ble_eq_true rfl⟩ rfl (Nat.le_of_ble_eq_true rfl) d_Md_back_17 ?_
    refine pm_iconst (v := 0) K d_Md_back_20 (by decide) ?_
    cases hf
    exact pm_iret K d_Md_back_21
/-- CellLispModel.back()I -/
theorem c_Md_back {l : Launch} {D : va_G} {ca : Nat → ClassId} {ad : Nat → Nat} {E : (Nat → Prop) → State → Heap → Prop} (hEc : pm_Ecl E) (r : Int32) (w' : pm_W) (w : pm_W) (hf : f_Md_back  w = some (r, w')) : pm_Met l pmTs D vwCl (tyl ca) shM ca ad E y_Md_back k_Md_back 5 (some .int) { frames := 7, cells := 0, slots := 0, locals := 161 } [.ref (ad 0)] w (some (.int r), w') :=
  pm_start pmTs_good hEc (by decide) (Nat.le_of_ble_eq_true rfl) (fun p e s m below meth c K => t_Md_back K r w'  w hf)
def b_Md_run_46 (rec : Nat → Int32 → Int32 → pm_W → Option (Int32 × pm_W)) (x2 : Int32) (x3 : Int32) (w : pm_W) : Option (Int32 × pm_W) :=
  if x3 = (1 : Int32) then
    if x2 ≤ 0 then
      if 0 ≤ x3 then
        some (x3, w)
      else
        Option.bind (f_Md_clearAll (pm_setI w 0 17 (0 : Int32))) fun o14 =>
        some (x3, o14)
    else
      if (w.1 0 18) = 0 then
        Option.bind (f_Md_evaluate (pm_setI w 0 19 ((w.1 0 19) + (1 : Int32)))) fun o16 =>
        rec 0 (x2 + (-1 : Int32)) o16.1 o16.2
      else
        Option.bind (f_Md_back (pm_setI w 0 19 ((w.1 0 19) + (1 : Int32)))) fun o17 =>
        rec 0 (x2 + (-1 : Int32)) o17.1 o17.2
  else
    if 0 ≤ x3 then
      some (x3, w)
    else
      Option.bind (f_Md_clearAll (pm_setI w 0 17 (0 : Int32))) fun o11 =>
      some (x3, o11)
def l_Md_run : Nat → Nat → Int32 → Int32 → pm_W → Option (Int32 × pm_W) := pm_it (fun _ _ _ _ => none) (fun rec k x2 x3 w => b_Md_run_46  rec x2 x3 w)
def f_Md_run (x1 : Int32) (w : pm_W) : Option (Int32 × pm_W) :=
  if (1 : Int32) ≤ x1 then
    if x1 ≤ (1000 : Int32) then
      if (w.1 0 17) = 0 then
        Option.bind (f_Md_reading (pm_setI w 0 0 (0 : Int32))) fun o4 =>
        (l_Md_run  pm_fuel) 0 (x1 + (-1 : Int32)) o4.1 o4.2
      else
        (l_Md_run  pm_fuel) 0 x1 (1 : Int32) (pm_setI w 0 0 (0 : Int32))
    else
      if (w.1 0 17) = 0 then
        Option.bind (f_Md_reading (pm_setI w 0 0 (0 : Int32))) fun o6 =>
        (l_Md_run  pm_fuel) 0 ((1000 : Int32) + (-1 : Int32)) o6.1 o6.2
      else
        (l_Md_run  pm_fuel) 0 (1000 : Int32) (1 : Int32) (pm_setI w 0 0 (0 : Int32))
  else
    if (w.1 0 17) = 0 then
      Option.bind (f_Md_reading (pm_setI w 0 0 (0 : Int32))) fun o8 =>
      (l_Md_run  pm_fuel) 0 ((1 : Int32) + (-1 : Int32)) o8.1 o8.2
    else
      (l_Md_run  pm_fuel) 0 (1 : Int32) (1 : Int32) (pm_setI w 0 0 (0 : Int32))
set_option maxHeartbeats 4000000 in
set_option maxRecDepth 100000 in
theorem t_Md_run_46 {p : Program} {l : Launch} {e : Env} {s : State} {m : MethodId} {args : Array Value} {below : List Frame} {meth : Method} {c : Code} {D : va_G} {ca : Nat → ClassId} {ad : Nat → Nat} {E : (Nat → Prop) → State → Heap → Prop} (K : pm_ok p s m args meth c k_Md_run 4 pmTs R_Md D vwCl (tyl ca) shM ad E (some .int)) (rec : Nat → Int32 → Int32 → pm_W → Option (Int32 × pm_W)) (r : Int32) (w' : pm_W) (h46 : ∀ (x2 : Int32) (x3 : Int32) (w : pm_W), rec 0 x2 x3 w = some (r, w') → pm_wk p l e { frames := 8, cells := 0, slots := 0, locals := 185 } s m args below meth c D vwCl shM ca ad 4 (some (.int r), w') 46 [(0, .ref (ad 0)), (2, .int x2), (3, .int x3)] [] w) (x2 : Int32) (x3 : Int32) (w : pm_W) (hf : b_Md_run_46  rec x2 x3 w = some (r, w')) : pm_wk p l e { frames := 8, cells := 0, slots := 0, locals := 185 } s m args below meth c D vwCl shM ca ad 4 (some (.int r), w') 46 [(0, .ref (ad 0)), (2, .int x2), (3, .int x3)] [] w := by
  unfold b_Md_run_46 at hf
  refine pm_iload_n K d_Md_run_46 2 rfl rfl ?_
  refine pm_iconst (v := 1) K d_Md_run_47 (by decide) ?_
  refine pm_icmp_ne K d_Md_run_48 90 (by decide) (fun c9 => ?_) (fun c9 => ?_)
  · have hf := pm_iff c9 hf
    refine pm_iload_n K d_Md_run_90 2 rfl rfl ?_
    refine pm_if_ge K d_Md_run_91 103 (by decide) (fun c10 => ?_) (fun c10 => ?_)
    · have hf := pm_ift c10 hf
      refine pm_iload_n K d_Md_run_103 2 rfl rfl ?_
      cases hf
      exact pm_iret K d_Md_run_104
    · have hf := pm_iff c10 hf
      refine pm_aload_n K d_Md_run_94 0 rfl rfl ?_
      refine pm_iconst (v := 0) K d_Md_run_95 (by decide) ?_
      refine pm_putI K fc_9 (o := 0) (ty := .boolean) rfl 17 rfl (by decide) tw_686 rfl rfl (by decide) (by decide) d_Md_run_96 ?_
      refine pm_aload_n K d_Md_run_99 0 rfl rfl ?_
      obtain ⟨o11, z11, hf⟩ := pm_bind hf
      refine pm_callV (As := []) (rest := []) (o := 0) K (c_Md_clearAll K.2.2.2.2.2.2.2.2.2.2.2.2 o11 (pm_setI w 0 17 (0 : Int32)) z11) mi_Md_clearAll rfl rfl tw_820 tw_72 tw_819 rfl ⟨rfl, rfl, Nat.le_of_ble_eq_true rfl, Nat.le_of_ble_eq_true rfl⟩ rfl (Nat.le_of_ble_eq_true rfl) d_Md_run_100 ?_
      refine pm_iload_n K d_Md_run_103 2 rfl rfl ?_
      cases hf
      exact pm_iret K d_Md_run_104
  · have hf := pm_ift c9 hf
    refine pm_iload_n K d_Md_run_51 1 rfl rfl ?_
    refine pm_if_le K d_Md_run_52 90 (by decide) (fun c12 => ?_) (fun c12 => ?_)
    · have hf := pm_ift c12 hf
      refine pm_iload_n K d_Md_run_90 2 rfl rfl ?_
      refine pm_if_ge K d_Md_run_91 103 (by decide) (fun c13 => ?_) (fun c13 => ?_)
      · have hf := pm_ift c13 hf
        refine pm_iload_n K d_Md_run_103 2 rfl rfl ?_
        cases hf
        exact pm_iret K d_Md_run_104
      · have hf := pm_iff c13 hf
        refine pm_aload_n K d_Md_run_94 0 rfl rfl ?_
        refine pm_iconst (v := 0) K d_Md_run_95 (by decide) ?_
        refine pm_putI K fc_9 (o := 0) (ty := .boolean) rfl 17 rfl (by decide) tw_686 rfl rfl (by decide) (by decide) d_Md_run_96 ?_
        refine pm_aload_n K d_Md_run_99 0 rfl rfl ?_
        obtain ⟨o14, z14, hf⟩ := pm_bind hf
        refine pm_callV (As := []) (rest := []) (o := 0) K (c_Md_clearAll K.2.2.2.2.2.2.2.2.2.2.2.2 o14 (pm_setI w 0 17 (0 : Int32)) z14) mi_Md_clearAll rfl rfl tw_820 tw_72 tw_819 rfl ⟨rfl, rfl, Nat.le_of_ble_eq_true rfl, Nat.le_of_ble_eq_true rfl⟩ rfl (Nat.le_of_ble_eq_true rfl) d_Md_run_100 ?_
        refine pm_iload_n K d_Md_run_103 2 rfl rfl ?_
        cases hf
        exact pm_iret K d_Md_run_104
    · have hf := pm_iff c12 hf
      refine pm_aload_n K d_Md_run_55 0 rfl rfl ?_
      refine pm_dup K d_Md_run_56 rfl ?_
      refine pm_getI K fc_9 (o := 0) rfl 19 rfl (by decide) tw_688 d_Md_run_57 (v := w.1 0 19) rfl ?_
      refine pm_iconst (v := 1) K d_Md_run_60 (by decide) ?_
      refine pm_iadd K d_Md_run_61 ?_
      refine pm_putI K fc_9 (o := 0) (ty := .int) rfl 19 rfl (by decide) tw_688 rfl rfl rfl rfl d_Md_run_62 ?_
      refine pm_aload_n K d_Md_run_65 0 rfl rfl ?_
      refine pm_getI K fc_9 (o := 0) rfl 18 rfl (by decide) tw_687 d_Md_run_66 (v := w.1 0 18) rfl ?_
      refine pm_if_eq K d_Md_run_69 79 (by decide) (fun c15 => ?_) (fun c15 => ?_)
      · have hf := pm_ift c15 hf
        refine pm_aload_n K d_Md_run_79 0 rfl rfl ?_
        obtain ⟨o16, z16, hf⟩ := pm_bind hf
        refine pm_callV (As := []) (rest := []) (o := 0) K (c_Md_evaluate K.2.2.2.2.2.2.2.2.2.2.2.2 o16.1 o16.2 (pm_setI w 0 19 ((w.1 0 19) + (1 : Int32))) z16) mi_Md_evaluate rfl rfl tw_856 tw_84 tw_855 rfl ⟨rfl, rfl, Nat.le_of_ble_eq_true rfl, Nat.le_of_ble_eq_true rfl⟩ rfl (Nat.le_of_ble_eq_true rfl) d_Md_run_80 ?_
        refine pm_istore_n (lv' := [(3, .int o16.1), (0, .ref (ad 0)), (2, .int x2)]) K d_Md_run_83 rfl (by decide) rfl ?_
        refine pm_iinc (v := x2 + (-1 : Int32)) (lv' := [(2, .int (x2 + (-1 : Int32))), (3, .int o16.1), (0, .ref (ad 0))]) K d_Md_run_84 2 rfl rfl (by decide) rfl ?_
        refine pm_goto K d_Md_run_87 46 (by decide) ?_
        refine pm_sub (lv' := [(0, .ref (ad 0)), (2, .int (x2 + (-1 : Int32))), (3, .int o16.1)]) [2, 0, 1] rfl ?_
        exact h46 (x2 + (-1 : Int32)) o16.1 o16.2 hf
      · have hf := pm_iff c15 hf
        refine pm_aload_n K d_Md_run_72 0 rfl rfl ?_
        obtain ⟨o17, z17, hf⟩ := pm_bind hf
        refine pm_callV (As := []) (rest := []) (o := 0) K (c_Md_back K.2.2.2.2.2.2.2.2.2.2.2.2 o17.1 o17.2 (pm_setI w 0 19 ((w.1 0 19) + (1 : Int32))) z17) mi_Md_back rfl rfl tw_778 tw_60 tw_777 rfl ⟨rfl, rfl, Nat.le_of_ble_eq_true rfl, Nat.le_of_ble_eq_true rfl⟩ rfl (Nat.le_of_ble_eq_true rfl) d_Md_run_73 ?_
        refine pm_goto K d_Md_run_76 83 (by decide) ?_
        refine pm_istore_n (lv' := [(3, .int o17.1), (0, .ref (ad 0)), (2, .int x2)]) K d_Md_run_83 rfl (by decide) rfl ?_
        refine pm_iinc (v := x2 + (-1 : Int32)) (lv' := [(2, .int (x2 + (-1 : Int32))), (3, .int o17.1), (0, .ref (ad 0))]) K d_Md_run_84 2 rfl rfl (by decide) rfl ?_
        refine pm_goto K d_Md_run_87 46 (by decide) ?_
        refine pm_sub (lv' := [(0, .ref (ad 0)), (2, .int (x2 + (-1 : Int32))), (3, .int o17.1)]) [2, 0, 1] rfl ?_
        exact h46 (x2 + (-1 : Int32)) o17.1 o17.2 hf
set_option maxHeartbeats 4000000 in
set_option maxRecDepth 100000 in
theorem a_Md_run {p : Program} {l : Launch} {e : Env} {s : State} {m : MethodId} {args : Array Value} {below : List Frame} {meth : Method} {c : Code} {D : va_G} {ca : Nat → ClassId} {ad : Nat → Nat} {E : (Nat → Prop) → State → Heap → Prop} (K : pm_ok p s m args meth c k_Md_run 4 pmTs R_Md D vwCl (tyl ca) shM ad E (some .int)) (r : Int32) (w' : pm_W) : ∀ n : Nat, (∀ (x2 : Int32) (x3 : Int32) (w : pm_W), l_Md_run  n 0 x2 x3 w = some (r, w') → pm_wk p l e { frames := 8, cells := 0, slots := 0, locals := 185 } s m args below meth c D vwCl shM ca ad 4 (some (.int r), w') 46 [(0, .ref (ad 0)), (2, .int x2), (3, .int x3)] [] w) := by
  intro n
  induction n with
  | zero => exact fun _ _ _ hf => (by cases hf)
  | succ n ih => exact fun x2 x3 w hf => t_Md_run_46 K (l_Md_run n) r w' (ih) x2 x3 w hf
set_option maxHeartbeats 4000000 in
set_option maxRecDepth 100000 in
theorem t_Md_run {p : Program} {l : Launch} {e : Env} {s : State} {m : MethodId} {args : Array Value} {below : List Frame} {meth : Method} {c : Code} {D : va_G} {ca : Nat → ClassId} {ad : Nat → Nat} {E : (Nat → Prop) → State → Heap → Prop} (K : pm_ok p s m args meth c k_Md_run 4 pmTs R_Md D vwCl (tyl ca) shM ad E (some .int)) (r : Int32) (w' : pm_W) (x1 : Int32) (w : pm_W) (hf : f_Md_run  x1 w = some (r, w')) : pm_wk p l e { frames := 8, cells := 0, slots := 0, locals := 185 } s m args below meth c D vwCl shM ca ad 4 (some (.int r), w') 0 [(0, .ref (ad 0)), (1, .int x1)] [] w := by
  unfold f_Md_run at hf
  have h46 := (a_Md_run (l := l) (e := e) (below := below) K  r w' pm_fuel)
  refine pm_aload_n K d_Md_run_0 0 rfl rfl ?_
  refine pm_iconst (v := 0) K d_Md_run_1 (by decide) ?_
  refine pm_putI K fc_9 (o := 0) (ty := .int) rfl 0 rfl (by decide) tw_669 rfl rfl rfl rfl d_Md_run_2 ?_
  refine pm_iload_n K d_Md_run_5 1 rfl rfl ?_
  refine pm_iconst (v := 1) K d_Md_run_6 (by decide) ?_
  refine pm_icmp_ge K d_Md_run_7 14 (by decide) (fun c1 => ?_) (fun c1 => ?_)
  · have hf := pm_ift c1 hf
    refine pm_iload_n K d_Md_run_14 1 rfl rfl ?_
    refine pm_sipush (v := 1000) K d_Md_run_15 (by decide) ?_
    refine pm_icmp_le K d_Md_run_18 27 (by decide) (fun c2 => ?_) (fun c2 => ?_)
    · have hf := pm_ift c2 hf
      refine pm_iload_n K d_Md_run_27 1 rfl rfl ?_
      refine pm_istore_n (lv' := [(2, .int x1), (0, .ref (ad 0)), (1, .int x1)]) K d_Md_run_28 rfl (by decide) rfl ?_
      refine pm_iconst (v := 1) K d_Md_run_29 (by decide) ?_
      refine pm_istore_n (lv' := [(3, .int (1 : Int32)), (2, .int x1), (0, .ref (ad 0)), (1, .int x1)]) K d_Md_run_30 rfl (by decide) rfl ?_
      refine pm_aload_n K d_Md_run_31 2 rfl rfl ?_
      refine pm_getI K fc_9 (o := 0) rfl 17 rfl (by decide) tw_686 d_Md_run_32 (v := w.1 0 17) rfl ?_
      refine pm_if_ne K d_Md_run_35 46 (by decide) (fun c3 => ?_) (fun c3 => ?_)
      · have hf := pm_iff c3 hf
        refine pm_sub (lv' := [(0, .ref (ad 0)), (2, .int x1), (3, .int (1 : Int32))]) [2, 1, 0] rfl ?_
        exact h46 x1 (1 : Int32) (pm_setI w 0 0 (0 : Int32)) hf
      · have hf := pm_ift c3 hf
        refine pm_aload_n K d_Md_run_38 2 rfl rfl ?_
        obtain ⟨o4, z4, hf⟩ := pm_bind hf
        refine pm_callV (As := []) (rest := []) (o := 0) K (c_Md_reading K.2.2.2.2.2.2.2.2.2.2.2.2 o4.1 o4.2 (pm_setI w 0 0 (0 : Int32)) z4) mi_Md_reading rfl rfl tw_709 tw_42 tw_708 rfl ⟨rfl, rfl, Nat.le_of_ble_eq_true rfl, Nat.le_of_ble_eq_true rfl⟩ rfl (Nat.le_of_ble_eq_true rfl) d_Md_run_39 ?_
        refine pm_istore_n (lv' := [(3, .int o4.1), (2, .int x1), (0, .ref (ad 0)), (1, .int x1)]) K d_Md_run_42 rfl (by decide) rfl ?_
        refine pm_iinc (v := x1 + (-1 : Int32)) (lv' := [(2, .int (x1 + (-1 : Int32))), (3, .int o4.1), (0, .ref (ad 0)), (1, .int x1)]) K d_Md_run_43 1 rfl rfl (by decide) rfl ?_
        refine pm_sub (lv' := [(0, .ref (ad 0)), (2, .int (x1 + (-1 : Int32))), (3, .int o4.1)]) [2, 0, 1] rfl ?_
        exact h46 (x1 + (-1 : Int32)) o4.1 o4.2 hf
    · have hf := pm_iff c2 hf
      refine pm_sipush (v := 1000) K d_Md_run_21 (by decide) ?_
      refine pm_goto K d_Md_run_24 28 (by decide) ?_
      refine pm_istore_n (lv' := [(2, .int (1000 : Int32)), (0, .ref (ad 0)), (1, .int x1)]) K d_Md_run_28 rfl (by decide) rfl ?_
      refine pm_iconst (v := 1) K d_Md_run_29 (by decide) ?_
      refine pm_istore_n (lv' := [(3, .int (1 : Int32)), (2, .int (1000 : Int32)), (0, .ref (ad 0)), (1, .int x1)]) K d_Md_run_30 rfl (by decide) rfl ?_
      refine pm_aload_n K d_Md_run_31 2 rfl rfl ?_
      refine pm_getI K fc_9 (o := 0) rfl 17 rfl (by decide) tw_686 d_Md_run_32 (v := w.1 0 17) rfl ?_
      refine pm_if_ne K d_Md_run_35 46 (by decide) (fun c5 => ?_) (fun c5 => ?_)
      · have hf := pm_iff c5 hf
        refine pm_sub (lv' := [(0, .ref (ad 0)), (2, .int (1000 : Int32)), (3, .int (1 : Int32))]) [2, 1, 0] rfl ?_
        exact h46 (1000 : Int32) (1 : Int32) (pm_setI w 0 0 (0 : Int32)) hf
      · have hf := pm_ift c5 hf
        refine pm_aload_n K d_Md_run_38 2 rfl rfl ?_
        obtain ⟨o6, z6, hf⟩ := pm_bind hf
        refine pm_callV (As := []) (rest := []) (o := 0) K (c_Md_reading K.2.2.2.2.2.2.2.2.2.2.2.2 o6.1 o6.2 (pm_setI w 0 0 (0 : Int32)) z6) mi_Md_reading rfl rfl tw_709 tw_42 tw_708 rfl ⟨rfl, rfl, Nat.le_of_ble_eq_true rfl, Nat.le_of_ble_eq_true rfl⟩ rfl (Nat.le_of_ble_eq_true rfl) d_Md_run_39 ?_
        refine pm_istore_n (lv' := [(3, .int o6.1), (2, .int (1000 : Int32)), (0, .ref (ad 0)), (1, .int x1)]) K d_Md_run_42 rfl (by decide) rfl ?_
        refine pm_iinc (v := (1000 : Int32) + (-1 : Int32)) (lv' := [(2, .int ((1000 : Int32) + (-1 : Int32))), (3, .int o6.1), (0, .ref (ad 0)), (1, .int x1)]) K d_Md_run_43 1 rfl rfl (by decide) rfl ?_
        refine pm_sub (lv' := [(0, .ref (ad 0)), (2, .int ((1000 : Int32) + (-1 : Int32))), (3, .int o6.1)]) [2, 0, 1] rfl ?_
        exact h46 ((1000 : Int32) + (-1 : Int32)) o6.1 o6.2 hf
  · have hf := pm_iff c1 hf
    refine pm_iconst (v := 1) K d_Md_run_10 (by decide) ?_
    refine pm_goto K d_Md_run_11 28 (by decide) ?_
    refine pm_istore_n (lv' := [(2, .int (1 : Int32)), (0, .ref (ad 0)), (1, .int x1)]) K d_Md_run_28 rfl (by decide) rfl ?_
    refine pm_iconst (v := 1) K d_Md_run_29 (by decide) ?_
    refine pm_istore_n (lv' := [(3, .int (1 : Int32)), (2, .int (1 : Int32)), (0, .ref (ad 0)), (1, .int x1)]) K d_Md_run_30 rfl (by decide) rfl ?_
    refine pm_aload_n K d_Md_run_31 2 rfl rfl ?_
    refine pm_getI K fc_9 (o := 0) rfl 17 rfl (by decide) tw_686 d_Md_run_32 (v := w.1 0 17) rfl ?_
    refine pm_if_ne K d_Md_run_35 46 (by decide) (fun c7 => ?_) (fun c7 => ?_)
    · have hf := pm_iff c7 hf
      refine pm_sub (lv' := [(0, .ref (ad 0)), (2, .int (1 : Int32)), (3, .int (1 : Int32))]) [2, 1, 0] rfl ?_
      exact h46 (1 : Int32) (1 : Int32) (pm_setI w 0 0 (0 : Int32)) hf
    · have hf := pm_ift c7 hf
      refine pm_aload_n K d_Md_run_38 2 rfl rfl ?_
      obtain ⟨o8, z8, hf⟩ := pm_bind hf
      refine pm_callV (As := []) (rest := []) (o := 0) K (c_Md_reading K.2.2.2.2.2.2.2.2.2.2.2.2 o8.1 o8.2 (pm_setI w 0 0 (0 : Int32)) z8) mi_Md_reading rfl rfl tw_709 tw_42 tw_708 rfl ⟨rfl, rfl, Nat.le_of_ble_eq_true rfl, Nat.le_of_ble_eq_true rfl⟩ rfl (Nat.le_of_ble_eq_true rfl) d_Md_run_39 ?_
      refine pm_istore_n (lv' := [(3, .int o8.1), (2, .int (1 : Int32)), (0, .ref (ad 0)), (1, .int x1)]) K d_Md_run_42 rfl (by decide) rfl ?_
      refine pm_iinc (v := (1 : Int32) + (-1 : Int32)) (lv' := [(2, .int ((1 : Int32) + (-1 : Int32))), (3, .int o8.1), (0, .ref (ad 0)), (1, .int x1)]) K d_Md_run_43 1 rfl rfl (by decide) rfl ?_
      refine pm_sub (lv' := [(0, .ref (ad 0)), (2, .int ((1 : Int32) + (-1 : Int32))), (3, .int o8.1)]) [2, 0, 1] rfl ?_
      exact h46 ((1 : Int32) + (-1 : Int32)) o8.1 o8.2 hf
/-- CellLispModel.run(I)I -/
theorem c_Md_run {l : Launch} {D : va_G} {ca : Nat → ClassId} {ad : Nat → Nat} {E : (Nat → Prop) → State → Heap → Prop} (hEc : pm_Ecl E) (r : Int32) (w' : pm_W) (x1 : Int32) (w : pm_W) (hf : f_Md_run  x1 w = some (r, w')) : pm_Met l pmTs D vwCl (tyl ca) shM ca ad E y_Md_run k_Md_run 4 (some .int) { frames := 8, cells := 0, slots := 0, locals := 185 } [.ref (ad 0), .int x1] w (some (.int r), w') :=
  pm_start pmTs_good hEc (by decide) (Nat.le_of_ble_eq_true rfl) (fun p e s m below meth c K => t_Md_run K r w' x1 w hf)
def f_Md_outSize (w : pm_W) : Option (Int32 × pm_W) :=
  some (w.1 0 22, pm_setI w 0 0 (0 : Int32))
set_option maxHeartbeats 4000000 in
set_option maxRecDepth 100000 in
theorem t_Md_outSize {p : Program} {l : Launch} {e : Env} {s : State} {m : MethodId} {args : Array Value} {below : List Frame} {meth : Method} {c : Code} {D : va_G} {ca : Nat → ClassId} {ad : Nat → Nat} {E : (Nat → Prop) → State → Heap → Prop} (K : pm_ok p s m args meth c k_Md_outSize 1 pmTs R_Md D vwCl (tyl ca) shM ad E (some .int)) (r : Int32) (w' : pm_W) (w : pm_W) (hf : f_Md_outSize  w = some (r, w')) : pm_wk p l e { frames := 0, cells := 0, slots := 0, locals := 0 } s m args below meth c D vwCl shM ca ad 1 (some (.int r), w') 0 [(0, .ref (ad 0))] [] w := by
  unfold f_Md_outSize at hf
  refine pm_aload_n K d_Md_outSize_0 0 rfl rfl ?_
  refine pm_iconst (v := 0) K d_Md_outSize_1 (by decide) ?_
  refine pm_putI K fc_9 (o := 0) (ty := .int) rfl 0 rfl (by decide) tw_669 rfl rfl rfl rfl d_Md_outSize_2 ?_
  refine pm_aload_n K d_Md_outSize_5 0 rfl rfl ?_
  refine pm_getI K fc_9 (o := 0) rfl 22 rfl (by decide) tw_691 d_Md_outSize_6 (v := w.1 0 22) rfl ?_
  cases hf
  exact pm_iret K d_Md_outSize_9
/-- CellLispModel.outSize()I -/
theorem c_Md_outSize {l : Launch} {D : va_G} {ca : Nat → ClassId} {ad : Nat → Nat} {E : (Nat → Prop) → State → Heap → Prop} (hEc : pm_Ecl E) (r : Int32) (w' : pm_W) (w : pm_W) (hf : f_Md_outSize  w = some (r, w')) : pm_Met l pmTs D vwCl (tyl ca) shM ca ad E y_Md_outSize k_Md_outSize 1 (some .int) { frames := 0, cells := 0, slots := 0, locals := 0 } [.ref (ad 0)] w (some (.int r), w') :=
  pm_start pmTs_good hEc (by decide) (Nat.le_of_ble_eq_true rfl) (fun p e s m below meth c K => t_Md_outSize K r w'  w hf)
def f_Md_out (x1 : Int32) (w : pm_W) : Option (Int32 × pm_W) :=
  if x1 < 0 then
    some ((-1 : Int32), pm_setI w 0 0 (0 : Int32))
  else
    if x1 < (w.1 0 22) then
      if x1 < 0 ∨ 200 ≤ x1.toNatClampNeg then none else
      some (w.1 13 x1.toNatClampNeg, pm_setI w 0 0 (0 : Int32))
    else
      some ((-1 : Int32), pm_setI w 0 0 (0 : Int32))
set_option maxHeartbeats 4000000 in
set_option maxRecDepth 100000 in
theorem t_Md_out {p : Program} {l : Launch} {e : Env} {s : State} {m : MethodId} {args : Array Value} {below : List Frame} {meth : Method} {c : Code} {D : va_G} {ca : Nat → ClassId} {ad : Nat → Nat} {E : (Nat → Prop) → State → Heap → Prop} (K : pm_ok p s m args meth c k_Md_out 2 pmTs R_Md D vwCl (tyl ca) shM ad E (some .int)) (r : Int32) (w' : pm_W) (x1 : Int32) (w : pm_W) (hf : f_Md_out  x1 w = some (r, w')) : pm_wk p l e { frames := 0, cells := 0, slots := 0, locals := 0 } s m args below meth c D vwCl shM ca ad 2 (some (.int r), w') 0 [(0, .ref (ad 0)), (1, .int x1)] [] w := by
  unfold f_Md_out at hf
  refine pm_aload_n K d_Md_out_0 0 rfl rfl ?_
  refine pm_iconst (v := 0) K d_Md_out_1 (by decide) ?_
  refine pm_putI K fc_9 (o := 0) (ty := .int) rfl 0 rfl (by decide) tw_669 rfl rfl rfl rfl d_Md_out_2 ?_
  refine pm_iload_n K d_Md_out_5 1 rfl rfl ?_
  refine pm_if_lt K d_Md_out_6 17 (by decide) (fun c1 => ?_) (fun c1 => ?_)
  · have hf := pm_ift c1 hf
    refine pm_iconst (v := -1) K d_Md_out_17 (by decide) ?_
    refine pm_goto K d_Md_out_18 27 (by decide) ?_
    cases hf
    exact pm_iret K d_Md_out_27
  · have hf := pm_iff c1 hf
    refine pm_iload_n K d_Md_out_9 1 rfl rfl ?_
    refine pm_aload_n K d_Md_out_10 0 rfl rfl ?_
    refine pm_getI K fc_9 (o := 0) rfl 22 rfl (by decide) tw_691 d_Md_out_11 (v := w.1 0 22) rfl ?_
    refine pm_icmp_lt K d_Md_out_14 21 (by decide) (fun c2 => ?_) (fun c2 => ?_)
    · have hf := pm_ift c2 hf
      refine pm_aload_n K d_Md_out_21 0 rfl rfl ?_
      refine pm_getR K fc_9 (o := 0) rfl 23 rfl (by decide) tw_692 d_Md_out_22 ?_
      refine pm_iload_n K d_Md_out_25 1 rfl rfl ?_
      obtain ⟨q3, hf⟩ := pm_bnd hf
      refine pm_cald K (o := 13) rfl rfl q3 d_Md_out_26 (v := w.1 13 x1.toNatClampNeg) rfl ?_
      cases hf
      exact pm_iret K d_Md_out_27
    · have hf := pm_iff c2 hf
      refine pm_iconst (v := -1) K d_Md_out_17 (by decide) ?_
      refine pm_goto K d_Md_out_18 27 (by decide) ?_
      cases hf
      exact pm_iret K d_Md_out_27
/-- CellLispModel.out(I)I -/
theorem c_Md_out {l : Launch} {D : va_G} {ca : Nat → ClassId} {ad : Nat → Nat} {E : (Nat → Prop) → State → Heap → Prop} (hEc : pm_Ecl E) (r : Int32) (w' : pm_W) (x1 : Int32) (w : pm_W) (hf : f_Md_out  x1 w = some (r, w')) : pm_Met l pmTs D vwCl (tyl ca) shM ca ad E y_Md_out k_Md_out 2 (some .int) { frames := 0, cells := 0, slots := 0, locals := 0 } [.ref (ad 0), .int x1] w (some (.int r), w') :=
  pm_start pmTs_good hEc (by decide) (Nat.le_of_ble_eq_true rfl) (fun p e s m below meth c K => t_Md_out K r w' x1 w hf)
def f_Md_clearOut (w : pm_W) : Option pm_W :=
  some (pm_setI (pm_setI w 0 0 (0 : Int32)) 0 22 (0 : Int32))
set_option maxHeartbeats 4000000 in
set_option maxRecDepth 100000 in
theorem t_Md_clearOut {p : Program} {l : Launch} {e : Env} {s : State} {m : MethodId} {args : Array Value} {below : List Frame} {meth : Method} {c : Code} {D : va_G} {ca : Nat → ClassId} {ad : Nat → Nat} {E : (Nat → Prop) → State → Heap → Prop} (K : pm_ok p s m args meth c k_Md_clearOut 1 pmTs R_Md D vwCl (tyl ca) shM ad E none) (w' : pm_W) (w : pm_W) (hf : f_Md_clearOut  w = some w') : pm_wk p l e { frames := 0, cells := 0, slots := 0, locals := 0 } s m args below meth c D vwCl shM ca ad 1 (none, w') 0 [(0, .ref (ad 0))] [] w := by
  unfold f_Md_clearOut at hf
  refine pm_aload_n K d_Md_clearOut_0 0 rfl rfl ?_
  refine pm_iconst (v := 0) K d_Md_clearOut_1 (by decide) ?_
  refine pm_putI K fc_9 (o := 0) (ty := .int) rfl 0 rfl (by decide) tw_669 rfl rfl rfl rfl d_Md_clearOut_2 ?_
  refine pm_aload_n K d_Md_clearOut_5 0 rfl rfl ?_
  refine pm_iconst (v := 0) K d_Md_clearOut_6 (by decide) ?_
  refine pm_putI K fc_9 (o := 0) (ty := .int) rfl 22 rfl (by decide) tw_691 rfl rfl rfl rfl d_Md_clearOut_7 ?_
  cases hf
  exact pm_vret K d_Md_clearOut_10
/-- CellLispModel.clearOut()V -/
theorem c_Md_clearOut {l : Launch} {D : va_G} {ca : Nat → ClassId} {ad : Nat → Nat} {E : (Nat → Prop) → State → Heap → Prop} (hEc : pm_Ecl E) (w' : pm_W) (w : pm_W) (hf : f_Md_clearOut  w = some w') : pm_Met l pmTs D vwCl (tyl ca) shM ca ad E y_Md_clearOut k_Md_clearOut 1 none { frames := 0, cells := 0, slots := 0, locals := 0 } [.ref (ad 0)] w (none, w') :=
  pm_start pmTs_good hEc (by decide) (Nat.le_of_ble_eq_true rfl) (fun p e s m below meth c K => t_Md_clearOut K w'  w hf)
def f_Md_liveCells (w : pm_W) : Option (Int32 × pm_W) :=
  Option.bind (f_Md_live (pm_setI w 0 0 (0 : Int32))) fun o1 =>
  some (o1.1, o1.2)
set_option maxHeartbeats 4000000 in
set_option maxRecDepth 100000 in
theorem t_Md_liveCells {p : Program} {l : Launch} {e : Env} {s : State} {m : MethodId} {args : Array Value} {below : List Frame} {meth : Method} {c : Code} {D : va_G} {ca : Nat → ClassId} {ad : Nat → Nat} {E : (Nat → Prop) → State → Heap → Prop} (K : pm_ok p s m args meth c k_Md_liveCells 1 pmTs R_Md D vwCl (tyl ca) shM ad E (some .int)) (r : Int32) (w' : pm_W) (w : pm_W) (hf : f_Md_liveCells  w = some (r, w')) : pm_wk p l e { frames := 3, cells := 0, slots := 0, locals := 64 } s m args below meth c D vwCl shM ca ad 1 (some (.int r), w') 0 [(0, .ref (ad 0))] [] w := by
  unfold f_Md_liveCells at hf
  refine pm_aload_n K d_Md_liveCells_0 0 rfl rfl ?_
  refine pm_iconst (v := 0) K d_Md_liveCells_1 (by decide) ?_
  refine pm_putI K fc_9 (o := 0) (ty := .int) rfl 0 rfl (by decide) tw_669 rfl rfl rfl rfl d_Md_liveCells_2 ?_
  refine pm_aload_n K d_Md_liveCells_5 0 rfl rfl ?_
  obtain ⟨o1, z1, hf⟩ := pm_bind hf
  refine pm_callV (As := []) (rest := []) (o := 0) K (c_Md_live K.2.2.2.2.2.2.2.2.2.2.2.2 o1.1 o1.2 (pm_setI w 0 0 (0 : Int32)) z1) mi_Md_live rfl rfl tw_742 tw_51 tw_741 rfl ⟨rfl, rfl, Nat.le_of_ble_eq_true rfl, Nat.le_of_ble_eq_true rfl⟩ rfl (Nat.le_of_ble_eq_true rfl) d_Md_liveCells_6 ?_
  cases hf
  exact pm_iret K d_Md_liveCells_9
/-- CellLispModel.liveCells()I -/
theorem c_Md_liveCells {l : Launch} {D : va_G} {ca : Nat → ClassId} {ad : Nat → Nat} {E : (Nat → Prop) → State → Heap → Prop} (hEc : pm_Ecl E) (r : Int32) (w' : pm_W) (w : pm_W) (hf : f_Md_liveCells  w = some (r, w')) : pm_Met l pmTs D vwCl (tyl ca) shM ca ad E y_Md_liveCells k_Md_liveCells 1 (some .int) { frames := 3, cells := 0, slots := 0, locals := 64 } [.ref (ad 0)] w (some (.int r), w') :=
  pm_start pmTs_good hEc (by decide) (Nat.le_of_ble_eq_true rfl) (fun p e s m below meth c K => t_Md_liveCells K r w'  w hf)
def f_Md_count (x1 : Int32) (w : pm_W) : Option (Int32 × pm_W) :=
  if x1 = 0 then
    some (w.1 0 20, pm_setI w 0 0 (0 : Int32))
  else
    if x1 = (1 : Int32) then
      some (w.1 0 11, pm_setI w 0 0 (0 : Int32))
    else
      if x1 = (2 : Int32) then
        some (w.1 0 12, pm_setI w 0 0 (0 : Int32))
      else
        if x1 = (3 : Int32) then
          some (w.1 0 19, pm_setI w 0 0 (0 : Int32))
        else
          some ((-1 : Int32), pm_setI w 0 0 (0 : Int32))
set_option maxHeartbeats 4000000 in
set_option maxRecDepth 100000 in
theorem t_Md_count {p : Program} {l : Launch} {e : Env} {s : State} {m : MethodId} {args : Array Value} {below : List Frame} {meth : Method} {c : Code} {D : va_G} {ca : Nat → ClassId} {ad : Nat → Nat} {E : (Nat → Prop) → State → Heap → Prop} (K : pm_ok p s m args meth c k_Md_count 2 pmTs R_Md D vwCl (tyl ca) shM ad E (some .int)) (r : Int32) (w' : pm_W) (x1 : Int32) (w : pm_W) (hf : f_Md_count  x1 w = some (r, w')) : pm_wk p l e { frames := 0, cells := 0, slots := 0, locals := 0 } s m args below meth c D vwCl shM ca ad 2 (some (.int r), w') 0 [(0, .ref (ad 0)), (1, .int x1)] [] w := by
  unfold f_Md_count at hf
  refine pm_aload_n K d_Md_count_0 0 rfl rfl ?_
  refine pm_iconst (v := 0) K d_Md_count_1 (by decide) ?_
  refine pm_putI K fc_9 (o := 0) (ty := .int) rfl 0 rfl (by decide) tw_669 rfl rfl rfl rfl d_Md_count_2 ?_
  refine pm_iload_n K d_Md_count_5 1 rfl rfl ?_
  refine pm_if_ne K d_Md_count_6 16 (by decide) (fun c1 => ?_) (fun c1 => ?_)
  · have hf := pm_iff c1 hf
    refine pm_iload_n K d_Md_count_16 1 rfl rfl ?_
    refine pm_iconst (v := 1) K d_Md_count_17 (by decide) ?_
    refine pm_icmp_ne K d_Md_count_18 28 (by decide) (fun c2 => ?_) (fun c2 => ?_)
    · have hf := pm_iff c2 hf
      refine pm_iload_n K d_Md_count_28 1 rfl rfl ?_
      refine pm_iconst (v := 2) K d_Md_count_29 (by decide) ?_
      refine pm_icmp_ne K d_Md_count_30 40 (by decide) (fun c3 => ?_) (fun c3 => ?_)
      · have hf := pm_iff c3 hf
        refine pm_iload_n K d_Md_count_40 1 rfl rfl ?_
        refine pm_iconst (v := 3) K d_Md_count_41 (by decide) ?_
        refine pm_icmp_ne K d_Md_count_42 52 (by decide) (fun c4 => ?_) (fun c4 => ?_)
        · have hf := pm_iff c4 hf
          refine pm_iconst (v := -1) K d_Md_count_52 (by decide) ?_
          cases hf
          exact pm_iret K d_Md_count_53
        · have hf := pm_ift c4 hf
          refine pm_aload_n K d_Md_count_45 0 rfl rfl ?_
          refine pm_getI K fc_9 (o := 0) rfl 19 rfl (by decide) tw_688 d_Md_count_46 (v := w.1 0 19) rfl ?_
          refine pm_goto K d_Md_count_49 53 (by decide) ?_
          cases hf
          exact pm_iret K d_Md_count_53
      · have hf := pm_ift c3 hf
        refine pm_aload_n K d_Md_count_33 0 rfl rfl ?_
        refine pm_getI K fc_9 (o := 0) rfl 12 rfl (by decide) tw_681 d_Md_count_34 (v := w.1 0 12) rfl ?_
        refine pm_goto K d_Md_count_37 53 (by decide) ?_
        cases hf
        exact pm_iret K d_Md_count_53
    · have hf := pm_ift c2 hf
      refine pm_aload_n K d_Md_count_21 0 rfl rfl ?_
      refine pm_getI K fc_9 (o := 0) rfl 11 rfl (by decide) tw_680 d_Md_count_22 (v := w.1 0 11) rfl ?_
      refine pm_goto K d_Md_count_25 53 (by decide) ?_
      cases hf
      exact pm_iret K d_Md_count_53
  · have hf := pm_ift c1 hf
    refine pm_aload_n K d_Md_count_9 0 rfl rfl ?_
    refine pm_getI K fc_9 (o := 0) rfl 20 rfl (by decide) tw_689 d_Md_count_10 (v := w.1 0 20) rfl ?_
    refine pm_goto K d_Md_count_13 53 (by decide) ?_
    cases hf
    exact pm_iret K d_Md_count_53
/-- CellLispModel.count(I)I -/
theorem c_Md_count {l : Launch} {D : va_G} {ca : Nat → ClassId} {ad : Nat → Nat} {E : (Nat → Prop) → State → Heap → Prop} (hEc : pm_Ecl E) (r : Int32) (w' : pm_W) (x1 : Int32) (w : pm_W) (hf : f_Md_count  x1 w = some (r, w')) : pm_Met l pmTs D vwCl (tyl ca) shM ca ad E y_Md_count k_Md_count 2 (some .int) { frames := 0, cells := 0, slots := 0, locals := 0 } [.ref (ad 0), .int x1] w (some (.int r), w') :=
  pm_start pmTs_good hEc (by decide) (Nat.le_of_ble_eq_true rfl) (fun p e s m below meth c K => t_Md_count K r w' x1 w hf)
