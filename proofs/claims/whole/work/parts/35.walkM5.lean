def f_Md_evaluate (w : pm_W) : Option (Int32 × pm_W) :=
  Option.bind (f_Md_isSymbol (w.1 0 15) w) fun o1 =>
  if o1.1 = 0 then
    Option.bind (f_Md_isPair (o1.2.1 0 15) o1.2) fun o3 =>
    if o3.1 = 0 then
      Option.bind (f_Md_give (o3.2.1 0 15) o3.2) fun o17 =>
      some (o17.1, o17.2)
    else
      Option.bind (f_Md_car (o3.2.1 0 15) o3.2) fun o5 =>
      if o5.1 < (536871010 : Int32) then
        Option.bind (f_Md_cdr (o5.2.1 0 15) o5.2) fun o7 =>
        Option.bind (f_Md_push (4 : Int32) o7.1 (o7.2.1 0 16) o7.2) fun o8 =>
        if o8.1 = (-6 : Int32) then
          some ((-6 : Int32), o8.2)
        else
          Option.bind (f_Md_go o5.1 (o8.2.1 0 16) o8.2) fun o10 =>
          some (o10.1, o10.2)
      else
        if (536871015 : Int32) ≤ o5.1 then
          Option.bind (f_Md_cdr (o5.2.1 0 15) o5.2) fun o12 =>
          Option.bind (f_Md_push (4 : Int32) o12.1 (o12.2.1 0 16) o12.2) fun o13 =>
          if o13.1 = (-6 : Int32) then
            some ((-6 : Int32), o13.2)
          else
            Option.bind (f_Md_go o5.1 (o13.2.1 0 16) o13.2) fun o15 =>
            some (o15.1, o15.2)
        else
          Option.bind (f_Md_special (o5.1 - (536871000 : Int32)) o5.2) fun o16 =>
          some (o16.1, o16.2)
  else
    Option.bind (f_Md_lookUp o1.2) fun o18 =>
    some (o18.1, o18.2)
set_option maxHeartbeats 4000000 in
set_option maxRecDepth 100000 in
theorem t_Md_evaluate {p : Program} {l : Launch} {e : Env} {s : State} {m : MethodId} {args : Array Value} {below : List Frame} {meth : Method} {c : Code} {D : va_G} {ca : Nat → ClassId} {ad : Nat → Nat} {E : (Nat → Prop) → State → Heap → Prop} (K : pm_ok p s m args meth c k_Md_evaluate 2 pmTs R_Md D vwCl (tyl ca) shM ad E (some .int)) (r : Int32) (w' : pm_W) (w : pm_W) (hf : f_Md_evaluate  w = some (r, w')) : pm_wk p l e { frames := 5, cells := 0, slots := 0, locals := 112 } s m args below meth c D vwCl shM ca ad 2 (some (.int r), w') 0 [(0, .ref (ad 0))] [] w := by
  unfold f_Md_evaluate at hf
  refine pm_aload_n K d_Md_evaluate_0 0 rfl rfl ?_
  refine pm_getI K fc_9 (o := 0) rfl 15 rfl (by decide) tw_684 d_Md_evaluate_1 (v := w.1 0 15) rfl ?_
  obtain ⟨o1, z1, hf⟩ := pm_bind hf
  refine pm_callS (As := [.int (w.1 0 15)]) (rest := []) K (c_Md_isSymbol K.2.2.2.2.2.2.2.2.2.2.2.2 o1.1 o1.2 (w.1 0 15) w z1) mi_Md_isSymbol tw_802 tw_801 rfl ⟨rfl, rfl, Nat.le_of_ble_eq_true rfl, Nat.le_of_ble_eq_true rfl⟩ rfl (Nat.le_of_ble_eq_true rfl) d_Md_evaluate_4 ?_
  refine pm_if_eq K d_Md_evaluate_7 15 (by decide) (fun c2 => ?_) (fun c2 => ?_)
  · have hf := pm_ift c2 hf
    refine pm_aload_n K d_Md_evaluate_15 0 rfl rfl ?_
    refine pm_aload_n K d_Md_evaluate_16 0 rfl rfl ?_
    refine pm_getI K fc_9 (o := 0) rfl 15 rfl (by decide) tw_684 d_Md_evaluate_17 (v := o1.2.1 0 15) rfl ?_
    obtain ⟨o3, z3, hf⟩ := pm_bind hf
    refine pm_callV (As := [.int (o1.2.1 0 15)]) (rest := []) (o := 0) K (c_Md_isPair K.2.2.2.2.2.2.2.2.2.2.2.2 o3.1 o3.2 (o1.2.1 0 15) o1.2 z3) mi_Md_isPair rfl rfl tw_787 tw_63 tw_786 rfl ⟨rfl, rfl, Nat.le_of_ble_eq_true rfl, Nat.le_of_ble_eq_true rfl⟩ rfl (Nat.le_of_ble_eq_true rfl) d_Md_evaluate_20 ?_
    refine pm_if_ne K d_Md_evaluate_23 35 (by decide) (fun c4 => ?_) (fun c4 => ?_)
    · have hf := pm_iff c4 hf
      refine pm_aload_n K d_Md_evaluate_35 0 rfl rfl ?_
      refine pm_aload_n K d_Md_evaluate_36 0 rfl rfl ?_
      refine pm_getI K fc_9 (o := 0) rfl 15 rfl (by decide) tw_684 d_Md_evaluate_37 (v := o3.2.1 0 15) rfl ?_
      obtain ⟨o5, z5, hf⟩ := pm_bind hf
      refine pm_callV (As := [.int (o3.2.1 0 15)]) (rest := []) (o := 0) K (c_Md_car K.2.2.2.2.2.2.2.2.2.2.2.2 o5.1 o5.2 (o3.2.1 0 15) o3.2 z5) mi_Md_car rfl rfl tw_817 tw_71 tw_816 rfl ⟨rfl, rfl, Nat.le_of_ble_eq_true rfl, Nat.le_of_ble_eq_true rfl⟩ rfl (Nat.le_of_ble_eq_true rfl) d_Md_evaluate_40 ?_
      refine pm_istore_n (lv' := [(1, .int o5.1), (0, .ref (ad 0))]) K d_Md_evaluate_43 rfl (by decide) rfl ?_
      refine pm_iload_n K d_Md_evaluate_44 0 rfl rfl ?_
      refine pm_ldc K tw_757 d_Md_evaluate_45 ?_
      refine pm_icmp_lt K d_Md_evaluate_47 65 (by decide) (fun c6 => ?_) (fun c6 => ?_)
      · have hf := pm_ift c6 hf
        refine pm_aload_n K d_Md_evaluate_65 1 rfl rfl ?_
        refine pm_iconst (v := 4) K d_Md_evaluate_66 (by decide) ?_
        refine pm_aload_n K d_Md_evaluate_67 1 rfl rfl ?_
        refine pm_aload_n K d_Md_evaluate_68 1 rfl rfl ?_
        refine pm_getI K fc_9 (o := 0) rfl 15 rfl (by decide) tw_684 d_Md_evaluate_69 (v := o5.2.1 0 15) rfl ?_
        obtain ⟨o7, z7, hf⟩ := pm_bind hf
        refine pm_callV (As := [.int (o5.2.1 0 15)]) (rest := [.int (4 : Int32), .ref (ad 0)]) (o := 0) K (c_Md_cdr K.2.2.2.2.2.2.2.2.2.2.2.2 o7.1 o7.2 (o5.2.1 0 15) o5.2 z7) mi_Md_cdr rfl rfl tw_814 tw_70 tw_813 rfl ⟨rfl, rfl, Nat.le_of_ble_eq_true rfl, Nat.le_of_ble_eq_true rfl⟩ rfl (Nat.le_of_ble_eq_true rfl) d_Md_evaluate_72 ?_
        refine pm_aload_n K d_Md_evaluate_75 1 rfl rfl ?_
        refine pm_getI K fc_9 (o := 0) rfl 16 rfl (by decide) tw_685 d_Md_evaluate_76 (v := o7.2.1 0 16) rfl ?_
        obtain ⟨o8, z8, hf⟩ := pm_bind hf
        refine pm_callV (As := [.int (4 : Int32), .int o7.1, .int (o7.2.1 0 16)]) (rest := []) (o := 0) K (c_Md_push K.2.2.2.2.2.2.2.2.2.2.2.2 o8.1 o8.2 (4 : Int32) o7.1 (o7.2.1 0 16) o7.2 z8) mi_Md_push rfl rfl tw_868 tw_88 tw_867 rfl ⟨rfl, rfl, Nat.le_of_ble_eq_true rfl, Nat.le_of_ble_eq_true rfl⟩ rfl (Nat.le_of_ble_eq_true rfl) d_Md_evaluate_79 ?_
        refine pm_bipush (v := -6) K d_Md_evaluate_82 (by decide) ?_
        refine pm_icmp_ne K d_Md_evaluate_84 92 (by decide) (fun c9 => ?_) (fun c9 => ?_)
        · have hf := pm_iff c9 hf
          refine pm_aload_n K d_Md_evaluate_92 1 rfl rfl ?_
          refine pm_iload_n K d_Md_evaluate_93 0 rfl rfl ?_
          refine pm_aload_n K d_Md_evaluate_94 1 rfl rfl ?_
          refine pm_getI K fc_9 (o := 0) rfl 16 rfl (by decide) tw_685 d_Md_evaluate_95 (v := o8.2.1 0 16) rfl ?_
          obtain ⟨o10, z10, hf⟩ := pm_bind hf
          refine pm_callV (As := [.int o5.1, .int (o8.2.1 0 16)]) (rest := []) (o := 0) K (c_Md_go K.2.2.2.2.2.2.2.2.2.2.2.2 o10.1 o10.2 o5.1 (o8.2.1 0 16) o8.2 z10) mi_Md_go rfl rfl tw_841 tw_79 tw_840 rfl ⟨rfl, rfl, Nat.le_of_ble_eq_true rfl, Nat.le_of_ble_eq_true rfl⟩ rfl (Nat.le_of_ble_eq_true rfl) d_Md_evaluate_98 ?_
          cases hf
          exact pm_iret K d_Md_evaluate_101
        · have hf := pm_ift c9 hf
          refine pm_bipush (v := -6) K d_Md_evaluate_87 (by decide) ?_
          refine pm_goto K d_Md_evaluate_89 101 (by decide) ?_
          cases hf
          exact pm_iret K d_Md_evaluate_101
      · have hf := pm_iff c6 hf
        refine pm_iload_n K d_Md_evaluate_50 0 rfl rfl ?_
        refine pm_ldc K tw_668 d_Md_evaluate_51 ?_
        refine pm_icmp_ge K d_Md_evaluate_53 65 (by decide) (fun c11 => ?_) (fun c11 => ?_)
        · have hf := pm_ift c11 hf
          refine pm_aload_n K d_Md_evaluate_65 1 rfl rfl ?_
          refine pm_iconst (v := 4) K d_Md_evaluate_66 (by decide) ?_
          refine pm_aload_n K d_Md_evaluate_67 1 rfl rfl ?_
          refine pm_aload_n K d_Md_evaluate_68 1 rfl rfl ?_
          refine pm_getI K fc_9 (o := 0) rfl 15 rfl (by decide) tw_684 d_Md_evaluate_69 (v := o5.2.1 0 15) rfl ?_
          obtain ⟨o12, z12, hf⟩ := pm_bind hf
          refine pm_callV (As := [.int (o5.2.1 0 15)]) (rest := [.int (4 : Int32), .ref (ad 0)]) (o := 0) K (c_Md_cdr K.2.2.2.2.2.2.2.2.2.2.2.2 o12.1 o12.2 (o5.2.1 0 15) o5.2 z12) mi_Md_cdr rfl rfl tw_814 tw_70 tw_813 rfl ⟨rfl, rfl, Nat.le_of_ble_eq_true rfl, Nat.le_of_ble_eq_true rfl⟩ rfl (Nat.le_of_ble_eq_true rfl) d_Md_evaluate_72 ?_
          refine pm_aload_n K d_Md_evaluate_75 1 rfl rfl ?_
          refine pm_getI K fc_9 (o := 0) rfl 16 rfl (by decide) tw_685 d_Md_evaluate_76 (v := o12.2.1 0 16) rfl ?_
          obtain ⟨o13, z13, hf⟩ := pm_bind hf
          refine pm_callV (As := [.int (4 : Int32), .int o12.1, .int (o12.2.1 0 16)]) (rest := []) (o := 0) K (c_Md_push K.2.2.2.2.2.2.2.2.2.2.2.2 o13.1 o13.2 (4 : Int32) o12.1 (o12.2.1 0 16) o12.2 z13) mi_Md_push rfl rfl tw_868 tw_88 tw_867 rfl ⟨rfl, rfl, Nat.le_of_ble_eq_true rfl, Nat.le_of_ble_eq_true rfl⟩ rfl (Nat.le_of_ble_eq_true rfl) d_Md_evaluate_79 ?_
          refine pm_bipush (v := -6) K d_Md_evaluate_82 (by decide) ?_
          refine pm_icmp_ne K d_Md_evaluate_84 92 (by decide) (fun c14 => ?_) (fun c14 => ?_)
          · have hf := pm_iff c14 hf
            refine pm_aload_n K d_Md_evaluate_92 1 rfl rfl ?_
            refine pm_iload_n K d_Md_evaluate_93 0 rfl rfl ?_
            refine pm_aload_n K d_Md_evaluate_94 1 rfl rfl ?_
            refine pm_getI K fc_9 (o := 0) rfl 16 rfl (by decide) tw_685 d_Md_evaluate_95 (v := o13.2.1 0 16) rfl ?_
            obtain ⟨o15, z15, hf⟩ := pm_bind hf
            refine pm_callV (As := [.int o5.1, .int (o13.2.1 0 16)]) (rest := []) (o := 0) K (c_Md_go K.2.2.2.2.2.2.2.2.2.2.2.2 o15.1 o15.2 o5.1 (o13.2.1 0 16) o13.2 z15) mi_Md_go rfl rfl tw_841 tw_79 tw_840 rfl ⟨rfl, rfl, Nat.le_of_ble_eq_true rfl, Nat.le_of_ble_eq_true rfl⟩ rfl (Nat.le_of_ble_eq_true rfl) d_Md_evaluate_98 ?_
            cases hf
            exact pm_iret K d_Md_evaluate_101
          · have hf := pm_ift c14 hf
            refine pm_bipush (v := -6) K d_Md_evaluate_87 (by decide) ?_
            refine pm_goto K d_Md_evaluate_89 101 (by decide) ?_
            cases hf
            exact pm_iret K d_Md_evaluate_101
        · have hf := pm_iff c11 hf
          refine pm_aload_n K d_Md_evaluate_56 1 rfl rfl ?_
          refine pm_iload_n K d_Md_evaluate_57 0 rfl rfl ?_
          refine pm_ldc K tw_773 d_Md_evaluate_58 ?_
          refine pm_isub K d_Md_evaluate_60 ?_
          obtain ⟨o16, z16, hf⟩ := pm_bind hf
          refine pm_callV (As := [.int (o5.1 - (536871000 : Int32))]) (rest := []) (o := 0) K (c_Md_special K.2.2.2.2.2.2.2.2.2.2.2.2 o16.1 o16.2 (o5.1 - (536871000 : Int32)) o5.2 z16) mi_Md_special rfl rfl tw_862 tw_86 tw_861 rfl ⟨rfl, rfl, Nat.le_of_ble_eq_true rfl, Nat.le_of_ble_eq_true rfl⟩ rfl (Nat.le_of_ble_eq_true rfl) d_Md_evaluate_61 ?_
          cases hf
          exact pm_iret K d_Md_evaluate_64
    · have hf := pm_ift c4 hf
      refine pm_aload_n K d_Md_evaluate_26 0 rfl rfl ?_
      refine pm_aload_n K d_Md_evaluate_27 0 rfl rfl ?_
      refine pm_getI K fc_9 (o := 0) rfl 15 rfl (by decide) tw_684 d_Md_evaluate_28 (v := o3.2.1 0 15) rfl ?_
      obtain ⟨o17, z17, hf⟩ := pm_bind hf
      refine pm_callV (As := [.int (o3.2.1 0 15)]) (rest := []) (o := 0) K (c_Md_give K.2.2.2.2.2.2.2.2.2.2.2.2 o17.1 o17.2 (o3.2.1 0 15) o3.2 z17) mi_Md_give rfl rfl tw_850 tw_82 tw_849 rfl ⟨rfl, rfl, Nat.le_of_ble_eq_true rfl, Nat.le_of_ble_eq_true rfl⟩ rfl (Nat.le_of_ble_eq_true rfl) d_Md_evaluate_31 ?_
      cases hf
      exact pm_iret K d_Md_evaluate_34
  · have hf := pm_iff c2 hf
    refine pm_aload_n K d_Md_evaluate_10 0 rfl rfl ?_
    obtain ⟨o18, z18, hf⟩ := pm_bind hf
    refine pm_callV (As := []) (rest := []) (o := 0) K (c_Md_lookUp K.2.2.2.2.2.2.2.2.2.2.2.2 o18.1 o18.2 o1.2 z18) mi_Md_lookUp rfl rfl tw_859 tw_85 tw_858 rfl ⟨rfl, rfl, Nat.le_of_ble_eq_true rfl, Nat.le_of_ble_eq_true rfl⟩ rfl (Nat.le_of_ble_eq_true rfl) d_Md_evaluate_11 ?_
    cases hf
    exact pm_iret K d_Md_evaluate_14
/-- CellLispModel.evaluate()I -/
theorem c_Md_evaluate {l : Launch} {D : va_G} {ca : Nat → ClassId} {ad : Nat → Nat} {E : (Nat → Prop) → State → Heap → Prop} (hEc : pm_Ecl E) (r : Int32) (w' : pm_W) (w : pm_W) (hf : f_Md_evaluate  w = some (r, w')) : pm_Met l pmTs D vwCl (tyl ca) shM ca ad E y_Md_evaluate k_Md_evaluate 2 (some .int) { frames := 5, cells := 0, slots := 0, locals := 112 } [.ref (ad 0)] w (some (.int r), w') :=
  pm_start pmTs_good hEc (by decide) (Nat.le_of_ble_eq_true rfl) (fun p e s m below meth c K => t_Md_evaluate K r w'  w hf)
def f_Md_done (x1 : Int32) (w : pm_W) : Option (Int32 × pm_W) :=
  Option.bind (f_Md_give x1 (pm_setI w 0 11 ((w.1 0 11) - (1 : Int32)))) fun o1 =>
  some (o1.1, o1.2)
set_option maxHeartbeats 4000000 in
set_option maxRecDepth 100000 in
theorem t_Md_done {p : Program} {l : Launch} {e : Env} {s : State} {m : MethodId} {args : Array Value} {below : List Frame} {meth : Method} {c : Code} {D : va_G} {ca : Nat → ClassId} {ad : Nat → Nat} {E : (Nat → Prop) → State → Heap → Prop} (K : pm_ok p s m args meth c k_Md_done 2 pmTs R_Md D vwCl (tyl ca) shM ad E (some .int)) (r : Int32) (w' : pm_W) (x1 : Int32) (w : pm_W) (hf : f_Md_done  x1 w = some (r, w')) : pm_wk p l e { frames := 1, cells := 0, slots := 0, locals := 21 } s m args below meth c D vwCl shM ca ad 2 (some (.int r), w') 0 [(0, .ref (ad 0)), (1, .int x1)] [] w := by
  unfold f_Md_done at hf
  refine pm_aload_n K d_Md_done_0 0 rfl rfl ?_
  refine pm_dup K d_Md_done_1 rfl ?_
  refine pm_getI K fc_9 (o := 0) rfl 11 rfl (by decide) tw_680 d_Md_done_2 (v := w.1 0 11) rfl ?_
  refine pm_iconst (v := 1) K d_Md_done_5 (by decide) ?_
  refine pm_isub K d_Md_done_6 ?_
  refine pm_putI K fc_9 (o := 0) (ty := .int) rfl 11 rfl (by decide) tw_680 rfl rfl rfl rfl d_Md_done_7 ?_
  refine pm_aload_n K d_Md_done_10 0 rfl rfl ?_
  refine pm_iload_n K d_Md_done_11 1 rfl rfl ?_
  obtain ⟨o1, z1, hf⟩ := pm_bind hf
  refine pm_callV (As := [.int x1]) (rest := []) (o := 0) K (c_Md_give K.2.2.2.2.2.2.2.2.2.2.2.2 o1.1 o1.2 x1 (pm_setI w 0 11 ((w.1 0 11) - (1 : Int32))) z1) mi_Md_give rfl rfl tw_850 tw_82 tw_849 rfl ⟨rfl, rfl, Nat.le_of_ble_eq_true rfl, Nat.le_of_ble_eq_true rfl⟩ rfl (Nat.le_of_ble_eq_true rfl) d_Md_done_12 ?_
  cases hf
  exact pm_iret K d_Md_done_15
/-- CellLispModel.done(I)I -/
theorem c_Md_done {l : Launch} {D : va_G} {ca : Nat → ClassId} {ad : Nat → Nat} {E : (Nat → Prop) → State → Heap → Prop} (hEc : pm_Ecl E) (r : Int32) (w' : pm_W) (x1 : Int32) (w : pm_W) (hf : f_Md_done  x1 w = some (r, w')) : pm_Met l pmTs D vwCl (tyl ca) shM ca ad E y_Md_done k_Md_done 2 (some .int) { frames := 1, cells := 0, slots := 0, locals := 21 } [.ref (ad 0), .int x1] w (some (.int r), w') :=
  pm_start pmTs_good hEc (by decide) (Nat.le_of_ble_eq_true rfl) (fun p e s m below meth c K => t_Md_done K r w' x1 w hf)
def b_Md_listed_19 (rec : Nat → Int32 → Int32 → Int32 → Int32 → pm_W → Option (Int32 × pm_W)) (x1 : Int32) (x2 : Int32) (x3 : Int32) (x4 : Int32) (w : pm_W) : Option (Int32 × pm_W) :=
  if x2 ≤ x4 then
    Option.bind (f_Md_done x3 w) fun o4 =>
    some (o4.1, o4.2)
  else
    Option.bind (f_Md_at x1 x4 w) fun o5 =>
    Option.bind (f_Md_pair o5.1 x3 o5.2) fun o6 =>
    rec 0 x1 x2 o6.1 (x4 + (1 : Int32)) o6.2
def l_Md_listed : Nat → Nat → Int32 → Int32 → Int32 → Int32 → pm_W → Option (Int32 × pm_W) := pm_it (fun _ _ _ _ _ _ => none) (fun rec k x1 x2 x3 x4 w => b_Md_listed_19  rec x1 x2 x3 x4 w)
def f_Md_listed (x1 : Int32) (x2 : Int32) (w : pm_W) : Option (Int32 × pm_W) :=
  Option.bind (f_Md_room ((2 : Int32) * x2) w) fun o1 =>
  if o1.1 = 0 then
    some ((-7 : Int32), o1.2)
  else
    (l_Md_listed  pm_fuel) 0 x1 x2 (536870912 : Int32) (0 : Int32) o1.2
set_option maxHeartbeats 4000000 in
set_option maxRecDepth 100000 in
theorem t_Md_listed_19 {p : Program} {l : Launch} {e : Env} {s : State} {m : MethodId} {args : Array Value} {below : List Frame} {meth : Method} {c : Code} {D : va_G} {ca : Nat → ClassId} {ad : Nat → Nat} {E : (Nat → Prop) → State → Heap → Prop} (K : pm_ok p s m args meth c k_Md_listed 5 pmTs R_Md D vwCl (tyl ca) shM ad E (some .int)) (rec : Nat → Int32 → Int32 → Int32 → Int32 → pm_W → Option (Int32 × pm_W)) (r : Int32) (w' : pm_W) (h19 : ∀ (x1 : Int32) (x2 : Int32) (x3 : Int32) (x4 : Int32) (w : pm_W), rec 0 x1 x2 x3 x4 w = some (r, w') → pm_wk p l e { frames := 4, cells := 0, slots := 0, locals := 87 } s m args below meth c D vwCl shM ca ad 5 (some (.int r), w') 19 [(0, .ref (ad 0)), (1, .int x1), (2, .int x2), (3, .int x3), (4, .int x4)] [] w) (x1 : Int32) (x2 : Int32) (x3 : Int32) (x4 : Int32) (w : pm_W) (hf : b_Md_listed_19  rec x1 x2 x3 x4 w = some (r, w')) : pm_wk p l e { frames := 4, cells := 0, slots := 0, locals := 87 } s m args below meth c D vwCl shM ca ad 5 (some (.int r), w') 19 [(0, .ref (ad 0)), (1, .int x1), (2, .int x2), (3, .int x3), (4, .int x4)] [] w := by
  unfold b_Md_listed_19 at hf
  refine pm_iload K d_Md_listed_19 4 rfl ?_
  refine pm_iload_n K d_Md_listed_21 2 rfl rfl ?_
  refine pm_icmp_ge K d_Md_listed_22 44 (by decide) (fun c3 => ?_) (fun c3 => ?_)
  · have hf := pm_ift c3 hf
    refine pm_aload_n K d_Md_listed_44 0 rfl rfl ?_
    refine pm_iload_n K d_Md_listed_45 3 rfl rfl ?_
    obtain ⟨o4, z4, hf⟩ := pm_bind hf
    refine pm_callV (As := [.int x3]) (rest := []) (o := 0) K (c_Md_done K.2.2.2.2.2.2.2.2.2.2.2.2 o4.1 o4.2 x3 w z4) mi_Md_done rfl rfl tw_847 tw_81 tw_846 rfl ⟨rfl, rfl, Nat.le_of_ble_eq_true rfl, Nat.le_of_ble_eq_true rfl⟩ rfl (Nat.le_of_ble_eq_true rfl) d_Md_listed_46 ?_
    cases hf
    exact pm_iret K d_Md_listed_49
  · have hf := pm_iff c3 hf
    refine pm_aload_n K d_Md_listed_25 0 rfl rfl ?_
    refine pm_aload_n K d_Md_listed_26 0 rfl rfl ?_
    refine pm_iload_n K d_Md_listed_27 1 rfl rfl ?_
    refine pm_iload K d_Md_listed_28 4 rfl ?_
    obtain ⟨o5, z5, hf⟩ := pm_bind hf
    refine pm_callV (As := [.int x1, .int x4]) (rest := [.ref (ad 0)]) (o := 0) K (c_Md_at K.2.2.2.2.2.2.2.2.2.2.2.2 o5.1 o5.2 x1 x4 w z5) mi_Md_at rfl rfl tw_832 tw_76 tw_831 rfl ⟨rfl, rfl, Nat.le_of_ble_eq_true rfl, Nat.le_of_ble_eq_true rfl⟩ rfl (Nat.le_of_ble_eq_true rfl) d_Md_listed_30 ?_
    refine pm_iload_n K d_Md_listed_33 3 rfl rfl ?_
    obtain ⟨o6, z6, hf⟩ := pm_bind hf
    refine pm_callV (As := [.int o5.1, .int x3]) (rest := []) (o := 0) K (c_Md_pair K.2.2.2.2.2.2.2.2.2.2.2.2 o6.1 o6.2 o5.1 x3 o5.2 z6) mi_Md_pair rfl rfl tw_759 tw_55 tw_758 rfl ⟨rfl, rfl, Nat.le_of_ble_eq_true rfl, Nat.le_of_ble_eq_true rfl⟩ rfl (Nat.le_of_ble_eq_true rfl) d_Md_listed_34 ?_
    refine pm_istore_n (lv' := [(3, .int o6.1), (0, .ref (ad 0)), (1, .int x1), (2, .int x2), (4, .int x4)]) K d_Md_listed_37 rfl (by decide) rfl ?_
    refine pm_iinc (v := x4 + (1 : Int32)) (lv' := [(4, .int (x4 + (1 : Int32))), (3, .int o6.1), (0, .ref (ad 0)), (1, .int x1), (2, .int x2)]) K d_Md_listed_38 4 rfl rfl (by decide) rfl ?_
    refine pm_goto K d_Md_listed_41 19 (by decide) ?_
    refine pm_sub (lv' := [(0, .ref (ad 0)), (1, .int x1), (2, .int x2), (3, .int o6.1), (4, .int (x4 + (1 : Int32)))]) [2, 3, 4, 1, 0] rfl ?_
    exact h19 x1 x2 o6.1 (x4 + (1 : Int32)) o6.2 hf
set_option maxHeartbeats 4000000 in
set_option maxRecDepth 100000 in
theorem a_Md_listed {p : Program} {l : Launch} {e : Env} {s : State} {m : MethodId} {args : Array Value} {below : List Frame} {meth : Method} {c : Code} {D : va_G} {ca : Nat → ClassId} {ad : Nat → Nat} {E : (Nat → Prop) → State → Heap → Prop} (K : pm_ok p s m args meth c k_Md_listed 5 pmTs R_Md D vwCl (tyl ca) shM ad E (some .int)) (r : Int32) (w' : pm_W) : ∀ n : Nat, (∀ (x1 : Int32) (x2 : Int32) (x3 : Int32) (x4 : Int32) (w : pm_W), l_Md_listed  n 0 x1 x2 x3 x4 w = some (r, w') → pm_wk p l e { frames := 4, cells := 0, slots := 0, locals := 87 } s m args below meth c D vwCl shM ca ad 5 (some (.int r), w') 19 [(0, .ref (ad 0)), (1, .int x1), (2, .int x2), (3, .int x3), (4, .int x4)] [] w) := by
  intro n
  induction n with
  | zero => exact fun _ _ _ _ _ hf => (by cases hf)
  | succ n ih => exact fun x1 x2 x3 x4 w hf => t_Md_listed_19 K (l_Md_listed n) r w' (ih) x1 x2 x3 x4 w hf
set_option maxHeartbeats 4000000 in
set_option maxRecDepth 100000 in
theorem t_Md_listed {p : Program} {l : Launch} {e : Env} {s : State} {m : MethodId} {args : Array Value} {below : List Frame} {meth : Method} {c : Code} {D : va_G} {ca : Nat → ClassId} {ad : Nat → Nat} {E : (Nat → Prop) → State → Heap → Prop} (K : pm_ok p s m args meth c k_Md_listed 5 pmTs R_Md D vwCl (tyl ca) shM ad E (some .int)) (r : Int32) (w' : pm_W) (x1 : Int32) (x2 : Int32) (w : pm_W) (hf : f_Md_listed  x1 x2 w = some (r, w')) : pm_wk p l e { frames := 4, cells := 0, slots := 0, locals := 87 } s m args below meth c D vwCl shM ca ad 5 (some (.int r), w') 0 [(0, .ref (ad 0)), (1, .int x1), (2, .int x2)] [] w := by
  unfold f_Md_listed at hf
  have h19 := (a_Md_listed (l := l) (e := e) (below := below) K  r w' pm_fuel)
  refine pm_aload_n K d_Md_listed_0 0 rfl rfl ?_
  refine pm_iconst (v := 2) K d_Md_listed_1 (by decide) ?_
  refine pm_iload_n K d_Md_listed_2 2 rfl rfl ?_
  refine pm_imul K d_Md_listed_3 ?_
  obtain ⟨o1, z1, hf⟩ := pm_bind hf
  refine pm_callV (As := [.int ((2 : Int32) * x2)]) (rest := []) (o := 0) K (c_Md_room K.2.2.2.2.2.2.2.2.2.2.2.2 o1.1 o1.2 ((2 : Int32) * x2) w z1) mi_Md_room rfl rfl tw_739 tw_50 tw_738 rfl ⟨rfl, rfl, Nat.le_of_ble_eq_true rfl, Nat.le_of_ble_eq_true rfl⟩ rfl (Nat.le_of_ble_eq_true rfl) d_Md_listed_4 ?_
  refine pm_if_ne K d_Md_listed_7 13 (by decide) (fun c2 => ?_) (fun c2 => ?_)
  · have hf := pm_iff c2 hf
    refine pm_ldc K tw_662 d_Md_listed_13 ?_
    refine pm_istore_n (lv' := [(3, .int (536870912 : Int32)), (0, .ref (ad 0)), (1, .int x1), (2, .int x2)]) K d_Md_listed_15 rfl (by decide) rfl ?_
    refine pm_iconst (v := 0) K d_Md_listed_16 (by decide) ?_
    refine pm_istore (lv' := [(4, .int (0 : Int32)), (3, .int (536870912 : Int32)), (0, .ref (ad 0)), (1, .int x1), (2, .int x2)]) K d_Md_listed_17 (by decide) rfl ?_
    refine pm_sub (lv' := [(0, .ref (ad 0)), (1, .int x1), (2, .int x2), (3, .int (536870912 : Int32)), (4, .int (0 : Int32))]) [2, 3, 4, 1, 0] rfl ?_
    exact h19 x1 x2 (536870912 : Int32) (0 : Int32) o1.2 hf
  · have hf := pm_ift c2 hf
    refine pm_bipush (v := -7) K d_Md_listed_10 (by decide) ?_
    cases hf
    exact pm_iret K d_Md_listed_12
/-- CellLispModel.listed(II)I -/
theorem c_Md_listed {l : Launch} {D : va_G} {ca : Nat → ClassId} {ad : Nat → Nat} {E : (Nat → Prop) → State → Heap → Prop} (hEc : pm_Ecl E) (r : Int32) (w' : pm_W) (x1 : Int32) (x2 : Int32) (w : pm_W) (hf : f_Md_listed  x1 x2 w = some (r, w')) : pm_Met l pmTs D vwCl (tyl ca) shM ca ad E y_Md_listed k_Md_listed 5 (some .int) { frames := 4, cells := 0, slots := 0, locals := 87 } [.ref (ad 0), .int x1, .int x2] w (some (.int r), w') :=
  pm_start pmTs_good hEc (by decide) (Nat.le_of_ble_eq_true rfl) (fun p e s m below meth c K => t_Md_listed K r w' x1 x2 w hf)
def b_Md_enter_43 (rec : Nat → Int32 → Int32 → Int32 → Int32 → Int32 → pm_W → Option (Int32 × pm_W)) (x1 : Int32) (x2 : Int32) (x3 : Int32) (x4 : Int32) (x5 : Int32) (w : pm_W) : Option (Int32 × pm_W) :=
  if x2 ≤ x5 then
    Option.bind (f_Md_cdr x3 (pm_setI w 0 11 ((w.1 0 11) - (1 : Int32)))) fun o8 =>
    Option.bind (f_Md_go o8.1 x4 o8.2) fun o9 =>
    some (o9.1, o9.2)
  else
    Option.bind (f_Md_car x3 w) fun o10 =>
    Option.bind (f_Md_at o10.1 x5 o10.2) fun o11 =>
    Option.bind (f_Md_at x1 ((x2 - (1 : Int32)) - x5) o11.2) fun o12 =>
    Option.bind (f_Md_pair o11.1 o12.1 o12.2) fun o13 =>
    Option.bind (f_Md_pair o13.1 x4 o13.2) fun o14 =>
    rec 0 x1 x2 x3 o14.1 (x5 + (1 : Int32)) o14.2
def l_Md_enter : Nat → Nat → Int32 → Int32 → Int32 → Int32 → Int32 → pm_W → Option (Int32 × pm_W) := pm_it (fun _ _ _ _ _ _ _ => none) (fun rec k x1 x2 x3 x4 x5 w => b_Md_enter_43  rec x1 x2 x3 x4 x5 w)
def f_Md_enter (x1 : Int32) (x2 : Int32) (x3 : Int32) (w : pm_W) : Option (Int32 × pm_W) :=
  Option.bind (f_Md_car x3 w) fun o1 =>
  Option.bind (f_Md_lengthOf o1.1 o1.2) fun o2 =>
  if o2.1 = x2 then
    Option.bind (f_Md_room ((4 : Int32) * x2) o2.2) fun o4 =>
    if o4.1 = 0 then
      some ((-7 : Int32), o4.2)
    else
      if (x3 - (536873000 : Int32)) < 0 ∨ 206 ≤ (x3 - (536873000 : Int32)).toNatClampNeg then none else
      (l_Md_enter  pm_fuel) 0 x1 x2 x3 (o4.2.1 4 (x3 - (536873000 : Int32)).toNatClampNeg) (0 : Int32) o4.2
  else
    some ((-4 : Int32), o2.2)
set_option maxHeartbeats 4000000 in
set_option maxRecDepth 100000 in
theorem t_Md_enter_43 {p : Program} {l : Launch} {e : Env} {s : State} {m : MethodId} {args : Array Value} {below : List Frame} {meth : Method} {c : Code} {D : va_G} {ca : Nat → ClassId} {ad : Nat → Nat} {E : (Nat → Prop) → State → Heap → Prop} (K : pm_ok p s m args meth c k_Md_enter 6 pmTs R_Md D vwCl (tyl ca) shM ad E (some .int)) (rec : Nat → Int32 → Int32 → Int32 → Int32 → Int32 → pm_W → Option (Int32 × pm_W)) (r : Int32) (w' : pm_W) (h43 : ∀ (x1 : Int32) (x2 : Int32) (x3 : Int32) (x4 : Int32) (x5 : Int32) (w : pm_W), rec 0 x1 x2 x3 x4 x5 w = some (r, w') → pm_wk p l e { frames := 4, cells := 0, slots := 0, locals := 87 } s m args below meth c D vwCl shM ca ad 6 (some (.int r), w') 43 [(0, .ref (ad 0)), (1, .int x1), (2, .int x2), (3, .int x3), (4, .int x4), (5, .int x5)] [] w) (x1 : Int32) (x2 : Int32) (x3 : Int32) (x4 : Int32) (x5 : Int32) (w : pm_W) (hf : b_Md_enter_43  rec x1 x2 x3 x4 x5 w = some (r, w')) : pm_wk p l e { frames := 4, cells := 0, slots := 0, locals := 87 } s m args below meth c D vwCl shM ca ad 6 (some (.int r), w') 43 [(0, .ref (ad 0)), (1, .int x1), (2, .int x2), (3, .int x3), (4, .int x4), (5, .int x5)] [] w := by
  unfold b_Md_enter_43 at hf
  refine pm_iload K d_Md_enter_43 5 rfl ?_
  refine pm_iload_n K d_Md_enter_45 2 rfl rfl ?_
  refine pm_icmp_ge K d_Md_enter_46 89 (by decide) (fun c7 => ?_) (fun c7 => ?_)
  · have hf := pm_ift c7 hf
    refine pm_aload_n K d_Md_enter_89 0 rfl rfl ?_
    refine pm_dup K d_Md_enter_90 rfl ?_
    refine pm_getI K fc_9 (o := 0) rfl 11 rfl (by decide) tw_680 d_Md_enter_91 (v := w.1 0 11) rfl ?_
    refine pm_iconst (v := 1) K d_Md_enter_94 (by decide) ?_
    refine pm_isub K d_Md_enter_95 ?_
    refine pm_putI K fc_9 (o := 0) (ty := .int) rfl 11 rfl (by decide) tw_680 rfl rfl rfl rfl d_Md_enter_96 ?_
    refine pm_aload_n K d_Md_enter_99 0 rfl rfl ?_
    refine pm_aload_n K d_Md_enter_100 0 rfl rfl ?_
    refine pm_iload_n K d_Md_enter_101 3 rfl rfl ?_
    obtain ⟨o8, z8, hf⟩ := pm_bind hf
    refine pm_callV (As := [.int x3]) (rest := [.ref (ad 0)]) (o := 0) K (c_Md_cdr K.2.2.2.2.2.2.2.2.2.2.2.2 o8.1 o8.2 x3 (pm_setI w 0 11 ((w.1 0 11) - (1 : Int32))) z8) mi_Md_cdr rfl rfl tw_814 tw_70 tw_813 rfl ⟨rfl, rfl, Nat.le_of_ble_eq_true rfl, Nat.le_of_ble_eq_true rfl⟩ rfl (Nat.le_of_ble_eq_true rfl) d_Md_enter_102 ?_
    refine pm_iload K d_Md_enter_105 4 rfl ?_
    obtain ⟨o9, z9, hf⟩ := pm_bind hf
    refine pm_callV (As := [.int o8.1, .int x4]) (rest := []) (o := 0) K (c_Md_go K.2.2.2.2.2.2.2.2.2.2.2.2 o9.1 o9.2 o8.1 x4 o8.2 z9) mi_Md_go rfl rfl tw_841 tw_79 tw_840 rfl ⟨rfl, rfl, Nat.le_of_ble_eq_true rfl, Nat.le_of_ble_eq_true rfl⟩ rfl (Nat.le_of_ble_eq_true rfl) d_Md_enter_107 ?_
    cases hf
    exact pm_iret K d_Md_enter_110
  · have hf := pm_iff c7 hf
    refine pm_aload_n K d_Md_enter_49 0 rfl rfl ?_
    refine pm_aload_n K d_Md_enter_50 0 rfl rfl ?_
    refine pm_aload_n K d_Md_enter_51 0 rfl rfl ?_
    refine pm_aload_n K d_Md_enter_52 0 rfl rfl ?_
    refine pm_iload_n K d_Md_enter_53 3 rfl rfl ?_
    obtain ⟨o10, z10, hf⟩ := pm_bind hf
    refine pm_callV (As := [.int x3]) (rest := [.ref (ad 0), .ref (ad 0), .ref (ad 0)]) (o := 0) K (c_Md_car K.2.2.2.2.2.2.2.2.2.2.2.2 o10.1 o10.2 x3 w z10) mi_Md_car rfl rfl tw_817 tw_71 tw_816 rfl ⟨rfl, rfl, Nat.le_of_ble_eq_true rfl, Nat.le_of_ble_eq_true rfl⟩ rfl (Nat.le_of_ble_eq_true rfl) d_Md_enter_54 ?_
    refine pm_iload K d_Md_enter_57 5 rfl ?_
    obtain ⟨o11, z11, hf⟩ := pm_bind hf
    refine pm_callV (As := [.int o10.1, .int x5]) (rest := [.ref (ad 0), .ref (ad 0)]) (o := 0) K (c_Md_at K.2.2.2.2.2.2.2.2.2.2.2.2 o11.1 o11.2 o10.1 x5 o10.2 z11) mi_Md_at rfl rfl tw_832 tw_76 tw_831 rfl ⟨rfl, rfl, Nat.le_of_ble_eq_true rfl, Nat.le_of_ble_eq_true rfl⟩ rfl (Nat.le_of_ble_eq_true rfl) d_Md_enter_59 ?_
    refine pm_aload_n K d_Md_enter_62 0 rfl rfl ?_
    refine pm_iload_n K d_Md_enter_63 1 rfl rfl ?_
    refine pm_iload_n K d_Md_enter_64 2 rfl rfl ?_
    refine pm_iconst (v := 1) K d_Md_enter_65 (by decide) ?_
    refine pm_isub K d_Md_enter_66 ?_
    refine pm_iload K d_Md_enter_67 5 rfl ?_
    refine pm_isub K d_Md_enter_69 ?_
    obtain ⟨o12, z12, hf⟩ := pm_bind hf
    refine pm_callV (As := [.int x1, .int ((x2 - (1 : Int32)) - x5)]) (rest := [.int o11.1, .ref (ad 0), .ref (ad 0)]) (o := 0) K (c_Md_at K.2.2.2.2.2.2.2.2.2.2.2.2 o12.1 o12.2 x1 ((x2 - (1 : Int32)) - x5) o11.2 z12) mi_Md_at rfl rfl tw_832 tw_76 tw_831 rfl ⟨rfl, rfl, Nat.le_of_ble_eq_true rfl, Nat.le_of_ble_eq_true rfl⟩ rfl (Nat.le_of_ble_eq_true rfl) d_Md_enter_70 ?_
    obtain ⟨o13, z13, hf⟩ := pm_bind hf
    refine pm_callV (As := [.int o11.1, .int o12.1]) (rest := [.ref (ad 0)]) (o := 0) K (c_Md_pair K.2.2.2.2.2.2.2.2.2.2.2.2 o13.1 o13.2 o11.1 o12.1 o12.2 z13) mi_Md_pair rfl rfl tw_759 tw_55 tw_758 rfl ⟨rfl, rfl, Nat.le_of_ble_eq_true rfl, Nat.le_of_ble_eq_true rfl⟩ rfl (Nat.le_of_ble_eq_true rfl) d_Md_enter_73 ?_
    refine pm_iload K d_Md_enter_76 4 rfl ?_
    obtain ⟨o14, z14, hf⟩ := pm_bind hf
    refine pm_callV (As := [.int o13.1, .int x4]) (rest := []) (o := 0) K (c_Md_pair K.2.2.2.2.2.2.2.2.2.2.2.2 o14.1 o14.2 o13.1 x4 o13.2 z14) mi_Md_pair rfl rfl tw_759 tw_55 tw_758 rfl ⟨rfl, rfl, Nat.le_of_ble_eq_true rfl, Nat.le_of_ble_eq_true rfl⟩ rfl (Nat.le_of_ble_eq_true rfl) d_Md_enter_78 ?_
    refine pm_istore (lv' := [(4, .int o14.1), (0, .ref (ad 0)), (1, .int x1), (2, .int x2), (3, .int x3), (5, .int x5)]) K d_Md_enter_81 (by decide) rfl ?_
    refine pm_iinc (v := x5 + (1 : Int32)) (lv' := [(5, .int (x5 + (1 : Int32))), (4, .int o14.1), (0, .ref (ad 0)), (1, .int x1), (2, .int x2), (3, .int x3)]) K d_Md_enter_83 5 rfl rfl (by decide) rfl ?_
    refine pm_goto K d_Md_enter_86 43 (by decide) ?_
    refine pm_sub (lv' := [(0, .ref (ad 0)), (1, .int x1), (2, .int x2), (3, .int x3), (4, .int o14.1), (5, .int (x5 + (1 : Int32)))]) [2, 3, 4, 5, 1, 0] rfl ?_
    exact h43 x1 x2 x3 o14.1 (x5 + (1 : Int32)) o14.2 hf
set_option maxHeartbeats 4000000 in
set_option maxRecDepth 100000 in
theorem a_Md_enter {p : Program} {l : Launch} {e : Env} {s : State} {m : MethodId} {args : Array Value} {below : List Frame} {meth : Method} {c : Code} {D : va_G} {ca : Nat → ClassId} {ad : Nat → Nat} {E : (Nat → Prop) → State → Heap → Prop} (K : pm_ok p s m args meth c k_Md_enter 6 pmTs R_Md D vwCl (tyl ca) shM ad E (some .int)) (r : Int32) (w' : pm_W) : ∀ n : Nat, (∀ (x1 : Int32) (x2 : Int32) (x3 : Int32) (x4 : Int32) (x5 : Int32) (w : pm_W), l_Md_enter  n 0 x1 x2 x3 x4 x5 w = some (r, w') → pm_wk p l e { frames := 4, cells := 0, slots := 0, locals := 87 } s m args below meth c D vwCl shM ca ad 6 (some (.int r), w') 43 [(0, .ref (ad 0)), (1, .int x1), (2, .int x2), (3, .int x3), (4, .int x4), (5, .int x5)] [] w) := by
  intro n
  induction n with
  | zero => exact fun _ _ _ _ _ _ hf => (by cases hf)
  | succ n ih => exact fun x1 x2 x3 x4 x5 w hf => t_Md_enter_43 K (l_Md_enter n) r w' (ih) x1 x2 x3 x4 x5 w hf
set_option maxHeartbeats 4000000 in
set_option maxRecDepth 100000 in
theorem t_Md_enter {p : Program} {l : Launch} {e : Env} {s : State} {m : MethodId} {args : Array Value} {below : List Frame} {meth : Method} {c : Code} {D : va_G} {ca : Nat → ClassId} {ad : Nat → Nat} {E : (Nat → Prop) → State → Heap → Prop} (K : pm_ok p s m args meth c k_Md_enter 6 pmTs R_Md D vwCl (tyl ca) shM ad E (some .int)) (r : Int32) (w' : pm_W) (x1 : Int32) (x2 : Int32) (x3 : Int32) (w : pm_W) (hf : f_Md_enter  x1 x2 x3 w = some (r, w')) : pm_wk p l e { frames := 4, cells := 0, slots := 0, locals := 87 } s m args below meth c D vwCl shM ca ad 6 (some (.int r), w') 0 [(0, .ref (ad 0)), (1, .int x1), (2, .int x2), (3, .int x3)] [] w := by
  unfold f_Md_enter at hf
  have h43 := (a_Md_enter (l := l) (e := e) (below := below) K  r w' pm_fuel)
  refine pm_aload_n K d_Md_enter_0 0 rfl rfl ?_
  refine pm_aload_n K d_Md_enter_1 0 rfl rfl ?_
  refine pm_iload_n K d_Md_enter_2 3 rfl rfl ?_
  obtain ⟨o1, z1, hf⟩ := pm_bind hf
  refine pm_callV (As := [.int x3]) (rest := [.ref (ad 0)]) (o := 0) K (c_Md_car K.2.2.2.2.2.2.2.2.2.2.2.2 o1.1 o1.2 x3 w z1) mi_Md_car rfl rfl tw_817 tw_71 tw_816 rfl ⟨rfl, rfl, Nat.le_of_ble_eq_true rfl, Nat.le_of_ble_eq_true rfl⟩ rfl (Nat.le_of_ble_eq_true rfl) d_Md_enter_3 ?_
  obtain ⟨o2, z2, hf⟩ := pm_bind hf
  refine pm_callV (As := [.int o1.1]) (rest := []) (o := 0) K (c_Md_lengthOf K.2.2.2.2.2.2.2.2.2.2.2.2 o2.1 o2.2 o1.1 o1.2 z2) mi_Md_lengthOf rfl rfl tw_829 tw_75 tw_828 rfl ⟨rfl, rfl, Nat.le_of_ble_eq_true rfl, Nat.le_of_ble_eq_true rfl⟩ rfl (Nat.le_of_ble_eq_true rfl) d_Md_enter_6 ?_
  refine pm_iload_n K d_Md_enter_9 2 rfl rfl ?_
  refine pm_icmp_eq K d_Md_enter_10 16 (by decide) (fun c3 => ?_) (fun c3 => ?_)
  · have hf := pm_ift c3 hf
    refine pm_aload_n K d_Md_enter_16 0 rfl rfl ?_
    refine pm_iconst (v := 4) K d_Md_enter_17 (by decide) ?_
    refine pm_iload_n K d_Md_enter_18 2 rfl rfl ?_
    refine pm_imul K d_Md_enter_19 ?_
    obtain ⟨o4, z4, hf⟩ := pm_bind hf
    refine pm_callV (As := [.int ((4 : Int32) * x2)]) (rest := []) (o := 0) K (c_Md_room K.2.2.2.2.2.2.2.2.2.2.2.2 o4.1 o4.2 ((4 : Int32) * x2) o2.2 z4) mi_Md_room rfl rfl tw_739 tw_50 tw_738 rfl ⟨rfl, rfl, Nat.le_of_ble_eq_true rfl, Nat.le_of_ble_eq_true rfl⟩ rfl (Nat.le_of_ble_eq_true rfl) d_Md_enter_20 ?_
    refine pm_if_ne K d_Md_enter_23 29 (by decide) (fun c5 => ?_) (fun c5 => ?_)
    · have hf := pm_iff c5 hf
      refine pm_aload_n K d_Md_enter_29 0 rfl rfl ?_
      refine pm_getR K fc_9 (o := 0) rfl 5 rfl (by decide) tw_674 d_Md_enter_30 ?_
      refine pm_iload_n K d_Md_enter_33 3 rfl rfl ?_
      refine pm_ldc K tw_750 d_Md_enter_34 ?_
      refine pm_isub K d_Md_enter_36 ?_
      obtain ⟨q6, hf⟩ := pm_bnd hf
      refine pm_iald K (o := 4) rfl rfl q6 d_Md_enter_37 (v := o4.2.1 4 (x3 - (536873000 : Int32)).toNatClampNeg) rfl ?_
      refine pm_istore (lv' := [(4, .int (o4.2.1 4 (x3 - (536873000 : Int32)).toNatClampNeg)), (0, .ref (ad 0)), (1, .int x1), (2, .int x2), (3, .int x3)]) K d_Md_enter_38 (by decide) rfl ?_
      refine pm_iconst (v := 0) K d_Md_enter_40 (by decide) ?_
      refine pm_istore (lv' := [(5, .int (0 : Int32)), (4, .int (o4.2.1 4 (x3 - (536873000 : Int32)).toNatClampNeg)), (0, .ref (ad 0)), (1, .int x1), (2, .int x2), (3, .int x3)]) K d_Md_enter_41 (by decide) rfl ?_
      refine pm_sub (lv' := [(0, .ref (ad 0)), (1, .int x1), (2, .int x2), (3, .int x3), (4, .int (o4.2.1 4 (x3 - (536873000 : Int32)).toNatClampNeg)), (5, .int (0 : Int32))]) [2, 3, 4, 5, 1, 0] rfl ?_
      exact h43 x1 x2 x3 (o4.2.1 4 (x3 - (536873000 : Int32)).toNatClampNeg) (0 : Int32) o4.2 hf
    · have hf := pm_ift c5 hf
      refine pm_bipush (v := -7) K d_Md_enter_26 (by decide) ?_
      cases hf
      exact pm_iret K d_Md_enter_28
  · have hf := pm_iff c3 hf
    refine pm_bipush (v := -4) K d_Md_enter_13 (by decide) ?_
    cases hf
    exact pm_iret K d_Md_enter_15
/-- CellLispModel.enter(III)I -/
theorem c_Md_enter {l : Launch} {D : va_G} {ca : Nat → ClassId} {ad : Nat → Nat} {E : (Nat → Prop) → State → Heap → Prop} (hEc : pm_Ecl E) (r : Int32) (w' : pm_W) (x1 : Int32) (x2 : Int32) (x3 : Int32) (w : pm_W) (hf : f_Md_enter  x1 x2 x3 w = some (r, w')) : pm_Met l pmTs D vwCl (tyl ca) shM ca ad E y_Md_enter k_Md_enter 6 (some .int) { frames := 4, cells := 0, slots := 0, locals := 87 } [.ref (ad 0), .int x1, .int x2, .int x3] w (some (.int r), w') :=
  pm_start pmTs_good hEc (by decide) (Nat.le_of_ble_eq_true rfl) (fun p e s m below meth c K => t_Md_enter K r w' x1 x2 x3 w hf)
def b_Md_apply_105 (x1 : Int32) (x2 : Int32) (x4 : Int32) (x5 : Int32) (s0 : Int32) (s1 : Int32) (w : pm_W) : Option (Int32 × pm_W) :=
  if s1 = s0 then
    Option.bind (f_Md_at x1 (x2 - (1 : Int32)) w) fun o19 =>
    if x4 = (5 : Int32) then
      Option.bind (f_Md_isPair o19.1 o19.2) fun o55 =>
      if o55.1 = 0 then
        Option.bind (f_Md_done (536871015 : Int32) o55.2) fun o57 =>
        some (o57.1, o57.2)
      else
        Option.bind (f_Md_done (536870912 : Int32) o55.2) fun o58 =>
        some (o58.1, o58.2)
    else
      if x5 = 0 then
        Option.bind (f_Md_at x1 (0 : Int32) o19.2) fun o22 =>
        if x4 = (6 : Int32) then
          Option.bind (f_Md_room (2 : Int32) o22.2) fun o44 =>
          if o44.1 = 0 then
            some ((-7 : Int32), o44.2)
          else
            Option.bind (f_Md_pair o19.1 o22.1 o44.2) fun o46 =>
            Option.bind (f_Md_done o46.1 o46.2) fun o47 =>
            some (o47.1, o47.2)
        else
          if x4 = (4 : Int32) then
            if o19.1 = o22.1 then
              Option.bind (f_Md_done (536871015 : Int32) o22.2) fun o43 =>
              some (o43.1, o43.2)
            else
              Option.bind (f_Md_done (536870912 : Int32) o22.2) fun o42 =>
              some (o42.1, o42.2)
          else
            Option.bind (f_Md_isNumber o19.1 o22.2) fun o25 =>
            if o25.1 = 0 then
              some ((-5 : Int32), o25.2)
            else
              Option.bind (f_Md_isNumber o22.1 o25.2) fun o27 =>
              if o27.1 = 0 then
                some ((-5 : Int32), o27.2)
              else
                if x4 = (3 : Int32) then
                  if o22.1 ≤ o19.1 then
                    Option.bind (f_Md_done (536870912 : Int32) o27.2) fun o39 =>
                    some (o39.1, o39.2)
                  else
                    Option.bind (f_Md_done (536871015 : Int32) o27.2) fun o40 =>
                    some (o40.1, o40.2)
                else
                  if x4 = 0 then
                    Option.bind (f_Md_wrap (o19.1 + o22.1) o27.2) fun o36 =>
                    Option.bind (f_Md_done o36.1 o36.2) fun o37 =>
                    some (o37.1, o37.2)
                  else
                    if x4 = (1 : Int32) then
                      Option.bind (f_Md_wrap (o19.1 - o22.1) o27.2) fun o34 =>
                      Option.bind (f_Md_done o34.1 o34.2) fun o35 =>
                      some (o35.1, o35.2)
                    else
                      Option.bind (f_Md_wrap (o19.1 * o22.1) o27.2) fun o32 =>
                      Option.bind (f_Md_done o32.1 o32.2) fun o33 =>
                      some (o33.1, o33.2)
      else
        Option.bind (f_Md_isPair o19.1 o19.2) fun o48 =>
        if o48.1 = 0 then
          some ((-5 : Int32), o48.2)
        else
          if x4 = (7 : Int32) then
            Option.bind (f_Md_car o19.1 o48.2) fun o53 =>
            Option.bind (f_Md_done o53.1 o53.2) fun o54 =>
            some (o54.1, o54.2)
          else
            Option.bind (f_Md_cdr o19.1 o48.2) fun o51 =>
            Option.bind (f_Md_done o51.1 o51.2) fun o52 =>
            some (o52.1, o52.2)
  else
    some ((-4 : Int32), w)
def f_Md_apply (x1 : Int32) (w : pm_W) : Option (Int32 × pm_W) :=
  Option.bind (f_Md_lengthOf x1 w) fun o1 =>
  Option.bind (f_Md_at x1 (o1.1 - (1 : Int32)) o1.2) fun o2 =>
  Option.bind (f_Md_isClosure o2.1 o2.2) fun o3 =>
  if o3.1 = 0 then
    if o2.1 < (536872000 : Int32) then
      some ((-5 : Int32), o3.2)
    else
      Option.bind (f_Md_isThing o2.1 o3.2) fun o6 =>
      if o6.1 = 0 then
        if (o2.1 - (536872000 : Int32)) = (9 : Int32) then
          Option.bind (f_Md_listed x1 (o1.1 - (1 : Int32)) o6.2) fun o16 =>
          some (o16.1, o16.2)
        else
          if (o2.1 - (536872000 : Int32)) = (5 : Int32) then
            if (1 : Int32) = 0 then
              b_Md_apply_105   x1 (o1.1 - (1 : Int32)) (o2.1 - (536872000 : Int32)) (1 : Int32) (2 : Int32) (o1.1 - (1 : Int32)) o6.2
            else
              b_Md_apply_105   x1 (o1.1 - (1 : Int32)) (o2.1 - (536872000 : Int32)) (1 : Int32) (1 : Int32) (o1.1 - (1 : Int32)) o6.2
          else
            if (o2.1 - (536872000 : Int32)) = (7 : Int32) then
              if (1 : Int32) = 0 then
                b_Md_apply_105   x1 (o1.1 - (1 : Int32)) (o2.1 - (536872000 : Int32)) (1 : Int32) (2 : Int32) (o1.1 - (1 : Int32)) o6.2
              else
                b_Md_apply_105   x1 (o1.1 - (1 : Int32)) (o2.1 - (536872000 : Int32)) (1 : Int32) (1 : Int32) (o1.1 - (1 : Int32)) o6.2
            else
              if (o2.1 - (536872000 : Int32)) = (8 : Int32) then
                if (1 : Int32) = 0 then
                  b_Md_apply_105   x1 (o1.1 - (1 : Int32)) (o2.1 - (536872000 : Int32)) (1 : Int32) (2 : Int32) (o1.1 - (1 : Int32)) o6.2
                else
                  b_Md_apply_105   x1 (o1.1 - (1 : Int32)) (o2.1 - (536872000 : Int32)) (1 : Int32) (1 : Int32) (o1.1 - (1 : Int32)) o6.2
              else
                if (0 : Int32) = 0 then
                  b_Md_apply_105   x1 (o1.1 - (1 : Int32)) (o2.1 - (536872000 : Int32)) (0 : Int32) (2 : Int32) (o1.1 - (1 : Int32)) o6.2
                else
                  b_Md_apply_105   x1 (o1.1 - (1 : Int32)) (o2.1 - (536872000 : Int32)) (0 : Int32) (1 : Int32) (o1.1 - (1 : Int32)) o6.2
      else
        some ((-5 : Int32), o6.2)
  else
    Option.bind (f_Md_enter x1 (o1.1 - (1 : Int32)) o2.1 o3.2) fun o17 =>
    some (o17.1, o17.2)
set_option maxHeartbeats 4000000 in
set_option maxRecDepth 100000 in
theorem t_Md_apply_105 {p : Program} {l : Launch} {e : Env} {s : State} {m : MethodId} {args : Array Value} {below : List Frame} {meth : Method} {c : Code} {D : va_G} {ca : Nat → ClassId} {ad : Nat → Nat} {E : (Nat → Prop) → State → Heap → Prop} (K : pm_ok p s m args meth c k_Md_apply 8 pmTs R_Md D vwCl (tyl ca) shM ad E (some .int)) (r : Int32) (w' : pm_W) (x1 : Int32) (x2 : Int32) (x4 : Int32) (x5 : Int32) (s0 : Int32) (s1 : Int32) (w : pm_W) (hf : b_Md_apply_105  x1 x2 x4 x5 s0 s1 w = some (r, w')) : pm_wk p l e { frames := 5, cells := 0, slots := 0, locals := 112 } s m args below meth c D vwCl shM ca ad 8 (some (.int r), w') 105 [(0, .ref (ad 0)), (1, .int x1), (2, .int x2), (4, .int x4), (5, .int x5)] [.int s0, .int s1] w := by
  unfold b_Md_apply_105 at hf
  refine pm_icmp_eq K d_Md_apply_105 111 (by decide) (fun c18 => ?_) (fun c18 => ?_)
  · have hf := pm_ift c18 hf
    refine pm_aload_n K d_Md_apply_111 0 rfl rfl ?_
    refine pm_iload_n K d_Md_apply_112 1 rfl rfl ?_
    refine pm_iload_n K d_Md_apply_113 2 rfl rfl ?_
    refine pm_iconst (v := 1) K d_Md_apply_114 (by decide) ?_
    refine pm_isub K d_Md_apply_115 ?_
    obtain ⟨o19, z19, hf⟩ := pm_bind hf
    refine pm_callV (As := [.int x1, .int (x2 - (1 : Int32))]) (rest := []) (o := 0) K (c_Md_at K.2.2.2.2.2.2.2.2.2.2.2.2 o19.1 o19.2 x1 (x2 - (1 : Int32)) w z19) mi_Md_at rfl rfl tw_832 tw_76 tw_831 rfl ⟨rfl, rfl, Nat.le_of_ble_eq_true rfl, Nat.le_of_ble_eq_true rfl⟩ rfl (Nat.le_of_ble_eq_true rfl) d_Md_apply_116 ?_
    refine pm_istore (lv' := [(6, .int o19.1), (0, .ref (ad 0)), (1, .int x1), (2, .int x2), (4, .int x4), (5, .int x5)]) K d_Md_apply_119 (by decide) rfl ?_
    refine pm_iload K d_Md_apply_121 4 rfl ?_
    refine pm_iconst (v := 5) K d_Md_apply_123 (by decide) ?_
    refine pm_icmp_ne K d_Md_apply_124 148 (by decide) (fun c20 => ?_) (fun c20 => ?_)
    · have hf := pm_iff c20 hf
      refine pm_iload K d_Md_apply_148 5 rfl ?_
      refine pm_if_eq K d_Md_apply_150 194 (by decide) (fun c21 => ?_) (fun c21 => ?_)
      · have hf := pm_ift c21 hf
        refine pm_aload_n K d_Md_apply_194 1 rfl rfl ?_
        refine pm_iload_n K d_Md_apply_195 2 rfl rfl ?_
        refine pm_iconst (v := 0) K d_Md_apply_196 (by decide) ?_
        obtain ⟨o22, z22, hf⟩ := pm_bind hf
        refine pm_callV (As := [.int x1, .int (0 : Int32)]) (rest := []) (o := 0) K (c_Md_at K.2.2.2.2.2.2.2.2.2.2.2.2 o22.1 o22.2 x1 (0 : Int32) o19.2 z22) mi_Md_at rfl rfl tw_832 tw_76 tw_831 rfl ⟨rfl, rfl, Nat.le_of_ble_eq_true rfl, Nat.le_of_ble_eq_true rfl⟩ rfl (Nat.le_of_ble_eq_true rfl) d_Md_apply_197 ?_
        refine pm_istore (lv' := [(7, .int o22.1), (6, .int o19.1), (0, .ref (ad 0)), (1, .int x1), (2, .int x2), (4, .int x4), (5, .int x5)]) K d_Md_apply_200 (by decide) rfl ?_
        refine pm_iload K d_Md_apply_202 5 rfl ?_
        refine pm_bipush (v := 6) K d_Md_apply_204 (by decide) ?_
        refine pm_icmp_ne K d_Md_apply_206 235 (by decide) (fun c23 => ?_) (fun c23 => ?_)
        · have hf := pm_iff c23 hf
          refine pm_iload K d_Md_apply_235 5 rfl ?_
          refine pm_iconst (v := 4) K d_Md_apply_237 (by decide) ?_
          refine pm_icmp_ne K d_Md_apply_238 260 (by decide) (fun c24 => ?_) (fun c24 => ?_)
          · have hf := pm_iff c24 hf
            refine pm_iload K d_Md_apply_260 1 rfl ?_
            obtain ⟨o25, z25, hf⟩ := pm_bind hf
            refine pm_callS (As := [.int o19.1]) (rest := []) K (c_Md_isNumber K.2.2.2.2.2.2.2.2.2.2.2.2 o25.1 o25.2 o19.1 o22.2 z25) mi_Md_isNumber tw_793 tw_792 rfl ⟨rfl, rfl, Nat.le_of_ble_eq_true rfl, Nat.le_of_ble_eq_true rfl⟩ rfl (Nat.le_of_ble_eq_true rfl) d_Md_apply_262 ?_
            refine pm_if_eq K d_Md_apply_265 276 (by decide) (fun c26 => ?_) (fun c26 => ?_)
            · have hf := pm_ift c26 hf
              refine pm_bipush (v := -5) K d_Md_apply_276 (by decide) ?_
              cases hf
              exact pm_iret K d_Md_apply_278
            · have hf := pm_iff c26 hf
              refine pm_iload K d_Md_apply_268 0 rfl ?_
              obtain ⟨o27, z27, hf⟩ := pm_bind hf
              refine pm_callS (As := [.int o22.1]) (rest := []) K (c_Md_isNumber K.2.2.2.2.2.2.2.2.2.2.2.2 o27.1 o27.2 o22.1 o25.2 z27) mi_Md_isNumber tw_793 tw_792 rfl ⟨rfl, rfl, Nat.le_of_ble_eq_true rfl, Nat.le_of_ble_eq_true rfl⟩ rfl (Nat.le_of_ble_eq_true rfl) d_Md_apply_270 ?_
              refine pm_if_ne K d_Md_apply_273 279 (by decide) (fun c28 => ?_) (fun c28 => ?_)
              · have hf := pm_iff c28 hf
                refine pm_iload K d_Md_apply_279 5 rfl ?_
                refine pm_iconst (v := 3) K d_Md_apply_281 (by decide) ?_
                refine pm_icmp_ne K d_Md_apply_282 304 (by decide) (fun c29 => ?_) (fun c29 => ?_)
                · have hf := pm_iff c29 hf
                  refine pm_aload_n K d_Md_apply_304 2 rfl rfl ?_
                  refine pm_iload K d_Md_apply_305 5 rfl ?_
                  refine pm_if_ne K d_Md_apply_307 318 (by decide) (fun c30 => ?_) (fun c30 => ?_)
                  · have hf := pm_iff c30 hf
                    refine pm_iload K d_Md_apply_318 5 rfl ?_
                    refine pm_iconst (v := 1) K d_Md_apply_320 (by decide) ?_
                    refine pm_icmp_ne K d_Md_apply_321 332 (by decide) (fun c31 => ?_) (fun c31 => ?_)
                    · have hf := pm_iff c31 hf
                      refine pm_iload K d_Md_apply_332 1 rfl ?_
                      refine pm_iload K d_Md_apply_334 0 rfl ?_
                      refine pm_imul K d_Md_apply_336 ?_
                      obtain ⟨o32, z32, hf⟩ := pm_bind hf
                      refine pm_callS (As := [.int (o19.1 * o22.1)]) (rest := [.ref (ad 0)]) K (c_Md_wrap K.2.2.2.2.2.2.2.2.2.2.2.2 o32.1 o32.2 (o19.1 * o22.1) o27.2 z32) mi_Md_wrap tw_771 tw_770 rfl ⟨rfl, rfl, Nat.le_of_ble_eq_true rfl, Nat.le_of_ble_eq_true rfl⟩ rfl (Nat.le_of_ble_eq_true rfl) d_Md_apply_337 ?_
                      obtain ⟨o33, z33, hf⟩ := pm_bind hf
                      refine pm_callV (As := [.int o32.1]) (rest := []) (o := 0) K (c_Md_done K.2.2.2.2.2.2.2.2.2.2.2.2 o33.1 o33.2 o32.1 o32.2 z33) mi_Md_done rfl rfl tw_847 tw_81 tw_846 rfl ⟨rfl, rfl, Nat.le_of_ble_eq_true rfl, Nat.le_of_ble_eq_true rfl⟩ rfl (Nat.le_of_ble_eq_true rfl) d_Md_apply_340 ?_
                      cases hf
                      exact pm_iret K d_Md_apply_343
                    · have hf := pm_ift c31 hf
                      refine pm_iload K d_Md_apply_324 1 rfl ?_
                      refine pm_iload K d_Md_apply_326 0 rfl ?_
                      refine pm_isub K d_Md_apply_328 ?_
                      refine pm_goto K d_Md_apply_329 337 (by decide) ?_
                      obtain ⟨o34, z34, hf⟩ := pm_bind hf
                      refine pm_callS (As := [.int (o19.1 - o22.1)]) (rest := [.ref (ad 0)]) K (c_Md_wrap K.2.2.2.2.2.2.2.2.2.2.2.2 o34.1 o34.2 (o19.1 - o22.1) o27.2 z34) mi_Md_wrap tw_771 tw_770 rfl ⟨rfl, rfl, Nat.le_of_ble_eq_true rfl, Nat.le_of_ble_eq_true rfl⟩ rfl (Nat.le_of_ble_eq_true rfl) d_Md_apply_337 ?_
                      obtain ⟨o35, z35, hf⟩ := pm_bind hf
                      refine pm_callV (As := [.int o34.1]) (rest := []) (o := 0) K (c_Md_done K.2.2.2.2.2.2.2.2.2.2.2.2 o35.1 o35.2 o34.1 o34.2 z35) mi_Md_done rfl rfl tw_847 tw_81 tw_846 rfl ⟨rfl, rfl, Nat.le_of_ble_eq_true rfl, Nat.le_of_ble_eq_true rfl⟩ rfl (Nat.le_of_ble_eq_true rfl) d_Md_apply_340 ?_
                      cases hf
                      exact pm_iret K d_Md_apply_343
                  · have hf := pm_ift c30 hf
                    refine pm_iload K d_Md_apply_310 1 rfl ?_
                    refine pm_iload K d_Md_apply_312 0 rfl ?_
                    refine pm_iadd K d_Md_apply_314 ?_
                    refine pm_goto K d_Md_apply_315 337 (by decide) ?_
                    obtain ⟨o36, z36, hf⟩ := pm_bind hf
                    refine pm_callS (As := [.int (o19.1 + o22.1)]) (rest := [.ref (ad 0)]) K (c_Md_wrap K.2.2.2.2.2.2.2.2.2.2.2.2 o36.1 o36.2 (o19.1 + o22.1) o27.2 z36) mi_Md_wrap tw_771 tw_770 rfl ⟨rfl, rfl, Nat.le_of_ble_eq_true rfl, Nat.le_of_ble_eq_true rfl⟩ rfl (Nat.le_of_ble_eq_true rfl) d_Md_apply_337 ?_
                    obtain ⟨o37, z37, hf⟩ := pm_bind hf
                    refine pm_callV (As := [.int o36.1]) (rest := []) (o := 0) K (c_Md_done K.2.2.2.2.2.2.2.2.2.2.2.2 o37.1 o37.2 o36.1 o36.2 z37) mi_Md_done rfl rfl tw_847 tw_81 tw_846 rfl ⟨rfl, rfl, Nat.le_of_ble_eq_true rfl, Nat.le_of_ble_eq_true rfl⟩ rfl (Nat.le_of_ble_eq_true rfl) d_Md_apply_340 ?_
                    cases hf
                    exact pm_iret K d_Md_apply_343
                · have hf := pm_ift c29 hf
                  refine pm_aload_n K d_Md_apply_285 2 rfl rfl ?_
                  refine pm_iload K d_Md_apply_286 1 rfl ?_
                  refine pm_iload K d_Md_apply_288 0 rfl ?_
                  refine pm_icmp_ge K d_Md_apply_290 298 (by decide) (fun c38 => ?_) (fun c38 => ?_)
                  · have hf := pm_ift c38 hf
                    refine pm_ldc K tw_662 d_Md_apply_298 ?_
                    obtain ⟨o39, z39, hf⟩ := pm_bind hf
                    refine pm_callV (As := [.int (536870912 : Int32)]) (rest := []) (o := 0) K (c_Md_done K.2.2.2.2.2.2.2.2.2.2.2.2 o39.1 o39.2 (536870912 : Int32) o27.2 z39) mi_Md_done rfl rfl tw_847 tw_81 tw_846 rfl ⟨rfl, rfl, Nat.le_of_ble_eq_true rfl, Nat.le_of_ble_eq_true rfl⟩ rfl (Nat.le_of_ble_eq_true rfl) d_Md_apply_300 ?_
                    cases hf
                    exact pm_iret K d_Md_apply_303
                  · have hf := pm_iff c38 hf
                    refine pm_ldc K tw_668 d_Md_apply_293 ?_
                    refine pm_goto K d_Md_apply_295 300 (by decide) ?_
                    obtain ⟨o40, z40, hf⟩ := pm_bind hf
                    refine pm_callV (As := [.int (536871015 : Int32)]) (rest := []) (o := 0) K (c_Md_done K.2.2.2.2.2.2.2.2.2.2.2.2 o40.1 o40.2 (536871015 : Int32) o27.2 z40) mi_Md_done rfl rfl tw_847 tw_81 tw_846 rfl ⟨rfl, rfl, Nat.le_of_ble_eq_true rfl, Nat.le_of_ble_eq_true rfl⟩ rfl (Nat.le_of_ble_eq_true rfl) d_Md_apply_300 ?_
                    cases hf
                    exact pm_iret K d_Md_apply_303
              · have hf := pm_ift c28 hf
                refine pm_bipush (v := -5) K d_Md_apply_276 (by decide) ?_
                cases hf
                exact pm_iret K d_Md_apply_278
          · have hf := pm_ift c24 hf
            refine pm_aload_n K d_Md_apply_241 2 rfl rfl ?_
            refine pm_iload K d_Md_apply_242 1 rfl ?_
            refine pm_iload K d_Md_apply_244 0 rfl ?_
            refine pm_icmp_ne K d_Md_apply_246 254 (by decide) (fun c41 => ?_) (fun c41 => ?_)
            · have hf := pm_iff c41 hf
              refine pm_ldc K tw_662 d_Md_apply_254 ?_
              obtain ⟨o42, z42, hf⟩ := pm_bind hf
              refine pm_callV (As := [.int (536870912 : Int32)]) (rest := []) (o := 0) K (c_Md_done K.2.2.2.2.2.2.2.2.2.2.2.2 o42.1 o42.2 (536870912 : Int32) o22.2 z42) mi_Md_done rfl rfl tw_847 tw_81 tw_846 rfl ⟨rfl, rfl, Nat.le_of_ble_eq_true rfl, Nat.le_of_ble_eq_true rfl⟩ rfl (Nat.le_of_ble_eq_true rfl) d_Md_apply_256 ?_
              cases hf
              exact pm_iret K d_Md_apply_259
            · have hf := pm_ift c41 hf
              refine pm_ldc K tw_668 d_Md_apply_249 ?_
              refine pm_goto K d_Md_apply_251 256 (by decide) ?_
              obtain ⟨o43, z43, hf⟩ := pm_bind hf
              refine pm_callV (As := [.int (536871015 : Int32)]) (rest := []) (o := 0) K (c_Md_done K.2.2.2.2.2.2.2.2.2.2.2.2 o43.1 o43.2 (536871015 : Int32) o22.2 z43) mi_Md_done rfl rfl tw_847 tw_81 tw_846 rfl ⟨rfl, rfl, Nat.le_of_ble_eq_true rfl, Nat.le_of_ble_eq_true rfl⟩ rfl (Nat.le_of_ble_eq_true rfl) d_Md_apply_256 ?_
              cases hf
              exact pm_iret K d_Md_apply_259
        · have hf := pm_ift c23 hf
          refine pm_aload_n K d_Md_apply_209 2 rfl rfl ?_
          refine pm_iconst (v := 2) K d_Md_apply_210 (by decide) ?_
          obtain ⟨o44, z44, hf⟩ := pm_bind hf
          refine pm_callV (As := [.int (2 : Int32)]) (rest := []) (o := 0) K (c_Md_room K.2.2.2.2.2.2.2.2.2.2.2.2 o44.1 o44.2 (2 : Int32) o22.2 z44) mi_Md_room rfl rfl tw_739 tw_50 tw_738 rfl ⟨rfl, rfl, Nat.le_of_ble_eq_true rfl, Nat.le_of_ble_eq_true rfl⟩ rfl (Nat.le_of_ble_eq_true rfl) d_Md_apply_211 ?_
          refine pm_if_eq K d_Md_apply_214 232 (by decide) (fun c45 => ?_) (fun c45 => ?_)
          · have hf := pm_ift c45 hf
            refine pm_bipush (v := -7) K d_Md_apply_232 (by decide) ?_
            cases hf
            exact pm_iret K d_Md_apply_234
          · have hf := pm_iff c45 hf
            refine pm_aload_n K d_Md_apply_217 2 rfl rfl ?_
            refine pm_aload_n K d_Md_apply_218 2 rfl rfl ?_
            refine pm_iload K d_Md_apply_219 1 rfl ?_
            refine pm_iload K d_Md_apply_221 0 rfl ?_
            obtain ⟨o46, z46, hf⟩ := pm_bind hf
            refine pm_callV (As := [.int o19.1, .int o22.1]) (rest := [.ref (ad 0)]) (o := 0) K (c_Md_pair K.2.2.2.2.2.2.2.2.2.2.2.2 o46.1 o46.2 o19.1 o22.1 o44.2 z46) mi_Md_pair rfl rfl tw_759 tw_55 tw_758 rfl ⟨rfl, rfl, Nat.le_of_ble_eq_true rfl, Nat.le_of_ble_eq_true rfl⟩ rfl (Nat.le_of_ble_eq_true rfl) d_Md_apply_223 ?_
            obtain ⟨o47, z47, hf⟩ := pm_bind hf
            refine pm_callV (As := [.int o46.1]) (rest := []) (o := 0) K (c_Md_done K.2.2.2.2.2.2.2.2.2.2.2.2 o47.1 o47.2 o46.1 o46.2 z47) mi_Md_done rfl rfl tw_847 tw_81 tw_846 rfl ⟨rfl, rfl, Nat.le_of_ble_eq_true rfl, Nat.le_of_ble_eq_true rfl⟩ rfl (Nat.le_of_ble_eq_true rfl) d_Md_apply_226 ?_
            refine pm_goto K d_Md_apply_229 234 (by decide) ?_
            cases hf
            exact pm_iret K d_Md_apply_234
      · have hf := pm_iff c21 hf
        refine pm_aload_n K d_Md_apply_153 1 rfl rfl ?_
        refine pm_iload K d_Md_apply_154 0 rfl ?_
        obtain ⟨o48, z48, hf⟩ := pm_bind hf
        refine pm_callV (As := [.int o19.1]) (rest := []) (o := 0) K (c_Md_isPair K.2.2.2.2.2.2.2.2.2.2.2.2 o48.1 o48.2 o19.1 o19.2 z48) mi_Md_isPair rfl rfl tw_787 tw_63 tw_786 rfl ⟨rfl, rfl, Nat.le_of_ble_eq_true rfl, Nat.le_of_ble_eq_true rfl⟩ rfl (Nat.le_of_ble_eq_true rfl) d_Md_apply_156 ?_
        refine pm_if_ne K d_Md_apply_159 167 (by decide) (fun c49 => ?_) (fun c49 => ?_)
        · have hf := pm_iff c49 hf
          refine pm_aload_n K d_Md_apply_167 1 rfl rfl ?_
          refine pm_iload K d_Md_apply_168 4 rfl ?_
          refine pm_bipush (v := 7) K d_Md_apply_170 (by decide) ?_
          refine pm_icmp_ne K d_Md_apply_172 184 (by decide) (fun c50 => ?_) (fun c50 => ?_)
          · have hf := pm_iff c50 hf
            refine pm_aload_n K d_Md_apply_184 1 rfl rfl ?_
            refine pm_iload K d_Md_apply_185 0 rfl ?_
            obtain ⟨o51, z51, hf⟩ := pm_bind hf
            refine pm_callV (As := [.int o19.1]) (rest := [.ref (ad 0)]) (o := 0) K (c_Md_cdr K.2.2.2.2.2.2.2.2.2.2.2.2 o51.1 o51.2 o19.1 o48.2 z51) mi_Md_cdr rfl rfl tw_814 tw_70 tw_813 rfl ⟨rfl, rfl, Nat.le_of_ble_eq_true rfl, Nat.le_of_ble_eq_true rfl⟩ rfl (Nat.le_of_ble_eq_true rfl) d_Md_apply_187 ?_
            obtain ⟨o52, z52, hf⟩ := pm_bind hf
            refine pm_callV (As := [.int o51.1]) (rest := []) (o := 0) K (c_Md_done K.2.2.2.2.2.2.2.2.2.2.2.2 o52.1 o52.2 o51.1 o51.2 z52) mi_Md_done rfl rfl tw_847 tw_81 tw_846 rfl ⟨rfl, rfl, Nat.le_of_ble_eq_true rfl, Nat.le_of_ble_eq_true rfl⟩ rfl (Nat.le_of_ble_eq_true rfl) d_Md_apply_190 ?_
            cases hf
            exact pm_iret K d_Md_apply_193
          · have hf := pm_ift c50 hf
            refine pm_aload_n K d_Md_apply_175 1 rfl rfl ?_
            refine pm_iload K d_Md_apply_176 0 rfl ?_
            obtain ⟨o53, z53, hf⟩ := pm_bind hf
            refine pm_callV (As := [.int o19.1]) (rest := [.ref (ad 0)]) (o := 0) K (c_Md_car K.2.2.2.2.2.2.2.2.2.2.2.2 o53.1 o53.2 o19.1 o48.2 z53) mi_Md_car rfl rfl tw_817 tw_71 tw_816 rfl ⟨rfl, rfl, Nat.le_of_ble_eq_true rfl, Nat.le_of_ble_eq_true rfl⟩ rfl (Nat.le_of_ble_eq_true rfl) d_Md_apply_178 ?_
            refine pm_goto K d_Md_apply_181 190 (by decide) ?_
            obtain ⟨o54, z54, hf⟩ := pm_bind hf
            refine pm_callV (As := [.int o53.1]) (rest := []) (o := 0) K (c_Md_done K.2.2.2.2.2.2.2.2.2.2.2.2 o54.1 o54.2 o53.1 o53.2 z54) mi_Md_done rfl rfl tw_847 tw_81 tw_846 rfl ⟨rfl, rfl, Nat.le_of_ble_eq_true rfl, Nat.le_of_ble_eq_true rfl⟩ rfl (Nat.le_of_ble_eq_true rfl) d_Md_apply_190 ?_
            cases hf
            exact pm_iret K d_Md_apply_193
        · have hf := pm_ift c49 hf
          refine pm_bipush (v := -5) K d_Md_apply_162 (by decide) ?_
          refine pm_goto K d_Md_apply_164 193 (by decide) ?_
          cases hf
          exact pm_iret K d_Md_apply_193
    · have hf := pm_ift c20 hf
      refine pm_aload_n K d_Md_apply_127 1 rfl rfl ?_
      refine pm_aload_n K d_Md_apply_128 1 rfl rfl ?_
      refine pm_iload K d_Md_apply_129 0 rfl ?_
      obtain ⟨o55, z55, hf⟩ := pm_bind hf
      refine pm_callV (As := [.int o19.1]) (rest := [.ref (ad 0)]) (o := 0) K (c_Md_isPair K.2.2.2.2.2.2.2.2.2.2.2.2 o55.1 o55.2 o19.1 o19.2 z55) mi_Md_isPair rfl rfl tw_787 tw_63 tw_786 rfl ⟨rfl, rfl, Nat.le_of_ble_eq_true rfl, Nat.le_of_ble_eq_true rfl⟩ rfl (Nat.le_of_ble_eq_true rfl) d_Md_apply_131 ?_
      refine pm_if_eq K d_Md_apply_134 142 (by decide) (fun c56 => ?_) (fun c56 => ?_)
      · have hf := pm_ift c56 hf
        refine pm_ldc K tw_668 d_Md_apply_142 ?_
        obtain ⟨o57, z57, hf⟩ := pm_bind hf
        refine pm_callV (As := [.int (536871015 : Int32)]) (rest := []) (o := 0) K (c_Md_done K.2.2.2.2.2.2.2.2.2.2.2.2 o57.1 o57.2 (536871015 : Int32) o55.2 z57) mi_Md_done rfl rfl tw_847 tw_81 tw_846 rfl ⟨rfl, rfl, Nat.le_of_ble_eq_true rfl, Nat.le_of_ble_eq_true rfl⟩ rfl (Nat.le_of_ble_eq_true rfl) d_Md_apply_144 ?_
        cases hf
        exact pm_iret K d_Md_apply_147
      · have hf := pm_iff c56 hf
        refine pm_ldc K tw_662 d_Md_apply_137 ?_
        refine pm_goto K d_Md_apply_139 144 (by decide) ?_
        obtain ⟨o58, z58, hf⟩ := pm_bind hf
        refine pm_callV (As := [.int (536870912 : Int32)]) (rest := []) (o := 0) K (c_Md_done K.2.2.2.2.2.2.2.2.2.2.2.2 o58.1 o58.2 (536870912 : Int32) o55.2 z58) mi_Md_done rfl rfl tw_847 tw_81 tw_846 rfl ⟨rfl, rfl, Nat.le_of_ble_eq_true rfl, Nat.le_of_ble_eq_true rfl⟩ rfl (Nat.le_of_ble_eq_true rfl) d_Md_apply_144 ?_
        cases hf
        exact pm_iret K d_Md_apply_147
  · have hf := pm_iff c18 hf
    refine pm_bipush (v := -4) K d_Md_apply_108 (by decide) ?_
    cases hf
    exact pm_iret K d_Md_apply_110
set_option maxHeartbeats 4000000 in
set_option maxRecDepth 100000 in
theorem t_Md_apply {p : Program} {l : Launch} {e : Env} {s : State} {m : MethodId} {args : Array Value} {below : List Frame} {meth : Method} {c : Code} {D : va_G} {ca : Nat → ClassId} {ad : Nat → Nat} {E : (Nat → Prop) → State → Heap → Prop} (K : pm_ok p s m args meth c k_Md_apply 8 pmTs R_Md D vwCl (tyl ca) shM ad E (some .int)) (r : Int32) (w' : pm_W) (x1 : Int32) (w : pm_W) (hf : f_Md_apply  x1 w = some (r, w')) : pm_wk p l e { frames := 5, cells := 0, slots := 0, locals := 112 } s m args below meth c D vwCl shM ca ad 8 (some (.int r), w') 0 [(0, .ref (ad 0)), (1, .int x1)] [] w := by
  unfold f_Md_apply at hf
  refine pm_aload_n K d_Md_apply_0 0 rfl rfl ?_
  refine pm_iload_n K d_Md_apply_1 1 rfl rfl ?_
  obtain ⟨o1, z1, hf⟩ := pm_bind hf
  refine pm_callV (As := [.int x1]) (rest := []) (o := 0) K (c_Md_lengthOf K.2.2.2.2.2.2.2.2.2.2.2.2 o1.1 o1.2 x1 w z1) mi_Md_lengthOf rfl rfl tw_829 tw_75 tw_828 rfl ⟨rfl, rfl, Nat.le_of_ble_eq_true rfl, Nat.le_of_ble_eq_true rfl⟩ rfl (Nat.le_of_ble_eq_true rfl) d_Md_apply_2 ?_
  refine pm_iconst (v := 1) K d_Md_apply_5 (by decide) ?_
  refine pm_isub K d_Md_apply_6 ?_
  refine pm_istore_n (lv' := [(2, .int (o1.1 - (1 : Int32))), (0, .ref (ad 0)), (1, .int x1)]) K d_Md_apply_7 rfl (by decide) rfl ?_
  refine pm_aload_n K d_Md_apply_8 1 rfl rfl ?_
  refine pm_iload_n K d_Md_apply_9 2 rfl rfl ?_
  refine pm_iload_n K d_Md_apply_10 0 rfl rfl ?_
  obtain ⟨o2, z2, hf⟩ := pm_bind hf
  refine pm_callV (As := [.int x1, .int (o1.1 - (1 : Int32))]) (rest := []) (o := 0) K (c_Md_at K.2.2.2.2.2.2.2.2.2.2.2.2 o2.1 o2.2 x1 (o1.1 - (1 : Int32)) o1.2 z2) mi_Md_at rfl rfl tw_832 tw_76 tw_831 rfl ⟨rfl, rfl, Nat.le_of_ble_eq_true rfl, Nat.le_of_ble_eq_true rfl⟩ rfl (Nat.le_of_ble_eq_true rfl) d_Md_apply_11 ?_
  refine pm_istore_n (lv' := [(3, .int o2.1), (2, .int (o1.1 - (1 : Int32))), (0, .ref (ad 0)), (1, .int x1)]) K d_Md_apply_14 rfl (by decide) rfl ?_
  refine pm_aload_n K d_Md_apply_15 2 rfl rfl ?_
  refine pm_iload_n K d_Md_apply_16 0 rfl rfl ?_
  obtain ⟨o3, z3, hf⟩ := pm_bind hf
  refine pm_callV (As := [.int o2.1]) (rest := []) (o := 0) K (c_Md_isClosure K.2.2.2.2.2.2.2.2.2.2.2.2 o3.1 o3.2 o2.1 o2.2 z3) mi_Md_isClosure rfl rfl tw_835 tw_77 tw_834 rfl ⟨rfl, rfl, Nat.le_of_ble_eq_true rfl, Nat.le_of_ble_eq_true rfl⟩ rfl (Nat.le_of_ble_eq_true rfl) d_Md_apply_17 ?_
  refine pm_if_eq K d_Md_apply_20 31 (by decide) (fun c4 => ?_) (fun c4 => ?_)
  · have hf := pm_ift c4 hf
    refine pm_iload_n K d_Md_apply_31 0 rfl rfl ?_
    refine pm_ldc K tw_663 d_Md_apply_32 ?_
    refine pm_icmp_lt K d_Md_apply_34 44 (by decide) (fun c5 => ?_) (fun c5 => ?_)
    · have hf := pm_ift c5 hf
      refine pm_bipush (v := -5) K d_Md_apply_44 (by decide) ?_
      cases hf
      exact pm_iret K d_Md_apply_46
    · have hf := pm_iff c5 hf
      refine pm_iload_n K d_Md_apply_37 0 rfl rfl ?_
      obtain ⟨o6, z6, hf⟩ := pm_bind hf
      refine pm_callS (As := [.int o2.1]) (rest := []) K (c_Md_isThing K.2.2.2.2.2.2.2.2.2.2.2.2 o6.1 o6.2 o2.1 o3.2 z6) mi_Md_isThing tw_748 tw_747 rfl ⟨rfl, rfl, Nat.le_of_ble_eq_true rfl, Nat.le_of_ble_eq_true rfl⟩ rfl (Nat.le_of_ble_eq_true rfl) d_Md_apply_38 ?_
      refine pm_if_eq K d_Md_apply_41 47 (by decide) (fun c7 => ?_) (fun c7 => ?_)
      · have hf := pm_ift c7 hf
        refine pm_iload_n K d_Md_apply_47 0 rfl rfl ?_
        refine pm_ldc K tw_663 d_Md_apply_48 ?_
        refine pm_isub K d_Md_apply_50 ?_
        refine pm_istore (lv' := [(4, .int (o2.1 - (536872000 : Int32))), (3, .int o2.1), (2, .int (o1.1 - (1 : Int32))), (0, .ref (ad 0)), (1, .int x1)]) K d_Md_apply_51 (by decide) rfl ?_
        refine pm_iload K d_Md_apply_53 0 rfl ?_
        refine pm_bipush (v := 9) K d_Md_apply_55 (by decide) ?_
        refine pm_icmp_ne K d_Md_apply_57 67 (by decide) (fun c8 => ?_) (fun c8 => ?_)
        · have hf := pm_iff c8 hf
          refine pm_iload K d_Md_apply_67 0 rfl ?_
          refine pm_iconst (v := 5) K d_Md_apply_69 (by decide) ?_
          refine pm_icmp_eq K d_Md_apply_70 87 (by decide) (fun c9 => ?_) (fun c9 => ?_)
          · have hf := pm_ift c9 hf
            refine pm_iconst (v := 1) K d_Md_apply_87 (by decide) ?_
            refine pm_goto K d_Md_apply_88 92 (by decide) ?_
            refine pm_istore (lv' := [(5, .int (1 : Int32)), (4, .int (o2.1 - (536872000 : Int32))), (3, .int o2.1), (2, .int (o1.1 - (1 : Int32))), (0, .ref (ad 0)), (1, .int x1)]) K d_Md_apply_92 (by decide) rfl ?_
            refine pm_iload_n K d_Md_apply_94 3 rfl rfl ?_
            refine pm_iload K d_Md_apply_95 0 rfl ?_
            refine pm_if_eq K d_Md_apply_97 104 (by decide) (fun c10 => ?_) (fun c10 => ?_)
            · have hf := pm_ift c10 hf
              refine pm_iconst (v := 2) K d_Md_apply_104 (by decide) ?_
              refine pm_sub (lv' := [(0, .ref (ad 0)), (1, .int x1), (2, .int (o1.1 - (1 : Int32))), (4, .int (o2.1 - (536872000 : Int32))), (5, .int (1 : Int32))]) [4, 5, 3, 1, 0] rfl ?_
              exact t_Md_apply_105 K  r w'  x1 (o1.1 - (1 : Int32)) (o2.1 - (536872000 : Int32)) (1 : Int32) (2 : Int32) (o1.1 - (1 : Int32)) o6.2 hf
            · have hf := pm_iff c10 hf
              refine pm_iconst (v := 1) K d_Md_apply_100 (by decide) ?_
              refine pm_goto K d_Md_apply_101 105 (by decide) ?_
              refine pm_sub (lv' := [(0, .ref (ad 0)), (1, .int x1), (2, .int (o1.1 - (1 : Int32))), (4, .int (o2.1 - (536872000 : Int32))), (5, .int (1 : Int32))]) [4, 5, 3, 1, 0] rfl ?_
              exact t_Md_apply_105 K  r w'  x1 (o1.1 - (1 : Int32)) (o2.1 - (536872000 : Int32)) (1 : Int32) (1 : Int32) (o1.1 - (1 : Int32)) o6.2 hf
          · have hf := pm_iff c9 hf
            refine pm_iload K d_Md_apply_73 0 rfl ?_
            refine pm_bipush (v := 7) K d_Md_apply_75 (by decide) ?_
            refine pm_icmp_eq K d_Md_apply_77 87 (by decide) (fun c11 => ?_) (fun c11 => ?_)
            · have hf := pm_ift c11 hf
              refine pm_iconst (v := 1) K d_Md_apply_87 (by decide) ?_
              refine pm_goto K d_Md_apply_88 92 (by decide) ?_
              refine pm_istore (lv' := [(5, .int (1 : Int32)), (4, .int (o2.1 - (536872000 : Int32))), (3, .int o2.1), (2, .int (o1.1 - (1 : Int32))), (0, .ref (ad 0)), (1, .int x1)]) K d_Md_apply_92 (by decide) rfl ?_
              refine pm_iload_n K d_Md_apply_94 3 rfl rfl ?_
              refine pm_iload K d_Md_apply_95 0 rfl ?_
              refine pm_if_eq K d_Md_apply_97 104 (by decide) (fun c12 => ?_) (fun c12 => ?_)
              · have hf := pm_ift c12 hf
                refine pm_iconst (v := 2) K d_Md_apply_104 (by decide) ?_
                refine pm_sub (lv' := [(0, .ref (ad 0)), (1, .int x1), (2, .int (o1.1 - (1 : Int32))), (4, .int (o2.1 - (536872000 : Int32))), (5, .int (1 : Int32))]) [4, 5, 3, 1, 0] rfl ?_
                exact t_Md_apply_105 K  r w'  x1 (o1.1 - (1 : Int32)) (o2.1 - (536872000 : Int32)) (1 : Int32) (2 : Int32) (o1.1 - (1 : Int32)) o6.2 hf
              · have hf := pm_iff c12 hf
                refine pm_iconst (v := 1) K d_Md_apply_100 (by decide) ?_
                refine pm_goto K d_Md_apply_101 105 (by decide) ?_
                refine pm_sub (lv' := [(0, .ref (ad 0)), (1, .int x1), (2, .int (o1.1 - (1 : Int32))), (4, .int (o2.1 - (536872000 : Int32))), (5, .int (1 : Int32))]) [4, 5, 3, 1, 0] rfl ?_
                exact t_Md_apply_105 K  r w'  x1 (o1.1 - (1 : Int32)) (o2.1 - (536872000 : Int32)) (1 : Int32) (1 : Int32) (o1.1 - (1 : Int32)) o6.2 hf
            · have hf := pm_iff c11 hf
              refine pm_iload K d_Md_apply_80 0 rfl ?_
              refine pm_bipush (v := 8) K d_Md_apply_82 (by decide) ?_
              refine pm_icmp_ne K d_Md_apply_84 91 (by decide) (fun c13 => ?_) (fun c13 => ?_)
              · have hf := pm_iff c13 hf
                refine pm_iconst (v := 0) K d_Md_apply_91 (by decide) ?_
                refine pm_istore (lv' := [(5, .int (0 : Int32)), (4, .int (o2.1 - (536872000 : Int32))), (3, .int o2.1), (2, .int (o1.1 - (1 : Int32))), (0, .ref (ad 0)), (1, .int x1)]) K d_Md_apply_92 (by decide) rfl ?_
                refine pm_iload_n K d_Md_apply_94 3 rfl rfl ?_
                refine pm_iload K d_Md_apply_95 0 rfl ?_
                refine pm_if_eq K d_Md_apply_97 104 (by decide) (fun c14 => ?_) (fun c14 => ?_)
                · have hf := pm_ift c14 hf
                  refine pm_iconst (v := 2) K d_Md_apply_104 (by decide) ?_
                  refine pm_sub (lv' := [(0, .ref (ad 0)), (1, .int x1), (2, .int (o1.1 - (1 : Int32))), (4, .int (o2.1 - (536872000 : Int32))), (5, .int (0 : Int32))]) [4, 5, 3, 1, 0] rfl ?_
                  exact t_Md_apply_105 K  r w'  x1 (o1.1 - (1 : Int32)) (o2.1 - (536872000 : Int32)) (0 : Int32) (2 : Int32) (o1.1 - (1 : Int32)) o6.2 hf
                · have hf := pm_iff c14 hf
                  refine pm_iconst (v := 1) K d_Md_apply_100 (by decide) ?_
                  refine pm_goto K d_Md_apply_101 105 (by decide) ?_
                  refine pm_sub (lv' := [(0, .ref (ad 0)), (1, .int x1), (2, .int (o1.1 - (1 : Int32))), (4, .int (o2.1 - (536872000 : Int32))), (5, .int (0 : Int32))]) [4, 5, 3, 1, 0] rfl ?_
                  exact t_Md_apply_105 K  r w'  x1 (o1.1 - (1 : Int32)) (o2.1 - (536872000 : Int32)) (0 : Int32) (1 : Int32) (o1.1 - (1 : Int32)) o6.2 hf
              · have hf := pm_ift c13 hf
                refine pm_iconst (v := 1) K d_Md_apply_87 (by decide) ?_
                refine pm_goto K d_Md_apply_88 92 (by decide) ?_
                refine pm_istore (lv' := [(5, .int (1 : Int32)), (4, .int (o2.1 - (536872000 : Int32))), (3, .int o2.1), (2, .int (o1.1 - (1 : Int32))), (0, .ref (ad 0)), (1, .int x1)]) K d_Md_apply_92 (by decide) rfl ?_
                refine pm_iload_n K d_Md_apply_94 3 rfl rfl ?_
                refine pm_iload K d_Md_apply_95 0 rfl ?_
                refine pm_if_eq K d_Md_apply_97 104 (by decide) (fun c15 => ?_) (fun c15 => ?_)
                · have hf := pm_ift c15 hf
                  refine pm_iconst (v := 2) K d_Md_apply_104 (by decide) ?_
                  refine pm_sub (lv' := [(0, .ref (ad 0)), (1, .int x1), (2, .int (o1.1 - (1 : Int32))), (4, .int (o2.1 - (536872000 : Int32))), (5, .int (1 : Int32))]) [4, 5, 3, 1, 0] rfl ?_
                  exact t_Md_apply_105 K  r w'  x1 (o1.1 - (1 : Int32)) (o2.1 - (536872000 : Int32)) (1 : Int32) (2 : Int32) (o1.1 - (1 : Int32)) o6.2 hf
                · have hf := pm_iff c15 hf
                  refine pm_iconst (v := 1) K d_Md_apply_100 (by decide) ?_
                  refine pm_goto K d_Md_apply_101 105 (by decide) ?_
                  refine pm_sub (lv' := [(0, .ref (ad 0)), (1, .int x1), (2, .int (o1.1 - (1 : Int32))), (4, .int (o2.1 - (536872000 : Int32))), (5, .int (1 : Int32))]) [4, 5, 3, 1, 0] rfl ?_
                  exact t_Md_apply_105 K  r w'  x1 (o1.1 - (1 : Int32)) (o2.1 - (536872000 : Int32)) (1 : Int32) (1 : Int32) (o1.1 - (1 : Int32)) o6.2 hf
        · have hf := pm_ift c8 hf
          refine pm_aload_n K d_Md_apply_60 3 rfl rfl ?_
          refine pm_iload_n K d_Md_apply_61 4 rfl rfl ?_
          refine pm_iload_n K d_Md_apply_62 2 rfl rfl ?_
          obtain ⟨o16, z16, hf⟩ := pm_bind hf
          refine pm_callV (As := [.int x1, .int (o1.1 - (1 : Int32))]) (rest := []) (o := 0) K (c_Md_listed K.2.2.2.2.2.2.2.2.2.2.2.2 o16.1 o16.2 x1 (o1.1 - (1 : Int32)) o6.2 z16) mi_Md_listed rfl rfl tw_844 tw_80 tw_843 rfl ⟨rfl, rfl, Nat.le_of_ble_eq_true rfl, Nat.le_of_ble_eq_true rfl⟩ rfl (Nat.le_of_ble_eq_true rfl) d_Md_apply_63 ?_
          cases hf
          exact pm_iret K d_Md_apply_66
      · have hf := pm_iff c7 hf
        refine pm_bipush (v := -5) K d_Md_apply_44 (by decide) ?_
        cases hf
        exact pm_iret K d_Md_apply_46
  · have hf := pm_iff c4 hf
    refine pm_aload_n K d_Md_apply_23 2 rfl rfl ?_
    refine pm_iload_n K d_Md_apply_24 3 rfl rfl ?_
    refine pm_iload_n K d_Md_apply_25 1 rfl rfl ?_
    refine pm_iload_n K d_Md_apply_26 0 rfl rfl ?_
    obtain ⟨o17, z17, hf⟩ := pm_bind hf
    refine pm_callV (As := [.int x1, .int (o1.1 - (1 : Int32)), .int o2.1]) (rest := []) (o := 0) K (c_Md_enter K.2.2.2.2.2.2.2.2.2.2.2.2 o17.1 o17.2 x1 (o1.1 - (1 : Int32)) o2.1 o3.2 z17) mi_Md_enter rfl rfl tw_838 tw_78 tw_837 rfl ⟨rfl, rfl, Nat.le_of_ble_eq_true rfl, Nat.le_of_ble_eq_true rfl⟩ rfl (Nat.le_of_ble_eq_true rfl) d_Md_apply_27 ?_
    cases hf
    exact pm_iret K d_Md_apply_30
/-- CellLispModel.apply(I)I -/
theorem c_Md_apply {l : Launch} {D : va_G} {ca : Nat → ClassId} {ad : Nat → Nat} {E : (Nat → Prop) → State → Heap → Prop} (hEc : pm_Ecl E) (r : Int32) (w' : pm_W) (x1 : Int32) (w : pm_W) (hf : f_Md_apply  x1 w = some (r, w')) : pm_Met l pmTs D vwCl (tyl ca) shM ca ad E y_Md_apply k_Md_apply 8 (some .int) { frames := 5, cells := 0, slots := 0, locals := 112 } [.ref (ad 0), .int x1] w (some (.int r), w') :=
  pm_start pmTs_good hEc (by decide) (Nat.le_of_ble_eq_true rfl) (fun p e s m below meth c K => t_Md_apply K r w' x1 w hf)
