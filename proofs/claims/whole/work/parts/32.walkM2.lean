def b_Md_figure_22 (rec : Nat → Int32 → Int32 → Int32 → Int32 → pm_W → Option (Int32 × pm_W)) (x1 : Int32) (x2 : Int32) (x3 : Int32) (x4 : Int32) (w : pm_W) : Option (Int32 × pm_W) :=
  if x2 ≤ x4 then
    if x1 < 0 ∨ 120 ≤ x1.toNatClampNeg then none else
    if (w.1 12 x1.toNatClampNeg) = (45 : Int32) then
      Option.bind (f_Md_wrap (-x3) w) fun o7 =>
      some (o7.1, o7.2)
    else
      Option.bind (f_Md_wrap x3 w) fun o6 =>
      some (o6.1, o6.2)
  else
    if x4 < 0 ∨ 120 ≤ x4.toNatClampNeg then none else
    rec 0 x1 x2 ((((10 : Int32) * x3) + (w.1 12 x4.toNatClampNeg)) - (48 : Int32)) (x4 + (1 : Int32)) w
def l_Md_figure : Nat → Nat → Int32 → Int32 → Int32 → Int32 → pm_W → Option (Int32 × pm_W) := pm_it (fun _ _ _ _ _ _ => none) (fun rec k x1 x2 x3 x4 w => b_Md_figure_22  rec x1 x2 x3 x4 w)
def f_Md_figure (x1 : Int32) (x2 : Int32) (w : pm_W) : Option (Int32 × pm_W) :=
  if x1 < 0 ∨ 120 ≤ x1.toNatClampNeg then none else
  if (w.1 12 x1.toNatClampNeg) = (45 : Int32) then
    (l_Md_figure  pm_fuel) 0 x1 x2 (0 : Int32) (x1 + (1 : Int32)) w
  else
    (l_Md_figure  pm_fuel) 0 x1 x2 (0 : Int32) x1 w
set_option maxHeartbeats 4000000 in
set_option maxRecDepth 100000 in
theorem t_Md_figure_22 {p : Program} {l : Launch} {e : Env} {s : State} {m : MethodId} {args : Array Value} {below : List Frame} {meth : Method} {c : Code} {D : va_G} {ca : Nat → ClassId} {ad : Nat → Nat} {E : (Nat → Prop) → State → Heap → Prop} (K : pm_ok p s m args meth c k_Md_figure 5 pmTs R_Md D vwCl (tyl ca) shM ad E (some .int)) (rec : Nat → Int32 → Int32 → Int32 → Int32 → pm_W → Option (Int32 × pm_W)) (r : Int32) (w' : pm_W) (h22 : ∀ (x1 : Int32) (x2 : Int32) (x3 : Int32) (x4 : Int32) (w : pm_W), rec 0 x1 x2 x3 x4 w = some (r, w') → pm_wk p l e { frames := 1, cells := 0, slots := 0, locals := 20 } s m args below meth c D vwCl shM ca ad 5 (some (.int r), w') 22 [(0, .ref (ad 0)), (1, .int x1), (2, .int x2), (3, .int x3), (4, .int x4)] [] w) (x1 : Int32) (x2 : Int32) (x3 : Int32) (x4 : Int32) (w : pm_W) (hf : b_Md_figure_22  rec x1 x2 x3 x4 w = some (r, w')) : pm_wk p l e { frames := 1, cells := 0, slots := 0, locals := 20 } s m args below meth c D vwCl shM ca ad 5 (some (.int r), w') 22 [(0, .ref (ad 0)), (1, .int x1), (2, .int x2), (3, .int x3), (4, .int x4)] [] w := by
  unfold b_Md_figure_22 at hf
  refine pm_iload K d_Md_figure_22 4 rfl ?_
  refine pm_iload_n K d_Md_figure_24 2 rfl rfl ?_
  refine pm_icmp_ge K d_Md_figure_25 50 (by decide) (fun c3 => ?_) (fun c3 => ?_)
  · have hf := pm_ift c3 hf
    refine pm_aload_n K d_Md_figure_50 0 rfl rfl ?_
    refine pm_getR K fc_9 (o := 0) rfl 21 rfl (by decide) tw_690 d_Md_figure_51 ?_
    refine pm_iload_n K d_Md_figure_54 1 rfl rfl ?_
    obtain ⟨q4, hf⟩ := pm_bnd hf
    refine pm_cald K (o := 12) rfl rfl q4 d_Md_figure_55 (v := w.1 12 x1.toNatClampNeg) rfl ?_
    refine pm_bipush (v := 45) K d_Md_figure_56 (by decide) ?_
    refine pm_icmp_ne K d_Md_figure_58 66 (by decide) (fun c5 => ?_) (fun c5 => ?_)
    · have hf := pm_iff c5 hf
      refine pm_iload_n K d_Md_figure_66 3 rfl rfl ?_
      obtain ⟨o6, z6, hf⟩ := pm_bind hf
      refine pm_callS (As := [.int x3]) (rest := []) K (c_Md_wrap K.2.2.2.2.2.2.2.2.2.2.2.2 o6.1 o6.2 x3 w z6) mi_Md_wrap tw_771 tw_770 rfl ⟨rfl, rfl, Nat.le_of_ble_eq_true rfl, Nat.le_of_ble_eq_true rfl⟩ rfl (Nat.le_of_ble_eq_true rfl) d_Md_figure_67 ?_
      cases hf
      exact pm_iret K d_Md_figure_70
    · have hf := pm_ift c5 hf
      refine pm_iload_n K d_Md_figure_61 3 rfl rfl ?_
      refine pm_ineg K d_Md_figure_62 ?_
      refine pm_goto K d_Md_figure_63 67 (by decide) ?_
      obtain ⟨o7, z7, hf⟩ := pm_bind hf
      refine pm_callS (As := [.int (-x3)]) (rest := []) K (c_Md_wrap K.2.2.2.2.2.2.2.2.2.2.2.2 o7.1 o7.2 (-x3) w z7) mi_Md_wrap tw_771 tw_770 rfl ⟨rfl, rfl, Nat.le_of_ble_eq_true rfl, Nat.le_of_ble_eq_true rfl⟩ rfl (Nat.le_of_ble_eq_true rfl) d_Md_figure_67 ?_
      cases hf
      exact pm_iret K d_Md_figure_70
  · have hf := pm_iff c3 hf
    refine pm_bipush (v := 10) K d_Md_figure_28 (by decide) ?_
    refine pm_iload_n K d_Md_figure_30 3 rfl rfl ?_
    refine pm_imul K d_Md_figure_31 ?_
    refine pm_aload_n K d_Md_figure_32 0 rfl rfl ?_
    refine pm_getR K fc_9 (o := 0) rfl 21 rfl (by decide) tw_690 d_Md_figure_33 ?_
    refine pm_iload K d_Md_figure_36 4 rfl ?_
    obtain ⟨q8, hf⟩ := pm_bnd hf
    refine pm_cald K (o := 12) rfl rfl q8 d_Md_figure_38 (v := w.1 12 x4.toNatClampNeg) rfl ?_
    refine pm_iadd K d_Md_figure_39 ?_
    refine pm_bipush (v := 48) K d_Md_figure_40 (by decide) ?_
    refine pm_isub K d_Md_figure_42 ?_
    refine pm_istore_n (lv' := [(3, .int ((((10 : Int32) * x3) + (w.1 12 x4.toNatClampNeg)) - (48 : Int32))), (0, .ref (ad 0)), (1, .int x1), (2, .int x2), (4, .int x4)]) K d_Md_figure_43 rfl (by decide) rfl ?_
    refine pm_iinc (v := x4 + (1 : Int32)) (lv' := [(4, .int (x4 + (1 : Int32))), (3, .int ((((10 : Int32) * x3) + (w.1 12 x4.toNatClampNeg)) - (48 : Int32))), (0, .ref (ad 0)), (1, .int x1), (2, .int x2)]) K d_Md_figure_44 4 rfl rfl (by decide) rfl ?_
    refine pm_goto K d_Md_figure_47 22 (by decide) ?_
    refine pm_sub (lv' := [(0, .ref (ad 0)), (1, .int x1), (2, .int x2), (3, .int ((((10 : Int32) * x3) + (w.1 12 x4.toNatClampNeg)) - (48 : Int32))), (4, .int (x4 + (1 : Int32)))]) [2, 3, 4, 1, 0] rfl ?_
    exact h22 x1 x2 ((((10 : Int32) * x3) + (w.1 12 x4.toNatClampNeg)) - (48 : Int32)) (x4 + (1 : Int32)) w hf
set_option maxHeartbeats 4000000 in
set_option maxRecDepth 100000 in
theorem a_Md_figure {p : Program} {l : Launch} {e : Env} {s : State} {m : MethodId} {args : Array Value} {below : List Frame} {meth : Method} {c : Code} {D : va_G} {ca : Nat → ClassId} {ad : Nat → Nat} {E : (Nat → Prop) → State → Heap → Prop} (K : pm_ok p s m args meth c k_Md_figure 5 pmTs R_Md D vwCl (tyl ca) shM ad E (some .int)) (r : Int32) (w' : pm_W) : ∀ n : Nat, (∀ (x1 : Int32) (x2 : Int32) (x3 : Int32) (x4 : Int32) (w : pm_W), l_Md_figure  n 0 x1 x2 x3 x4 w = some (r, w') → pm_wk p l e { frames := 1, cells := 0, slots := 0, locals := 20 } s m args below meth c D vwCl shM ca ad 5 (some (.int r), w') 22 [(0, .ref (ad 0)), (1, .int x1), (2, .int x2), (3, .int x3), (4, .int x4)] [] w) := by
  intro n
  induction n with
  | zero => exact fun _ _ _ _ _ hf => (by cases hf)
  | succ n ih => exact fun x1 x2 x3 x4 w hf => t_Md_figure_22 K (l_Md_figure n) r w' (ih) x1 x2 x3 x4 w hf
set_option maxHeartbeats 4000000 in
set_option maxRecDepth 100000 in
theorem t_Md_figure {p : Program} {l : Launch} {e : Env} {s : State} {m : MethodId} {args : Array Value} {below : List Frame} {meth : Method} {c : Code} {D : va_G} {ca : Nat → ClassId} {ad : Nat → Nat} {E : (Nat → Prop) → State → Heap → Prop} (K : pm_ok p s m args meth c k_Md_figure 5 pmTs R_Md D vwCl (tyl ca) shM ad E (some .int)) (r : Int32) (w' : pm_W) (x1 : Int32) (x2 : Int32) (w : pm_W) (hf : f_Md_figure  x1 x2 w = some (r, w')) : pm_wk p l e { frames := 1, cells := 0, slots := 0, locals := 20 } s m args below meth c D vwCl shM ca ad 5 (some (.int r), w') 0 [(0, .ref (ad 0)), (1, .int x1), (2, .int x2)] [] w := by
  unfold f_Md_figure at hf
  have h22 := (a_Md_figure (l := l) (e := e) (below := below) K  r w' pm_fuel)
  refine pm_iconst (v := 0) K d_Md_figure_0 (by decide) ?_
  refine pm_istore_n (lv' := [(3, .int (0 : Int32)), (0, .ref (ad 0)), (1, .int x1), (2, .int x2)]) K d_Md_figure_1 rfl (by decide) rfl ?_
  refine pm_aload_n K d_Md_figure_2 1 rfl rfl ?_
  refine pm_getR K fc_9 (o := 0) rfl 21 rfl (by decide) tw_690 d_Md_figure_3 ?_
  refine pm_iload_n K d_Md_figure_6 2 rfl rfl ?_
  obtain ⟨q1, hf⟩ := pm_bnd hf
  refine pm_cald K (o := 12) rfl rfl q1 d_Md_figure_7 (v := w.1 12 x1.toNatClampNeg) rfl ?_
  refine pm_bipush (v := 45) K d_Md_figure_8 (by decide) ?_
  refine pm_icmp_ne K d_Md_figure_10 19 (by decide) (fun c2 => ?_) (fun c2 => ?_)
  · have hf := pm_iff c2 hf
    refine pm_iload_n K d_Md_figure_19 2 rfl rfl ?_
    refine pm_istore (lv' := [(4, .int x1), (3, .int (0 : Int32)), (0, .ref (ad 0)), (1, .int x1), (2, .int x2)]) K d_Md_figure_20 (by decide) rfl ?_
    refine pm_sub (lv' := [(0, .ref (ad 0)), (1, .int x1), (2, .int x2), (3, .int (0 : Int32)), (4, .int x1)]) [2, 3, 4, 1, 0] rfl ?_
    exact h22 x1 x2 (0 : Int32) x1 w hf
  · have hf := pm_ift c2 hf
    refine pm_iload_n K d_Md_figure_13 2 rfl rfl ?_
    refine pm_iconst (v := 1) K d_Md_figure_14 (by decide) ?_
    refine pm_iadd K d_Md_figure_15 ?_
    refine pm_goto K d_Md_figure_16 20 (by decide) ?_
    refine pm_istore (lv' := [(4, .int (x1 + (1 : Int32))), (3, .int (0 : Int32)), (0, .ref (ad 0)), (1, .int x1), (2, .int x2)]) K d_Md_figure_20 (by decide) rfl ?_
    refine pm_sub (lv' := [(0, .ref (ad 0)), (1, .int x1), (2, .int x2), (3, .int (0 : Int32)), (4, .int (x1 + (1 : Int32)))]) [2, 3, 4, 1, 0] rfl ?_
    exact h22 x1 x2 (0 : Int32) (x1 + (1 : Int32)) w hf
/-- CellLispModel.figure(II)I -/
theorem c_Md_figure {l : Launch} {D : va_G} {ca : Nat → ClassId} {ad : Nat → Nat} {E : (Nat → Prop) → State → Heap → Prop} (hEc : pm_Ecl E) (r : Int32) (w' : pm_W) (x1 : Int32) (x2 : Int32) (w : pm_W) (hf : f_Md_figure  x1 x2 w = some (r, w')) : pm_Met l pmTs D vwCl (tyl ca) shM ca ad E y_Md_figure k_Md_figure 5 (some .int) { frames := 1, cells := 0, slots := 0, locals := 20 } [.ref (ad 0), .int x1, .int x2] w (some (.int r), w') :=
  pm_start pmTs_good hEc (by decide) (Nat.le_of_ble_eq_true rfl) (fun p e s m below meth c K => t_Md_figure K r w' x1 x2 w hf)
def f_Md_isNil (x1 : Int32) (x2 : Int32) (w : pm_W) : Option (Int32 × pm_W) :=
  if (x2 - x1) = (3 : Int32) then
    if x1 < 0 ∨ 120 ≤ x1.toNatClampNeg then none else
    if (w.1 12 x1.toNatClampNeg) = (110 : Int32) then
      if (x1 + (1 : Int32)) < 0 ∨ 120 ≤ (x1 + (1 : Int32)).toNatClampNeg then none else
      if (w.1 12 (x1 + (1 : Int32)).toNatClampNeg) = (105 : Int32) then
        if (x1 + (2 : Int32)) < 0 ∨ 120 ≤ (x1 + (2 : Int32)).toNatClampNeg then none else
        if (w.1 12 (x1 + (2 : Int32)).toNatClampNeg) = (108 : Int32) then
          some ((1 : Int32), w)
        else
          some ((0 : Int32), w)
      else
        some ((0 : Int32), w)
    else
      some ((0 : Int32), w)
  else
    some ((0 : Int32), w)
set_option maxHeartbeats 4000000 in
set_option maxRecDepth 100000 in
theorem t_Md_isNil {p : Program} {l : Launch} {e : Env} {s : State} {m : MethodId} {args : Array Value} {below : List Frame} {meth : Method} {c : Code} {D : va_G} {ca : Nat → ClassId} {ad : Nat → Nat} {E : (Nat → Prop) → State → Heap → Prop} (K : pm_ok p s m args meth c k_Md_isNil 3 pmTs R_Md D vwCl (tyl ca) shM ad E (some .boolean)) (r : Int32) (w' : pm_W) (x1 : Int32) (x2 : Int32) (w : pm_W) (hf : f_Md_isNil  x1 x2 w = some (r, w')) : pm_wk p l e { frames := 0, cells := 0, slots := 0, locals := 0 } s m args below meth c D vwCl shM ca ad 3 (some (.int r), w') 0 [(0, .ref (ad 0)), (1, .int x1), (2, .int x2)] [] w := by
  unfold f_Md_isNil at hf
  refine pm_iload_n K d_Md_isNil_0 2 rfl rfl ?_
  refine pm_iload_n K d_Md_isNil_1 1 rfl rfl ?_
  refine pm_isub K d_Md_isNil_2 ?_
  refine pm_iconst (v := 3) K d_Md_isNil_3 (by decide) ?_
  refine pm_icmp_ne K d_Md_isNil_4 48 (by decide) (fun c1 => ?_) (fun c1 => ?_)
  · have hf := pm_iff c1 hf
    refine pm_iconst (v := 0) K d_Md_isNil_48 (by decide) ?_
    cases hf
    exact pm_zret K (by decide) d_Md_isNil_49
  · have hf := pm_ift c1 hf
    refine pm_aload_n K d_Md_isNil_7 0 rfl rfl ?_
    refine pm_getR K fc_9 (o := 0) rfl 21 rfl (by decide) tw_690 d_Md_isNil_8 ?_
    refine pm_iload_n K d_Md_isNil_11 1 rfl rfl ?_
    obtain ⟨q2, hf⟩ := pm_bnd hf
    refine pm_cald K (o := 12) rfl rfl q2 d_Md_isNil_12 (v := w.1 12 x1.toNatClampNeg) rfl ?_
    refine pm_bipush (v := 110) K d_Md_isNil_13 (by decide) ?_
    refine pm_icmp_ne K d_Md_isNil_15 48 (by decide) (fun c3 => ?_) (fun c3 => ?_)
    · have hf := pm_iff c3 hf
      refine pm_iconst (v := 0) K d_Md_isNil_48 (by decide) ?_
      cases hf
      exact pm_zret K (by decide) d_Md_isNil_49
    · have hf := pm_ift c3 hf
      refine pm_aload_n K d_Md_isNil_18 0 rfl rfl ?_
      refine pm_getR K fc_9 (o := 0) rfl 21 rfl (by decide) tw_690 d_Md_isNil_19 ?_
      refine pm_iload_n K d_Md_isNil_22 1 rfl rfl ?_
      refine pm_iconst (v := 1) K d_Md_isNil_23 (by decide) ?_
      refine pm_iadd K d_Md_isNil_24 ?_
      obtain ⟨q4, hf⟩ := pm_bnd hf
      refine pm_cald K (o := 12) rfl rfl q4 d_Md_isNil_25 (v := w.1 12 (x1 + (1 : Int32)).toNatClampNeg) rfl ?_
      refine pm_bipush (v := 105) K d_Md_isNil_26 (by decide) ?_
      refine pm_icmp_ne K d_Md_isNil_28 48 (by decide) (fun c5 => ?_) (fun c5 => ?_)
      · have hf := pm_iff c5 hf
        refine pm_iconst (v := 0) K d_Md_isNil_48 (by decide) ?_
        cases hf
        exact pm_zret K (by decide) d_Md_isNil_49
      · have hf := pm_ift c5 hf
        refine pm_aload_n K d_Md_isNil_31 0 rfl rfl ?_
        refine pm_getR K fc_9 (o := 0) rfl 21 rfl (by decide) tw_690 d_Md_isNil_32 ?_
        refine pm_iload_n K d_Md_isNil_35 1 rfl rfl ?_
        refine pm_iconst (v := 2) K d_Md_isNil_36 (by decide) ?_
        refine pm_iadd K d_Md_isNil_37 ?_
        obtain ⟨q6, hf⟩ := pm_bnd hf
        refine pm_cald K (o := 12) rfl rfl q6 d_Md_isNil_38 (v := w.1 12 (x1 + (2 : Int32)).toNatClampNeg) rfl ?_
        refine pm_bipush (v := 108) K d_Md_isNil_39 (by decide) ?_
        refine pm_icmp_ne K d_Md_isNil_41 48 (by decide) (fun c7 => ?_) (fun c7 => ?_)
        · have hf := pm_iff c7 hf
          refine pm_iconst (v := 0) K d_Md_isNil_48 (by decide) ?_
          cases hf
          exact pm_zret K (by decide) d_Md_isNil_49
        · have hf := pm_ift c7 hf
          refine pm_iconst (v := 1) K d_Md_isNil_44 (by decide) ?_
          refine pm_goto K d_Md_isNil_45 49 (by decide) ?_
          cases hf
          exact pm_zret K (by decide) d_Md_isNil_49
/-- CellLispModel.isNil(II)Z -/
theorem c_Md_isNil {l : Launch} {D : va_G} {ca : Nat → ClassId} {ad : Nat → Nat} {E : (Nat → Prop) → State → Heap → Prop} (hEc : pm_Ecl E) (r : Int32) (w' : pm_W) (x1 : Int32) (x2 : Int32) (w : pm_W) (hf : f_Md_isNil  x1 x2 w = some (r, w')) : pm_Met l pmTs D vwCl (tyl ca) shM ca ad E y_Md_isNil k_Md_isNil 3 (some .boolean) { frames := 0, cells := 0, slots := 0, locals := 0 } [.ref (ad 0), .int x1, .int x2] w (some (.int r), w') :=
  pm_start pmTs_good hEc (by decide) (Nat.le_of_ble_eq_true rfl) (fun p e s m below meth c K => t_Md_isNil K r w' x1 x2 w hf)
def b_Md_symbolOf_2 (rec : Nat → Int32 → Int32 → Int32 → Int32 → Int32 → pm_W → Option (Int32 × pm_W)) (x1 : Int32) (x2 : Int32) (x3 : Int32) (w : pm_W) : Option (Int32 × pm_W) :=
  if (w.1 0 12) ≤ x3 then
    some (w.1 0 12, w)
  else
    rec 1 x1 x2 x3 (1 : Int32) (0 : Int32) w
def b_Md_symbolOf_16 (rec : Nat → Int32 → Int32 → Int32 → Int32 → Int32 → pm_W → Option (Int32 × pm_W)) (x1 : Int32) (x2 : Int32) (x3 : Int32) (x4 : Int32) (x5 : Int32) (w : pm_W) : Option (Int32 × pm_W) :=
  if (8 : Int32) ≤ x5 then
    if x4 = 0 then
      rec 0 x1 x2 (x3 + (1 : Int32)) 0 0 w
    else
      some (x3, w)
  else
    if x4 = 0 then
      if x4 = 0 then
        rec 0 x1 x2 (x3 + (1 : Int32)) 0 0 w
      else
        some (x3, w)
    else
      if (((8 : Int32) * x3) + x5) < 0 ∨ 320 ≤ (((8 : Int32) * x3) + x5).toNatClampNeg then none else
      if x2 ≤ (x1 + x5) then
        if (w.1 10 (((8 : Int32) * x3) + x5).toNatClampNeg) = (0 : Int32) then
          rec 1 x1 x2 x3 (1 : Int32) (x5 + (1 : Int32)) w
        else
          rec 1 x1 x2 x3 (0 : Int32) (x5 + (1 : Int32)) w
      else
        if (x1 + x5) < 0 ∨ 120 ≤ (x1 + x5).toNatClampNeg then none else
        if (w.1 10 (((8 : Int32) * x3) + x5).toNatClampNeg) = (w.1 12 (x1 + x5).toNatClampNeg) then
          rec 1 x1 x2 x3 (1 : Int32) (x5 + (1 : Int32)) w
        else
          rec 1 x1 x2 x3 (0 : Int32) (x5 + (1 : Int32)) w
def l_Md_symbolOf : Nat → Nat → Int32 → Int32 → Int32 → Int32 → Int32 → pm_W → Option (Int32 × pm_W) := pm_it (fun _ _ _ _ _ _ _ => none) (fun rec k x1 x2 x3 x4 x5 w => match k with | 0 => b_Md_symbolOf_2  rec x1 x2 x3 w | _ => b_Md_symbolOf_16  rec x1 x2 x3 x4 x5 w)
def f_Md_symbolOf (x1 : Int32) (x2 : Int32) (w : pm_W) : Option (Int32 × pm_W) :=
  (l_Md_symbolOf  pm_fuel) 0 x1 x2 (0 : Int32) 0 0 w
set_option maxHeartbeats 4000000 in
set_option maxRecDepth 100000 in
theorem t_Md_symbolOf_2 {p : Program} {l : Launch} {e : Env} {s : State} {m : MethodId} {args : Array Value} {below : List Frame} {meth : Method} {c : Code} {D : va_G} {ca : Nat → ClassId} {ad : Nat → Nat} {E : (Nat → Prop) → State → Heap → Prop} (K : pm_ok p s m args meth c k_Md_symbolOf 6 pmTs R_Md D vwCl (tyl ca) shM ad E (some .int)) (rec : Nat → Int32 → Int32 → Int32 → Int32 → Int32 → pm_W → Option (Int32 × pm_W)) (r : Int32) (w' : pm_W) (h2 : ∀ (x1 : Int32) (x2 : Int32) (x3 : Int32) (w : pm_W), rec 0 x1 x2 x3 0 0 w = some (r, w') → pm_wk p l e { frames := 0, cells := 0, slots := 0, locals := 0 } s m args below meth c D vwCl shM ca ad 6 (some (.int r), w') 2 [(0, .ref (ad 0)), (1, .int x1), (2, .int x2), (3, .int x3)] [] w) (h16 : ∀ (x1 : Int32) (x2 : Int32) (x3 : Int32) (x4 : Int32) (x5 : Int32) (w : pm_W), rec 1 x1 x2 x3 x4 x5 w = some (r, w') → pm_wk p l e { frames := 0, cells := 0, slots := 0, locals := 0 } s m args below meth c D vwCl shM ca ad 6 (some (.int r), w') 16 [(0, .ref (ad 0)), (1, .int x1), (2, .int x2), (3, .int x3), (4, .int x4), (5, .int x5)] [] w) (x1 : Int32) (x2 : Int32) (x3 : Int32) (w : pm_W) (hf : b_Md_symbolOf_2  rec x1 x2 x3 w = some (r, w')) : pm_wk p l e { frames := 0, cells := 0, slots := 0, locals := 0 } s m args below meth c D vwCl shM ca ad 6 (some (.int r), w') 2 [(0, .ref (ad 0)), (1, .int x1), (2, .int x2), (3, .int x3)] [] w := by
  unfold b_Md_symbolOf_2 at hf
  refine pm_iload_n K d_Md_symbolOf_2 3 rfl rfl ?_
  refine pm_aload_n K d_Md_symbolOf_3 0 rfl rfl ?_
  refine pm_getI K fc_9 (o := 0) rfl 12 rfl (by decide) tw_681 d_Md_symbolOf_4 (v := w.1 0 12) rfl ?_
  refine pm_icmp_ge K d_Md_symbolOf_7 90 (by decide) (fun c1 => ?_) (fun c1 => ?_)
  · have hf := pm_ift c1 hf
    refine pm_aload_n K d_Md_symbolOf_90 0 rfl rfl ?_
    refine pm_getI K fc_9 (o := 0) rfl 12 rfl (by decide) tw_681 d_Md_symbolOf_91 (v := w.1 0 12) rfl ?_
    cases hf
    exact pm_iret K d_Md_symbolOf_94
  · have hf := pm_iff c1 hf
    refine pm_iconst (v := 1) K d_Md_symbolOf_10 (by decide) ?_
    refine pm_istore (lv' := [(4, .int (1 : Int32)), (0, .ref (ad 0)), (1, .int x1), (2, .int x2), (3, .int x3)]) K d_Md_symbolOf_11 (by decide) rfl ?_
    refine pm_iconst (v := 0) K d_Md_symbolOf_13 (by decide) ?_
    refine pm_istore (lv' := [(5, .int (0 : Int32)), (4, .int (1 : Int32)), (0, .ref (ad 0)), (1, .int x1), (2, .int x2), (3, .int x3)]) K d_Md_symbolOf_14 (by decide) rfl ?_
    refine pm_sub (lv' := [(0, .ref (ad 0)), (1, .int x1), (2, .int x2), (3, .int x3), (4, .int (1 : Int32)), (5, .int (0 : Int32))]) [2, 3, 4, 5, 1, 0] rfl ?_
    exact h16 x1 x2 x3 (1 : Int32) (0 : Int32) w hf
set_option maxHeartbeats 4000000 in
set_option maxRecDepth 100000 in
theorem t_Md_symbolOf_16 {p : Program} {l : Launch} {e : Env} {s : State} {m : MethodId} {args : Array Value} {below : List Frame} {meth : Method} {c : Code} {D : va_G} {ca : Nat → ClassId} {ad : Nat → Nat} {E : (Nat → Prop) → State → Heap → Prop} (K : pm_ok p s m args meth c k_Md_symbolOf 6 pmTs R_Md D vwCl (tyl ca) shM ad E (some .int)) (rec : Nat → Int32 → Int32 → Int32 → Int32 → Int32 → pm_W → Option (Int32 × pm_W)) (r : Int32) (w' : pm_W) (h2 : ∀ (x1 : Int32) (x2 : Int32) (x3 : Int32) (w : pm_W), rec 0 x1 x2 x3 0 0 w = some (r, w') → pm_wk p l e { frames := 0, cells := 0, slots := 0, locals := 0 } s m args below meth c D vwCl shM ca ad 6 (some (.int r), w') 2 [(0, .ref (ad 0)), (1, .int x1), (2, .int x2), (3, .int x3)] [] w) (h16 : ∀ (x1 : Int32) (x2 : Int32) (x3 : Int32) (x4 : Int32) (x5 : Int32) (w : pm_W), rec 1 x1 x2 x3 x4 x5 w = some (r, w') → pm_wk p l e { frames := 0, cells := 0, slots := 0, locals := 0 } s m args below meth c D vwCl shM ca ad 6 (some (.int r), w') 16 [(0, .ref (ad 0)), (1, .int x1), (2, .int x2), (3, .int x3), (4, .int x4), (5, .int x5)] [] w) (x1 : Int32) (x2 : Int32) (x3 : Int32) (x4 : Int32) (x5 : Int32) (w : pm_W) (hf : b_Md_symbolOf_16  rec x1 x2 x3 x4 x5 w = some (r, w')) : pm_wk p l e { frames := 0, cells := 0, slots := 0, locals := 0 } s m args below meth c D vwCl shM ca ad 6 (some (.int r), w') 16 [(0, .ref (ad 0)), (1, .int x1), (2, .int x2), (3, .int x3), (4, .int x4), (5, .int x5)] [] w := by
  unfold b_Md_symbolOf_16 at hf
  refine pm_iload K d_Md_symbolOf_16 5 rfl ?_
  refine pm_bipush (v := 8) K d_Md_symbolOf_18 (by decide) ?_
  refine pm_icmp_ge K d_Md_symbolOf_20 77 (by decide) (fun c2 => ?_) (fun c2 => ?_)
  · have hf := pm_ift c2 hf
    refine pm_iload K d_Md_symbolOf_77 4 rfl ?_
    refine pm_if_eq K d_Md_symbolOf_79 84 (by decide) (fun c3 => ?_) (fun c3 => ?_)
    · have hf := pm_ift c3 hf
      refine pm_iinc (v := x3 + (1 : Int32)) (lv' := [(3, .int (x3 + (1 : Int32))), (0, .ref (ad 0)), (1, .int x1), (2, .int x2), (4, .int x4), (5, .int x5)]) K d_Md_symbolOf_84 3 rfl rfl (by decide) rfl ?_
      refine pm_goto K d_Md_symbolOf_87 2 (by decide) ?_
      refine pm_sub (lv' := [(0, .ref (ad 0)), (1, .int x1), (2, .int x2), (3, .int (x3 + (1 : Int32)))]) [1, 2, 3, 0] rfl ?_
      exact h2 x1 x2 (x3 + (1 : Int32)) w hf
    · have hf := pm_iff c3 hf
      refine pm_iload_n K d_Md_symbolOf_82 3 rfl rfl ?_
      cases hf
      exact pm_iret K d_Md_symbolOf_83
  · have hf := pm_iff c2 hf
    refine pm_iload K d_Md_symbolOf_23 4 rfl ?_
    refine pm_if_eq K d_Md_symbolOf_25 77 (by decide) (fun c4 => ?_) (fun c4 => ?_)
    · have hf := pm_ift c4 hf
      refine pm_iload K d_Md_symbolOf_77 4 rfl ?_
      refine pm_if_eq K d_Md_symbolOf_79 84 (by decide) (fun c5 => ?_) (fun c5 => ?_)
      · have hf := pm_ift c5 hf
        refine pm_iinc (v := x3 + (1 : Int32)) (lv' := [(3, .int (x3 + (1 : Int32))), (0, .ref (ad 0)), (1, .int x1), (2, .int x2), (4, .int x4), (5, .int x5)]) K d_Md_symbolOf_84 3 rfl rfl (by decide) rfl ?_
        refine pm_goto K d_Md_symbolOf_87 2 (by decide) ?_
        refine pm_sub (lv' := [(0, .ref (ad 0)), (1, .int x1), (2, .int x2), (3, .int (x3 + (1 : Int32)))]) [1, 2, 3, 0] rfl ?_
        exact h2 x1 x2 (x3 + (1 : Int32)) w hf
      · have hf := pm_iff c5 hf
        refine pm_iload_n K d_Md_symbolOf_82 3 rfl rfl ?_
        cases hf
        exact pm_iret K d_Md_symbolOf_83
    · have hf := pm_iff c4 hf
      refine pm_aload_n K d_Md_symbolOf_28 0 rfl rfl ?_
      refine pm_getR K fc_9 (o := 0) rfl 13 rfl (by decide) tw_682 d_Md_symbolOf_29 ?_
      refine pm_bipush (v := 8) K d_Md_symbolOf_32 (by decide) ?_
      refine pm_iload_n K d_Md_symbolOf_34 3 rfl rfl ?_
      refine pm_imul K d_Md_symbolOf_35 ?_
      refine pm_iload K d_Md_symbolOf_36 5 rfl ?_
      refine pm_iadd K d_Md_symbolOf_38 ?_
      obtain ⟨q6, hf⟩ := pm_bnd hf
      refine pm_cald K (o := 10) rfl rfl q6 d_Md_symbolOf_39 (v := w.1 10 (((8 : Int32) * x3) + x5).toNatClampNeg) rfl ?_
      refine pm_iload_n K d_Md_symbolOf_40 1 rfl rfl ?_
      refine pm_iload K d_Md_symbolOf_41 5 rfl ?_
      refine pm_iadd K d_Md_symbolOf_43 ?_
      refine pm_iload_n K d_Md_symbolOf_44 2 rfl rfl ?_
      refine pm_icmp_ge K d_Md_symbolOf_45 60 (by decide) (fun c7 => ?_) (fun c7 => ?_)
      · have hf := pm_ift c7 hf
        refine pm_iconst (v := 0) K d_Md_symbolOf_60 (by decide) ?_
        refine pm_icmp_ne K d_Md_symbolOf_61 68 (by decide) (fun c8 => ?_) (fun c8 => ?_)
        · have hf := pm_iff c8 hf
          refine pm_iconst (v := 0) K d_Md_symbolOf_68 (by decide) ?_
          refine pm_istore (lv' := [(4, .int (0 : Int32)), (0, .ref (ad 0)), (1, .int x1), (2, .int x2), (3, .int x3), (5, .int x5)]) K d_Md_symbolOf_69 (by decide) rfl ?_
          refine pm_iinc (v := x5 + (1 : Int32)) (lv' := [(5, .int (x5 + (1 : Int32))), (4, .int (0 : Int32)), (0, .ref (ad 0)), (1, .int x1), (2, .int x2), (3, .int x3)]) K d_Md_symbolOf_71 5 rfl rfl (by decide) rfl ?_
          refine pm_goto K d_Md_symbolOf_74 16 (by decide) ?_
          refine pm_sub (lv' := [(0, .ref (ad 0)), (1, .int x1), (2, .int x2), (3, .int x3), (4, .int (0 : Int32)), (5, .int (x5 + (1 : Int32)))]) [2, 3, 4, 5, 1, 0] rfl ?_
          exact h16 x1 x2 x3 (0 : Int32) (x5 + (1 : Int32)) w hf
        · have hf := pm_ift c8 hf
          refine pm_iconst (v := 1) K d_Md_symbolOf_64 (by decide) ?_
          refine pm_goto K d_Md_symbolOf_65 69 (by decide) ?_
          refine pm_istore (lv' := [(4, .int (1 : Int32)), (0, .ref (ad 0)), (1, .int x1), (2, .int x2), (3, .int x3), (5, .int x5)]) K d_Md_symbolOf_69 (by decide) rfl ?_
          refine pm_iinc (v := x5 + (1 : Int32)) (lv' := [(5, .int (x5 + (1 : Int32))), (4, .int (1 : Int32)), (0, .ref (ad 0)), (1, .int x1), (2, .int x2), (3, .int x3)]) K d_Md_symbolOf_71 5 rfl rfl (by decide) rfl ?_
          refine pm_goto K d_Md_symbolOf_74 16 (by decide) ?_
          refine pm_sub (lv' := [(0, .ref (ad 0)), (1, .int x1), (2, .int x2), (3, .int x3), (4, .int (1 : Int32)), (5, .int (x5 + (1 : Int32)))]) [2, 3, 4, 5, 1, 0] rfl ?_
          exact h16 x1 x2 x3 (1 : Int32) (x5 + (1 : Int32)) w hf
      · have hf := pm_iff c7 hf
        refine pm_aload_n K d_Md_symbolOf_48 0 rfl rfl ?_
        refine pm_getR K fc_9 (o := 0) rfl 21 rfl (by decide) tw_690 d_Md_symbolOf_49 ?_
        refine pm_iload_n K d_Md_symbolOf_52 1 rfl rfl ?_
        refine pm_iload K d_Md_symbolOf_53 5 rfl ?_
        refine pm_iadd K d_Md_symbolOf_55 ?_
        obtain ⟨q9, hf⟩ := pm_bnd hf
        refine pm_cald K (o := 12) rfl rfl q9 d_Md_symbolOf_56 (v := w.1 12 (x1 + x5).toNatClampNeg) rfl ?_
        refine pm_goto K d_Md_symbolOf_57 61 (by decide) ?_
        refine pm_icmp_ne K d_Md_symbolOf_61 68 (by decide) (fun c10 => ?_) (fun c10 => ?_)
        · have hf := pm_iff c10 hf
          refine pm_iconst (v := 0) K d_Md_symbolOf_68 (by decide) ?_
          refine pm_istore (lv' := [(4, .int (0 : Int32)), (0, .ref (ad 0)), (1, .int x1), (2, .int x2), (3, .int x3), (5, .int x5)]) K d_Md_symbolOf_69 (by decide) rfl ?_
          refine pm_iinc (v := x5 + (1 : Int32)) (lv' := [(5, .int (x5 + (1 : Int32))), (4, .int (0 : Int32)), (0, .ref (ad 0)), (1, .int x1), (2, .int x2), (3, .int x3)]) K d_Md_symbolOf_71 5 rfl rfl (by decide) rfl ?_
          refine pm_goto K d_Md_symbolOf_74 16 (by decide) ?_
          refine pm_sub (lv' := [(0, .ref (ad 0)), (1, .int x1), (2, .int x2), (3, .int x3), (4, .int (0 : Int32)), (5, .int (x5 + (1 : Int32)))]) [2, 3, 4, 5, 1, 0] rfl ?_
          exact h16 x1 x2 x3 (0 : Int32) (x5 + (1 : Int32)) w hf
        · have hf := pm_ift c10 hf
          refine pm_iconst (v := 1) K d_Md_symbolOf_64 (by decide) ?_
          refine pm_goto K d_Md_symbolOf_65 69 (by decide) ?_
          refine pm_istore (lv' := [(4, .int (1 : Int32)), (0, .ref (ad 0)), (1, .int x1), (2, .int x2), (3, .int x3), (5, .int x5)]) K d_Md_symbolOf_69 (by decide) rfl ?_
          refine pm_iinc (v := x5 + (1 : Int32)) (lv' := [(5, .int (x5 + (1 : Int32))), (4, .int (1 : Int32)), (0, .ref (ad 0)), (1, .int x1), (2, .int x2), (3, .int x3)]) K d_Md_symbolOf_71 5 rfl rfl (by decide) rfl ?_
          refine pm_goto K d_Md_symbolOf_74 16 (by decide) ?_
          refine pm_sub (lv' := [(0, .ref (ad 0)), (1, .int x1), (2, .int x2), (3, .int x3), (4, .int (1 : Int32)), (5, .int (x5 + (1 : Int32)))]) [2, 3, 4, 5, 1, 0] rfl ?_
          exact h16 x1 x2 x3 (1 : Int32) (x5 + (1 : Int32)) w hf
set_option maxHeartbeats 4000000 in
set_option maxRecDepth 100000 in
theorem a_Md_symbolOf {p : Program} {l : Launch} {e : Env} {s : State} {m : MethodId} {args : Array Value} {below : List Frame} {meth : Method} {c : Code} {D : va_G} {ca : Nat → ClassId} {ad : Nat → Nat} {E : (Nat → Prop) → State → Heap → Prop} (K : pm_ok p s m args meth c k_Md_symbolOf 6 pmTs R_Md D vwCl (tyl ca) shM ad E (some .int)) (r : Int32) (w' : pm_W) : ∀ n : Nat, (∀ (x1 : Int32) (x2 : Int32) (x3 : Int32) (w : pm_W), l_Md_symbolOf  n 0 x1 x2 x3 0 0 w = some (r, w') → pm_wk p l e { frames := 0, cells := 0, slots := 0, locals := 0 } s m args below meth c D vwCl shM ca ad 6 (some (.int r), w') 2 [(0, .ref (ad 0)), (1, .int x1), (2, .int x2), (3, .int x3)] [] w) ∧ (∀ (x1 : Int32) (x2 : Int32) (x3 : Int32) (x4 : Int32) (x5 : Int32) (w : pm_W), l_Md_symbolOf  n 1 x1 x2 x3 x4 x5 w = some (r, w') → pm_wk p l e { frames := 0, cells := 0, slots := 0, locals := 0 } s m args below meth c D vwCl shM ca ad 6 (some (.int r), w') 16 [(0, .ref (ad 0)), (1, .int x1), (2, .int x2), (3, .int x3), (4, .int x4), (5, .int x5)] [] w) := by
  intro n
  induction n with
  | zero => exact ⟨fun _ _ _ _ hf => (by cases hf), fun _ _ _ _ _ _ hf => (by cases hf)⟩
  | succ n ih => exact ⟨fun x1 x2 x3 w hf => t_Md_symbolOf_2 K (l_Md_symbolOf n) r w' (ih.1) (ih.2) x1 x2 x3 w hf, fun x1 x2 x3 x4 x5 w hf => t_Md_symbolOf_16 K (l_Md_symbolOf n) r w' (ih.1) (ih.2) x1 x2 x3 x4 x5 w hf⟩
set_option maxHeartbeats 4000000 in
set_option maxRecDepth 100000 in
theorem t_Md_symbolOf {p : Program} {l : Launch} {e : Env} {s : State} {m : MethodId} {args : Array Value} {below : List Frame} {meth : Method} {c : Code} {D : va_G} {ca : Nat → ClassId} {ad : Nat → Nat} {E : (Nat → Prop) → State → Heap → Prop} (K : pm_ok p s m args meth c k_Md_symbolOf 6 pmTs R_Md D vwCl (tyl ca) shM ad E (some .int)) (r : Int32) (w' : pm_W) (x1 : Int32) (x2 : Int32) (w : pm_W) (hf : f_Md_symbolOf  x1 x2 w = some (r, w')) : pm_wk p l e { frames := 0, cells := 0, slots := 0, locals := 0 } s m args below meth c D vwCl shM ca ad 6 (some (.int r), w') 0 [(0, .ref (ad 0)), (1, .int x1), (2, .int x2)] [] w := by
  unfold f_Md_symbolOf at hf
  have h2 := (a_Md_symbolOf (l := l) (e := e) (below := below) K  r w' pm_fuel).1
  have h16 := (a_Md_symbolOf (l := l) (e := e) (below := below) K  r w' pm_fuel).2
  refine pm_iconst (v := 0) K d_Md_symbolOf_0 (by decide) ?_
  refine pm_istore_n (lv' := [(3, .int (0 : Int32)), (0, .ref (ad 0)), (1, .int x1), (2, .int x2)]) K d_Md_symbolOf_1 rfl (by decide) rfl ?_
  refine pm_sub (lv' := [(0, .ref (ad 0)), (1, .int x1), (2, .int x2), (3, .int (0 : Int32))]) [1, 2, 3, 0] rfl ?_
  exact h2 x1 x2 (0 : Int32) w hf
/-- CellLispModel.symbolOf(II)I -/
theorem c_Md_symbolOf {l : Launch} {D : va_G} {ca : Nat → ClassId} {ad : Nat → Nat} {E : (Nat → Prop) → State → Heap → Prop} (hEc : pm_Ecl E) (r : Int32) (w' : pm_W) (x1 : Int32) (x2 : Int32) (w : pm_W) (hf : f_Md_symbolOf  x1 x2 w = some (r, w')) : pm_Met l pmTs D vwCl (tyl ca) shM ca ad E y_Md_symbolOf k_Md_symbolOf 6 (some .int) { frames := 0, cells := 0, slots := 0, locals := 0 } [.ref (ad 0), .int x1, .int x2] w (some (.int r), w') :=
  pm_start pmTs_good hEc (by decide) (Nat.le_of_ble_eq_true rfl) (fun p e s m below meth c K => t_Md_symbolOf K r w' x1 x2 w hf)
def f_Md_atom (x1 : Int32) (x2 : Int32) (w : pm_W) : Option (Int32 × pm_W) :=
  Option.bind (f_Md_isFigure x1 x2 w) fun o1 =>
  if o1.1 = 0 then
    Option.bind (f_Md_isNil x1 x2 o1.2) fun o3 =>
    if o3.1 = 0 then
      Option.bind (f_Md_symbolOf x1 x2 o3.2) fun o5 =>
      some ((536871000 : Int32) + o5.1, o5.2)
    else
      some ((536870912 : Int32), o3.2)
  else
    Option.bind (f_Md_figure x1 x2 o1.2) fun o6 =>
    some (o6.1, o6.2)
set_option maxHeartbeats 4000000 in
set_option maxRecDepth 100000 in
theorem t_Md_atom {p : Program} {l : Launch} {e : Env} {s : State} {m : MethodId} {args : Array Value} {below : List Frame} {meth : Method} {c : Code} {D : va_G} {ca : Nat → ClassId} {ad : Nat → Nat} {E : (Nat → Prop) → State → Heap → Prop} (K : pm_ok p s m args meth c k_Md_atom 3 pmTs R_Md D vwCl (tyl ca) shM ad E (some .int)) (r : Int32) (w' : pm_W) (x1 : Int32) (x2 : Int32) (w : pm_W) (hf : f_Md_atom  x1 x2 w = some (r, w')) : pm_wk p l e { frames := 2, cells := 0, slots := 0, locals := 44 } s m args below meth c D vwCl shM ca ad 3 (some (.int r), w') 0 [(0, .ref (ad 0)), (1, .int x1), (2, .int x2)] [] w := by
  unfold f_Md_atom at hf
  refine pm_aload_n K d_Md_atom_0 0 rfl rfl ?_
  refine pm_iload_n K d_Md_atom_1 1 rfl rfl ?_
  refine pm_iload_n K d_Md_atom_2 2 rfl rfl ?_
  obtain ⟨o1, z1, hf⟩ := pm_bind hf
  refine pm_callV (As := [.int x1, .int x2]) (rest := []) (o := 0) K (c_Md_isFigure K.2.2.2.2.2.2.2.2.2.2.2.2 o1.1 o1.2 x1 x2 w z1) mi_Md_isFigure rfl rfl tw_730 tw_47 tw_729 rfl ⟨rfl, rfl, Nat.le_of_ble_eq_true rfl, Nat.le_of_ble_eq_true rfl⟩ rfl (Nat.le_of_ble_eq_true rfl) d_Md_atom_3 ?_
  refine pm_if_eq K d_Md_atom_6 18 (by decide) (fun c2 => ?_) (fun c2 => ?_)
  · have hf := pm_ift c2 hf
    refine pm_aload_n K d_Md_atom_18 0 rfl rfl ?_
    refine pm_iload_n K d_Md_atom_19 1 rfl rfl ?_
    refine pm_iload_n K d_Md_atom_20 2 rfl rfl ?_
    obtain ⟨o3, z3, hf⟩ := pm_bind hf
    refine pm_callV (As := [.int x1, .int x2]) (rest := []) (o := 0) K (c_Md_isNil K.2.2.2.2.2.2.2.2.2.2.2.2 o3.1 o3.2 x1 x2 o1.2 z3) mi_Md_isNil rfl rfl tw_733 tw_48 tw_732 rfl ⟨rfl, rfl, Nat.le_of_ble_eq_true rfl, Nat.le_of_ble_eq_true rfl⟩ rfl (Nat.le_of_ble_eq_true rfl) d_Md_atom_21 ?_
    refine pm_if_eq K d_Md_atom_24 32 (by decide) (fun c4 => ?_) (fun c4 => ?_)
    · have hf := pm_ift c4 hf
      refine pm_ldc K tw_773 d_Md_atom_32 ?_
      refine pm_aload_n K d_Md_atom_34 0 rfl rfl ?_
      refine pm_iload_n K d_Md_atom_35 1 rfl rfl ?_
      refine pm_iload_n K d_Md_atom_36 2 rfl rfl ?_
      obtain ⟨o5, z5, hf⟩ := pm_bind hf
      refine pm_callV (As := [.int x1, .int x2]) (rest := [.int (536871000 : Int32)]) (o := 0) K (c_Md_symbolOf K.2.2.2.2.2.2.2.2.2.2.2.2 o5.1 o5.2 x1 x2 o3.2 z5) mi_Md_symbolOf rfl rfl tw_736 tw_49 tw_735 rfl ⟨rfl, rfl, Nat.le_of_ble_eq_true rfl, Nat.le_of_ble_eq_true rfl⟩ rfl (Nat.le_of_ble_eq_true rfl) d_Md_atom_37 ?_
      refine pm_iadd K d_Md_atom_40 ?_
      cases hf
      exact pm_iret K d_Md_atom_41
    · have hf := pm_iff c4 hf
      refine pm_ldc K tw_662 d_Md_atom_27 ?_
      refine pm_goto K d_Md_atom_29 41 (by decide) ?_
      cases hf
      exact pm_iret K d_Md_atom_41
  · have hf := pm_iff c2 hf
    refine pm_aload_n K d_Md_atom_9 0 rfl rfl ?_
    refine pm_iload_n K d_Md_atom_10 1 rfl rfl ?_
    refine pm_iload_n K d_Md_atom_11 2 rfl rfl ?_
    obtain ⟨o6, z6, hf⟩ := pm_bind hf
    refine pm_callV (As := [.int x1, .int x2]) (rest := []) (o := 0) K (c_Md_figure K.2.2.2.2.2.2.2.2.2.2.2.2 o6.1 o6.2 x1 x2 o1.2 z6) mi_Md_figure rfl rfl tw_768 tw_58 tw_767 rfl ⟨rfl, rfl, Nat.le_of_ble_eq_true rfl, Nat.le_of_ble_eq_true rfl⟩ rfl (Nat.le_of_ble_eq_true rfl) d_Md_atom_12 ?_
    refine pm_goto K d_Md_atom_15 41 (by decide) ?_
    cases hf
    exact pm_iret K d_Md_atom_41
/-- CellLispModel.atom(II)I -/
theorem c_Md_atom {l : Launch} {D : va_G} {ca : Nat → ClassId} {ad : Nat → Nat} {E : (Nat → Prop) → State → Heap → Prop} (hEc : pm_Ecl E) (r : Int32) (w' : pm_W) (x1 : Int32) (x2 : Int32) (w : pm_W) (hf : f_Md_atom  x1 x2 w = some (r, w')) : pm_Met l pmTs D vwCl (tyl ca) shM ca ad E y_Md_atom k_Md_atom 3 (some .int) { frames := 2, cells := 0, slots := 0, locals := 44 } [.ref (ad 0), .int x1, .int x2] w (some (.int r), w') :=
  pm_start pmTs_good hEc (by decide) (Nat.le_of_ble_eq_true rfl) (fun p e s m below meth c K => t_Md_atom K r w' x1 x2 w hf)
def b_Md_meet_46 (rec : Nat → Int32 → Int32 → Int32 → pm_W → Option (Int32 × pm_W)) (x1 : Int32) (x2 : Int32) (x3 : Int32) (w : pm_W) : Option (Int32 × pm_W) :=
  if (8 : Int32) ≤ x3 then
    some ((1 : Int32), pm_setI w 0 12 ((w.1 0 12) + (1 : Int32)))
  else
    if x2 ≤ (x1 + x3) then
      if (((8 : Int32) * (w.1 0 12)) + x3) < 0 ∨ 320 ≤ (((8 : Int32) * (w.1 0 12)) + x3).toNatClampNeg then none else
      rec 0 x1 x2 (x3 + (1 : Int32)) (pm_setI w 10 (((8 : Int32) * (w.1 0 12)) + x3).toNatClampNeg (vp_nar .char (0 : Int32)))
    else
      if (x1 + x3) < 0 ∨ 120 ≤ (x1 + x3).toNatClampNeg then none else
      if (((8 : Int32) * (w.1 0 12)) + x3) < 0 ∨ 320 ≤ (((8 : Int32) * (w.1 0 12)) + x3).toNatClampNeg then none else
      rec 0 x1 x2 (x3 + (1 : Int32)) (pm_setI w 10 (((8 : Int32) * (w.1 0 12)) + x3).toNatClampNeg (vp_nar .char (w.1 12 (x1 + x3).toNatClampNeg)))
def l_Md_meet : Nat → Nat → Int32 → Int32 → Int32 → pm_W → Option (Int32 × pm_W) := pm_it (fun _ _ _ _ _ => none) (fun rec k x1 x2 x3 w => b_Md_meet_46  rec x1 x2 x3 w)
def f_Md_meet (x1 : Int32) (x2 : Int32) (w : pm_W) : Option (Int32 × pm_W) :=
  Option.bind (f_Md_isFigure x1 x2 w) fun o1 =>
  if o1.1 = 0 then
    Option.bind (f_Md_isNil x1 x2 o1.2) fun o3 =>
    if o3.1 = 0 then
      Option.bind (f_Md_symbolOf x1 x2 o3.2) fun o5 =>
      if (o5.2.1 0 12) ≤ o5.1 then
        if (o5.2.1 0 12) = (40 : Int32) then
          some ((0 : Int32), o5.2)
        else
          (l_Md_meet  pm_fuel) 0 x1 x2 (0 : Int32) o5.2
      else
        some ((1 : Int32), o5.2)
    else
      some ((1 : Int32), o3.2)
  else
    some ((1 : Int32), o1.2)
set_option maxHeartbeats 4000000 in
set_option maxRecDepth 100000 in
theorem t_Md_meet_46 {p : Program} {l : Launch} {e : Env} {s : State} {m : MethodId} {args : Array Value} {below : List Frame} {meth : Method} {c : Code} {D : va_G} {ca : Nat → ClassId} {ad : Nat → Nat} {E : (Nat → Prop) → State → Heap → Prop} (K : pm_ok p s m args meth c k_Md_meet 4 pmTs R_Md D vwCl (tyl ca) shM ad E (some .boolean)) (rec : Nat → Int32 → Int32 → Int32 → pm_W → Option (Int32 × pm_W)) (r : Int32) (w' : pm_W) (h46 : ∀ (x1 : Int32) (x2 : Int32) (x3 : Int32) (w : pm_W), rec 0 x1 x2 x3 w = some (r, w') → pm_wk p l e { frames := 1, cells := 0, slots := 0, locals := 25 } s m args below meth c D vwCl shM ca ad 4 (some (.int r), w') 46 [(0, .ref (ad 0)), (1, .int x1), (2, .int x2), (3, .int x3)] [] w) (x1 : Int32) (x2 : Int32) (x3 : Int32) (w : pm_W) (hf : b_Md_meet_46  rec x1 x2 x3 w = some (r, w')) : pm_wk p l e { frames := 1, cells := 0, slots := 0, locals := 25 } s m args below meth c D vwCl shM ca ad 4 (some (.int r), w') 46 [(0, .ref (ad 0)), (1, .int x1), (2, .int x2), (3, .int x3)] [] w := by
  unfold b_Md_meet_46 at hf
  refine pm_iload_n K d_Md_meet_46 3 rfl rfl ?_
  refine pm_bipush (v := 8) K d_Md_meet_47 (by decide) ?_
  refine pm_icmp_ge K d_Md_meet_49 91 (by decide) (fun c8 => ?_) (fun c8 => ?_)
  · have hf := pm_ift c8 hf
    refine pm_aload_n K d_Md_meet_91 0 rfl rfl ?_
    refine pm_dup K d_Md_meet_92 rfl ?_
    refine pm_getI K fc_9 (o := 0) rfl 12 rfl (by decide) tw_681 d_Md_meet_93 (v := w.1 0 12) rfl ?_
    refine pm_iconst (v := 1) K d_Md_meet_96 (by decide) ?_
    refine pm_iadd K d_Md_meet_97 ?_
    refine pm_putI K fc_9 (o := 0) (ty := .int) rfl 12 rfl (by decide) tw_681 rfl rfl rfl rfl d_Md_meet_98 ?_
    refine pm_iconst (v := 1) K d_Md_meet_101 (by decide) ?_
    cases hf
    exact pm_zret K (by decide) d_Md_meet_102
  · have hf := pm_iff c8 hf
    refine pm_aload_n K d_Md_meet_52 0 rfl rfl ?_
    refine pm_getR K fc_9 (o := 0) rfl 13 rfl (by decide) tw_682 d_Md_meet_53 ?_
    refine pm_bipush (v := 8) K d_Md_meet_56 (by decide) ?_
    refine pm_aload_n K d_Md_meet_58 0 rfl rfl ?_
    refine pm_getI K fc_9 (o := 0) rfl 12 rfl (by decide) tw_681 d_Md_meet_59 (v := w.1 0 12) rfl ?_
    refine pm_imul K d_Md_meet_62 ?_
    refine pm_iload_n K d_Md_meet_63 3 rfl rfl ?_
    refine pm_iadd K d_Md_meet_64 ?_
    refine pm_iload_n K d_Md_meet_65 1 rfl rfl ?_
    refine pm_iload_n K d_Md_meet_66 3 rfl rfl ?_
    refine pm_iadd K d_Md_meet_67 ?_
    refine pm_iload_n K d_Md_meet_68 2 rfl rfl ?_
    refine pm_icmp_ge K d_Md_meet_69 83 (by decide) (fun c9 => ?_) (fun c9 => ?_)
    · have hf := pm_ift c9 hf
      refine pm_iconst (v := 0) K d_Md_meet_83 (by decide) ?_
      obtain ⟨q10, hf⟩ := pm_bnd hf
      refine pm_cast K (o := 10) rfl rfl q10 d_Md_meet_84 ?_
      refine pm_iinc (v := x3 + (1 : Int32)) (lv' := [(3, .int (x3 + (1 : Int32))), (0, .ref (ad 0)), (1, .int x1), (2, .int x2)]) K d_Md_meet_85 3 rfl rfl (by decide) rfl ?_
      refine pm_goto K d_Md_meet_88 46 (by decide) ?_
      refine pm_sub (lv' := [(0, .ref (ad 0)), (1, .int x1), (2, .int x2), (3, .int (x3 + (1 : Int32)))]) [1, 2, 3, 0] rfl ?_
      exact h46 x1 x2 (x3 + (1 : Int32)) (pm_setI w 10 (((8 : Int32) * (w.1 0 12)) + x3).toNatClampNeg (vp_nar .char (0 : Int32))) hf
    · have hf := pm_iff c9 hf
      refine pm_aload_n K d_Md_meet_72 0 rfl rfl ?_
      refine pm_getR K fc_9 (o := 0) rfl 21 rfl (by decide) tw_690 d_Md_meet_73 ?_
      refine pm_iload_n K d_Md_meet_76 1 rfl rfl ?_
      refine pm_iload_n K d_Md_meet_77 3 rfl rfl ?_
      refine pm_iadd K d_Md_meet_78 ?_
      obtain ⟨q11, hf⟩ := pm_bnd hf
      refine pm_cald K (o := 12) rfl rfl q11 d_Md_meet_79 (v := w.1 12 (x1 + x3).toNatClampNeg) rfl ?_
      refine pm_goto K d_Md_meet_80 84 (by decide) ?_
      obtain ⟨q12, hf⟩ := pm_bnd hf
      refine pm_cast K (o := 10) rfl rfl q12 d_Md_meet_84 ?_
      refine pm_iinc (v := x3 + (1 : Int32)) (lv' := [(3, .int (x3 + (1 : Int32))), (0, .ref (ad 0)), (1, .int x1), (2, .int x2)]) K d_Md_meet_85 3 rfl rfl (by decide) rfl ?_
      refine pm_goto K d_Md_meet_88 46 (by decide) ?_
      refine pm_sub (lv' := [(0, .ref (ad 0)), (1, .int x1), (2, .int x2), (3, .int (x3 + (1 : Int32)))]) [1, 2, 3, 0] rfl ?_
      exact h46 x1 x2 (x3 + (1 : Int32)) (pm_setI w 10 (((8 : Int32) * (w.1 0 12)) + x3).toNatClampNeg (vp_nar .char (w.1 12 (x1 + x3).toNatClampNeg))) hf
set_option maxHeartbeats 4000000 in
set_option maxRecDepth 100000 in
theorem a_Md_meet {p : Program} {l : Launch} {e : Env} {s : State} {m : MethodId} {args : Array Value} {below : List Frame} {meth : Method} {c : Code} {D : va_G} {ca : Nat → ClassId} {ad : Nat → Nat} {E : (Nat → Prop) → State → Heap → Prop} (K : pm_ok p s m args meth c k_Md_meet 4 pmTs R_Md D vwCl (tyl ca) shM ad E (some .boolean)) (r : Int32) (w' : pm_W) : ∀ n : Nat, (∀ (x1 : Int32) (x2 : Int32) (x3 : Int32) (w : pm_W), l_Md_meet  n 0 x1 x2 x3 w = some (r, w') → pm_wk p l e { frames := 1, cells := 0, slots := 0, locals := 25 } s m args below meth c D vwCl shM ca ad 4 (some (.int r), w') 46 [(0, .ref (ad 0)), (1, .int x1), (2, .int x2), (3, .int x3)] [] w) := by
  intro n
  induction n with
  | zero => exact fun _ _ _ _ hf => (by cases hf)
  | succ n ih => exact fun x1 x2 x3 w hf => t_Md_meet_46 K (l_Md_meet n) r w' (ih) x1 x2 x3 w hf
set_option maxHeartbeats 4000000 in
set_option maxRecDepth 100000 in
theorem t_Md_meet {p : Program} {l : Launch} {e : Env} {s : State} {m : MethodId} {args : Array Value} {below : List Frame} {meth : Method} {c : Code} {D : va_G} {ca : Nat → ClassId} {ad : Nat → Nat} {E : (Nat → Prop) → State → Heap → Prop} (K : pm_ok p s m args meth c k_Md_meet 4 pmTs R_Md D vwCl (tyl ca) shM ad E (some .boolean)) (r : Int32) (w' : pm_W) (x1 : Int32) (x2 : Int32) (w : pm_W) (hf : f_Md_meet  x1 x2 w = some (r, w')) : pm_wk p l e { frames := 1, cells := 0, slots := 0, locals := 25 } s m args below meth c D vwCl shM ca ad 4 (some (.int r), w') 0 [(0, .ref (ad 0)), (1, .int x1), (2, .int x2)] [] w := by
  unfold f_Md_meet at hf
  have h46 := (a_Md_meet (l := l) (e := e) (below := below) K  r w' pm_fuel)
  refine pm_aload_n K d_Md_meet_0 0 rfl rfl ?_
  refine pm_iload_n K d_Md_meet_1 1 rfl rfl ?_
  refine pm_iload_n K d_Md_meet_2 2 rfl rfl ?_
  obtain ⟨o1, z1, hf⟩ := pm_bind hf
  refine pm_callV (As := [.int x1, .int x2]) (rest := []) (o := 0) K (c_Md_isFigure K.2.2.2.2.2.2.2.2.2.2.2.2 o1.1 o1.2 x1 x2 w z1) mi_Md_isFigure rfl rfl tw_730 tw_47 tw_729 rfl ⟨rfl, rfl, Nat.le_of_ble_eq_true rfl, Nat.le_of_ble_eq_true rfl⟩ rfl (Nat.le_of_ble_eq_true rfl) d_Md_meet_3 ?_
  refine pm_if_ne K d_Md_meet_6 31 (by decide) (fun c2 => ?_) (fun c2 => ?_)
  · have hf := pm_iff c2 hf
    refine pm_iconst (v := 1) K d_Md_meet_31 (by decide) ?_
    cases hf
    exact pm_zret K (by decide) d_Md_meet_32
  · have hf := pm_ift c2 hf
    refine pm_aload_n K d_Md_meet_9 0 rfl rfl ?_
    refine pm_iload_n K d_Md_meet_10 1 rfl rfl ?_
    refine pm_iload_n K d_Md_meet_11 2 rfl rfl ?_
    obtain ⟨o3, z3, hf⟩ := pm_bind hf
    refine pm_callV (As := [.int x1, .int x2]) (rest := []) (o := 0) K (c_Md_isNil K.2.2.2.2.2.2.2.2.2.2.2.2 o3.1 o3.2 x1 x2 o1.2 z3) mi_Md_isNil rfl rfl tw_733 tw_48 tw_732 rfl ⟨rfl, rfl, Nat.le_of_ble_eq_true rfl, Nat.le_of_ble_eq_true rfl⟩ rfl (Nat.le_of_ble_eq_true rfl) d_Md_meet_12 ?_
    refine pm_if_ne K d_Md_meet_15 31 (by decide) (fun c4 => ?_) (fun c4 => ?_)
    · have hf := pm_iff c4 hf
      refine pm_iconst (v := 1) K d_Md_meet_31 (by decide) ?_
      cases hf
      exact pm_zret K (by decide) d_Md_meet_32
    · have hf := pm_ift c4 hf
      refine pm_aload_n K d_Md_meet_18 0 rfl rfl ?_
      refine pm_iload_n K d_Md_meet_19 1 rfl rfl ?_
      refine pm_iload_n K d_Md_meet_20 2 rfl rfl ?_
      obtain ⟨o5, z5, hf⟩ := pm_bind hf
      refine pm_callV (As := [.int x1, .int x2]) (rest := []) (o := 0) K (c_Md_symbolOf K.2.2.2.2.2.2.2.2.2.2.2.2 o5.1 o5.2 x1 x2 o3.2 z5) mi_Md_symbolOf rfl rfl tw_736 tw_49 tw_735 rfl ⟨rfl, rfl, Nat.le_of_ble_eq_true rfl, Nat.le_of_ble_eq_true rfl⟩ rfl (Nat.le_of_ble_eq_true rfl) d_Md_meet_21 ?_
      refine pm_aload_n K d_Md_meet_24 0 rfl rfl ?_
      refine pm_getI K fc_9 (o := 0) rfl 12 rfl (by decide) tw_681 d_Md_meet_25 (v := o5.2.1 0 12) rfl ?_
      refine pm_icmp_ge K d_Md_meet_28 33 (by decide) (fun c6 => ?_) (fun c6 => ?_)
      · have hf := pm_ift c6 hf
        refine pm_aload_n K d_Md_meet_33 0 rfl rfl ?_
        refine pm_getI K fc_9 (o := 0) rfl 12 rfl (by decide) tw_681 d_Md_meet_34 (v := o5.2.1 0 12) rfl ?_
        refine pm_bipush (v := 40) K d_Md_meet_37 (by decide) ?_
        refine pm_icmp_ne K d_Md_meet_39 44 (by decide) (fun c7 => ?_) (fun c7 => ?_)
        · have hf := pm_iff c7 hf
          refine pm_iconst (v := 0) K d_Md_meet_44 (by decide) ?_
          refine pm_istore_n (lv' := [(3, .int (0 : Int32)), (0, .ref (ad 0)), (1, .int x1), (2, .int x2)]) K d_Md_meet_45 rfl (by decide) rfl ?_
          refine pm_sub (lv' := [(0, .ref (ad 0)), (1, .int x1), (2, .int x2), (3, .int (0 : Int32))]) [1, 2, 3, 0] rfl ?_
          exact h46 x1 x2 (0 : Int32) o5.2 hf
        · have hf := pm_ift c7 hf
          refine pm_iconst (v := 0) K d_Md_meet_42 (by decide) ?_
          cases hf
          exact pm_zret K (by decide) d_Md_meet_43
      · have hf := pm_iff c6 hf
        refine pm_iconst (v := 1) K d_Md_meet_31 (by decide) ?_
        cases hf
        exact pm_zret K (by decide) d_Md_meet_32
/-- CellLispModel.meet(II)Z -/
theorem c_Md_meet {l : Launch} {D : va_G} {ca : Nat → ClassId} {ad : Nat → Nat} {E : (Nat → Prop) → State → Heap → Prop} (hEc : pm_Ecl E) (r : Int32) (w' : pm_W) (x1 : Int32) (x2 : Int32) (w : pm_W) (hf : f_Md_meet  x1 x2 w = some (r, w')) : pm_Met l pmTs D vwCl (tyl ca) shM ca ad E y_Md_meet k_Md_meet 4 (some .boolean) { frames := 1, cells := 0, slots := 0, locals := 25 } [.ref (ad 0), .int x1, .int x2] w (some (.int r), w') :=
  pm_start pmTs_good hEc (by decide) (Nat.le_of_ble_eq_true rfl) (fun p e s m below meth c K => t_Md_meet K r w' x1 x2 w hf)
def b_Md_lookOver_164 (rec : Nat → Int32 → Int32 → Int32 → pm_W → Option (Int32 × pm_W)) (x1 : Int32) (x4 : Int32) (w : pm_W) : Option (Int32 × pm_W) :=
  if x4 = (39 : Int32) then
    if x1 = 0 then
      if (1 : Int32) = 0 then
        some ((1 : Int32), w)
      else
        Option.bind (f_Md_skip (w.1 0 29) w) fun o38 =>
        rec 0 x1 (1 : Int32) o38.1 o38.2
    else
      Option.bind (f_Md_skip (w.1 0 29) w) fun o36 =>
      rec 0 x1 (1 : Int32) o36.1 o36.2
  else
    if x1 = 0 then
      if (0 : Int32) = 0 then
        some ((1 : Int32), w)
      else
        Option.bind (f_Md_skip (w.1 0 29) w) fun o34 =>
        rec 0 x1 (0 : Int32) o34.1 o34.2
    else
      Option.bind (f_Md_skip (w.1 0 29) w) fun o32 =>
      rec 0 x1 (0 : Int32) o32.1 o32.2
def b_Md_lookOver_144 (rec : Nat → Int32 → Int32 → Int32 → pm_W → Option (Int32 × pm_W)) (x1 : Int32) (x4 : Int32) (w : pm_W) : Option (Int32 × pm_W) :=
  if x4 = (40 : Int32) then
    if x4 = (41 : Int32) then
      b_Md_lookOver_164  rec ((x1 + (1 : Int32)) + (-1 : Int32)) x4 w
    else
      b_Md_lookOver_164  rec (x1 + (1 : Int32)) x4 w
  else
    if x4 = (41 : Int32) then
      b_Md_lookOver_164  rec (x1 + (-1 : Int32)) x4 w
    else
      b_Md_lookOver_164  rec x1 x4 w
def b_Md_lookOver_102 (rec : Nat → Int32 → Int32 → Int32 → pm_W → Option (Int32 × pm_W)) (x1 : Int32) (x2 : Int32) (x4 : Int32) (w : pm_W) : Option (Int32 × pm_W) :=
  if x4 = (39 : Int32) then
    if x4 = (41 : Int32) then
      b_Md_lookOver_144  rec x1 x4 (pm_setI w 0 30 ((w.1 0 30) + (4 : Int32)))
    else
      if x2 = 0 then
        if x1 ≤ 0 then
          b_Md_lookOver_144  rec x1 x4 (pm_setI w 0 30 ((w.1 0 30) + (4 : Int32)))
        else
          b_Md_lookOver_144  rec x1 x4 (pm_setI (pm_setI w 0 30 ((w.1 0 30) + (4 : Int32))) 0 30 (((w.1 0 30) + (4 : Int32)) + (2 : Int32)))
      else
        b_Md_lookOver_144  rec x1 x4 (pm_setI w 0 30 ((w.1 0 30) + (4 : Int32)))
  else
    if x4 = (41 : Int32) then
      b_Md_lookOver_144  rec x1 x4 w
    else
      if x2 = 0 then
        if x1 ≤ 0 then
          b_Md_lookOver_144  rec x1 x4 w
        else
          b_Md_lookOver_144  rec x1 x4 (pm_setI w 0 30 ((w.1 0 30) + (2 : Int32)))
      else
        b_Md_lookOver_144  rec x1 x4 w
def b_Md_lookOver_66 (rec : Nat → Int32 → Int32 → Int32 → pm_W → Option (Int32 × pm_W)) (x1 : Int32) (x2 : Int32) (x4 : Int32) (w : pm_W) : Option (Int32 × pm_W) :=
  if x4 = (40 : Int32) then
    if x1 = (10 : Int32) then
      some ((-1 : Int32), w)
    else
      Option.bind (f_Md_isSign x4 w) fun o17 =>
      if o17.1 = 0 then
        if (o17.2.1 0 29) = (o17.2.1 0 20) then
          some ((0 : Int32), o17.2)
        else
          b_Md_lookOver_102  rec x1 x2 x4 o17.2
      else
        b_Md_lookOver_102  rec x1 x2 x4 o17.2
  else
    Option.bind (f_Md_isSign x4 w) fun o13 =>
    if o13.1 = 0 then
      if (o13.2.1 0 29) = (o13.2.1 0 20) then
        some ((0 : Int32), o13.2)
      else
        b_Md_lookOver_102  rec x1 x2 x4 o13.2
    else
      b_Md_lookOver_102  rec x1 x2 x4 o13.2
def b_Md_lookOver_15 (rec : Nat → Int32 → Int32 → Int32 → pm_W → Option (Int32 × pm_W)) (x1 : Int32) (x2 : Int32) (x3 : Int32) (w : pm_W) : Option (Int32 × pm_W) :=
  if (w.1 0 20) ≤ x3 then
    some ((0 : Int32), w)
  else
    if x3 < 0 ∨ 120 ≤ x3.toNatClampNeg then none else
    Option.bind (f_Md_tokenEnd x3 w) fun o4 =>
    if (w.1 12 x3.toNatClampNeg) = (41 : Int32) then
      if x1 = 0 then
        some ((-1 : Int32), pm_setI o4.2 0 29 o4.1)
      else
        if x2 = 0 then
          if (w.1 12 x3.toNatClampNeg) = (39 : Int32) then
            if x2 = 0 then
              b_Md_lookOver_66  rec x1 x2 (w.1 12 x3.toNatClampNeg) (pm_setI o4.2 0 29 o4.1)
            else
              some ((-1 : Int32), pm_setI o4.2 0 29 o4.1)
          else
            b_Md_lookOver_66  rec x1 x2 (w.1 12 x3.toNatClampNeg) (pm_setI o4.2 0 29 o4.1)
        else
          some ((-1 : Int32), pm_setI o4.2 0 29 o4.1)
    else
      if (w.1 12 x3.toNatClampNeg) = (39 : Int32) then
        if x2 = 0 then
          b_Md_lookOver_66  rec x1 x2 (w.1 12 x3.toNatClampNeg) (pm_setI o4.2 0 29 o4.1)
        else
          some ((-1 : Int32), pm_setI o4.2 0 29 o4.1)
      else
        b_Md_lookOver_66  rec x1 x2 (w.1 12 x3.toNatClampNeg) (pm_setI o4.2 0 29 o4.1)
def l_Md_lookOver : Nat → Nat → Int32 → Int32 → Int32 → pm_W → Option (Int32 × pm_W) := pm_it (fun _ _ _ _ _ => none) (fun rec k x1 x2 x3 w => b_Md_lookOver_15  rec x1 x2 x3 w)
def f_Md_lookOver (w : pm_W) : Option (Int32 × pm_W) :=
  Option.bind (f_Md_skip (0 : Int32) (pm_setI w 0 30 (0 : Int32))) fun o1 =>
  (l_Md_lookOver  pm_fuel) 0 (0 : Int32) (0 : Int32) o1.1 o1.2
set_option maxHeartbeats 4000000 in
set_option maxRecDepth 100000 in
theorem t_Md_lookOver_164 {p : Program} {l : Launch} {e : Env} {s : State} {m : MethodId} {args : Array Value} {below : List Frame} {meth : Method} {c : Code} {D : va_G} {ca : Nat → ClassId} {ad : Nat → Nat} {E : (Nat → Prop) → State → Heap → Prop} (K : pm_ok p s m args meth c k_Md_lookOver 5 pmTs R_Md D vwCl (tyl ca) shM ad E (some .int)) (rec : Nat → Int32 → Int32 → Int32 → pm_W → Option (Int32 × pm_W)) (r : Int32) (w' : pm_W) (h15 : ∀ (x1 : Int32) (x2 : Int32) (x3 : Int32) (w : pm_W), rec 0 x1 x2 x3 w = some (r, w') → pm_wk p l e { frames := 2, cells := 0, slots := 0, locals := 42 } s m args below meth c D vwCl shM ca ad 5 (some (.int r), w') 15 [(0, .ref (ad 0)), (1, .int x1), (2, .int x2), (3, .int x3)] [] w) (x1 : Int32) (x4 : Int32) (w : pm_W) (hf : b_Md_lookOver_164  rec x1 x4 w = some (r, w')) : pm_wk p l e { frames := 2, cells := 0, slots := 0, locals := 42 } s m args below meth c D vwCl shM ca ad 5 (some (.int r), w') 164 [(0, .ref (ad 0)), (1, .int x1), (4, .int x4)] [] w := by
  unfold b_Md_lookOver_164 at hf
  refine pm_iload K d_Md_lookOver_164 2 rfl ?_
  refine pm_bipush (v := 39) K d_Md_lookOver_166 (by decide) ?_
  refine pm_icmp_ne K d_Md_lookOver_168 175 (by decide) (fun c30 => ?_) (fun c30 => ?_)
  · have hf := pm_iff c30 hf
    refine pm_iconst (v := 0) K d_Md_lookOver_175 (by decide) ?_
    refine pm_istore_n (lv' := [(2, .int (0 : Int32)), (0, .ref (ad 0)), (1, .int x1), (4, .int x4)]) K d_Md_lookOver_176 rfl (by decide) rfl ?_
    refine pm_iload_n K d_Md_lookOver_177 2 rfl rfl ?_
    refine pm_if_ne K d_Md_lookOver_178 187 (by decide) (fun c31 => ?_) (fun c31 => ?_)
    · have hf := pm_iff c31 hf
      refine pm_aload_n K d_Md_lookOver_187 1 rfl rfl ?_
      refine pm_aload_n K d_Md_lookOver_188 1 rfl rfl ?_
      refine pm_getI K fc_9 (o := 0) rfl 29 rfl (by decide) tw_698 d_Md_lookOver_189 (v := w.1 0 29) rfl ?_
      obtain ⟨o32, z32, hf⟩ := pm_bind hf
      refine pm_callV (As := [.int (w.1 0 29)]) (rest := []) (o := 0) K (c_Md_skip K.2.2.2.2.2.2.2.2.2.2.2.2 o32.1 o32.2 (w.1 0 29) w z32) mi_Md_skip rfl rfl tw_715 tw_44 tw_714 rfl ⟨rfl, rfl, Nat.le_of_ble_eq_true rfl, Nat.le_of_ble_eq_true rfl⟩ rfl (Nat.le_of_ble_eq_true rfl) d_Md_lookOver_192 ?_
      refine pm_istore_n (lv' := [(3, .int o32.1), (2, .int (0 : Int32)), (0, .ref (ad 0)), (1, .int x1), (4, .int x4)]) K d_Md_lookOver_195 rfl (by decide) rfl ?_
      refine pm_goto K d_Md_lookOver_196 15 (by decide) ?_
      refine pm_sub (lv' := [(0, .ref (ad 0)), (1, .int x1), (2, .int (0 : Int32)), (3, .int o32.1)]) [2, 3, 1, 0] rfl ?_
      exact h15 x1 (0 : Int32) o32.1 o32.2 hf
    · have hf := pm_ift c31 hf
      refine pm_iload_n K d_Md_lookOver_181 0 rfl rfl ?_
      refine pm_if_ne K d_Md_lookOver_182 187 (by decide) (fun c33 => ?_) (fun c33 => ?_)
      · have hf := pm_iff c33 hf
        refine pm_aload_n K d_Md_lookOver_187 1 rfl rfl ?_
        refine pm_aload_n K d_Md_lookOver_188 1 rfl rfl ?_
        refine pm_getI K fc_9 (o := 0) rfl 29 rfl (by decide) tw_698 d_Md_lookOver_189 (v := w.1 0 29) rfl ?_
        obtain ⟨o34, z34, hf⟩ := pm_bind hf
        refine pm_callV (As := [.int (w.1 0 29)]) (rest := []) (o := 0) K (c_Md_skip K.2.2.2.2.2.2.2.2.2.2.2.2 o34.1 o34.2 (w.1 0 29) w z34) mi_Md_skip rfl rfl tw_715 tw_44 tw_714 rfl ⟨rfl, rfl, Nat.le_of_ble_eq_true rfl, Nat.le_of_ble_eq_true rfl⟩ rfl (Nat.le_of_ble_eq_true rfl) d_Md_lookOver_192 ?_
        refine pm_istore_n (lv' := [(3, .int o34.1), (2, .int (0 : Int32)), (0, .ref (ad 0)), (1, .int x1), (4, .int x4)]) K d_Md_lookOver_195 rfl (by decide) rfl ?_
        refine pm_goto K d_Md_lookOver_196 15 (by decide) ?_
        refine pm_sub (lv' := [(0, .ref (ad 0)), (1, .int x1), (2, .int (0 : Int32)), (3, .int o34.1)]) [2, 3, 1, 0] rfl ?_
        exact h15 x1 (0 : Int32) o34.1 o34.2 hf
      · have hf := pm_ift c33 hf
        refine pm_iconst (v := 1) K d_Md_lookOver_185 (by decide) ?_
        cases hf
        exact pm_iret K d_Md_lookOver_186
  · have hf := pm_ift c30 hf
    refine pm_iconst (v := 1) K d_Md_lookOver_171 (by decide) ?_
    refine pm_goto K d_Md_lookOver_172 176 (by decide) ?_
    refine pm_istore_n (lv' := [(2, .int (1 : Int32)), (0, .ref (ad 0)), (1, .int x1), (4, .int x4)]) K d_Md_lookOver_176 rfl (by decide) rfl ?_
    refine pm_iload_n K d_Md_lookOver_177 2 rfl rfl ?_
    refine pm_if_ne K d_Md_lookOver_178 187 (by decide) (fun c35 => ?_) (fun c35 => ?_)
    · have hf := pm_iff c35 hf
      refine pm_aload_n K d_Md_lookOver_187 1 rfl rfl ?_
      refine pm_aload_n K d_Md_lookOver_188 1 rfl rfl ?_
      refine pm_getI K fc_9 (o := 0) rfl 29 rfl (by decide) tw_698 d_Md_lookOver_189 (v := w.1 0 29) rfl ?_
      obtain ⟨o36, z36, hf⟩ := pm_bind hf
      refine pm_callV (As := [.int (w.1 0 29)]) (rest := []) (o := 0) K (c_Md_skip K.2.2.2.2.2.2.2.2.2.2.2.2 o36.1 o36.2 (w.1 0 29) w z36) mi_Md_skip rfl rfl tw_715 tw_44 tw_714 rfl ⟨rfl, rfl, Nat.le_of_ble_eq_true rfl, Nat.le_of_ble_eq_true rfl⟩ rfl (Nat.le_of_ble_eq_true rfl) d_Md_lookOver_192 ?_
      refine pm_istore_n (lv' := [(3, .int o36.1), (2, .int (1 : Int32)), (0, .ref (ad 0)), (1, .int x1), (4, .int x4)]) K d_Md_lookOver_195 rfl (by decide) rfl ?_
      refine pm_goto K d_Md_lookOver_196 15 (by decide) ?_
      refine pm_sub (lv' := [(0, .ref (ad 0)), (1, .int x1), (2, .int (1 : Int32)), (3, .int o36.1)]) [2, 3, 1, 0] rfl ?_
      exact h15 x1 (1 : Int32) o36.1 o36.2 hf
    · have hf := pm_ift c35 hf
      refine pm_iload_n K d_Md_lookOver_181 0 rfl rfl ?_
      refine pm_if_ne K d_Md_lookOver_182 187 (by decide) (fun c37 => ?_) (fun c37 => ?_)
      · have hf := pm_iff c37 hf
        refine pm_aload_n K d_Md_lookOver_187 1 rfl rfl ?_
        refine pm_aload_n K d_Md_lookOver_188 1 rfl rfl ?_
        refine pm_getI K fc_9 (o := 0) rfl 29 rfl (by decide) tw_698 d_Md_lookOver_189 (v := w.1 0 29) rfl ?_
        obtain ⟨o38, z38, hf⟩ := pm_bind hf
        refine pm_callV (As := [.int (w.1 0 29)]) (rest := []) (o := 0) K (c_Md_skip K.2.2.2.2.2.2.2.2.2.2.2.2 o38.1 o38.2 (w.1 0 29) w z38) mi_Md_skip rfl rfl tw_715 tw_44 tw_714 rfl ⟨rfl, rfl, Nat.le_of_ble_eq_true rfl, Nat.le_of_ble_eq_true rfl⟩ rfl (Nat.le_of_ble_eq_true rfl) d_Md_lookOver_192 ?_
        refine pm_istore_n (lv' := [(3, .int o38.1), (2, .int (1 : Int32)), (0, .ref (ad 0)), (1, .int x1), (4, .int x4)]) K d_Md_lookOver_195 rfl (by decide) rfl ?_
        refine pm_goto K d_Md_lookOver_196 15 (by decide) ?_
        refine pm_sub (lv' := [(0, .ref (ad 0)), (1, .int x1), (2, .int (1 : Int32)), (3, .int o38.1)]) [2, 3, 1, 0] rfl ?_
        exact h15 x1 (1 : Int32) o38.1 o38.2 hf
      · have hf := pm_ift c37 hf
        refine pm_iconst (v := 1) K d_Md_lookOver_185 (by decide) ?_
        cases hf
        exact pm_iret K d_Md_lookOver_186
set_option maxHeartbeats 4000000 in
set_option maxRecDepth 100000 in
theorem t_Md_lookOver_144 {p : Program} {l : Launch} {e : Env} {s : State} {m : MethodId} {args : Array Value} {below : List Frame} {meth : Method} {c : Code} {D : va_G} {ca : Nat → ClassId} {ad : Nat → Nat} {E : (Nat → Prop) → State → Heap → Prop} (K : pm_ok p s m args meth c k_Md_lookOver 5 pmTs R_Md D vwCl (tyl ca) shM ad E (some .int)) (rec : Nat → Int32 → Int32 → Int32 → pm_W → Option (Int32 × pm_W)) (r : Int32) (w' : pm_W) (h15 : ∀ (x1 : Int32) (x2 : Int32) (x3 : Int32) (w : pm_W), rec 0 x1 x2 x3 w = some (r, w') → pm_wk p l e { frames := 2, cells := 0, slots := 0, locals := 42 } s m args below meth c D vwCl shM ca ad 5 (some (.int r), w') 15 [(0, .ref (ad 0)), (1, .int x1), (2, .int x2), (3, .int x3)] [] w) (x1 : Int32) (x4 : Int32) (w : pm_W) (hf : b_Md_lookOver_144  rec x1 x4 w = some (r, w')) : pm_wk p l e { frames := 2, cells := 0, slots := 0, locals := 42 } s m args below meth c D vwCl shM ca ad 5 (some (.int r), w') 144 [(0, .ref (ad 0)), (1, .int x1), (4, .int x4)] [] w := by
  unfold b_Md_lookOver_144 at hf
  refine pm_iload K d_Md_lookOver_144 2 rfl ?_
  refine pm_bipush (v := 40) K d_Md_lookOver_146 (by decide) ?_
  refine pm_icmp_ne K d_Md_lookOver_148 154 (by decide) (fun c27 => ?_) (fun c27 => ?_)
  · have hf := pm_iff c27 hf
    refine pm_iload K d_Md_lookOver_154 2 rfl ?_
    refine pm_bipush (v := 41) K d_Md_lookOver_156 (by decide) ?_
    refine pm_icmp_ne K d_Md_lookOver_158 164 (by decide) (fun c28 => ?_) (fun c28 => ?_)
    · have hf := pm_iff c28 hf
      refine pm_sub (lv' := [(0, .ref (ad 0)), (1, .int x1), (4, .int x4)]) [0, 1, 2] rfl ?_
      exact t_Md_lookOver_164 K  rec r w' h15 x1 x4 w hf
    · have hf := pm_ift c28 hf
      refine pm_iinc (v := x1 + (-1 : Int32)) (lv' := [(1, .int (x1 + (-1 : Int32))), (0, .ref (ad 0)), (4, .int x4)]) K d_Md_lookOver_161 1 rfl rfl (by decide) rfl ?_
      refine pm_sub (lv' := [(0, .ref (ad 0)), (1, .int (x1 + (-1 : Int32))), (4, .int x4)]) [1, 0, 2] rfl ?_
      exact t_Md_lookOver_164 K  rec r w' h15 (x1 + (-1 : Int32)) x4 w hf
  · have hf := pm_ift c27 hf
    refine pm_iinc (v := x1 + (1 : Int32)) (lv' := [(1, .int (x1 + (1 : Int32))), (0, .ref (ad 0)), (4, .int x4)]) K d_Md_lookOver_151 1 rfl rfl (by decide) rfl ?_
    refine pm_iload K d_Md_lookOver_154 2 rfl ?_
    refine pm_bipush (v := 41) K d_Md_lookOver_156 (by decide) ?_
    refine pm_icmp_ne K d_Md_lookOver_158 164 (by decide) (fun c29 => ?_) (fun c29 => ?_)
    · have hf := pm_iff c29 hf
      refine pm_sub (lv' := [(0, .ref (ad 0)), (1, .int (x1 + (1 : Int32))), (4, .int x4)]) [1, 0, 2] rfl ?_
      exact t_Md_lookOver_164 K  rec r w' h15 (x1 + (1 : Int32)) x4 w hf
    · have hf := pm_ift c29 hf
      refine pm_iinc (v := (x1 + (1 : Int32)) + (-1 : Int32)) (lv' := [(1, .int ((x1 + (1 : Int32)) + (-1 : Int32))), (0, .ref (ad 0)), (4, .int x4)]) K d_Md_lookOver_161 0 rfl rfl (by decide) rfl ?_
      refine pm_sub (lv' := [(0, .ref (ad 0)), (1, .int ((x1 + (1 : Int32)) + (-1 : Int32))), (4, .int x4)]) [1, 0, 2] rfl ?_
      exact t_Md_lookOver_164 K  rec r w' h15 ((x1 + (1 : Int32)) + (-1 : Int32)) x4 w hf
set_option maxHeartbeats 4000000 in
set_option maxRecDepth 100000 in
theorem t_Md_lookOver_102 {p : Program} {l : Launch} {e : Env} {s : State} {m : MethodId} {args : Array Value} {below : List Frame} {meth : Method} {c : Code} {D : va_G} {ca : Nat → ClassId} {ad : Nat → Nat} {E : (Nat → Prop) → State → Heap → Prop} (K : pm_ok p s m args meth c k_Md_lookOver 5 pmTs R_Md D vwCl (tyl ca) shM ad E (some .int)) (rec : Nat → Int32 → Int32 → Int32 → pm_W → Option (Int32 × pm_W)) (r : Int32) (w' : pm_W) (h15 : ∀ (x1 : Int32) (x2 : Int32) (x3 : Int32) (w : pm_W), rec 0 x1 x2 x3 w = some (r, w') → pm_wk p l e { frames := 2, cells := 0, slots := 0, locals := 42 } s m args below meth c D vwCl shM ca ad 5 (some (.int r), w') 15 [(0, .ref (ad 0)), (1, .int x1), (2, .int x2), (3, .int x3)] [] w) (x1 : Int32) (x2 : Int32) (x4 : Int32) (w : pm_W) (hf : b_Md_lookOver_102  rec x1 x2 x4 w = some (r, w')) : pm_wk p l e { frames := 2, cells := 0, slots := 0, locals := 42 } s m args below meth c D vwCl shM ca ad 5 (some (.int r), w') 102 [(0, .ref (ad 0)), (1, .int x1), (2, .int x2), (4, .int x4)] [] w := by
  unfold b_Md_lookOver_102 at hf
  refine pm_iload K d_Md_lookOver_102 3 rfl ?_
  refine pm_bipush (v := 39) K d_Md_lookOver_104 (by decide) ?_
  refine pm_icmp_ne K d_Md_lookOver_106 119 (by decide) (fun c20 => ?_) (fun c20 => ?_)
  · have hf := pm_iff c20 hf
    refine pm_iload K d_Md_lookOver_119 3 rfl ?_
    refine pm_bipush (v := 41) K d_Md_lookOver_121 (by decide) ?_
    refine pm_icmp_eq K d_Md_lookOver_123 144 (by decide) (fun c21 => ?_) (fun c21 => ?_)
    · have hf := pm_ift c21 hf
      refine pm_sub (lv' := [(0, .ref (ad 0)), (1, .int x1), (4, .int x4)]) [0, 1, 3] rfl ?_
      exact t_Md_lookOver_144 K  rec r w' h15 x1 x4 w hf
    · have hf := pm_iff c21 hf
      refine pm_iload_n K d_Md_lookOver_126 2 rfl rfl ?_
      refine pm_if_ne K d_Md_lookOver_127 144 (by decide) (fun c22 => ?_) (fun c22 => ?_)
      · have hf := pm_iff c22 hf
        refine pm_sub (lv' := [(0, .ref (ad 0)), (1, .int x1), (4, .int x4)]) [0, 1, 3] rfl ?_
        exact t_Md_lookOver_144 K  rec r w' h15 x1 x4 w hf
      · have hf := pm_ift c22 hf
        refine pm_iload_n K d_Md_lookOver_130 1 rfl rfl ?_
        refine pm_if_le K d_Md_lookOver_131 144 (by decide) (fun c23 => ?_) (fun c23 => ?_)
        · have hf := pm_ift c23 hf
          refine pm_sub (lv' := [(0, .ref (ad 0)), (1, .int x1), (4, .int x4)]) [0, 1, 3] rfl ?_
          exact t_Md_lookOver_144 K  rec r w' h15 x1 x4 w hf
        · have hf := pm_iff c23 hf
          refine pm_aload_n K d_Md_lookOver_134 0 rfl rfl ?_
          refine pm_dup K d_Md_lookOver_135 rfl ?_
          refine pm_getI K fc_9 (o := 0) rfl 30 rfl (by decide) tw_699 d_Md_lookOver_136 (v := w.1 0 30) rfl ?_
          refine pm_iconst (v := 2) K d_Md_lookOver_139 (by decide) ?_
          refine pm_iadd K d_Md_lookOver_140 ?_
          refine pm_putI K fc_9 (o := 0) (ty := .int) rfl 30 rfl (by decide) tw_699 rfl rfl rfl rfl d_Md_lookOver_141 ?_
          refine pm_sub (lv' := [(0, .ref (ad 0)), (1, .int x1), (4, .int x4)]) [0, 1, 3] rfl ?_
          exact t_Md_lookOver_144 K  rec r w' h15 x1 x4 (pm_setI w 0 30 ((w.1 0 30) + (2 : Int32))) hf
  · have hf := pm_ift c20 hf
    refine pm_aload_n K d_Md_lookOver_109 0 rfl rfl ?_
    refine pm_dup K d_Md_lookOver_110 rfl ?_
    refine pm_getI K fc_9 (o := 0) rfl 30 rfl (by decide) tw_699 d_Md_lookOver_111 (v := w.1 0 30) rfl ?_
    refine pm_iconst (v := 4) K d_Md_lookOver_114 (by decide) ?_
    refine pm_iadd K d_Md_lookOver_115 ?_
    refine pm_putI K fc_9 (o := 0) (ty := .int) rfl 30 rfl (by decide) tw_699 rfl rfl rfl rfl d_Md_lookOver_116 ?_
    refine pm_iload K d_Md_lookOver_119 3 rfl ?_
    refine pm_bipush (v := 41) K d_Md_lookOver_121 (by decide) ?_
    refine pm_icmp_eq K d_Md_lookOver_123 144 (by decide) (fun c24 => ?_) (fun c24 => ?_)
    · have hf := pm_ift c24 hf
      refine pm_sub (lv' := [(0, .ref (ad 0)), (1, .int x1), (4, .int x4)]) [0, 1, 3] rfl ?_
      exact t_Md_lookOver_144 K  rec r w' h15 x1 x4 (pm_setI w 0 30 ((w.1 0 30) + (4 : Int32))) hf
    · have hf := pm_iff c24 hf
      refine pm_iload_n K d_Md_lookOver_126 2 rfl rfl ?_
      refine pm_if_ne K d_Md_lookOver_127 144 (by decide) (fun c25 => ?_) (fun c25 => ?_)
      · have hf := pm_iff c25 hf
        refine pm_sub (lv' := [(0, .ref (ad 0)), (1, .int x1), (4, .int x4)]) [0, 1, 3] rfl ?_
        exact t_Md_lookOver_144 K  rec r w' h15 x1 x4 (pm_setI w 0 30 ((w.1 0 30) + (4 : Int32))) hf
      · have hf := pm_ift c25 hf
        refine pm_iload_n K d_Md_lookOver_130 1 rfl rfl ?_
        refine pm_if_le K d_Md_lookOver_131 144 (by decide) (fun c26 => ?_) (fun c26 => ?_)
        · have hf := pm_ift c26 hf
          refine pm_sub (lv' := [(0, .ref (ad 0)), (1, .int x1), (4, .int x4)]) [0, 1, 3] rfl ?_
          exact t_Md_lookOver_144 K  rec r w' h15 x1 x4 (pm_setI w 0 30 ((w.1 0 30) + (4 : Int32))) hf
        · have hf := pm_iff c26 hf
          refine pm_aload_n K d_Md_lookOver_134 0 rfl rfl ?_
          refine pm_dup K d_Md_lookOver_135 rfl ?_
          refine pm_getI K fc_9 (o := 0) rfl 30 rfl (by decide) tw_699 d_Md_lookOver_136 (v := (w.1 0 30) + (4 : Int32)) rfl ?_
          refine pm_iconst (v := 2) K d_Md_lookOver_139 (by decide) ?_
          refine pm_iadd K d_Md_lookOver_140 ?_
          refine pm_putI K fc_9 (o := 0) (ty := .int) rfl 30 rfl (by decide) tw_699 rfl rfl rfl rfl d_Md_lookOver_141 ?_
          refine pm_sub (lv' := [(0, .ref (ad 0)), (1, .int x1), (4, .int x4)]) [0, 1, 3] rfl ?_
          exact t_Md_lookOver_144 K  rec r w' h15 x1 x4 (pm_setI (pm_setI w 0 30 ((w.1 0 30) + (4 : Int32))) 0 30 (((w.1 0 30) + (4 : Int32)) + (2 : Int32))) hf
set_option maxHeartbeats 4000000 in
set_option maxRecDepth 100000 in
theorem t_Md_lookOver_66 {p : Program} {l : Launch} {e : Env} {s : State} {m : MethodId} {args : Array Value} {below : List Frame} {meth : Method} {c : Code} {D : va_G} {ca : Nat → ClassId} {ad : Nat → Nat} {E : (Nat → Prop) → State → Heap → Prop} (K : pm_ok p s m args meth c k_Md_lookOver 5 pmTs R_Md D vwCl (tyl ca) shM ad E (some .int)) (rec : Nat → Int32 → Int32 → Int32 → pm_W → Option (Int32 × pm_W)) (r : Int32) (w' : pm_W) (h15 : ∀ (x1 : Int32) (x2 : Int32) (x3 : Int32) (w : pm_W), rec 0 x1 x2 x3 w = some (r, w') → pm_wk p l e { frames := 2, cells := 0, slots := 0, locals := 42 } s m args below meth c D vwCl shM ca ad 5 (some (.int r), w') 15 [(0, .ref (ad 0)), (1, .int x1), (2, .int x2), (3, .int x3)] [] w) (x1 : Int32) (x2 : Int32) (x4 : Int32) (w : pm_W) (hf : b_Md_lookOver_66  rec x1 x2 x4 w = some (r, w')) : pm_wk p l e { frames := 2, cells := 0, slots := 0, locals := 42 } s m args below meth c D vwCl shM ca ad 5 (some (.int r), w') 66 [(0, .ref (ad 0)), (1, .int x1), (2, .int x2), (4, .int x4)] [] w := by
  unfold b_Md_lookOver_66 at hf
  refine pm_iload K d_Md_lookOver_66 3 rfl ?_
  refine pm_bipush (v := 40) K d_Md_lookOver_68 (by decide) ?_
  refine pm_icmp_ne K d_Md_lookOver_70 81 (by decide) (fun c12 => ?_) (fun c12 => ?_)
  · have hf := pm_iff c12 hf
    refine pm_iload K d_Md_lookOver_81 3 rfl ?_
    obtain ⟨o13, z13, hf⟩ := pm_bind hf
    refine pm_callS (As := [.int x4]) (rest := []) K (c_Md_isSign K.2.2.2.2.2.2.2.2.2.2.2.2 o13.1 o13.2 x4 w z13) mi_Md_isSign tw_724 tw_723 rfl ⟨rfl, rfl, Nat.le_of_ble_eq_true rfl, Nat.le_of_ble_eq_true rfl⟩ rfl (Nat.le_of_ble_eq_true rfl) d_Md_lookOver_83 ?_
    refine pm_if_ne K d_Md_lookOver_86 102 (by decide) (fun c14 => ?_) (fun c14 => ?_)
    · have hf := pm_iff c14 hf
      refine pm_sub (lv' := [(0, .ref (ad 0)), (1, .int x1), (2, .int x2), (4, .int x4)]) [0, 1, 2, 3] rfl ?_
      exact t_Md_lookOver_102 K  rec r w' h15 x1 x2 x4 o13.2 hf
    · have hf := pm_ift c14 hf
      refine pm_aload_n K d_Md_lookOver_89 0 rfl rfl ?_
      refine pm_getI K fc_9 (o := 0) rfl 29 rfl (by decide) tw_698 d_Md_lookOver_90 (v := o13.2.1 0 29) rfl ?_
      refine pm_aload_n K d_Md_lookOver_93 0 rfl rfl ?_
      refine pm_getI K fc_9 (o := 0) rfl 20 rfl (by decide) tw_689 d_Md_lookOver_94 (v := o13.2.1 0 20) rfl ?_
      refine pm_icmp_ne K d_Md_lookOver_97 102 (by decide) (fun c15 => ?_) (fun c15 => ?_)
      · have hf := pm_iff c15 hf
        refine pm_sub (lv' := [(0, .ref (ad 0)), (1, .int x1), (2, .int x2), (4, .int x4)]) [0, 1, 2, 3] rfl ?_
        exact t_Md_lookOver_102 K  rec r w' h15 x1 x2 x4 o13.2 hf
      · have hf := pm_ift c15 hf
        refine pm_iconst (v := 0) K d_Md_lookOver_100 (by decide) ?_
        cases hf
        exact pm_iret K d_Md_lookOver_101
  · have hf := pm_ift c12 hf
    refine pm_iload_n K d_Md_lookOver_73 1 rfl rfl ?_
    refine pm_bipush (v := 10) K d_Md_lookOver_74 (by decide) ?_
    refine pm_icmp_ne K d_Md_lookOver_76 81 (by decide) (fun c16 => ?_) (fun c16 => ?_)
    · have hf := pm_iff c16 hf
      refine pm_iload K d_Md_lookOver_81 3 rfl ?_
      obtain ⟨o17, z17, hf⟩ := pm_bind hf
      refine pm_callS (As := [.int x4]) (rest := []) K (c_Md_isSign K.2.2.2.2.2.2.2.2.2.2.2.2 o17.1 o17.2 x4 w z17) mi_Md_isSign tw_724 tw_723 rfl ⟨rfl, rfl, Nat.le_of_ble_eq_true rfl, Nat.le_of_ble_eq_true rfl⟩ rfl (Nat.le_of_ble_eq_true rfl) d_Md_lookOver_83 ?_
      refine pm_if_ne K d_Md_lookOver_86 102 (by decide) (fun c18 => ?_) (fun c18 => ?_)
      · have hf := pm_iff c18 hf
        refine pm_sub (lv' := [(0, .ref (ad 0)), (1, .int x1), (2, .int x2), (4, .int x4)]) [0, 1, 2, 3] rfl ?_
        exact t_Md_lookOver_102 K  rec r w' h15 x1 x2 x4 o17.2 hf
      · have hf := pm_ift c18 hf
        refine pm_aload_n K d_Md_lookOver_89 0 rfl rfl ?_
        refine pm_getI K fc_9 (o := 0) rfl 29 rfl (by decide) tw_698 d_Md_lookOver_90 (v := o17.2.1 0 29) rfl ?_
        refine pm_aload_n K d_Md_lookOver_93 0 rfl rfl ?_
        refine pm_getI K fc_9 (o := 0) rfl 20 rfl (by decide) tw_689 d_Md_lookOver_94 (v := o17.2.1 0 20) rfl ?_
        refine pm_icmp_ne K d_Md_lookOver_97 102 (by decide) (fun c19 => ?_) (fun c19 => ?_)
        · have hf := pm_iff c19 hf
          refine pm_sub (lv' := [(0, .ref (ad 0)), (1, .int x1), (2, .int x2), (4, .int x4)]) [0, 1, 2, 3] rfl ?_
          exact t_Md_lookOver_102 K  rec r w' h15 x1 x2 x4 o17.2 hf
        · have hf := pm_ift c19 hf
          refine pm_iconst (v := 0) K d_Md_lookOver_100 (by decide) ?_
          cases hf
          exact pm_iret K d_Md_lookOver_101
    · have hf := pm_ift c16 hf
      refine pm_iconst (v := -1) K d_Md_lookOver_79 (by decide) ?_
      cases hf
      exact pm_iret K d_Md_lookOver_80
set_option maxHeartbeats 4000000 in
set_option maxRecDepth 100000 in
theorem t_Md_lookOver_15 {p : Program} {l : Launch} {e : Env} {s : State} {m : MethodId} {args : Array Value} {below : List Frame} {meth : Method} {c : Code} {D : va_G} {ca : Nat → ClassId} {ad : Nat → Nat} {E : (Nat → Prop) → State → Heap → Prop} (K : pm_ok p s m args meth c k_Md_lookOver 5 pmTs R_Md D vwCl (tyl ca) shM ad E (some .int)) (rec : Nat → Int32 → Int32 → Int32 → pm_W → Option (Int32 × pm_W)) (r : Int32) (w' : pm_W) (h15 : ∀ (x1 : Int32) (x2 : Int32) (x3 : Int32) (w : pm_W), rec 0 x1 x2 x3 w = some (r, w') → pm_wk p l e { frames := 2, cells := 0, slots := 0, locals := 42 } s m args below meth c D vwCl shM ca ad 5 (some (.int r), w') 15 [(0, .ref (ad 0)), (1, .int x1), (2, .int x2), (3, .int x3)] [] w) (x1 : Int32) (x2 : Int32) (x3 : Int32) (w : pm_W) (hf : b_Md_lookOver_15  rec x1 x2 x3 w = some (r, w')) : pm_wk p l e { frames := 2, cells := 0, slots := 0, locals := 42 } s m args below meth c D vwCl shM ca ad 5 (some (.int r), w') 15 [(0, .ref (ad 0)), (1, .int x1), (2, .int x2), (3, .int x3)] [] w := by
  unfold b_Md_lookOver_15 at hf
  refine pm_iload_n K d_Md_lookOver_15 3 rfl rfl ?_
  refine pm_aload_n K d_Md_lookOver_16 0 rfl rfl ?_
  refine pm_getI K fc_9 (o := 0) rfl 20 rfl (by decide) tw_689 d_Md_lookOver_17 (v := w.1 0 20) rfl ?_
  refine pm_icmp_ge K d_Md_lookOver_20 199 (by decide) (fun c2 => ?_) (fun c2 => ?_)
  · have hf := pm_ift c2 hf
    refine pm_iconst (v := 0) K d_Md_lookOver_199 (by decide) ?_
    cases hf
    exact pm_iret K d_Md_lookOver_200
  · have hf := pm_iff c2 hf
    refine pm_aload_n K d_Md_lookOver_23 0 rfl rfl ?_
    refine pm_getR K fc_9 (o := 0) rfl 21 rfl (by decide) tw_690 d_Md_lookOver_24 ?_
    refine pm_iload_n K d_Md_lookOver_27 3 rfl rfl ?_
    obtain ⟨q3, hf⟩ := pm_bnd hf
    refine pm_cald K (o := 12) rfl rfl q3 d_Md_lookOver_28 (v := w.1 12 x3.toNatClampNeg) rfl ?_
    refine pm_istore (lv' := [(4, .int (w.1 12 x3.toNatClampNeg)), (0, .ref (ad 0)), (1, .int x1), (2, .int x2), (3, .int x3)]) K d_Md_lookOver_29 (by decide) rfl ?_
    refine pm_aload_n K d_Md_lookOver_31 1 rfl rfl ?_
    refine pm_aload_n K d_Md_lookOver_32 1 rfl rfl ?_
    refine pm_iload_n K d_Md_lookOver_33 4 rfl rfl ?_
    obtain ⟨o4, z4, hf⟩ := pm_bind hf
    refine pm_callV (As := [.int x3]) (rest := [.ref (ad 0)]) (o := 0) K (c_Md_tokenEnd K.2.2.2.2.2.2.2.2.2.2.2.2 o4.1 o4.2 x3 w z4) mi_Md_tokenEnd rfl rfl tw_721 tw_45 tw_720 rfl ⟨rfl, rfl, Nat.le_of_ble_eq_true rfl, Nat.le_of_ble_eq_true rfl⟩ rfl (Nat.le_of_ble_eq_true rfl) d_Md_lookOver_34 ?_
    refine pm_putI K fc_9 (o := 0) (ty := .int) rfl 29 rfl (by decide) tw_698 rfl rfl rfl rfl d_Md_lookOver_37 ?_
    refine pm_iload K d_Md_lookOver_40 0 rfl ?_
    refine pm_bipush (v := 41) K d_Md_lookOver_42 (by decide) ?_
    refine pm_icmp_ne K d_Md_lookOver_44 55 (by decide) (fun c5 => ?_) (fun c5 => ?_)
    · have hf := pm_iff c5 hf
      refine pm_iload K d_Md_lookOver_55 0 rfl ?_
      refine pm_bipush (v := 39) K d_Md_lookOver_57 (by decide) ?_
      refine pm_icmp_ne K d_Md_lookOver_59 66 (by decide) (fun c6 => ?_) (fun c6 => ?_)
      · have hf := pm_iff c6 hf
        refine pm_sub (lv' := [(0, .ref (ad 0)), (1, .int x1), (2, .int x2), (4, .int (w.1 12 x3.toNatClampNeg))]) [1, 2, 3, 0] rfl ?_
        exact t_Md_lookOver_66 K  rec r w' h15 x1 x2 (w.1 12 x3.toNatClampNeg) (pm_setI o4.2 0 29 o4.1) hf
      · have hf := pm_ift c6 hf
        refine pm_iload_n K d_Md_lookOver_62 3 rfl rfl ?_
        refine pm_if_ne K d_Md_lookOver_63 79 (by decide) (fun c7 => ?_) (fun c7 => ?_)
        · have hf := pm_iff c7 hf
          refine pm_iconst (v := -1) K d_Md_lookOver_79 (by decide) ?_
          cases hf
          exact pm_iret K d_Md_lookOver_80
        · have hf := pm_ift c7 hf
          refine pm_sub (lv' := [(0, .ref (ad 0)), (1, .int x1), (2, .int x2), (4, .int (w.1 12 x3.toNatClampNeg))]) [1, 2, 3, 0] rfl ?_
          exact t_Md_lookOver_66 K  rec r w' h15 x1 x2 (w.1 12 x3.toNatClampNeg) (pm_setI o4.2 0 29 o4.1) hf
    · have hf := pm_ift c5 hf
      refine pm_iload_n K d_Md_lookOver_47 2 rfl rfl ?_
      refine pm_if_eq K d_Md_lookOver_48 79 (by decide) (fun c8 => ?_) (fun c8 => ?_)
      · have hf := pm_ift c8 hf
        refine pm_iconst (v := -1) K d_Md_lookOver_79 (by decide) ?_
        cases hf
        exact pm_iret K d_Md_lookOver_80
      · have hf := pm_iff c8 hf
        refine pm_iload_n K d_Md_lookOver_51 3 rfl rfl ?_
        refine pm_if_ne K d_Md_lookOver_52 79 (by decide) (fun c9 => ?_) (fun c9 => ?_)
        · have hf := pm_iff c9 hf
          refine pm_iconst (v := -1) K d_Md_lookOver_79 (by decide) ?_
          cases hf
          exact pm_iret K d_Md_lookOver_80
        · have hf := pm_ift c9 hf
          refine pm_iload K d_Md_lookOver_55 0 rfl ?_
          refine pm_bipush (v := 39) K d_Md_lookOver_57 (by decide) ?_
          refine pm_icmp_ne K d_Md_lookOver_59 66 (by decide) (fun c10 => ?_) (fun c10 => ?_)
          · have hf := pm_iff c10 hf
            refine pm_sub (lv' := [(0, .ref (ad 0)), (1, .int x1), (2, .int x2), (4, .int (w.1 12 x3.toNatClampNeg))]) [1, 2, 3, 0] rfl ?_
            exact t_Md_lookOver_66 K  rec r w' h15 x1 x2 (w.1 12 x3.toNatClampNeg) (pm_setI o4.2 0 29 o4.1) hf
          · have hf := pm_ift c10 hf
            refine pm_iload_n K d_Md_lookOver_62 3 rfl rfl ?_
            refine pm_if_ne K d_Md_lookOver_63 79 (by decide) (fun c11 => ?_) (fun c11 => ?_)
            · have hf := pm_iff c11 hf
              refine pm_iconst (v := -1) K d_Md_lookOver_79 (by decide) ?_
              cases hf
              exact pm_iret K d_Md_lookOver_80
            · have hf := pm_ift c11 hf
              refine pm_sub (lv' := [(0, .ref (ad 0)), (1, .int x1), (2, .int x2), (4, .int (w.1 12 x3.toNatClampNeg))]) [1, 2, 3, 0] rfl ?_
              exact t_Md_lookOver_66 K  rec r w' h15 x1 x2 (w.1 12 x3.toNatClampNeg) (pm_setI o4.2 0 29 o4.1) hf
set_option maxHeartbeats 4000000 in
set_option maxRecDepth 100000 in
theorem a_Md_lookOver {p : Program} {l : Launch} {e : Env} {s : State} {m : MethodId} {args : Array Value} {below : List Frame} {meth : Method} {c : Code} {D : va_G} {ca : Nat → ClassId} {ad : Nat → Nat} {E : (Nat → Prop) → State → Heap → Prop} (K : pm_ok p s m args meth c k_Md_lookOver 5 pmTs R_Md D vwCl (tyl ca) shM ad E (some .int)) (r : Int32) (w' : pm_W) : ∀ n : Nat, (∀ (x1 : Int32) (x2 : Int32) (x3 : Int32) (w : pm_W), l_Md_lookOver  n 0 x1 x2 x3 w = some (r, w') → pm_wk p l e { frames := 2, cells := 0, slots := 0, locals := 42 } s m args below meth c D vwCl shM ca ad 5 (some (.int r), w') 15 [(0, .ref (ad 0)), (1, .int x1), (2, .int x2), (3, .int x3)] [] w) := by
  intro n
  induction n with
  | zero => exact fun _ _ _ _ hf => (by cases hf)
  | succ n ih => exact fun x1 x2 x3 w hf => t_Md_lookOver_15 K (l_Md_lookOver n) r w' (ih) x1 x2 x3 w hf
set_option maxHeartbeats 4000000 in
set_option maxRecDepth 100000 in
theorem t_Md_lookOver {p : Program} {l : Launch} {e : Env} {s : State} {m : MethodId} {args : Array Value} {below : List Frame} {meth : Method} {c : Code} {D : va_G} {ca : Nat → ClassId} {ad : Nat → Nat} {E : (Nat → Prop) → State → Heap → Prop} (K : pm_ok p s m args meth c k_Md_lookOver 5 pmTs R_Md D vwCl (tyl ca) shM ad E (some .int)) (r : Int32) (w' : pm_W) (w : pm_W) (hf : f_Md_lookOver  w = some (r, w')) : pm_wk p l e { frames := 2, cells := 0, slots := 0, locals := 42 } s m args below meth c D vwCl shM ca ad 5 (some (.int r), w') 0 [(0, .ref (ad 0))] [] w := by
  unfold f_Md_lookOver at hf
  have h15 := (a_Md_lookOver (l := l) (e := e) (below := below) K  r w' pm_fuel)
  refine pm_iconst (v := 0) K d_Md_lookOver_0 (by decide) ?_
  refine pm_istore_n (lv' := [(1, .int (0 : Int32)), (0, .ref (ad 0))]) K d_Md_lookOver_1 rfl (by decide) rfl ?_
  refine pm_iconst (v := 0) K d_Md_lookOver_2 (by decide) ?_
  refine pm_istore_n (lv' := [(2, .int (0 : Int32)), (1, .int (0 : Int32)), (0, .ref (ad 0))]) K d_Md_lookOver_3 rfl (by decide) rfl ?_
  refine pm_aload_n K d_Md_lookOver_4 2 rfl rfl ?_
  refine pm_iconst (v := 0) K d_Md_lookOver_5 (by decide) ?_
  refine pm_putI K fc_9 (o := 0) (ty := .int) rfl 30 rfl (by decide) tw_699 rfl rfl rfl rfl d_Md_lookOver_6 ?_
  refine pm_aload_n K d_Md_lookOver_9 2 rfl rfl ?_
  refine pm_iconst (v := 0) K d_Md_lookOver_10 (by decide) ?_
  obtain ⟨o1, z1, hf⟩ := pm_bind hf
  refine pm_callV (As := [.int (0 : Int32)]) (rest := []) (o := 0) K (c_Md_skip K.2.2.2.2.2.2.2.2.2.2.2.2 o1.1 o1.2 (0 : Int32) (pm_setI w 0 30 (0 : Int32)) z1) mi_Md_skip rfl rfl tw_715 tw_44 tw_714 rfl ⟨rfl, rfl, Nat.le_of_ble_eq_true rfl, Nat.le_of_ble_eq_true rfl⟩ rfl (Nat.le_of_ble_eq_true rfl) d_Md_lookOver_11 ?_
  refine pm_istore_n (lv' := [(3, .int o1.1), (2, .int (0 : Int32)), (1, .int (0 : Int32)), (0, .ref (ad 0))]) K d_Md_lookOver_14 rfl (by decide) rfl ?_
  refine pm_sub (lv' := [(0, .ref (ad 0)), (1, .int (0 : Int32)), (2, .int (0 : Int32)), (3, .int o1.1)]) [3, 2, 1, 0] rfl ?_
  exact h15 (0 : Int32) (0 : Int32) o1.1 o1.2 hf
/-- CellLispModel.lookOver()I -/
theorem c_Md_lookOver {l : Launch} {D : va_G} {ca : Nat → ClassId} {ad : Nat → Nat} {E : (Nat → Prop) → State → Heap → Prop} (hEc : pm_Ecl E) (r : Int32) (w' : pm_W) (w : pm_W) (hf : f_Md_lookOver  w = some (r, w')) : pm_Met l pmTs D vwCl (tyl ca) shM ca ad E y_Md_lookOver k_Md_lookOver 5 (some .int) { frames := 2, cells := 0, slots := 0, locals := 42 } [.ref (ad 0)] w (some (.int r), w') :=
  pm_start pmTs_good hEc (by decide) (Nat.le_of_ble_eq_true rfl) (fun p e s m below meth c K => t_Md_lookOver K r w'  w hf)
