def f_CL_liveCells (S : Nat) (w : pm_W) : Option (Int32 × pm_W) :=
  Option.bind (f_Room_collect S w) fun o1 =>
  some (o1.1 5 10, o1)
set_option maxHeartbeats 4000000 in
set_option maxRecDepth 100000 in
theorem t_CL_liveCells {p : Program} {l : Launch} {e : Env} {s : State} {m : MethodId} {args : Array Value} {below : List Frame} {meth : Method} {c : Code} {D : va_G} {ca : Nat → ClassId} {ad : Nat → Nat} {E : (Nat → Prop) → State → Heap → Prop} {S : Nat} (K : pm_ok p s m args meth c k_CL_liveCells 1 pmTs R_CL D vwCl (tyl ca) (shC S) ad E (some .int)) (r : Int32) (w' : pm_W) (w : pm_W) (hf : f_CL_liveCells  S w = some (r, w')) : pm_wk p l e { frames := 3, cells := 0, slots := 0, locals := 66 } s m args below meth c D vwCl (shC S) ca ad 1 (some (.int r), w') 0 [(0, .ref (ad 0))] [] w := by
  unfold f_CL_liveCells at hf
  refine pm_aload_n K d_CL_liveCells_0 0 rfl rfl ?_
  refine pm_getR K fc_0 (o := 0) rfl 4 rfl (by decide) tw_292 d_CL_liveCells_1 ?_
  obtain ⟨o1, z1, hf⟩ := pm_bind hf
  refine pm_callV (As := []) (rest := []) (o := 5) K (c_Room_collect K.2.2.2.2.2.2.2.2.2.2.2.2 o1 w z1) mi_Room_collect rfl rfl tw_367 tw_368 tw_648 rfl ⟨rfl, rfl, Nat.le_of_ble_eq_true rfl, Nat.le_of_ble_eq_true rfl⟩ rfl (Nat.le_of_ble_eq_true rfl) d_CL_liveCells_4 ?_
  refine pm_aload_n K d_CL_liveCells_7 0 rfl rfl ?_
  refine pm_getR K fc_0 (o := 0) rfl 4 rfl (by decide) tw_292 d_CL_liveCells_8 ?_
  refine pm_getIN K fc_5 (o := 5) rfl 10 rfl (by decide) tw_246 d_CL_liveCells_11 (v := o1.1 5 10) rfl ?_
  cases hf
  exact pm_iret K d_CL_liveCells_14
/-- CellLisp.liveCells()I -/
theorem c_CL_liveCells {l : Launch} {D : va_G} {ca : Nat → ClassId} {ad : Nat → Nat} {E : (Nat → Prop) → State → Heap → Prop} {S : Nat} (hEc : pm_Ecl E) (r : Int32) (w' : pm_W) (w : pm_W) (hf : f_CL_liveCells  S w = some (r, w')) : pm_Met l pmTs D vwCl (tyl ca) (shC S) ca ad E y_CL_liveCells k_CL_liveCells 1 (some .int) { frames := 3, cells := 0, slots := 0, locals := 66 } [.ref (ad 0)] w (some (.int r), w') :=
  pm_start pmTs_good hEc (by decide) (Nat.le_of_ble_eq_true rfl) (fun p e s m below meth c K => t_CL_liveCells K r w'  w hf)
def f_CL_count (S : Nat) (x1 : Int32) (w : pm_W) : Option (Int32 × pm_W) :=
  if x1 = (0 : Int32) then
    some (w.1 1 1, w)
  else
    if x1 = (1 : Int32) then
      some (w.1 4 3, w)
    else
      if x1 = (2 : Int32) then
        some (w.1 3 2, w)
      else
        if x1 = (3 : Int32) then
          some (w.1 6 6, w)
        else
          some ((-1 : Int32), w)
set_option maxHeartbeats 4000000 in
set_option maxRecDepth 100000 in
theorem t_CL_count {p : Program} {l : Launch} {e : Env} {s : State} {m : MethodId} {args : Array Value} {below : List Frame} {meth : Method} {c : Code} {D : va_G} {ca : Nat → ClassId} {ad : Nat → Nat} {E : (Nat → Prop) → State → Heap → Prop} {S : Nat} (K : pm_ok p s m args meth c k_CL_count 2 pmTs R_CL D vwCl (tyl ca) (shC S) ad E (some .int)) (r : Int32) (w' : pm_W) (x1 : Int32) (w : pm_W) (hf : f_CL_count  S x1 w = some (r, w')) : pm_wk p l e { frames := 0, cells := 0, slots := 0, locals := 0 } s m args below meth c D vwCl (shC S) ca ad 2 (some (.int r), w') 0 [(0, .ref (ad 0)), (1, .int x1)] [] w := by
  unfold f_CL_count at hf
  refine pm_iload_n K d_CL_count_0 1 rfl rfl ?_
  by_cases c1 : x1 = (0 : Int32)
  · have hf := pm_ift c1 hf
    refine pm_tableIn K d_CL_count_1 (by rw [c1]; decide) (by rw [c1]; decide) (by rw [c1]; rfl) 32 (by decide) ?_
    refine pm_aload_n K d_CL_count_32 0 rfl rfl ?_
    refine pm_getR K fc_0 (o := 0) rfl 0 rfl (by decide) tw_288 d_CL_count_33 ?_
    refine pm_getIN K fc_1 (o := 1) rfl 1 rfl (by decide) tw_122 d_CL_count_36 (v := w.1 1 1) rfl ?_
    cases hf
    exact pm_iret K d_CL_count_39
  have hf := pm_iff c1 hf
  by_cases c2 : x1 = (1 : Int32)
  · have hf := pm_ift c2 hf
    refine pm_tableIn K d_CL_count_1 (by rw [c2]; decide) (by rw [c2]; decide) (by rw [c2]; rfl) 40 (by decide) ?_
    refine pm_aload_n K d_CL_count_40 0 rfl rfl ?_
    refine pm_getR K fc_0 (o := 0) rfl 3 rfl (by decide) tw_291 d_CL_count_41 ?_
    refine pm_getIN K fc_4 (o := 4) rfl 3 rfl (by decide) tw_213 d_CL_count_44 (v := w.1 4 3) rfl ?_
    cases hf
    exact pm_iret K d_CL_count_47
  have hf := pm_iff c2 hf
  by_cases c3 : x1 = (2 : Int32)
  · have hf := pm_ift c3 hf
    refine pm_tableIn K d_CL_count_1 (by rw [c3]; decide) (by rw [c3]; decide) (by rw [c3]; rfl) 48 (by decide) ?_
    refine pm_aload_n K d_CL_count_48 0 rfl rfl ?_
    refine pm_getR K fc_0 (o := 0) rfl 2 rfl (by decide) tw_290 d_CL_count_49 ?_
    refine pm_getIN K fc_3 (o := 3) rfl 2 rfl (by decide) tw_196 d_CL_count_52 (v := w.1 3 2) rfl ?_
    cases hf
    exact pm_iret K d_CL_count_55
  have hf := pm_iff c3 hf
  by_cases c4 : x1 = (3 : Int32)
  · have hf := pm_ift c4 hf
    refine pm_tableIn K d_CL_count_1 (by rw [c4]; decide) (by rw [c4]; decide) (by rw [c4]; rfl) 56 (by decide) ?_
    refine pm_aload_n K d_CL_count_56 0 rfl rfl ?_
    refine pm_getR K fc_0 (o := 0) rfl 5 rfl (by decide) tw_293 d_CL_count_57 ?_
    refine pm_getIN K fc_6 (o := 6) rfl 6 rfl (by decide) tw_287 d_CL_count_60 (v := w.1 6 6) rfl ?_
    cases hf
    exact pm_iret K d_CL_count_63
  have hf := pm_iff c4 hf
  have hne : ¬ x1.toInt = 0 ∧ ¬ x1.toInt = 1 ∧ ¬ x1.toInt = 2 ∧ ¬ x1.toInt = 3 := ⟨lv_neT c1 (by decide), lv_neT c2 (by decide), lv_neT c3 (by decide), lv_neT c4 (by decide)⟩
  refine pm_tableOut K d_CL_count_1 (by omega) 64 (by decide) ?_
  refine pm_iconst (v := -1) K d_CL_count_64 (by decide) ?_
  cases hf
  exact pm_iret K d_CL_count_65
/-- CellLisp.count(I)I -/
theorem c_CL_count {l : Launch} {D : va_G} {ca : Nat → ClassId} {ad : Nat → Nat} {E : (Nat → Prop) → State → Heap → Prop} {S : Nat} (hEc : pm_Ecl E) (r : Int32) (w' : pm_W) (x1 : Int32) (w : pm_W) (hf : f_CL_count  S x1 w = some (r, w')) : pm_Met l pmTs D vwCl (tyl ca) (shC S) ca ad E y_CL_count k_CL_count 2 (some .int) { frames := 0, cells := 0, slots := 0, locals := 0 } [.ref (ad 0), .int x1] w (some (.int r), w') :=
  pm_start pmTs_good hEc (by decide) (Nat.le_of_ble_eq_true rfl) (fun p e s m below meth c K => t_CL_count K r w' x1 w hf)
def f_Text_at (S : Nat) (x1 : Int32) (w : pm_W) : Option (Int32 × pm_W) :=
  if x1 < 0 then
    if (32 : Int32).toUInt32.toUInt16.toUInt32.toInt32 = (32 : Int32) then
      some ((32 : Int32), w)
    else none
  else
    if (w.1 1 1) ≤ x1 then
      if (32 : Int32).toUInt32.toUInt16.toUInt32.toInt32 = (32 : Int32) then
        some ((32 : Int32), w)
      else none
    else
      if x1 < 0 ∨ 120 ≤ x1.toNatClampNeg then none else
      if (w.1 9 x1.toNatClampNeg).toUInt32.toUInt16.toUInt32.toInt32 = (w.1 9 x1.toNatClampNeg) then
        some (w.1 9 x1.toNatClampNeg, w)
      else none
set_option maxHeartbeats 4000000 in
set_option maxRecDepth 100000 in
theorem t_Text_at {p : Program} {l : Launch} {e : Env} {s : State} {m : MethodId} {args : Array Value} {below : List Frame} {meth : Method} {c : Code} {D : va_G} {ca : Nat → ClassId} {ad : Nat → Nat} {E : (Nat → Prop) → State → Heap → Prop} {S : Nat} (K : pm_ok p s m args meth c k_Text_at 2 pmTs R_Text D vwCl (tyl ca) (shC S) ad E (some .char)) (r : Int32) (w' : pm_W) (x1 : Int32) (w : pm_W) (hf : f_Text_at  S x1 w = some (r, w')) : pm_wk p l e { frames := 0, cells := 0, slots := 0, locals := 0 } s m args below meth c D vwCl (shC S) ca ad 2 (some (.int r), w') 0 [(0, .ref (ad 1)), (1, .int x1)] [] w := by
  unfold f_Text_at at hf
  refine pm_iload_n K d_Text_at_0 1 rfl rfl ?_
  refine pm_if_lt K d_Text_at_1 21 (by decide) (fun c1 => ?_) (fun c1 => ?_)
  · have hf := pm_ift c1 hf
    refine pm_bipush (v := 32) K d_Text_at_21 (by decide) ?_
    obtain ⟨q2, hf⟩ := pm_chk hf
    cases hf
    exact pm_zret K (congrArg Value.int q2) d_Text_at_23
  · have hf := pm_iff c1 hf
    refine pm_iload_n K d_Text_at_4 1 rfl rfl ?_
    refine pm_aload_n K d_Text_at_5 0 rfl rfl ?_
    refine pm_getI K fc_1 (o := 1) rfl 1 rfl (by decide) tw_120 d_Text_at_6 (v := w.1 1 1) rfl ?_
    refine pm_icmp_ge K d_Text_at_9 21 (by decide) (fun c3 => ?_) (fun c3 => ?_)
    · have hf := pm_ift c3 hf
      refine pm_bipush (v := 32) K d_Text_at_21 (by decide) ?_
      obtain ⟨q4, hf⟩ := pm_chk hf
      cases hf
      exact pm_zret K (congrArg Value.int q4) d_Text_at_23
    · have hf := pm_iff c3 hf
      refine pm_aload_n K d_Text_at_12 0 rfl rfl ?_
      refine pm_getR K fc_1 (o := 1) rfl 0 rfl (by decide) tw_119 d_Text_at_13 ?_
      refine pm_iload_n K d_Text_at_16 1 rfl rfl ?_
      obtain ⟨q5, hf⟩ := pm_bnd hf
      refine pm_cald K (o := 9) rfl rfl q5 d_Text_at_17 (v := w.1 9 x1.toNatClampNeg) rfl ?_
      refine pm_goto K d_Text_at_18 23 (by decide) ?_
      obtain ⟨q6, hf⟩ := pm_chk hf
      cases hf
      exact pm_zret K (congrArg Value.int q6) d_Text_at_23
/-- CellLisp$Text.at(I)C -/
theorem c_Text_at {l : Launch} {D : va_G} {ca : Nat → ClassId} {ad : Nat → Nat} {E : (Nat → Prop) → State → Heap → Prop} {S : Nat} (hEc : pm_Ecl E) (r : Int32) (w' : pm_W) (x1 : Int32) (w : pm_W) (hf : f_Text_at  S x1 w = some (r, w')) : pm_Met l pmTs D vwCl (tyl ca) (shC S) ca ad E y_Text_at k_Text_at 2 (some .char) { frames := 0, cells := 0, slots := 0, locals := 0 } [.ref (ad 1), .int x1] w (some (.int r), w') :=
  pm_start pmTs_good hEc (by decide) (Nat.le_of_ble_eq_true rfl) (fun p e s m below meth c K => t_Text_at K r w' x1 w hf)
def b_Text_drop_15 (S : Nat) (rec : Nat → Int32 → Int32 → pm_W → Option pm_W) (x2 : Int32) (x3 : Int32) (w : pm_W) : Option pm_W :=
  if (w.1 1 1) ≤ x3 then
    some (pm_setI w 1 1 ((w.1 1 1) - x2))
  else
    if x3 < 0 ∨ 120 ≤ x3.toNatClampNeg then none else
    if (x3 - x2) < 0 ∨ 120 ≤ (x3 - x2).toNatClampNeg then none else
    rec 0 x2 (x3 + (1 : Int32)) (pm_setI w 9 (x3 - x2).toNatClampNeg (vp_nar .char (w.1 9 x3.toNatClampNeg)))
def l_Text_drop (S : Nat) : Nat → Nat → Int32 → Int32 → pm_W → Option pm_W := pm_it (fun _ _ _ _ => none) (fun rec k x2 x3 w => b_Text_drop_15  S rec x2 x3 w)
def f_Text_drop (S : Nat) (x1 : Int32) (w : pm_W) : Option pm_W :=
  (l_Text_drop  S pm_fuel) 0 (if (0 : Int32) < (if (w.1 1 1) < x1 then (w.1 1 1) else x1) then (if (w.1 1 1) < x1 then (w.1 1 1) else x1) else (0 : Int32)) (if (0 : Int32) < (if (w.1 1 1) < x1 then (w.1 1 1) else x1) then (if (w.1 1 1) < x1 then (w.1 1 1) else x1) else (0 : Int32)) w
set_option maxHeartbeats 4000000 in
set_option maxRecDepth 100000 in
theorem t_Text_drop_15 {p : Program} {l : Launch} {e : Env} {s : State} {m : MethodId} {args : Array Value} {below : List Frame} {meth : Method} {c : Code} {D : va_G} {ca : Nat → ClassId} {ad : Nat → Nat} {E : (Nat → Prop) → State → Heap → Prop} {S : Nat} (K : pm_ok p s m args meth c k_Text_drop 4 pmTs R_Text D vwCl (tyl ca) (shC S) ad E none) (rec : Nat → Int32 → Int32 → pm_W → Option pm_W) (w' : pm_W) (h15 : ∀ (x2 : Int32) (x3 : Int32) (w : pm_W), rec 0 x2 x3 w = some w' → pm_wk p l e { frames := 1, cells := 0, slots := 0, locals := 21 } s m args below meth c D vwCl (shC S) ca ad 4 (none, w') 15 [(0, .ref (ad 1)), (2, .int x2), (3, .int x3)] [] w) (x2 : Int32) (x3 : Int32) (w : pm_W) (hf : b_Text_drop_15  S rec x2 x3 w = some w') : pm_wk p l e { frames := 1, cells := 0, slots := 0, locals := 21 } s m args below meth c D vwCl (shC S) ca ad 4 (none, w') 15 [(0, .ref (ad 1)), (2, .int x2), (3, .int x3)] [] w := by
  unfold b_Text_drop_15 at hf
  refine pm_iload_n K d_Text_drop_15 2 rfl rfl ?_
  refine pm_aload_n K d_Text_drop_16 0 rfl rfl ?_
  refine pm_getI K fc_1 (o := 1) rfl 1 rfl (by decide) tw_120 d_Text_drop_17 (v := w.1 1 1) rfl ?_
  refine pm_icmp_ge K d_Text_drop_20 43 (by decide) (fun c1 => ?_) (fun c1 => ?_)
  · have hf := pm_ift c1 hf
    refine pm_aload_n K d_Text_drop_43 0 rfl rfl ?_
    refine pm_dup K d_Text_drop_44 rfl ?_
    refine pm_getI K fc_1 (o := 1) rfl 1 rfl (by decide) tw_120 d_Text_drop_45 (v := w.1 1 1) rfl ?_
    refine pm_iload_n K d_Text_drop_48 1 rfl rfl ?_
    refine pm_isub K d_Text_drop_49 ?_
    refine pm_putI K fc_1 (o := 1) (ty := .int) rfl 1 rfl (by decide) tw_120 rfl rfl rfl rfl d_Text_drop_50 ?_
    cases hf
    exact pm_vret K d_Text_drop_53
  · have hf := pm_iff c1 hf
    refine pm_aload_n K d_Text_drop_23 0 rfl rfl ?_
    refine pm_getR K fc_1 (o := 1) rfl 0 rfl (by decide) tw_119 d_Text_drop_24 ?_
    refine pm_iload_n K d_Text_drop_27 2 rfl rfl ?_
    refine pm_iload_n K d_Text_drop_28 1 rfl rfl ?_
    refine pm_isub K d_Text_drop_29 ?_
    refine pm_aload_n K d_Text_drop_30 0 rfl rfl ?_
    refine pm_getR K fc_1 (o := 1) rfl 0 rfl (by decide) tw_119 d_Text_drop_31 ?_
    refine pm_iload_n K d_Text_drop_34 2 rfl rfl ?_
    obtain ⟨q2, hf⟩ := pm_bnd hf
    refine pm_cald K (o := 9) rfl rfl q2 d_Text_drop_35 (v := w.1 9 x3.toNatClampNeg) rfl ?_
    obtain ⟨q3, hf⟩ := pm_bnd hf
    refine pm_cast K (o := 9) rfl rfl q3 d_Text_drop_36 ?_
    refine pm_iinc (v := x3 + (1 : Int32)) (lv' := [(3, .int (x3 + (1 : Int32))), (0, .ref (ad 1)), (2, .int x2)]) K d_Text_drop_37 2 rfl rfl (by decide) rfl ?_
    refine pm_goto K d_Text_drop_40 15 (by decide) ?_
    refine pm_sub (lv' := [(0, .ref (ad 1)), (2, .int x2), (3, .int (x3 + (1 : Int32)))]) [1, 2, 0] rfl ?_
    exact h15 x2 (x3 + (1 : Int32)) (pm_setI w 9 (x3 - x2).toNatClampNeg (vp_nar .char (w.1 9 x3.toNatClampNeg))) hf
set_option maxHeartbeats 4000000 in
set_option maxRecDepth 100000 in
theorem a_Text_drop {p : Program} {l : Launch} {e : Env} {s : State} {m : MethodId} {args : Array Value} {below : List Frame} {meth : Method} {c : Code} {D : va_G} {ca : Nat → ClassId} {ad : Nat → Nat} {E : (Nat → Prop) → State → Heap → Prop} {S : Nat} (K : pm_ok p s m args meth c k_Text_drop 4 pmTs R_Text D vwCl (tyl ca) (shC S) ad E none) (w' : pm_W) : ∀ n : Nat, (∀ (x2 : Int32) (x3 : Int32) (w : pm_W), l_Text_drop  S n 0 x2 x3 w = some w' → pm_wk p l e { frames := 1, cells := 0, slots := 0, locals := 21 } s m args below meth c D vwCl (shC S) ca ad 4 (none, w') 15 [(0, .ref (ad 1)), (2, .int x2), (3, .int x3)] [] w) := by
  intro n
  induction n with
  | zero => exact fun _ _ _ hf => (by cases hf)
  | succ n ih => exact fun x2 x3 w hf => t_Text_drop_15 K (l_Text_drop S n) w' (ih) x2 x3 w hf
set_option maxHeartbeats 4000000 in
set_option maxRecDepth 100000 in
theorem t_Text_drop {p : Program} {l : Launch} {e : Env} {s : State} {m : MethodId} {args : Array Value} {below : List Frame} {meth : Method} {c : Code} {D : va_G} {ca : Nat → ClassId} {ad : Nat → Nat} {E : (Nat → Prop) → State → Heap → Prop} {S : Nat} (K : pm_ok p s m args meth c k_Text_drop 4 pmTs R_Text D vwCl (tyl ca) (shC S) ad E none) (w' : pm_W) (x1 : Int32) (w : pm_W) (hf : f_Text_drop  S x1 w = some w') : pm_wk p l e { frames := 1, cells := 0, slots := 0, locals := 21 } s m args below meth c D vwCl (shC S) ca ad 4 (none, w') 0 [(0, .ref (ad 1)), (1, .int x1)] [] w := by
  unfold f_Text_drop at hf
  have h15 := (a_Text_drop (l := l) (e := e) (below := below) K  w' pm_fuel)
  refine pm_iconst (v := 0) K d_Text_drop_0 (by decide) ?_
  refine pm_iload_n K d_Text_drop_1 1 rfl rfl ?_
  refine pm_aload_n K d_Text_drop_2 0 rfl rfl ?_
  refine pm_getI K fc_1 (o := 1) rfl 1 rfl (by decide) tw_120 d_Text_drop_3 (v := w.1 1 1) rfl ?_
  refine pm_mmin K tw_415 tw_225 tw_101 tw_226 (Nat.le_of_ble_eq_true rfl) (Nat.le_of_ble_eq_true rfl) d_Text_drop_6 ?_
  refine pm_mmax K tw_416 tw_228 tw_101 tw_229 (Nat.le_of_ble_eq_true rfl) (Nat.le_of_ble_eq_true rfl) d_Text_drop_9 ?_
  refine pm_istore_n (lv' := [(2, .int (if (0 : Int32) < (if (w.1 1 1) < x1 then (w.1 1 1) else x1) then (if (w.1 1 1) < x1 then (w.1 1 1) else x1) else (0 : Int32))), (0, .ref (ad 1)), (1, .int x1)]) K d_Text_drop_12 rfl (by decide) rfl ?_
  refine pm_iload_n K d_Text_drop_13 0 rfl rfl ?_
  refine pm_istore_n (lv' := [(3, .int (if (0 : Int32) < (if (w.1 1 1) < x1 then (w.1 1 1) else x1) then (if (w.1 1 1) < x1 then (w.1 1 1) else x1) else (0 : Int32))), (2, .int (if (0 : Int32) < (if (w.1 1 1) < x1 then (w.1 1 1) else x1) then (if (w.1 1 1) < x1 then (w.1 1 1) else x1) else (0 : Int32))), (0, .ref (ad 1)), (1, .int x1)]) K d_Text_drop_14 rfl (by decide) rfl ?_
  refine pm_sub (lv' := [(0, .ref (ad 1)), (2, .int (if (0 : Int32) < (if (w.1 1 1) < x1 then (w.1 1 1) else x1) then (if (w.1 1 1) < x1 then (w.1 1 1) else x1) else (0 : Int32))), (3, .int (if (0 : Int32) < (if (w.1 1 1) < x1 then (w.1 1 1) else x1) then (if (w.1 1 1) < x1 then (w.1 1 1) else x1) else (0 : Int32)))]) [2, 1, 0] rfl ?_
  exact h15 (if (0 : Int32) < (if (w.1 1 1) < x1 then (w.1 1 1) else x1) then (if (w.1 1 1) < x1 then (w.1 1 1) else x1) else (0 : Int32)) (if (0 : Int32) < (if (w.1 1 1) < x1 then (w.1 1 1) else x1) then (if (w.1 1 1) < x1 then (w.1 1 1) else x1) else (0 : Int32)) w hf
/-- CellLisp$Text.drop(I)V -/
theorem c_Text_drop {l : Launch} {D : va_G} {ca : Nat → ClassId} {ad : Nat → Nat} {E : (Nat → Prop) → State → Heap → Prop} {S : Nat} (hEc : pm_Ecl E) (w' : pm_W) (x1 : Int32) (w : pm_W) (hf : f_Text_drop  S x1 w = some w') : pm_Met l pmTs D vwCl (tyl ca) (shC S) ca ad E y_Text_drop k_Text_drop 4 none { frames := 1, cells := 0, slots := 0, locals := 21 } [.ref (ad 1), .int x1] w (none, w') :=
  pm_start pmTs_good hEc (by decide) (Nat.le_of_ble_eq_true rfl) (fun p e s m below meth c K => t_Text_drop K w' x1 w hf)
def f_Text_isBlank (S : Nat) (x0 : Int32) (w : pm_W) : Option (Int32 × pm_W) :=
  if x0 = (10 : Int32) then
    some ((1 : Int32), w)
  else
    if x0 = (32 : Int32) then
      some ((1 : Int32), w)
    else
      some ((0 : Int32), w)
set_option maxHeartbeats 4000000 in
set_option maxRecDepth 100000 in
theorem t_Text_isBlank {p : Program} {l : Launch} {e : Env} {s : State} {m : MethodId} {args : Array Value} {below : List Frame} {meth : Method} {c : Code} {D : va_G} {ca : Nat → ClassId} {ad : Nat → Nat} {E : (Nat → Prop) → State → Heap → Prop} {S : Nat} (K : pm_ok p s m args meth c k_Text_isBlank 1 pmTs R_Text D vwCl (tyl ca) (shC S) ad E (some .boolean)) (r : Int32) (w' : pm_W) (x0 : Int32) (w : pm_W) (hf : f_Text_isBlank  S x0 w = some (r, w')) : pm_wk p l e { frames := 0, cells := 0, slots := 0, locals := 0 } s m args below meth c D vwCl (shC S) ca ad 1 (some (.int r), w') 0 [(0, .int x0)] [] w := by
  unfold f_Text_isBlank at hf
  refine pm_iload_n K d_Text_isBlank_0 0 rfl rfl ?_
  refine pm_bipush (v := 10) K d_Text_isBlank_1 (by decide) ?_
  refine pm_icmp_eq K d_Text_isBlank_3 12 (by decide) (fun c1 => ?_) (fun c1 => ?_)
  · have hf := pm_ift c1 hf
    refine pm_iconst (v := 1) K d_Text_isBlank_12 (by decide) ?_
    refine pm_goto K d_Text_isBlank_13 17 (by decide) ?_
    cases hf
    exact pm_zret K (by decide) d_Text_isBlank_17
  · have hf := pm_iff c1 hf
    refine pm_iload_n K d_Text_isBlank_6 0 rfl rfl ?_
    refine pm_bipush (v := 32) K d_Text_isBlank_7 (by decide) ?_
    refine pm_icmp_ne K d_Text_isBlank_9 16 (by decide) (fun c2 => ?_) (fun c2 => ?_)
    · have hf := pm_iff c2 hf
      refine pm_iconst (v := 0) K d_Text_isBlank_16 (by decide) ?_
      cases hf
      exact pm_zret K (by decide) d_Text_isBlank_17
    · have hf := pm_ift c2 hf
      refine pm_iconst (v := 1) K d_Text_isBlank_12 (by decide) ?_
      refine pm_goto K d_Text_isBlank_13 17 (by decide) ?_
      cases hf
      exact pm_zret K (by decide) d_Text_isBlank_17
/-- CellLisp$Text.isBlank(C)Z -/
theorem c_Text_isBlank {l : Launch} {D : va_G} {ca : Nat → ClassId} {ad : Nat → Nat} {E : (Nat → Prop) → State → Heap → Prop} {S : Nat} (hEc : pm_Ecl E) (r : Int32) (w' : pm_W) (x0 : Int32) (w : pm_W) (hf : f_Text_isBlank  S x0 w = some (r, w')) : pm_Met l pmTs D vwCl (tyl ca) (shC S) ca ad E y_Text_isBlank k_Text_isBlank 1 (some .boolean) { frames := 0, cells := 0, slots := 0, locals := 0 } [.int x0] w (some (.int r), w') :=
  pm_start pmTs_good hEc (by decide) (Nat.le_of_ble_eq_true rfl) (fun p e s m below meth c K => t_Text_isBlank K r w' x0 w hf)
def f_Text_isOfWord (S : Nat) (x0 : Int32) (w : pm_W) : Option (Int32 × pm_W) :=
  Option.bind (f_Text_isBlank S x0 w) fun o1 =>
  if o1.1 = 0 then
    if x0 = (40 : Int32) then
      some ((0 : Int32), o1.2)
    else
      if x0 = (41 : Int32) then
        some ((0 : Int32), o1.2)
      else
        if x0 = (39 : Int32) then
          some ((0 : Int32), o1.2)
        else
          some ((1 : Int32), o1.2)
  else
    some ((0 : Int32), o1.2)
set_option maxHeartbeats 4000000 in
set_option maxRecDepth 100000 in
theorem t_Text_isOfWord {p : Program} {l : Launch} {e : Env} {s : State} {m : MethodId} {args : Array Value} {below : List Frame} {meth : Method} {c : Code} {D : va_G} {ca : Nat → ClassId} {ad : Nat → Nat} {E : (Nat → Prop) → State → Heap → Prop} {S : Nat} (K : pm_ok p s m args meth c k_Text_isOfWord 1 pmTs R_Text D vwCl (tyl ca) (shC S) ad E (some .boolean)) (r : Int32) (w' : pm_W) (x0 : Int32) (w : pm_W) (hf : f_Text_isOfWord  S x0 w = some (r, w')) : pm_wk p l e { frames := 1, cells := 0, slots := 0, locals := 20 } s m args below meth c D vwCl (shC S) ca ad 1 (some (.int r), w') 0 [(0, .int x0)] [] w := by
  unfold f_Text_isOfWord at hf
  refine pm_iload_n K d_Text_isOfWord_0 0 rfl rfl ?_
  obtain ⟨o1, z1, hf⟩ := pm_bind hf
  refine pm_callS (As := [.int x0]) (rest := []) K (c_Text_isBlank K.2.2.2.2.2.2.2.2.2.2.2.2 o1.1 o1.2 x0 w z1) mi_Text_isBlank tw_336 tw_335 rfl ⟨rfl, rfl, Nat.le_of_ble_eq_true rfl, Nat.le_of_ble_eq_true rfl⟩ rfl (Nat.le_of_ble_eq_true rfl) d_Text_isOfWord_1 ?_
  refine pm_if_ne K d_Text_isOfWord_4 29 (by decide) (fun c2 => ?_) (fun c2 => ?_)
  · have hf := pm_iff c2 hf
    refine pm_iconst (v := 0) K d_Text_isOfWord_29 (by decide) ?_
    cases hf
    exact pm_zret K (by decide) d_Text_isOfWord_30
  · have hf := pm_ift c2 hf
    refine pm_iload_n K d_Text_isOfWord_7 0 rfl rfl ?_
    refine pm_bipush (v := 40) K d_Text_isOfWord_8 (by decide) ?_
    refine pm_icmp_eq K d_Text_isOfWord_10 29 (by decide) (fun c3 => ?_) (fun c3 => ?_)
    · have hf := pm_ift c3 hf
      refine pm_iconst (v := 0) K d_Text_isOfWord_29 (by decide) ?_
      cases hf
      exact pm_zret K (by decide) d_Text_isOfWord_30
    · have hf := pm_iff c3 hf
      refine pm_iload_n K d_Text_isOfWord_13 0 rfl rfl ?_
      refine pm_bipush (v := 41) K d_Text_isOfWord_14 (by decide) ?_
      refine pm_icmp_eq K d_Text_isOfWord_16 29 (by decide) (fun c4 => ?_) (fun c4 => ?_)
      · have hf := pm_ift c4 hf
        refine pm_iconst (v := 0) K d_Text_isOfWord_29 (by decide) ?_
        cases hf
        exact pm_zret K (by decide) d_Text_isOfWord_30
      · have hf := pm_iff c4 hf
        refine pm_iload_n K d_Text_isOfWord_19 0 rfl rfl ?_
        refine pm_bipush (v := 39) K d_Text_isOfWord_20 (by decide) ?_
        refine pm_icmp_eq K d_Text_isOfWord_22 29 (by decide) (fun c5 => ?_) (fun c5 => ?_)
        · have hf := pm_ift c5 hf
          refine pm_iconst (v := 0) K d_Text_isOfWord_29 (by decide) ?_
          cases hf
          exact pm_zret K (by decide) d_Text_isOfWord_30
        · have hf := pm_iff c5 hf
          refine pm_iconst (v := 1) K d_Text_isOfWord_25 (by decide) ?_
          refine pm_goto K d_Text_isOfWord_26 30 (by decide) ?_
          cases hf
          exact pm_zret K (by decide) d_Text_isOfWord_30
/-- CellLisp$Text.isOfWord(C)Z -/
theorem c_Text_isOfWord {l : Launch} {D : va_G} {ca : Nat → ClassId} {ad : Nat → Nat} {E : (Nat → Prop) → State → Heap → Prop} {S : Nat} (hEc : pm_Ecl E) (r : Int32) (w' : pm_W) (x0 : Int32) (w : pm_W) (hf : f_Text_isOfWord  S x0 w = some (r, w')) : pm_Met l pmTs D vwCl (tyl ca) (shC S) ca ad E y_Text_isOfWord k_Text_isOfWord 1 (some .boolean) { frames := 1, cells := 0, slots := 0, locals := 20 } [.int x0] w (some (.int r), w') :=
  pm_start pmTs_good hEc (by decide) (Nat.le_of_ble_eq_true rfl) (fun p e s m below meth c K => t_Text_isOfWord K r w' x0 w hf)
def b_Text_pieceEnd_15 (S : Nat) (rec : Nat → Int32 → pm_W → Option (Int32 × pm_W)) (x2 : Int32) (w : pm_W) : Option (Int32 × pm_W) :=
  if (w.1 1 1) ≤ x2 then
    some (x2, w)
  else
    Option.bind (f_Text_at S x2 w) fun o5 =>
    Option.bind (f_Text_isOfWord S o5.1 o5.2) fun o6 =>
    if o6.1 = 0 then
      some (x2, o6.2)
    else
      rec 0 (x2 + (1 : Int32)) o6.2
def l_Text_pieceEnd (S : Nat) : Nat → Nat → Int32 → pm_W → Option (Int32 × pm_W) := pm_it (fun _ _ _ => none) (fun rec k x2 w => b_Text_pieceEnd_15  S rec x2 w)
def f_Text_pieceEnd (S : Nat) (x1 : Int32) (w : pm_W) : Option (Int32 × pm_W) :=
  Option.bind (f_Text_at S x1 w) fun o1 =>
  Option.bind (f_Text_isOfWord S o1.1 o1.2) fun o2 =>
  if o2.1 = 0 then
    some (x1 + (1 : Int32), o2.2)
  else
    (l_Text_pieceEnd  S pm_fuel) 0 (x1 + (1 : Int32)) o2.2
set_option maxHeartbeats 4000000 in
set_option maxRecDepth 100000 in
theorem t_Text_pieceEnd_15 {p : Program} {l : Launch} {e : Env} {s : State} {m : MethodId} {args : Array Value} {below : List Frame} {meth : Method} {c : Code} {D : va_G} {ca : Nat → ClassId} {ad : Nat → Nat} {E : (Nat → Prop) → State → Heap → Prop} {S : Nat} (K : pm_ok p s m args meth c k_Text_pieceEnd 3 pmTs R_Text D vwCl (tyl ca) (shC S) ad E (some .int)) (rec : Nat → Int32 → pm_W → Option (Int32 × pm_W)) (r : Int32) (w' : pm_W) (h15 : ∀ (x2 : Int32) (w : pm_W), rec 0 x2 w = some (r, w') → pm_wk p l e { frames := 2, cells := 0, slots := 0, locals := 40 } s m args below meth c D vwCl (shC S) ca ad 3 (some (.int r), w') 15 [(0, .ref (ad 1)), (2, .int x2)] [] w) (x2 : Int32) (w : pm_W) (hf : b_Text_pieceEnd_15  S rec x2 w = some (r, w')) : pm_wk p l e { frames := 2, cells := 0, slots := 0, locals := 40 } s m args below meth c D vwCl (shC S) ca ad 3 (some (.int r), w') 15 [(0, .ref (ad 1)), (2, .int x2)] [] w := by
  unfold b_Text_pieceEnd_15 at hf
  refine pm_iload_n K d_Text_pieceEnd_15 1 rfl rfl ?_
  refine pm_aload_n K d_Text_pieceEnd_16 0 rfl rfl ?_
  refine pm_getI K fc_1 (o := 1) rfl 1 rfl (by decide) tw_120 d_Text_pieceEnd_17 (v := w.1 1 1) rfl ?_
  refine pm_icmp_ge K d_Text_pieceEnd_20 40 (by decide) (fun c4 => ?_) (fun c4 => ?_)
  · have hf := pm_ift c4 hf
    refine pm_iload_n K d_Text_pieceEnd_40 1 rfl rfl ?_
    cases hf
    exact pm_iret K d_Text_pieceEnd_41
  · have hf := pm_iff c4 hf
    refine pm_aload_n K d_Text_pieceEnd_23 0 rfl rfl ?_
    refine pm_iload_n K d_Text_pieceEnd_24 1 rfl rfl ?_
    obtain ⟨o5, z5, hf⟩ := pm_bind hf
    refine pm_callV (As := [.int x2]) (rest := []) (o := 1) K (c_Text_at K.2.2.2.2.2.2.2.2.2.2.2.2 o5.1 o5.2 x2 w z5) mi_Text_at rfl rfl tw_324 tw_325 tw_331 rfl ⟨rfl, rfl, Nat.le_of_ble_eq_true rfl, Nat.le_of_ble_eq_true rfl⟩ rfl (Nat.le_of_ble_eq_true rfl) d_Text_pieceEnd_25 ?_
    obtain ⟨o6, z6, hf⟩ := pm_bind hf
    refine pm_callS (As := [.int o5.1]) (rest := []) K (c_Text_isOfWord K.2.2.2.2.2.2.2.2.2.2.2.2 o6.1 o6.2 o5.1 o5.2 z6) mi_Text_isOfWord tw_333 tw_332 rfl ⟨rfl, rfl, Nat.le_of_ble_eq_true rfl, Nat.le_of_ble_eq_true rfl⟩ rfl (Nat.le_of_ble_eq_true rfl) d_Text_pieceEnd_28 ?_
    refine pm_if_eq K d_Text_pieceEnd_31 40 (by decide) (fun c7 => ?_) (fun c7 => ?_)
    · have hf := pm_ift c7 hf
      refine pm_iload_n K d_Text_pieceEnd_40 1 rfl rfl ?_
      cases hf
      exact pm_iret K d_Text_pieceEnd_41
    · have hf := pm_iff c7 hf
      refine pm_iinc (v := x2 + (1 : Int32)) (lv' := [(2, .int (x2 + (1 : Int32))), (0, .ref (ad 1))]) K d_Text_pieceEnd_34 1 rfl rfl (by decide) rfl ?_
      refine pm_goto K d_Text_pieceEnd_37 15 (by decide) ?_
      refine pm_sub (lv' := [(0, .ref (ad 1)), (2, .int (x2 + (1 : Int32)))]) [1, 0] rfl ?_
      exact h15 (x2 + (1 : Int32)) o6.2 hf
set_option maxHeartbeats 4000000 in
set_option maxRecDepth 100000 in
theorem a_Text_pieceEnd {p : Program} {l : Launch} {e : Env} {s : State} {m : MethodId} {args : Array Value} {below : List Frame} {meth : Method} {c : Code} {D : va_G} {ca : Nat → ClassId} {ad : Nat → Nat} {E : (Nat → Prop) → State → Heap → Prop} {S : Nat} (K : pm_ok p s m args meth c k_Text_pieceEnd 3 pmTs R_Text D vwCl (tyl ca) (shC S) ad E (some .int)) (r : Int32) (w' : pm_W) : ∀ n : Nat, (∀ (x2 : Int32) (w : pm_W), l_Text_pieceEnd  S n 0 x2 w = some (r, w') → pm_wk p l e { frames := 2, cells := 0, slots := 0, locals := 40 } s m args below meth c D vwCl (shC S) ca ad 3 (some (.int r), w') 15 [(0, .ref (ad 1)), (2, .int x2)] [] w) := by
  intro n
  induction n with
  | zero => exact fun _ _ hf => (by cases hf)
  | succ n ih => exact fun x2 w hf => t_Text_pieceEnd_15 K (l_Text_pieceEnd S n) r w' (ih) x2 w hf
set_option maxHeartbeats 4000000 in
set_option maxRecDepth 100000 in
theorem t_Text_pieceEnd {p : Program} {l : Launch} {e : Env} {s : State} {m : MethodId} {args : Array Value} {below : List Frame} {meth : Method} {c : Code} {D : va_G} {ca : Nat → ClassId} {ad : Nat → Nat} {E : (Nat → Prop) → State → Heap → Prop} {S : Nat} (K : pm_ok p s m args meth c k_Text_pieceEnd 3 pmTs R_Text D vwCl (tyl ca) (shC S) ad E (some .int)) (r : Int32) (w' : pm_W) (x1 : Int32) (w : pm_W) (hf : f_Text_pieceEnd  S x1 w = some (r, w')) : pm_wk p l e { frames := 2, cells := 0, slots := 0, locals := 40 } s m args below meth c D vwCl (shC S) ca ad 3 (some (.int r), w') 0 [(0, .ref (ad 1)), (1, .int x1)] [] w := by
  unfold f_Text_pieceEnd at hf
  have h15 := (a_Text_pieceEnd (l := l) (e := e) (below := below) K  r w' pm_fuel)
  refine pm_iload_n K d_Text_pieceEnd_0 1 rfl rfl ?_
  refine pm_iconst (v := 1) K d_Text_pieceEnd_1 (by decide) ?_
  refine pm_iadd K d_Text_pieceEnd_2 ?_
  refine pm_istore_n (lv' := [(2, .int (x1 + (1 : Int32))), (0, .ref (ad 1)), (1, .int x1)]) K d_Text_pieceEnd_3 rfl (by decide) rfl ?_
  refine pm_aload_n K d_Text_pieceEnd_4 1 rfl rfl ?_
  refine pm_iload_n K d_Text_pieceEnd_5 2 rfl rfl ?_
  obtain ⟨o1, z1, hf⟩ := pm_bind hf
  refine pm_callV (As := [.int x1]) (rest := []) (o := 1) K (c_Text_at K.2.2.2.2.2.2.2.2.2.2.2.2 o1.1 o1.2 x1 w z1) mi_Text_at rfl rfl tw_324 tw_325 tw_331 rfl ⟨rfl, rfl, Nat.le_of_ble_eq_true rfl, Nat.le_of_ble_eq_true rfl⟩ rfl (Nat.le_of_ble_eq_true rfl) d_Text_pieceEnd_6 ?_
  obtain ⟨o2, z2, hf⟩ := pm_bind hf
  refine pm_callS (As := [.int o1.1]) (rest := []) K (c_Text_isOfWord K.2.2.2.2.2.2.2.2.2.2.2.2 o2.1 o2.2 o1.1 o1.2 z2) mi_Text_isOfWord tw_333 tw_332 rfl ⟨rfl, rfl, Nat.le_of_ble_eq_true rfl, Nat.le_of_ble_eq_true rfl⟩ rfl (Nat.le_of_ble_eq_true rfl) d_Text_pieceEnd_9 ?_
  refine pm_if_eq K d_Text_pieceEnd_12 40 (by decide) (fun c3 => ?_) (fun c3 => ?_)
  · have hf := pm_ift c3 hf
    refine pm_iload_n K d_Text_pieceEnd_40 0 rfl rfl ?_
    cases hf
    exact pm_iret K d_Text_pieceEnd_41
  · have hf := pm_iff c3 hf
    refine pm_sub (lv' := [(0, .ref (ad 1)), (2, .int (x1 + (1 : Int32)))]) [1, 0] rfl ?_
    exact h15 (x1 + (1 : Int32)) o2.2 hf
/-- CellLisp$Text.pieceEnd(I)I -/
theorem c_Text_pieceEnd {l : Launch} {D : va_G} {ca : Nat → ClassId} {ad : Nat → Nat} {E : (Nat → Prop) → State → Heap → Prop} {S : Nat} (hEc : pm_Ecl E) (r : Int32) (w' : pm_W) (x1 : Int32) (w : pm_W) (hf : f_Text_pieceEnd  S x1 w = some (r, w')) : pm_Met l pmTs D vwCl (tyl ca) (shC S) ca ad E y_Text_pieceEnd k_Text_pieceEnd 3 (some .int) { frames := 2, cells := 0, slots := 0, locals := 40 } [.ref (ad 1), .int x1] w (some (.int r), w') :=
  pm_start pmTs_good hEc (by decide) (Nat.le_of_ble_eq_true rfl) (fun p e s m below meth c K => t_Text_pieceEnd K r w' x1 w hf)
def b_Text_isNumber_38 (S : Nat) (rec : Nat → Int32 → Int32 → pm_W → Option (Int32 × pm_W)) (x2 : Int32) (x4 : Int32) (w : pm_W) : Option (Int32 × pm_W) :=
  if x2 ≤ x4 then
    some ((1 : Int32), w)
  else
    Option.bind (f_Text_at S x4 w) fun o8 =>
    if o8.1 < (48 : Int32) then
      some ((0 : Int32), o8.2)
    else
      Option.bind (f_Text_at S x4 o8.2) fun o10 =>
      if o10.1 ≤ (57 : Int32) then
        rec 0 x2 (x4 + (1 : Int32)) o10.2
      else
        some ((0 : Int32), o10.2)
def l_Text_isNumber (S : Nat) : Nat → Nat → Int32 → Int32 → pm_W → Option (Int32 × pm_W) := pm_it (fun _ _ _ _ => none) (fun rec k x2 x4 w => b_Text_isNumber_38  S rec x2 x4 w)
def f_Text_isNumber (S : Nat) (x1 : Int32) (x2 : Int32) (w : pm_W) : Option (Int32 × pm_W) :=
  Option.bind (f_Text_at S x1 w) fun o1 =>
  if o1.1 = (45 : Int32) then
    if (x2 - (x1 + (1 : Int32))) < (1 : Int32) then
      some ((0 : Int32), o1.2)
    else
      if (x2 - (x1 + (1 : Int32))) ≤ (9 : Int32) then
        (l_Text_isNumber  S pm_fuel) 0 x2 (x1 + (1 : Int32)) o1.2
      else
        some ((0 : Int32), o1.2)
  else
    if (x2 - x1) < (1 : Int32) then
      some ((0 : Int32), o1.2)
    else
      if (x2 - x1) ≤ (9 : Int32) then
        (l_Text_isNumber  S pm_fuel) 0 x2 x1 o1.2
      else
        some ((0 : Int32), o1.2)
set_option maxHeartbeats 4000000 in
set_option maxRecDepth 100000 in
theorem t_Text_isNumber_38 {p : Program} {l : Launch} {e : Env} {s : State} {m : MethodId} {args : Array Value} {below : List Frame} {meth : Method} {c : Code} {D : va_G} {ca : Nat → ClassId} {ad : Nat → Nat} {E : (Nat → Prop) → State → Heap → Prop} {S : Nat} (K : pm_ok p s m args meth c k_Text_isNumber 5 pmTs R_Text D vwCl (tyl ca) (shC S) ad E (some .boolean)) (rec : Nat → Int32 → Int32 → pm_W → Option (Int32 × pm_W)) (r : Int32) (w' : pm_W) (h38 : ∀ (x2 : Int32) (x4 : Int32) (w : pm_W), rec 0 x2 x4 w = some (r, w') → pm_wk p l e { frames := 1, cells := 0, slots := 0, locals := 21 } s m args below meth c D vwCl (shC S) ca ad 5 (some (.int r), w') 38 [(0, .ref (ad 1)), (2, .int x2), (4, .int x4)] [] w) (x2 : Int32) (x4 : Int32) (w : pm_W) (hf : b_Text_isNumber_38  S rec x2 x4 w = some (r, w')) : pm_wk p l e { frames := 1, cells := 0, slots := 0, locals := 21 } s m args below meth c D vwCl (shC S) ca ad 5 (some (.int r), w') 38 [(0, .ref (ad 1)), (2, .int x2), (4, .int x4)] [] w := by
  unfold b_Text_isNumber_38 at hf
  refine pm_iload K d_Text_isNumber_38 2 rfl ?_
  refine pm_iload_n K d_Text_isNumber_40 1 rfl rfl ?_
  refine pm_icmp_ge K d_Text_isNumber_41 74 (by decide) (fun c7 => ?_) (fun c7 => ?_)
  · have hf := pm_ift c7 hf
    refine pm_iconst (v := 1) K d_Text_isNumber_74 (by decide) ?_
    cases hf
    exact pm_zret K (by decide) d_Text_isNumber_75
  · have hf := pm_iff c7 hf
    refine pm_aload_n K d_Text_isNumber_44 0 rfl rfl ?_
    refine pm_iload K d_Text_isNumber_45 2 rfl ?_
    obtain ⟨o8, z8, hf⟩ := pm_bind hf
    refine pm_callV (As := [.int x4]) (rest := []) (o := 1) K (c_Text_at K.2.2.2.2.2.2.2.2.2.2.2.2 o8.1 o8.2 x4 w z8) mi_Text_at rfl rfl tw_324 tw_325 tw_331 rfl ⟨rfl, rfl, Nat.le_of_ble_eq_true rfl, Nat.le_of_ble_eq_true rfl⟩ rfl (Nat.le_of_ble_eq_true rfl) d_Text_isNumber_47 ?_
    refine pm_bipush (v := 48) K d_Text_isNumber_50 (by decide) ?_
    refine pm_icmp_lt K d_Text_isNumber_52 66 (by decide) (fun c9 => ?_) (fun c9 => ?_)
    · have hf := pm_ift c9 hf
      refine pm_iconst (v := 0) K d_Text_isNumber_66 (by decide) ?_
      cases hf
      exact pm_zret K (by decide) d_Text_isNumber_67
    · have hf := pm_iff c9 hf
      refine pm_aload_n K d_Text_isNumber_55 0 rfl rfl ?_
      refine pm_iload K d_Text_isNumber_56 2 rfl ?_
      obtain ⟨o10, z10, hf⟩ := pm_bind hf
      refine pm_callV (As := [.int x4]) (rest := []) (o := 1) K (c_Text_at K.2.2.2.2.2.2.2.2.2.2.2.2 o10.1 o10.2 x4 o8.2 z10) mi_Text_at rfl rfl tw_324 tw_325 tw_331 rfl ⟨rfl, rfl, Nat.le_of_ble_eq_true rfl, Nat.le_of_ble_eq_true rfl⟩ rfl (Nat.le_of_ble_eq_true rfl) d_Text_isNumber_58 ?_
      refine pm_bipush (v := 57) K d_Text_isNumber_61 (by decide) ?_
      refine pm_icmp_le K d_Text_isNumber_63 68 (by decide) (fun c11 => ?_) (fun c11 => ?_)
      · have hf := pm_ift c11 hf
        refine pm_iinc (v := x4 + (1 : Int32)) (lv' := [(4, .int (x4 + (1 : Int32))), (0, .ref (ad 1)), (2, .int x2)]) K d_Text_isNumber_68 2 rfl rfl (by decide) rfl ?_
        refine pm_goto K d_Text_isNumber_71 38 (by decide) ?_
        refine pm_sub (lv' := [(0, .ref (ad 1)), (2, .int x2), (4, .int (x4 + (1 : Int32)))]) [1, 2, 0] rfl ?_
        exact h38 x2 (x4 + (1 : Int32)) o10.2 hf
      · have hf := pm_iff c11 hf
        refine pm_iconst (v := 0) K d_Text_isNumber_66 (by decide) ?_
        cases hf
        exact pm_zret K (by decide) d_Text_isNumber_67
set_option maxHeartbeats 4000000 in
set_option maxRecDepth 100000 in
theorem a_Text_isNumber {p : Program} {l : Launch} {e : Env} {s : State} {m : MethodId} {args : Array Value} {below : List Frame} {meth : Method} {c : Code} {D : va_G} {ca : Nat → ClassId} {ad : Nat → Nat} {E : (Nat → Prop) → State → Heap → Prop} {S : Nat} (K : pm_ok p s m args meth c k_Text_isNumber 5 pmTs R_Text D vwCl (tyl ca) (shC S) ad E (some .boolean)) (r : Int32) (w' : pm_W) : ∀ n : Nat, (∀ (x2 : Int32) (x4 : Int32) (w : pm_W), l_Text_isNumber  S n 0 x2 x4 w = some (r, w') → pm_wk p l e { frames := 1, cells := 0, slots := 0, locals := 21 } s m args below meth c D vwCl (shC S) ca ad 5 (some (.int r), w') 38 [(0, .ref (ad 1)), (2, .int x2), (4, .int x4)] [] w) := by
  intro n
  induction n with
  | zero => exact fun _ _ _ hf => (by cases hf)
  | succ n ih => exact fun x2 x4 w hf => t_Text_isNumber_38 K (l_Text_isNumber S n) r w' (ih) x2 x4 w hf
set_option maxHeartbeats 4000000 in
set_option maxRecDepth 100000 in
theorem t_Text_isNumber {p : Program} {l : Launch} {e : Env} {s : State} {m : MethodId} {args : Array Value} {below : List Frame} {meth : Method} {c : Code} {D : va_G} {ca : Nat → ClassId} {ad : Nat → Nat} {E : (Nat → Prop) → State → Heap → Prop} {S : Nat} (K : pm_ok p s m args meth c k_Text_isNumber 5 pmTs R_Text D vwCl (tyl ca) (shC S) ad E (some .boolean)) (r : Int32) (w' : pm_W) (x1 : Int32) (x2 : Int32) (w : pm_W) (hf : f_Text_isNumber  S x1 x2 w = some (r, w')) : pm_wk p l e { frames := 1, cells := 0, slots := 0, locals := 21 } s m args below meth c D vwCl (shC S) ca ad 5 (some (.int r), w') 0 [(0, .ref (ad 1)), (1, .int x1), (2, .int x2)] [] w := by
  unfold f_Text_isNumber at hf
  have h38 := (a_Text_isNumber (l := l) (e := e) (below := below) K  r w' pm_fuel)
  refine pm_aload_n K d_Text_isNumber_0 0 rfl rfl ?_
  refine pm_iload_n K d_Text_isNumber_1 1 rfl rfl ?_
  obtain ⟨o1, z1, hf⟩ := pm_bind hf
  refine pm_callV (As := [.int x1]) (rest := []) (o := 1) K (c_Text_at K.2.2.2.2.2.2.2.2.2.2.2.2 o1.1 o1.2 x1 w z1) mi_Text_at rfl rfl tw_324 tw_325 tw_331 rfl ⟨rfl, rfl, Nat.le_of_ble_eq_true rfl, Nat.le_of_ble_eq_true rfl⟩ rfl (Nat.le_of_ble_eq_true rfl) d_Text_isNumber_2 ?_
  refine pm_bipush (v := 45) K d_Text_isNumber_5 (by decide) ?_
  refine pm_icmp_ne K d_Text_isNumber_7 16 (by decide) (fun c2 => ?_) (fun c2 => ?_)
  · have hf := pm_iff c2 hf
    refine pm_iload_n K d_Text_isNumber_16 1 rfl rfl ?_
    refine pm_istore_n (lv' := [(3, .int x1), (0, .ref (ad 1)), (1, .int x1), (2, .int x2)]) K d_Text_isNumber_17 rfl (by decide) rfl ?_
    refine pm_iload_n K d_Text_isNumber_18 3 rfl rfl ?_
    refine pm_iload_n K d_Text_isNumber_19 0 rfl rfl ?_
    refine pm_isub K d_Text_isNumber_20 ?_
    refine pm_iconst (v := 1) K d_Text_isNumber_21 (by decide) ?_
    refine pm_icmp_lt K d_Text_isNumber_22 33 (by decide) (fun c3 => ?_) (fun c3 => ?_)
    · have hf := pm_ift c3 hf
      refine pm_iconst (v := 0) K d_Text_isNumber_33 (by decide) ?_
      cases hf
      exact pm_zret K (by decide) d_Text_isNumber_34
    · have hf := pm_iff c3 hf
      refine pm_iload_n K d_Text_isNumber_25 3 rfl rfl ?_
      refine pm_iload_n K d_Text_isNumber_26 0 rfl rfl ?_
      refine pm_isub K d_Text_isNumber_27 ?_
      refine pm_bipush (v := 9) K d_Text_isNumber_28 (by decide) ?_
      refine pm_icmp_le K d_Text_isNumber_30 35 (by decide) (fun c4 => ?_) (fun c4 => ?_)
      · have hf := pm_ift c4 hf
        refine pm_iload_n K d_Text_isNumber_35 0 rfl rfl ?_
        refine pm_istore (lv' := [(4, .int x1), (3, .int x1), (0, .ref (ad 1)), (1, .int x1), (2, .int x2)]) K d_Text_isNumber_36 (by decide) rfl ?_
        refine pm_sub (lv' := [(0, .ref (ad 1)), (2, .int x2), (4, .int x1)]) [2, 4, 0] rfl ?_
        exact h38 x2 x1 o1.2 hf
      · have hf := pm_iff c4 hf
        refine pm_iconst (v := 0) K d_Text_isNumber_33 (by decide) ?_
        cases hf
        exact pm_zret K (by decide) d_Text_isNumber_34
  · have hf := pm_ift c2 hf
    refine pm_iload_n K d_Text_isNumber_10 1 rfl rfl ?_
    refine pm_iconst (v := 1) K d_Text_isNumber_11 (by decide) ?_
    refine pm_iadd K d_Text_isNumber_12 ?_
    refine pm_goto K d_Text_isNumber_13 17 (by decide) ?_
    refine pm_istore_n (lv' := [(3, .int (x1 + (1 : Int32))), (0, .ref (ad 1)), (1, .int x1), (2, .int x2)]) K d_Text_isNumber_17 rfl (by decide) rfl ?_
    refine pm_iload_n K d_Text_isNumber_18 3 rfl rfl ?_
    refine pm_iload_n K d_Text_isNumber_19 0 rfl rfl ?_
    refine pm_isub K d_Text_isNumber_20 ?_
    refine pm_iconst (v := 1) K d_Text_isNumber_21 (by decide) ?_
    refine pm_icmp_lt K d_Text_isNumber_22 33 (by decide) (fun c5 => ?_) (fun c5 => ?_)
    · have hf := pm_ift c5 hf
      refine pm_iconst (v := 0) K d_Text_isNumber_33 (by decide) ?_
      cases hf
      exact pm_zret K (by decide) d_Text_isNumber_34
    · have hf := pm_iff c5 hf
      refine pm_iload_n K d_Text_isNumber_25 3 rfl rfl ?_
      refine pm_iload_n K d_Text_isNumber_26 0 rfl rfl ?_
      refine pm_isub K d_Text_isNumber_27 ?_
      refine pm_bipush (v := 9) K d_Text_isNumber_28 (by decide) ?_
      refine pm_icmp_le K d_Text_isNumber_30 35 (by decide) (fun c6 => ?_) (fun c6 => ?_)
      · have hf := pm_ift c6 hf
        refine pm_iload_n K d_Text_isNumber_35 0 rfl rfl ?_
        refine pm_istore (lv' := [(4, .int (x1 + (1 : Int32))), (3, .int (x1 + (1 : Int32))), (0, .ref (ad 1)), (1, .int x1), (2, .int x2)]) K d_Text_isNumber_36 (by decide) rfl ?_
        refine pm_sub (lv' := [(0, .ref (ad 1)), (2, .int x2), (4, .int (x1 + (1 : Int32)))]) [2, 4, 0] rfl ?_
        exact h38 x2 (x1 + (1 : Int32)) o1.2 hf
      · have hf := pm_iff c6 hf
        refine pm_iconst (v := 0) K d_Text_isNumber_33 (by decide) ?_
        cases hf
        exact pm_zret K (by decide) d_Text_isNumber_34
/-- CellLisp$Text.isNumber(II)Z -/
theorem c_Text_isNumber {l : Launch} {D : va_G} {ca : Nat → ClassId} {ad : Nat → Nat} {E : (Nat → Prop) → State → Heap → Prop} {S : Nat} (hEc : pm_Ecl E) (r : Int32) (w' : pm_W) (x1 : Int32) (x2 : Int32) (w : pm_W) (hf : f_Text_isNumber  S x1 x2 w = some (r, w')) : pm_Met l pmTs D vwCl (tyl ca) (shC S) ca ad E y_Text_isNumber k_Text_isNumber 5 (some .boolean) { frames := 1, cells := 0, slots := 0, locals := 21 } [.ref (ad 1), .int x1, .int x2] w (some (.int r), w') :=
  pm_start pmTs_good hEc (by decide) (Nat.le_of_ble_eq_true rfl) (fun p e s m below meth c K => t_Text_isNumber K r w' x1 x2 w hf)
def b_Text_number_32 (S : Nat) (rec : Nat → Int32 → Int32 → Int32 → Int32 → pm_W → Option (Int32 × pm_W)) (x2 : Int32) (x3 : Int32) (x4 : Int32) (x5 : Int32) (w : pm_W) : Option (Int32 × pm_W) :=
  if x2 ≤ x5 then
    if x3 = 0 then
      some (x4, w)
    else
      some (-x4, w)
  else
    Option.bind (f_Text_at S x5 w) fun o7 =>
    rec 0 x2 x3 (((10 : Int32) * x4) + (o7.1 - (48 : Int32))) (x5 + (1 : Int32)) o7.2
def l_Text_number (S : Nat) : Nat → Nat → Int32 → Int32 → Int32 → Int32 → pm_W → Option (Int32 × pm_W) := pm_it (fun _ _ _ _ _ _ => none) (fun rec k x2 x3 x4 x5 w => b_Text_number_32  S rec x2 x3 x4 x5 w)
def f_Text_number (S : Nat) (x1 : Int32) (x2 : Int32) (w : pm_W) : Option (Int32 × pm_W) :=
  Option.bind (f_Text_at S x1 w) fun o1 =>
  if o1.1 = (45 : Int32) then
    if (1 : Int32) = 0 then
      (l_Text_number  S pm_fuel) 0 x2 (1 : Int32) (0 : Int32) x1 o1.2
    else
      (l_Text_number  S pm_fuel) 0 x2 (1 : Int32) (0 : Int32) (x1 + (1 : Int32)) o1.2
  else
    if (0 : Int32) = 0 then
      (l_Text_number  S pm_fuel) 0 x2 (0 : Int32) (0 : Int32) x1 o1.2
    else
      (l_Text_number  S pm_fuel) 0 x2 (0 : Int32) (0 : Int32) (x1 + (1 : Int32)) o1.2
set_option maxHeartbeats 4000000 in
set_option maxRecDepth 100000 in
theorem t_Text_number_32 {p : Program} {l : Launch} {e : Env} {s : State} {m : MethodId} {args : Array Value} {below : List Frame} {meth : Method} {c : Code} {D : va_G} {ca : Nat → ClassId} {ad : Nat → Nat} {E : (Nat → Prop) → State → Heap → Prop} {S : Nat} (K : pm_ok p s m args meth c k_Text_number 6 pmTs R_Text D vwCl (tyl ca) (shC S) ad E (some .int)) (rec : Nat → Int32 → Int32 → Int32 → Int32 → pm_W → Option (Int32 × pm_W)) (r : Int32) (w' : pm_W) (h32 : ∀ (x2 : Int32) (x3 : Int32) (x4 : Int32) (x5 : Int32) (w : pm_W), rec 0 x2 x3 x4 x5 w = some (r, w') → pm_wk p l e { frames := 1, cells := 0, slots := 0, locals := 21 } s m args below meth c D vwCl (shC S) ca ad 6 (some (.int r), w') 32 [(0, .ref (ad 1)), (2, .int x2), (3, .int x3), (4, .int x4), (5, .int x5)] [] w) (x2 : Int32) (x3 : Int32) (x4 : Int32) (x5 : Int32) (w : pm_W) (hf : b_Text_number_32  S rec x2 x3 x4 x5 w = some (r, w')) : pm_wk p l e { frames := 1, cells := 0, slots := 0, locals := 21 } s m args below meth c D vwCl (shC S) ca ad 6 (some (.int r), w') 32 [(0, .ref (ad 1)), (2, .int x2), (3, .int x3), (4, .int x4), (5, .int x5)] [] w := by
  unfold b_Text_number_32 at hf
  refine pm_iload K d_Text_number_32 4 rfl ?_
  refine pm_iload_n K d_Text_number_34 1 rfl rfl ?_
  refine pm_icmp_ge K d_Text_number_35 61 (by decide) (fun c5 => ?_) (fun c5 => ?_)
  · have hf := pm_ift c5 hf
    refine pm_iload_n K d_Text_number_61 2 rfl rfl ?_
    refine pm_if_eq K d_Text_number_62 71 (by decide) (fun c6 => ?_) (fun c6 => ?_)
    · have hf := pm_ift c6 hf
      refine pm_iload K d_Text_number_71 3 rfl ?_
      cases hf
      exact pm_iret K d_Text_number_73
    · have hf := pm_iff c6 hf
      refine pm_iload K d_Text_number_65 3 rfl ?_
      refine pm_ineg K d_Text_number_67 ?_
      refine pm_goto K d_Text_number_68 73 (by decide) ?_
      cases hf
      exact pm_iret K d_Text_number_73
  · have hf := pm_iff c5 hf
    refine pm_bipush (v := 10) K d_Text_number_38 (by decide) ?_
    refine pm_iload K d_Text_number_40 3 rfl ?_
    refine pm_imul K d_Text_number_42 ?_
    refine pm_aload_n K d_Text_number_43 0 rfl rfl ?_
    refine pm_iload K d_Text_number_44 4 rfl ?_
    obtain ⟨o7, z7, hf⟩ := pm_bind hf
    refine pm_callV (As := [.int x5]) (rest := [.int ((10 : Int32) * x4)]) (o := 1) K (c_Text_at K.2.2.2.2.2.2.2.2.2.2.2.2 o7.1 o7.2 x5 w z7) mi_Text_at rfl rfl tw_324 tw_325 tw_331 rfl ⟨rfl, rfl, Nat.le_of_ble_eq_true rfl, Nat.le_of_ble_eq_true rfl⟩ rfl (Nat.le_of_ble_eq_true rfl) d_Text_number_46 ?_
    refine pm_bipush (v := 48) K d_Text_number_49 (by decide) ?_
    refine pm_isub K d_Text_number_51 ?_
    refine pm_iadd K d_Text_number_52 ?_
    refine pm_istore (lv' := [(4, .int (((10 : Int32) * x4) + (o7.1 - (48 : Int32)))), (0, .ref (ad 1)), (2, .int x2), (3, .int x3), (5, .int x5)]) K d_Text_number_53 (by decide) rfl ?_
    refine pm_iinc (v := x5 + (1 : Int32)) (lv' := [(5, .int (x5 + (1 : Int32))), (4, .int (((10 : Int32) * x4) + (o7.1 - (48 : Int32)))), (0, .ref (ad 1)), (2, .int x2), (3, .int x3)]) K d_Text_number_55 4 rfl rfl (by decide) rfl ?_
    refine pm_goto K d_Text_number_58 32 (by decide) ?_
    refine pm_sub (lv' := [(0, .ref (ad 1)), (2, .int x2), (3, .int x3), (4, .int (((10 : Int32) * x4) + (o7.1 - (48 : Int32)))), (5, .int (x5 + (1 : Int32)))]) [2, 3, 4, 1, 0] rfl ?_
    exact h32 x2 x3 (((10 : Int32) * x4) + (o7.1 - (48 : Int32))) (x5 + (1 : Int32)) o7.2 hf
set_option maxHeartbeats 4000000 in
set_option maxRecDepth 100000 in
theorem a_Text_number {p : Program} {l : Launch} {e : Env} {s : State} {m : MethodId} {args : Array Value} {below : List Frame} {meth : Method} {c : Code} {D : va_G} {ca : Nat → ClassId} {ad : Nat → Nat} {E : (Nat → Prop) → State → Heap → Prop} {S : Nat} (K : pm_ok p s m args meth c k_Text_number 6 pmTs R_Text D vwCl (tyl ca) (shC S) ad E (some .int)) (r : Int32) (w' : pm_W) : ∀ n : Nat, (∀ (x2 : Int32) (x3 : Int32) (x4 : Int32) (x5 : Int32) (w : pm_W), l_Text_number  S n 0 x2 x3 x4 x5 w = some (r, w') → pm_wk p l e { frames := 1, cells := 0, slots := 0, locals := 21 } s m args below meth c D vwCl (shC S) ca ad 6 (some (.int r), w') 32 [(0, .ref (ad 1)), (2, .int x2), (3, .int x3), (4, .int x4), (5, .int x5)] [] w) := by
  intro n
  induction n with
  | zero => exact fun _ _ _ _ _ hf => (by cases hf)
  | succ n ih => exact fun x2 x3 x4 x5 w hf => t_Text_number_32 K (l_Text_number S n) r w' (ih) x2 x3 x4 x5 w hf
set_option maxHeartbeats 4000000 in
set_option maxRecDepth 100000 in
theorem t_Text_number {p : Program} {l : Launch} {e : Env} {s : State} {m : MethodId} {args : Array Value} {below : List Frame} {meth : Method} {c : Code} {D : va_G} {ca : Nat → ClassId} {ad : Nat → Nat} {E : (Nat → Prop) → State → Heap → Prop} {S : Nat} (K : pm_ok p s m args meth c k_Text_number 6 pmTs R_Text D vwCl (tyl ca) (shC S) ad E (some .int)) (r : Int32) (w' : pm_W) (x1 : Int32) (x2 : Int32) (w : pm_W) (hf : f_Text_number  S x1 x2 w = some (r, w')) : pm_wk p l e { frames := 1, cells := 0, slots := 0, locals := 21 } s m args below meth c D vwCl (shC S) ca ad 6 (some (.int r), w') 0 [(0, .ref (ad 1)), (1, .int x1), (2, .int x2)] [] w := by
  unfold f_Text_number at hf
  have h32 := (a_Text_number (l := l) (e := e) (below := below) K  r w' pm_fuel)
  refine pm_aload_n K d_Text_number_0 0 rfl rfl ?_
  refine pm_iload_n K d_Text_number_1 1 rfl rfl ?_
  obtain ⟨o1, z1, hf⟩ := pm_bind hf
  refine pm_callV (As := [.int x1]) (rest := []) (o := 1) K (c_Text_at K.2.2.2.2.2.2.2.2.2.2.2.2 o1.1 o1.2 x1 w z1) mi_Text_at rfl rfl tw_324 tw_325 tw_331 rfl ⟨rfl, rfl, Nat.le_of_ble_eq_true rfl, Nat.le_of_ble_eq_true rfl⟩ rfl (Nat.le_of_ble_eq_true rfl) d_Text_number_2 ?_
  refine pm_bipush (v := 45) K d_Text_number_5 (by decide) ?_
  refine pm_icmp_ne K d_Text_number_7 14 (by decide) (fun c2 => ?_) (fun c2 => ?_)
  · have hf := pm_iff c2 hf
    refine pm_iconst (v := 0) K d_Text_number_14 (by decide) ?_
    refine pm_istore_n (lv' := [(3, .int (0 : Int32)), (0, .ref (ad 1)), (1, .int x1), (2, .int x2)]) K d_Text_number_15 rfl (by decide) rfl ?_
    refine pm_iconst (v := 0) K d_Text_number_16 (by decide) ?_
    refine pm_istore (lv' := [(4, .int (0 : Int32)), (3, .int (0 : Int32)), (0, .ref (ad 1)), (1, .int x1), (2, .int x2)]) K d_Text_number_17 (by decide) rfl ?_
    refine pm_iload_n K d_Text_number_19 1 rfl rfl ?_
    refine pm_if_eq K d_Text_number_20 29 (by decide) (fun c3 => ?_) (fun c3 => ?_)
    · have hf := pm_ift c3 hf
      refine pm_iload_n K d_Text_number_29 3 rfl rfl ?_
      refine pm_istore (lv' := [(5, .int x1), (4, .int (0 : Int32)), (3, .int (0 : Int32)), (0, .ref (ad 1)), (1, .int x1), (2, .int x2)]) K d_Text_number_30 (by decide) rfl ?_
      refine pm_sub (lv' := [(0, .ref (ad 1)), (2, .int x2), (3, .int (0 : Int32)), (4, .int (0 : Int32)), (5, .int x1)]) [3, 5, 2, 1, 0] rfl ?_
      exact h32 x2 (0 : Int32) (0 : Int32) x1 o1.2 hf
    · have hf := pm_iff c3 hf
      refine pm_iload_n K d_Text_number_23 3 rfl rfl ?_
      refine pm_iconst (v := 1) K d_Text_number_24 (by decide) ?_
      refine pm_iadd K d_Text_number_25 ?_
      refine pm_goto K d_Text_number_26 30 (by decide) ?_
      refine pm_istore (lv' := [(5, .int (x1 + (1 : Int32))), (4, .int (0 : Int32)), (3, .int (0 : Int32)), (0, .ref (ad 1)), (1, .int x1), (2, .int x2)]) K d_Text_number_30 (by decide) rfl ?_
      refine pm_sub (lv' := [(0, .ref (ad 1)), (2, .int x2), (3, .int (0 : Int32)), (4, .int (0 : Int32)), (5, .int (x1 + (1 : Int32)))]) [3, 5, 2, 1, 0] rfl ?_
      exact h32 x2 (0 : Int32) (0 : Int32) (x1 + (1 : Int32)) o1.2 hf
  · have hf := pm_ift c2 hf
    refine pm_iconst (v := 1) K d_Text_number_10 (by decide) ?_
    refine pm_goto K d_Text_number_11 15 (by decide) ?_
    refine pm_istore_n (lv' := [(3, .int (1 : Int32)), (0, .ref (ad 1)), (1, .int x1), (2, .int x2)]) K d_Text_number_15 rfl (by decide) rfl ?_
    refine pm_iconst (v := 0) K d_Text_number_16 (by decide) ?_
    refine pm_istore (lv' := [(4, .int (0 : Int32)), (3, .int (1 : Int32)), (0, .ref (ad 1)), (1, .int x1), (2, .int x2)]) K d_Text_number_17 (by decide) rfl ?_
    refine pm_iload_n K d_Text_number_19 1 rfl rfl ?_
    refine pm_if_eq K d_Text_number_20 29 (by decide) (fun c4 => ?_) (fun c4 => ?_)
    · have hf := pm_ift c4 hf
      refine pm_iload_n K d_Text_number_29 3 rfl rfl ?_
      refine pm_istore (lv' := [(5, .int x1), (4, .int (0 : Int32)), (3, .int (1 : Int32)), (0, .ref (ad 1)), (1, .int x1), (2, .int x2)]) K d_Text_number_30 (by decide) rfl ?_
      refine pm_sub (lv' := [(0, .ref (ad 1)), (2, .int x2), (3, .int (1 : Int32)), (4, .int (0 : Int32)), (5, .int x1)]) [3, 5, 2, 1, 0] rfl ?_
      exact h32 x2 (1 : Int32) (0 : Int32) x1 o1.2 hf
    · have hf := pm_iff c4 hf
      refine pm_iload_n K d_Text_number_23 3 rfl rfl ?_
      refine pm_iconst (v := 1) K d_Text_number_24 (by decide) ?_
      refine pm_iadd K d_Text_number_25 ?_
      refine pm_goto K d_Text_number_26 30 (by decide) ?_
      refine pm_istore (lv' := [(5, .int (x1 + (1 : Int32))), (4, .int (0 : Int32)), (3, .int (1 : Int32)), (0, .ref (ad 1)), (1, .int x1), (2, .int x2)]) K d_Text_number_30 (by decide) rfl ?_
      refine pm_sub (lv' := [(0, .ref (ad 1)), (2, .int x2), (3, .int (1 : Int32)), (4, .int (0 : Int32)), (5, .int (x1 + (1 : Int32)))]) [3, 5, 2, 1, 0] rfl ?_
      exact h32 x2 (1 : Int32) (0 : Int32) (x1 + (1 : Int32)) o1.2 hf
/-- CellLisp$Text.number(II)I -/
theorem c_Text_number {l : Launch} {D : va_G} {ca : Nat → ClassId} {ad : Nat → Nat} {E : (Nat → Prop) → State → Heap → Prop} {S : Nat} (hEc : pm_Ecl E) (r : Int32) (w' : pm_W) (x1 : Int32) (x2 : Int32) (w : pm_W) (hf : f_Text_number  S x1 x2 w = some (r, w')) : pm_Met l pmTs D vwCl (tyl ca) (shC S) ca ad E y_Text_number k_Text_number 6 (some .int) { frames := 1, cells := 0, slots := 0, locals := 21 } [.ref (ad 1), .int x1, .int x2] w (some (.int r), w') :=
  pm_start pmTs_good hEc (by decide) (Nat.le_of_ble_eq_true rfl) (fun p e s m below meth c K => t_Text_number K r w' x1 x2 w hf)
def b_Text_name_5 (S : Nat) (rec : Nat → Int32 → Int32 → Int64 → Int32 → pm_W → Option (Int64 × pm_W)) (x1 : Int32) (x2 : Int32) (y3 : Int64) (x5 : Int32) (w : pm_W) : Option (Int64 × pm_W) :=
  if x2 ≤ x5 then
    some (y3, w)
  else
    if (x1 + (8 : Int32)) ≤ x5 then
      some (y3, w)
    else
      Option.bind (f_Text_at S x5 w) fun o3 =>
      rec 0 x1 x2 ((y3 <<< ((8 : Int32).toInt64 &&& 63)) ||| o3.1.toInt64) (x5 + (1 : Int32)) o3.2
def l_Text_name (S : Nat) : Nat → Nat → Int32 → Int32 → Int64 → Int32 → pm_W → Option (Int64 × pm_W) := pm_it (fun _ _ _ _ _ _ => none) (fun rec k x1 x2 y3 x5 w => b_Text_name_5  S rec x1 x2 y3 x5 w)
def f_Text_name (S : Nat) (x1 : Int32) (x2 : Int32) (w : pm_W) : Option (Int64 × pm_W) :=
  (l_Text_name  S pm_fuel) 0 x1 x2 (0 : Int64) x1 w
set_option maxHeartbeats 4000000 in
set_option maxRecDepth 100000 in
theorem t_Text_name_5 {p : Program} {l : Launch} {e : Env} {s : State} {m : MethodId} {args : Array Value} {below : List Frame} {meth : Method} {c : Code} {D : va_G} {ca : Nat → ClassId} {ad : Nat → Nat} {E : (Nat → Prop) → State → Heap → Prop} {S : Nat} (K : pm_ok p s m args meth c k_Text_name 6 pmTs R_Text D vwCl (tyl ca) (shC S) ad E (some .long)) (rec : Nat → Int32 → Int32 → Int64 → Int32 → pm_W → Option (Int64 × pm_W)) (r : Int64) (w' : pm_W) (h5 : ∀ (x1 : Int32) (x2 : Int32) (y3 : Int64) (x5 : Int32) (w : pm_W), rec 0 x1 x2 y3 x5 w = some (r, w') → pm_wk p l e { frames := 1, cells := 0, slots := 0, locals := 21 } s m args below meth c D vwCl (shC S) ca ad 6 (some (.long r), w') 5 [(0, .ref (ad 1)), (1, .int x1), (2, .int x2), (3, .long y3), (5, .int x5)] [] w) (x1 : Int32) (x2 : Int32) (y3 : Int64) (x5 : Int32) (w : pm_W) (hf : b_Text_name_5  S rec x1 x2 y3 x5 w = some (r, w')) : pm_wk p l e { frames := 1, cells := 0, slots := 0, locals := 21 } s m args below meth c D vwCl (shC S) ca ad 6 (some (.long r), w') 5 [(0, .ref (ad 1)), (1, .int x1), (2, .int x2), (3, .long y3), (5, .int x5)] [] w := by
  unfold b_Text_name_5 at hf
  refine pm_iload K d_Text_name_5 4 rfl ?_
  refine pm_iload_n K d_Text_name_7 2 rfl rfl ?_
  refine pm_icmp_ge K d_Text_name_8 39 (by decide) (fun c1 => ?_) (fun c1 => ?_)
  · have hf := pm_ift c1 hf
    refine pm_lload_n K d_Text_name_39 3 rfl rfl ?_
    cases hf
    exact pm_lret K d_Text_name_40
  · have hf := pm_iff c1 hf
    refine pm_iload K d_Text_name_11 4 rfl ?_
    refine pm_iload_n K d_Text_name_13 1 rfl rfl ?_
    refine pm_bipush (v := 8) K d_Text_name_14 (by decide) ?_
    refine pm_iadd K d_Text_name_16 ?_
    refine pm_icmp_ge K d_Text_name_17 39 (by decide) (fun c2 => ?_) (fun c2 => ?_)
    · have hf := pm_ift c2 hf
      refine pm_lload_n K d_Text_name_39 3 rfl rfl ?_
      cases hf
      exact pm_lret K d_Text_name_40
    · have hf := pm_iff c2 hf
      refine pm_lload_n K d_Text_name_20 3 rfl rfl ?_
      refine pm_bipush (v := 8) K d_Text_name_21 (by decide) ?_
      refine pm_lshl K d_Text_name_23 rfl ?_
      refine pm_aload_n K d_Text_name_24 0 rfl rfl ?_
      refine pm_iload K d_Text_name_25 4 rfl ?_
      obtain ⟨o3, z3, hf⟩ := pm_bind hf
      refine pm_callV (As := [.int x5]) (rest := [.long (y3 <<< ((8 : Int32).toInt64 &&& 63))]) (o := 1) K (c_Text_at K.2.2.2.2.2.2.2.2.2.2.2.2 o3.1 o3.2 x5 w z3) mi_Text_at rfl rfl tw_324 tw_325 tw_331 rfl ⟨rfl, rfl, Nat.le_of_ble_eq_true rfl, Nat.le_of_ble_eq_true rfl⟩ rfl (Nat.le_of_ble_eq_true rfl) d_Text_name_27 ?_
      refine pm_i2l K d_Text_name_30 rfl ?_
      refine pm_lor K d_Text_name_31 ?_
      refine pm_lstore_n (lv' := [(3, .long ((y3 <<< ((8 : Int32).toInt64 &&& 63)) ||| o3.1.toInt64)), (0, .ref (ad 1)), (1, .int x1), (2, .int x2), (5, .int x5)]) K d_Text_name_32 rfl (by decide) rfl ?_
      refine pm_iinc (v := x5 + (1 : Int32)) (lv' := [(5, .int (x5 + (1 : Int32))), (3, .long ((y3 <<< ((8 : Int32).toInt64 &&& 63)) ||| o3.1.toInt64)), (0, .ref (ad 1)), (1, .int x1), (2, .int x2)]) K d_Text_name_33 4 rfl rfl (by decide) rfl ?_
      refine pm_goto K d_Text_name_36 5 (by decide) ?_
      refine pm_sub (lv' := [(0, .ref (ad 1)), (1, .int x1), (2, .int x2), (3, .long ((y3 <<< ((8 : Int32).toInt64 &&& 63)) ||| o3.1.toInt64)), (5, .int (x5 + (1 : Int32)))]) [2, 3, 4, 1, 0] rfl ?_
      exact h5 x1 x2 ((y3 <<< ((8 : Int32).toInt64 &&& 63)) ||| o3.1.toInt64) (x5 + (1 : Int32)) o3.2 hf
set_option maxHeartbeats 4000000 in
set_option maxRecDepth 100000 in
theorem a_Text_name {p : Program} {l : Launch} {e : Env} {s : State} {m : MethodId} {args : Array Value} {below : List Frame} {meth : Method} {c : Code} {D : va_G} {ca : Nat → ClassId} {ad : Nat → Nat} {E : (Nat → Prop) → State → Heap → Prop} {S : Nat} (K : pm_ok p s m args meth c k_Text_name 6 pmTs R_Text D vwCl (tyl ca) (shC S) ad E (some .long)) (r : Int64) (w' : pm_W) : ∀ n : Nat, (∀ (x1 : Int32) (x2 : Int32) (y3 : Int64) (x5 : Int32) (w : pm_W), l_Text_name  S n 0 x1 x2 y3 x5 w = some (r, w') → pm_wk p l e { frames := 1, cells := 0, slots := 0, locals := 21 } s m args below meth c D vwCl (shC S) ca ad 6 (some (.long r), w') 5 [(0, .ref (ad 1)), (1, .int x1), (2, .int x2), (3, .long y3), (5, .int x5)] [] w) := by
  intro n
  induction n with
  | zero => exact fun _ _ _ _ _ hf => (by cases hf)
  | succ n ih => exact fun x1 x2 y3 x5 w hf => t_Text_name_5 K (l_Text_name S n) r w' (ih) x1 x2 y3 x5 w hf
set_option maxHeartbeats 4000000 in
set_option maxRecDepth 100000 in
theorem t_Text_name {p : Program} {l : Launch} {e : Env} {s : State} {m : MethodId} {args : Array Value} {below : List Frame} {meth : Method} {c : Code} {D : va_G} {ca : Nat → ClassId} {ad : Nat → Nat} {E : (Nat → Prop) → State → Heap → Prop} {S : Nat} (K : pm_ok p s m args meth c k_Text_name 6 pmTs R_Text D vwCl (tyl ca) (shC S) ad E (some .long)) (r : Int64) (w' : pm_W) (x1 : Int32) (x2 : Int32) (w : pm_W) (hf : f_Text_name  S x1 x2 w = some (r, w')) : pm_wk p l e { frames := 1, cells := 0, slots := 0, locals := 21 } s m args below meth c D vwCl (shC S) ca ad 6 (some (.long r), w') 0 [(0, .ref (ad 1)), (1, .int x1), (2, .int x2)] [] w := by
  unfold f_Text_name at hf
  have h5 := (a_Text_name (l := l) (e := e) (below := below) K  r w' pm_fuel)
  refine pm_lconst (v := 0) K d_Text_name_0 (by decide) ?_
  refine pm_lstore_n (lv' := [(3, .long (0 : Int64)), (0, .ref (ad 1)), (1, .int x1), (2, .int x2)]) K d_Text_name_1 rfl (by decide) rfl ?_
  refine pm_iload_n K d_Text_name_2 2 rfl rfl ?_
  refine pm_istore (lv' := [(5, .int x1), (3, .long (0 : Int64)), (0, .ref (ad 1)), (1, .int x1), (2, .int x2)]) K d_Text_name_3 (by decide) rfl ?_
  refine pm_sub (lv' := [(0, .ref (ad 1)), (1, .int x1), (2, .int x2), (3, .long (0 : Int64)), (5, .int x1)]) [2, 3, 4, 1, 0] rfl ?_
  exact h5 x1 x2 (0 : Int64) x1 w hf
/-- CellLisp$Text.name(II)J -/
theorem c_Text_name {l : Launch} {D : va_G} {ca : Nat → ClassId} {ad : Nat → Nat} {E : (Nat → Prop) → State → Heap → Prop} {S : Nat} (hEc : pm_Ecl E) (r : Int64) (w' : pm_W) (x1 : Int32) (x2 : Int32) (w : pm_W) (hf : f_Text_name  S x1 x2 w = some (r, w')) : pm_Met l pmTs D vwCl (tyl ca) (shC S) ca ad E y_Text_name k_Text_name 6 (some .long) { frames := 1, cells := 0, slots := 0, locals := 21 } [.ref (ad 1), .int x1, .int x2] w (some (.long r), w') :=
  pm_start pmTs_good hEc (by decide) (Nat.le_of_ble_eq_true rfl) (fun p e s m below meth c K => t_Text_name K r w' x1 x2 w hf)
