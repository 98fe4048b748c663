def b_Md_make_3 (rec : Nat → Int32 → Int32 → Int32 → Int32 → Int32 → pm_W → Option (Int32 × pm_W)) (x1 : Int32) (x2 : Int32) (x3 : Int32) (x4 : Int32) (x5 : Int32) (w : pm_W) : Option (Int32 × pm_W) :=
  if x5 < 0 ∨ 206 ≤ x5.toNatClampNeg then none else
  if (w.1 1 x5.toNatClampNeg) = 0 then
    if x5 < 0 ∨ 206 ≤ x5.toNatClampNeg then none else
    if x5 < 0 ∨ 206 ≤ x5.toNatClampNeg then none else
    if x5 < 0 ∨ 206 ≤ x5.toNatClampNeg then none else
    if x5 < 0 ∨ 206 ≤ x5.toNatClampNeg then none else
    some ((536873000 : Int32) + x5, pm_setI (pm_setI (pm_setI (pm_setI w 1 x5.toNatClampNeg x1) 2 x5.toNatClampNeg x2) 3 x5.toNatClampNeg x3) 4 x5.toNatClampNeg x4)
  else
    rec 0 x1 x2 x3 x4 (x5 + (1 : Int32)) w
def l_Md_make : Nat → Nat → Int32 → Int32 → Int32 → Int32 → Int32 → pm_W → Option (Int32 × pm_W) := pm_it (fun _ _ _ _ _ _ _ => none) (fun rec k x1 x2 x3 x4 x5 w => b_Md_make_3  rec x1 x2 x3 x4 x5 w)
def f_Md_make (x1 : Int32) (x2 : Int32) (x3 : Int32) (x4 : Int32) (w : pm_W) : Option (Int32 × pm_W) :=
  (l_Md_make  pm_fuel) 0 x1 x2 x3 x4 (0 : Int32) w
set_option maxHeartbeats 4000000 in
set_option maxRecDepth 100000 in
theorem t_Md_make_3 {p : Program} {l : Launch} {e : Env} {s : State} {m : MethodId} {args : Array Value} {below : List Frame} {meth : Method} {c : Code} {D : va_G} {ca : Nat → ClassId} {ad : Nat → Nat} {E : (Nat → Prop) → State → Heap → Prop} (K : pm_ok p s m args meth c k_Md_make 6 pmTs R_Md D vwCl (tyl ca) shM ad E (some .int)) (rec : Nat → Int32 → Int32 → Int32 → Int32 → Int32 → pm_W → Option (Int32 × pm_W)) (r : Int32) (w' : pm_W) (h3 : ∀ (x1 : Int32) (x2 : Int32) (x3 : Int32) (x4 : Int32) (x5 : Int32) (w : pm_W), rec 0 x1 x2 x3 x4 x5 w = some (r, w') → pm_wk p l e { frames := 0, cells := 0, slots := 0, locals := 0 } s m args below meth c D vwCl shM ca ad 6 (some (.int r), w') 3 [(0, .ref (ad 0)), (1, .int x1), (2, .int x2), (3, .int x3), (4, .int x4), (5, .int x5)] [] w) (x1 : Int32) (x2 : Int32) (x3 : Int32) (x4 : Int32) (x5 : Int32) (w : pm_W) (hf : b_Md_make_3  rec x1 x2 x3 x4 x5 w = some (r, w')) : pm_wk p l e { frames := 0, cells := 0, slots := 0, locals := 0 } s m args below meth c D vwCl shM ca ad 6 (some (.int r), w') 3 [(0, .ref (ad 0)), (1, .int x1), (2, .int x2), (3, .int x3), (4, .int x4), (5, .int x5)] [] w := by
  unfold b_Md_make_3 at hf
  refine pm_aload_n K d_Md_make_3 0 rfl rfl ?_
  refine pm_getR K fc_9 (o := 0) rfl 2 rfl (by decide) tw_671 d_Md_make_4 ?_
  refine pm_iload K d_Md_make_7 5 rfl ?_
  obtain ⟨q1, hf⟩ := pm_bnd hf
  refine pm_iald K (o := 1) rfl rfl q1 d_Md_make_9 (v := w.1 1 x5.toNatClampNeg) rfl ?_
  refine pm_if_eq K d_Md_make_10 19 (by decide) (fun c2 => ?_) (fun c2 => ?_)
  · have hf := pm_ift c2 hf
    refine pm_aload_n K d_Md_make_19 0 rfl rfl ?_
    refine pm_getR K fc_9 (o := 0) rfl 2 rfl (by decide) tw_671 d_Md_make_20 ?_
    refine pm_iload K d_Md_make_23 5 rfl ?_
    refine pm_iload_n K d_Md_make_25 1 rfl rfl ?_
    obtain ⟨q3, hf⟩ := pm_bnd hf
    refine pm_iast K (o := 1) rfl rfl q3 d_Md_make_26 ?_
    refine pm_aload_n K d_Md_make_27 0 rfl rfl ?_
    refine pm_getR K fc_9 (o := 0) rfl 3 rfl (by decide) tw_672 d_Md_make_28 ?_
    refine pm_iload K d_Md_make_31 5 rfl ?_
    refine pm_iload_n K d_Md_make_33 2 rfl rfl ?_
    obtain ⟨q4, hf⟩ := pm_bnd hf
    refine pm_iast K (o := 2) rfl rfl q4 d_Md_make_34 ?_
    refine pm_aload_n K d_Md_make_35 0 rfl rfl ?_
    refine pm_getR K fc_9 (o := 0) rfl 4 rfl (by decide) tw_673 d_Md_make_36 ?_
    refine pm_iload K d_Md_make_39 5 rfl ?_
    refine pm_iload_n K d_Md_make_41 3 rfl rfl ?_
    obtain ⟨q5, hf⟩ := pm_bnd hf
    refine pm_iast K (o := 3) rfl rfl q5 d_Md_make_42 ?_
    refine pm_aload_n K d_Md_make_43 0 rfl rfl ?_
    refine pm_getR K fc_9 (o := 0) rfl 5 rfl (by decide) tw_674 d_Md_make_44 ?_
    refine pm_iload K d_Md_make_47 5 rfl ?_
    refine pm_iload K d_Md_make_49 4 rfl ?_
    obtain ⟨q6, hf⟩ := pm_bnd hf
    refine pm_iast K (o := 4) rfl rfl q6 d_Md_make_51 ?_
    refine pm_ldc K tw_750 d_Md_make_52 ?_
    refine pm_iload K d_Md_make_54 5 rfl ?_
    refine pm_iadd K d_Md_make_56 ?_
    cases hf
    exact pm_iret K d_Md_make_57
  · have hf := pm_iff c2 hf
    refine pm_iinc (v := x5 + (1 : Int32)) (lv' := [(5, .int (x5 + (1 : Int32))), (0, .ref (ad 0)), (1, .int x1), (2, .int x2), (3, .int x3), (4, .int x4)]) K d_Md_make_13 5 rfl rfl (by decide) rfl ?_
    refine pm_goto K d_Md_make_16 3 (by decide) ?_
    refine pm_sub (lv' := [(0, .ref (ad 0)), (1, .int x1), (2, .int x2), (3, .int x3), (4, .int x4), (5, .int (x5 + (1 : Int32)))]) [1, 2, 3, 4, 5, 0] rfl ?_
    exact h3 x1 x2 x3 x4 (x5 + (1 : Int32)) w hf
set_option maxHeartbeats 4000000 in
set_option maxRecDepth 100000 in
theorem a_Md_make {p : Program} {l : Launch} {e : Env} {s : State} {m : MethodId} {args : Array Value} {below : List Frame} {meth : Method} {c : Code} {D : va_G} {ca : Nat → ClassId} {ad : Nat → Nat} {E : (Nat → Prop) → State → Heap → Prop} (K : pm_ok p s m args meth c k_Md_make 6 pmTs R_Md D vwCl (tyl ca) shM ad E (some .int)) (r : Int32) (w' : pm_W) : ∀ n : Nat, (∀ (x1 : Int32) (x2 : Int32) (x3 : Int32) (x4 : Int32) (x5 : Int32) (w : pm_W), l_Md_make  n 0 x1 x2 x3 x4 x5 w = some (r, w') → pm_wk p l e { frames := 0, cells := 0, slots := 0, locals := 0 } s m args below meth c D vwCl shM ca ad 6 (some (.int r), w') 3 [(0, .ref (ad 0)), (1, .int x1), (2, .int x2), (3, .int x3), (4, .int x4), (5, .int x5)] [] w) := by
  intro n
  induction n with
  | zero => exact fun _ _ _ _ _ _ hf => (by cases hf)
  | succ n ih => exact fun x1 x2 x3 x4 x5 w hf => t_Md_make_3 K (l_Md_make n) r w' (ih) x1 x2 x3 x4 x5 w hf
set_option maxHeartbeats 4000000 in
set_option maxRecDepth 100000 in
theorem t_Md_make {p : Program} {l : Launch} {e : Env} {s : State} {m : MethodId} {args : Array Value} {below : List Frame} {meth : Method} {c : Code} {D : va_G} {ca : Nat → ClassId} {ad : Nat → Nat} {E : (Nat → Prop) → State → Heap → Prop} (K : pm_ok p s m args meth c k_Md_make 6 pmTs R_Md D vwCl (tyl ca) shM ad E (some .int)) (r : Int32) (w' : pm_W) (x1 : Int32) (x2 : Int32) (x3 : Int32) (x4 : Int32) (w : pm_W) (hf : f_Md_make  x1 x2 x3 x4 w = some (r, w')) : pm_wk p l e { frames := 0, cells := 0, slots := 0, locals := 0 } s m args below meth c D vwCl shM ca ad 6 (some (.int r), w') 0 [(0, .ref (ad 0)), (1, .int x1), (2, .int x2), (3, .int x3), (4, .int x4)] [] w := by
  unfold f_Md_make at hf
  have h3 := (a_Md_make (l := l) (e := e) (below := below) K  r w' pm_fuel)
  refine pm_iconst (v := 0) K d_Md_make_0 (by decide) ?_
  refine pm_istore (lv' := [(5, .int (0 : Int32)), (0, .ref (ad 0)), (1, .int x1), (2, .int x2), (3, .int x3), (4, .int x4)]) K d_Md_make_1 (by decide) rfl ?_
  refine pm_sub (lv' := [(0, .ref (ad 0)), (1, .int x1), (2, .int x2), (3, .int x3), (4, .int x4), (5, .int (0 : Int32))]) [1, 2, 3, 4, 5, 0] rfl ?_
  exact h3 x1 x2 x3 x4 (0 : Int32) w hf
/-- CellLispModel.make(IIII)I -/
theorem c_Md_make {l : Launch} {D : va_G} {ca : Nat → ClassId} {ad : Nat → Nat} {E : (Nat → Prop) → State → Heap → Prop} (hEc : pm_Ecl E) (r : Int32) (w' : pm_W) (x1 : Int32) (x2 : Int32) (x3 : Int32) (x4 : Int32) (w : pm_W) (hf : f_Md_make  x1 x2 x3 x4 w = some (r, w')) : pm_Met l pmTs D vwCl (tyl ca) shM ca ad E y_Md_make k_Md_make 6 (some .int) { frames := 0, cells := 0, slots := 0, locals := 0 } [.ref (ad 0), .int x1, .int x2, .int x3, .int x4] w (some (.int r), w') :=
  pm_start pmTs_good hEc (by decide) (Nat.le_of_ble_eq_true rfl) (fun p e s m below meth c K => t_Md_make K r w' x1 x2 x3 x4 w hf)
def f_Md_pair (x1 : Int32) (x2 : Int32) (w : pm_W) : Option (Int32 × pm_W) :=
  Option.bind (f_Md_make (2 : Int32) x1 x2 (536870912 : Int32) w) fun o1 =>
  some (o1.1, o1.2)
set_option maxHeartbeats 4000000 in
set_option maxRecDepth 100000 in
theorem t_Md_pair {p : Program} {l : Launch} {e : Env} {s : State} {m : MethodId} {args : Array Value} {below : List Frame} {meth : Method} {c : Code} {D : va_G} {ca : Nat → ClassId} {ad : Nat → Nat} {E : (Nat → Prop) → State → Heap → Prop} (K : pm_ok p s m args meth c k_Md_pair 3 pmTs R_Md D vwCl (tyl ca) shM ad E (some .int)) (r : Int32) (w' : pm_W) (x1 : Int32) (x2 : Int32) (w : pm_W) (hf : f_Md_pair  x1 x2 w = some (r, w')) : pm_wk p l e { frames := 1, cells := 0, slots := 0, locals := 25 } s m args below meth c D vwCl shM ca ad 3 (some (.int r), w') 0 [(0, .ref (ad 0)), (1, .int x1), (2, .int x2)] [] w := by
  unfold f_Md_pair at hf
  refine pm_aload_n K d_Md_pair_0 0 rfl rfl ?_
  refine pm_iconst (v := 2) K d_Md_pair_1 (by decide) ?_
  refine pm_iload_n K d_Md_pair_2 1 rfl rfl ?_
  refine pm_iload_n K d_Md_pair_3 2 rfl rfl ?_
  refine pm_ldc K tw_662 d_Md_pair_4 ?_
  obtain ⟨o1, z1, hf⟩ := pm_bind hf
  refine pm_callV (As := [.int (2 : Int32), .int x1, .int x2, .int (536870912 : Int32)]) (rest := []) (o := 0) K (c_Md_make K.2.2.2.2.2.2.2.2.2.2.2.2 o1.1 o1.2 (2 : Int32) x1 x2 (536870912 : Int32) w z1) mi_Md_make rfl rfl tw_762 tw_56 tw_761 rfl ⟨rfl, rfl, Nat.le_of_ble_eq_true rfl, Nat.le_of_ble_eq_true rfl⟩ rfl (Nat.le_of_ble_eq_true rfl) d_Md_pair_6 ?_
  cases hf
  exact pm_iret K d_Md_pair_9
/-- CellLispModel.pair(II)I -/
theorem c_Md_pair {l : Launch} {D : va_G} {ca : Nat → ClassId} {ad : Nat → Nat} {E : (Nat → Prop) → State → Heap → Prop} (hEc : pm_Ecl E) (r : Int32) (w' : pm_W) (x1 : Int32) (x2 : Int32) (w : pm_W) (hf : f_Md_pair  x1 x2 w = some (r, w')) : pm_Met l pmTs D vwCl (tyl ca) shM ca ad E y_Md_pair k_Md_pair 3 (some .int) { frames := 1, cells := 0, slots := 0, locals := 25 } [.ref (ad 0), .int x1, .int x2] w (some (.int r), w') :=
  pm_start pmTs_good hEc (by decide) (Nat.le_of_ble_eq_true rfl) (fun p e s m below meth c K => t_Md_pair K r w' x1 x2 w hf)
def b_Md_feed_30 (rec : Nat → Int32 → Int32 → Int32 → pm_W → Option (Int32 × pm_W)) (x1 : Int32) (x2 : Int32) (x3 : Int32) (w : pm_W) : Option (Int32 × pm_W) :=
  if x2 ≤ x3 then
    rec 1 x1 0 (x2 - (1 : Int32)) w
  else
    if ((x1 >>> (((8 : Int32) * x3) &&& 31)) &&& (255 : Int32)) = (10 : Int32) then
      rec 0 x1 x2 (x3 + (1 : Int32)) w
    else
      if ((x1 >>> (((8 : Int32) * x3) &&& 31)) &&& (255 : Int32)) < (32 : Int32) then
        some ((0 : Int32), w)
      else
        if ((x1 >>> (((8 : Int32) * x3) &&& 31)) &&& (255 : Int32)) ≤ (126 : Int32) then
          rec 0 x1 x2 (x3 + (1 : Int32)) w
        else
          some ((0 : Int32), w)
def b_Md_feed_80 (rec : Nat → Int32 → Int32 → Int32 → pm_W → Option (Int32 × pm_W)) (x1 : Int32) (x3 : Int32) (w : pm_W) : Option (Int32 × pm_W) :=
  if x3 < 0 then
    some ((1 : Int32), w)
  else
    if (w.1 0 20) < 0 ∨ 120 ≤ (w.1 0 20).toNatClampNeg then none else
    rec 1 x1 0 (x3 + (-1 : Int32)) (pm_setI (pm_setI w 12 (w.1 0 20).toNatClampNeg (vp_nar .char ((((x1 >>> (((8 : Int32) * x3) &&& 31)) &&& (255 : Int32)).toUInt32 % 65536).toInt32))) 0 20 ((w.1 0 20) + (1 : Int32)))
def l_Md_feed : Nat → Nat → Int32 → Int32 → Int32 → pm_W → Option (Int32 × pm_W) := pm_it (fun _ _ _ _ _ => none) (fun rec k x1 x2 x3 w => match k with | 0 => b_Md_feed_30  rec x1 x2 x3 w | _ => b_Md_feed_80  rec x1 x3 w)
def f_Md_feed (x1 : Int32) (x2 : Int32) (w : pm_W) : Option (Int32 × pm_W) :=
  if x2 < (1 : Int32) then
    some ((0 : Int32), pm_setI w 0 0 (0 : Int32))
  else
    if (4 : Int32) < x2 then
      some ((0 : Int32), pm_setI w 0 0 (0 : Int32))
    else
      if ((w.1 0 20) + x2) ≤ (120 : Int32) then
        (l_Md_feed  pm_fuel) 0 x1 x2 (0 : Int32) (pm_setI w 0 0 (0 : Int32))
      else
        some ((0 : Int32), pm_setI w 0 0 (0 : Int32))
set_option maxHeartbeats 4000000 in
set_option maxRecDepth 100000 in
theorem t_Md_feed_30 {p : Program} {l : Launch} {e : Env} {s : State} {m : MethodId} {args : Array Value} {below : List Frame} {meth : Method} {c : Code} {D : va_G} {ca : Nat → ClassId} {ad : Nat → Nat} {E : (Nat → Prop) → State → Heap → Prop} (K : pm_ok p s m args meth c k_Md_feed 5 pmTs R_Md D vwCl (tyl ca) shM ad E (some .boolean)) (rec : Nat → Int32 → Int32 → Int32 → pm_W → Option (Int32 × pm_W)) (r : Int32) (w' : pm_W) (h30 : ∀ (x1 : Int32) (x2 : Int32) (x3 : Int32) (w : pm_W), rec 0 x1 x2 x3 w = some (r, w') → pm_wk p l e { frames := 0, cells := 0, slots := 0, locals := 0 } s m args below meth c D vwCl shM ca ad 5 (some (.int r), w') 30 [(0, .ref (ad 0)), (1, .int x1), (2, .int x2), (3, .int x3)] [] w) (h80 : ∀ (x1 : Int32) (x3 : Int32) (w : pm_W), rec 1 x1 0 x3 w = some (r, w') → pm_wk p l e { frames := 0, cells := 0, slots := 0, locals := 0 } s m args below meth c D vwCl shM ca ad 5 (some (.int r), w') 80 [(0, .ref (ad 0)), (1, .int x1), (3, .int x3)] [] w) (x1 : Int32) (x2 : Int32) (x3 : Int32) (w : pm_W) (hf : b_Md_feed_30  rec x1 x2 x3 w = some (r, w')) : pm_wk p l e { frames := 0, cells := 0, slots := 0, locals := 0 } s m args below meth c D vwCl shM ca ad 5 (some (.int r), w') 30 [(0, .ref (ad 0)), (1, .int x1), (2, .int x2), (3, .int x3)] [] w := by
  unfold b_Md_feed_30 at hf
  refine pm_iload_n K d_Md_feed_30 3 rfl rfl ?_
  refine pm_iload_n K d_Md_feed_31 2 rfl rfl ?_
  refine pm_icmp_ge K d_Md_feed_32 76 (by decide) (fun c4 => ?_) (fun c4 => ?_)
  · have hf := pm_ift c4 hf
    refine pm_iload_n K d_Md_feed_76 2 rfl rfl ?_
    refine pm_iconst (v := 1) K d_Md_feed_77 (by decide) ?_
    refine pm_isub K d_Md_feed_78 ?_
    refine pm_istore_n (lv' := [(3, .int (x2 - (1 : Int32))), (0, .ref (ad 0)), (1, .int x1), (2, .int x2)]) K d_Md_feed_79 rfl (by decide) rfl ?_
    refine pm_sub (lv' := [(0, .ref (ad 0)), (1, .int x1), (3, .int (x2 - (1 : Int32)))]) [1, 2, 0] rfl ?_
    exact h80 x1 (x2 - (1 : Int32)) w hf
  · have hf := pm_iff c4 hf
    refine pm_iload_n K d_Md_feed_35 1 rfl rfl ?_
    refine pm_bipush (v := 8) K d_Md_feed_36 (by decide) ?_
    refine pm_iload_n K d_Md_feed_38 3 rfl rfl ?_
    refine pm_imul K d_Md_feed_39 ?_
    refine pm_ishr K d_Md_feed_40 ?_
    refine pm_sipush (v := 255) K d_Md_feed_41 (by decide) ?_
    refine pm_iand K d_Md_feed_44 ?_
    refine pm_istore (lv' := [(4, .int ((x1 >>> (((8 : Int32) * x3) &&& 31)) &&& (255 : Int32))), (0, .ref (ad 0)), (1, .int x1), (2, .int x2), (3, .int x3)]) K d_Md_feed_45 (by decide) rfl ?_
    refine pm_iload K d_Md_feed_47 0 rfl ?_
    refine pm_bipush (v := 10) K d_Md_feed_49 (by decide) ?_
    refine pm_icmp_eq K d_Md_feed_51 70 (by decide) (fun c5 => ?_) (fun c5 => ?_)
    · have hf := pm_ift c5 hf
      refine pm_iinc (v := x3 + (1 : Int32)) (lv' := [(3, .int (x3 + (1 : Int32))), (4, .int ((x1 >>> (((8 : Int32) * x3) &&& 31)) &&& (255 : Int32))), (0, .ref (ad 0)), (1, .int x1), (2, .int x2)]) K d_Md_feed_70 4 rfl rfl (by decide) rfl ?_
      refine pm_goto K d_Md_feed_73 30 (by decide) ?_
      refine pm_sub (lv' := [(0, .ref (ad 0)), (1, .int x1), (2, .int x2), (3, .int (x3 + (1 : Int32)))]) [2, 3, 4, 0] rfl ?_
      exact h30 x1 x2 (x3 + (1 : Int32)) w hf
    · have hf := pm_iff c5 hf
      refine pm_iload K d_Md_feed_54 0 rfl ?_
      refine pm_bipush (v := 32) K d_Md_feed_56 (by decide) ?_
      refine pm_icmp_lt K d_Md_feed_58 68 (by decide) (fun c6 => ?_) (fun c6 => ?_)
      · have hf := pm_ift c6 hf
        refine pm_iconst (v := 0) K d_Md_feed_68 (by decide) ?_
        cases hf
        exact pm_zret K (by decide) d_Md_feed_69
      · have hf := pm_iff c6 hf
        refine pm_iload K d_Md_feed_61 0 rfl ?_
        refine pm_bipush (v := 126) K d_Md_feed_63 (by decide) ?_
        refine pm_icmp_le K d_Md_feed_65 70 (by decide) (fun c7 => ?_) (fun c7 => ?_)
        · have hf := pm_ift c7 hf
          refine pm_iinc (v := x3 + (1 : Int32)) (lv' := [(3, .int (x3 + (1 : Int32))), (4, .int ((x1 >>> (((8 : Int32) * x3) &&& 31)) &&& (255 : Int32))), (0, .ref (ad 0)), (1, .int x1), (2, .int x2)]) K d_Md_feed_70 4 rfl rfl (by decide) rfl ?_
          refine pm_goto K d_Md_feed_73 30 (by decide) ?_
          refine pm_sub (lv' := [(0, .ref (ad 0)), (1, .int x1), (2, .int x2), (3, .int (x3 + (1 : Int32)))]) [2, 3, 4, 0] rfl ?_
          exact h30 x1 x2 (x3 + (1 : Int32)) w hf
        · have hf := pm_iff c7 hf
          refine pm_iconst (v := 0) K d_Md_feed_68 (by decide) ?_
          cases hf
          exact pm_zret K (by decide) d_Md_feed_69
set_option maxHeartbeats 4000000 in
set_option maxRecDepth 100000 in
theorem t_Md_feed_80 {p : Program} {l : Launch} {e : Env} {s : State} {m : MethodId} {args : Array Value} {below : List Frame} {meth : Method} {c : Code} {D : va_G} {ca : Nat → ClassId} {ad : Nat → Nat} {E : (Nat → Prop) → State → Heap → Prop} (K : pm_ok p s m args meth c k_Md_feed 5 pmTs R_Md D vwCl (tyl ca) shM ad E (some .boolean)) (rec : Nat → Int32 → Int32 → Int32 → pm_W → Option (Int32 × pm_W)) (r : Int32) (w' : pm_W) (h30 : ∀ (x1 : Int32) (x2 : Int32) (x3 : Int32) (w : pm_W), rec 0 x1 x2 x3 w = some (r, w') → pm_wk p l e { frames := 0, cells := 0, slots := 0, locals := 0 } s m args below meth c D vwCl shM ca ad 5 (some (.int r), w') 30 [(0, .ref (ad 0)), (1, .int x1), (2, .int x2), (3, .int x3)] [] w) (h80 : ∀ (x1 : Int32) (x3 : Int32) (w : pm_W), rec 1 x1 0 x3 w = some (r, w') → pm_wk p l e { frames := 0, cells := 0, slots := 0, locals := 0 } s m args below meth c D vwCl shM ca ad 5 (some (.int r), w') 80 [(0, .ref (ad 0)), (1, .int x1), (3, .int x3)] [] w) (x1 : Int32) (x3 : Int32) (w : pm_W) (hf : b_Md_feed_80  rec x1 x3 w = some (r, w')) : pm_wk p l e { frames := 0, cells := 0, slots := 0, locals := 0 } s m args below meth c D vwCl shM ca ad 5 (some (.int r), w') 80 [(0, .ref (ad 0)), (1, .int x1), (3, .int x3)] [] w := by
  unfold b_Md_feed_80 at hf
  refine pm_iload_n K d_Md_feed_80 2 rfl rfl ?_
  refine pm_if_lt K d_Md_feed_81 120 (by decide) (fun c8 => ?_) (fun c8 => ?_)
  · have hf := pm_ift c8 hf
    refine pm_iconst (v := 1) K d_Md_feed_120 (by decide) ?_
    cases hf
    exact pm_zret K (by decide) d_Md_feed_121
  · have hf := pm_iff c8 hf
    refine pm_aload_n K d_Md_feed_84 0 rfl rfl ?_
    refine pm_getR K fc_9 (o := 0) rfl 21 rfl (by decide) tw_690 d_Md_feed_85 ?_
    refine pm_aload_n K d_Md_feed_88 0 rfl rfl ?_
    refine pm_getI K fc_9 (o := 0) rfl 20 rfl (by decide) tw_689 d_Md_feed_89 (v := w.1 0 20) rfl ?_
    refine pm_iload_n K d_Md_feed_92 1 rfl rfl ?_
    refine pm_bipush (v := 8) K d_Md_feed_93 (by decide) ?_
    refine pm_iload_n K d_Md_feed_95 2 rfl rfl ?_
    refine pm_imul K d_Md_feed_96 ?_
    refine pm_ishr K d_Md_feed_97 ?_
    refine pm_sipush (v := 255) K d_Md_feed_98 (by decide) ?_
    refine pm_iand K d_Md_feed_101 ?_
    refine pm_i2c K d_Md_feed_102 rfl ?_
    obtain ⟨q9, hf⟩ := pm_bnd hf
    refine pm_cast K (o := 12) rfl rfl q9 d_Md_feed_103 ?_
    refine pm_aload_n K d_Md_feed_104 0 rfl rfl ?_
    refine pm_dup K d_Md_feed_105 rfl ?_
    refine pm_getI K fc_9 (o := 0) rfl 20 rfl (by decide) tw_689 d_Md_feed_106 (v := w.1 0 20) rfl ?_
    refine pm_iconst (v := 1) K d_Md_feed_109 (by decide) ?_
    refine pm_iadd K d_Md_feed_110 ?_
    refine pm_putI K fc_9 (o := 0) (ty := .int) rfl 20 rfl (by decide) tw_689 rfl rfl rfl rfl d_Md_feed_111 ?_
    refine pm_iinc (v := x3 + (-1 : Int32)) (lv' := [(3, .int (x3 + (-1 : Int32))), (0, .ref (ad 0)), (1, .int x1)]) K d_Md_feed_114 2 rfl rfl (by decide) rfl ?_
    refine pm_goto K d_Md_feed_117 80 (by decide) ?_
    refine pm_sub (lv' := [(0, .ref (ad 0)), (1, .int x1), (3, .int (x3 + (-1 : Int32)))]) [1, 2, 0] rfl ?_
    exact h80 x1 (x3 + (-1 : Int32)) (pm_setI (pm_setI w 12 (w.1 0 20).toNatClampNeg (vp_nar .char ((((x1 >>> (((8 : Int32) * x3) &&& 31)) &&& (255 : Int32)).toUInt32 % 65536).toInt32))) 0 20 ((w.1 0 20) + (1 : Int32))) hf
set_option maxHeartbeats 4000000 in
set_option maxRecDepth 100000 in
theorem a_Md_feed {p : Program} {l : Launch} {e : Env} {s : State} {m : MethodId} {args : Array Value} {below : List Frame} {meth : Method} {c : Code} {D : va_G} {ca : Nat → ClassId} {ad : Nat → Nat} {E : (Nat → Prop) → State → Heap → Prop} (K : pm_ok p s m args meth c k_Md_feed 5 pmTs R_Md D vwCl (tyl ca) shM ad E (some .boolean)) (r : Int32) (w' : pm_W) : ∀ n : Nat, (∀ (x1 : Int32) (x2 : Int32) (x3 : Int32) (w : pm_W), l_Md_feed  n 0 x1 x2 x3 w = some (r, w') → pm_wk p l e { frames := 0, cells := 0, slots := 0, locals := 0 } s m args below meth c D vwCl shM ca ad 5 (some (.int r), w') 30 [(0, .ref (ad 0)), (1, .int x1), (2, .int x2), (3, .int x3)] [] w) ∧ (∀ (x1 : Int32) (x3 : Int32) (w : pm_W), l_Md_feed  n 1 x1 0 x3 w = some (r, w') → pm_wk p l e { frames := 0, cells := 0, slots := 0, locals := 0 } s m args below meth c D vwCl shM ca ad 5 (some (.int r), w') 80 [(0, .ref (ad 0)), (1, .int x1), (3, .int x3)] [] w) := by
  intro n
  induction n with
  | zero => exact ⟨fun _ _ _ _ hf => (by cases hf), fun _ _ _ hf => (by cases hf)⟩
  | succ n ih => exact ⟨fun x1 x2 x3 w hf => t_Md_feed_30 K (l_Md_feed n) r w' (ih.1) (ih.2) x1 x2 x3 w hf, fun x1 x3 w hf => t_Md_feed_80 K (l_Md_feed n) r w' (ih.1) (ih.2) x1 x3 w hf⟩
set_option maxHeartbeats 4000000 in
set_option maxRecDepth 100000 in
theorem t_Md_feed {p : Program} {l : Launch} {e : Env} {s : State} {m : MethodId} {args : Array Value} {below : List Frame} {meth : Method} {c : Code} {D : va_G} {ca : Nat → ClassId} {ad : Nat → Nat} {E : (Nat → Prop) → State → Heap → Prop} (K : pm_ok p s m args meth c k_Md_feed 5 pmTs R_Md D vwCl (tyl ca) shM ad E (some .boolean)) (r : Int32) (w' : pm_W) (x1 : Int32) (x2 : Int32) (w : pm_W) (hf : f_Md_feed  x1 x2 w = some (r, w')) : pm_wk p l e { frames := 0, cells := 0, slots := 0, locals := 0 } s m args below meth c D vwCl shM ca ad 5 (some (.int r), w') 0 [(0, .ref (ad 0)), (1, .int x1), (2, .int x2)] [] w := by
  unfold f_Md_feed at hf
  have h30 := (a_Md_feed (l := l) (e := e) (below := below) K  r w' pm_fuel).1
  have h80 := (a_Md_feed (l := l) (e := e) (below := below) K  r w' pm_fuel).2
  refine pm_aload_n K d_Md_feed_0 0 rfl rfl ?_
  refine pm_iconst (v := 0) K d_Md_feed_1 (by decide) ?_
  refine pm_putI K fc_9 (o := 0) (ty := .int) rfl 0 rfl (by decide) tw_669 rfl rfl rfl rfl d_Md_feed_2 ?_
  refine pm_iload_n K d_Md_feed_5 2 rfl rfl ?_
  refine pm_iconst (v := 1) K d_Md_feed_6 (by decide) ?_
  refine pm_icmp_lt K d_Md_feed_7 26 (by decide) (fun c1 => ?_) (fun c1 => ?_)
  · have hf := pm_ift c1 hf
    refine pm_iconst (v := 0) K d_Md_feed_26 (by decide) ?_
    cases hf
    exact pm_zret K (by decide) d_Md_feed_27
  · have hf := pm_iff c1 hf
    refine pm_iload_n K d_Md_feed_10 2 rfl rfl ?_
    refine pm_iconst (v := 4) K d_Md_feed_11 (by decide) ?_
    refine pm_icmp_gt K d_Md_feed_12 26 (by decide) (fun c2 => ?_) (fun c2 => ?_)
    · have hf := pm_ift c2 hf
      refine pm_iconst (v := 0) K d_Md_feed_26 (by decide) ?_
      cases hf
      exact pm_zret K (by decide) d_Md_feed_27
    · have hf := pm_iff c2 hf
      refine pm_aload_n K d_Md_feed_15 0 rfl rfl ?_
      refine pm_getI K fc_9 (o := 0) rfl 20 rfl (by decide) tw_689 d_Md_feed_16 (v := w.1 0 20) rfl ?_
      refine pm_iload_n K d_Md_feed_19 2 rfl rfl ?_
      refine pm_iadd K d_Md_feed_20 ?_
      refine pm_bipush (v := 120) K d_Md_feed_21 (by decide) ?_
      refine pm_icmp_le K d_Md_feed_23 28 (by decide) (fun c3 => ?_) (fun c3 => ?_)
      · have hf := pm_ift c3 hf
        refine pm_iconst (v := 0) K d_Md_feed_28 (by decide) ?_
        refine pm_istore_n (lv' := [(3, .int (0 : Int32)), (0, .ref (ad 0)), (1, .int x1), (2, .int x2)]) K d_Md_feed_29 rfl (by decide) rfl ?_
        refine pm_sub (lv' := [(0, .ref (ad 0)), (1, .int x1), (2, .int x2), (3, .int (0 : Int32))]) [1, 2, 3, 0] rfl ?_
        exact h30 x1 x2 (0 : Int32) (pm_setI w 0 0 (0 : Int32)) hf
      · have hf := pm_iff c3 hf
        refine pm_iconst (v := 0) K d_Md_feed_26 (by decide) ?_
        cases hf
        exact pm_zret K (by decide) d_Md_feed_27
/-- CellLispModel.feed(II)Z -/
theorem c_Md_feed {l : Launch} {D : va_G} {ca : Nat → ClassId} {ad : Nat → Nat} {E : (Nat → Prop) → State → Heap → Prop} (hEc : pm_Ecl E) (r : Int32) (w' : pm_W) (x1 : Int32) (x2 : Int32) (w : pm_W) (hf : f_Md_feed  x1 x2 w = some (r, w')) : pm_Met l pmTs D vwCl (tyl ca) shM ca ad E y_Md_feed k_Md_feed 5 (some .boolean) { frames := 0, cells := 0, slots := 0, locals := 0 } [.ref (ad 0), .int x1, .int x2] w (some (.int r), w') :=
  pm_start pmTs_good hEc (by decide) (Nat.le_of_ble_eq_true rfl) (fun p e s m below meth c K => t_Md_feed K r w' x1 x2 w hf)
def f_Md_isBlank (x0 : Int32) (w : pm_W) : Option (Int32 × pm_W) :=
  if x0 = (10 : Int32) then
    some ((1 : Int32), w)
  else
    if x0 = (32 : Int32) then
      some ((1 : Int32), w)
    else
      some ((0 : Int32), w)
set_option maxHeartbeats 4000000 in
set_option maxRecDepth 100000 in
theorem t_Md_isBlank {p : Program} {l : Launch} {e : Env} {s : State} {m : MethodId} {args : Array Value} {below : List Frame} {meth : Method} {c : Code} {D : va_G} {ca : Nat → ClassId} {ad : Nat → Nat} {E : (Nat → Prop) → State → Heap → Prop} (K : pm_ok p s m args meth c k_Md_isBlank 1 pmTs R_Md D vwCl (tyl ca) shM ad E (some .boolean)) (r : Int32) (w' : pm_W) (x0 : Int32) (w : pm_W) (hf : f_Md_isBlank  x0 w = some (r, w')) : pm_wk p l e { frames := 0, cells := 0, slots := 0, locals := 0 } s m args below meth c D vwCl shM ca ad 1 (some (.int r), w') 0 [(0, .int x0)] [] w := by
  unfold f_Md_isBlank at hf
  refine pm_iload_n K d_Md_isBlank_0 0 rfl rfl ?_
  refine pm_bipush (v := 10) K d_Md_isBlank_1 (by decide) ?_
  refine pm_icmp_eq K d_Md_isBlank_3 12 (by decide) (fun c1 => ?_) (fun c1 => ?_)
  · have hf := pm_ift c1 hf
    refine pm_iconst (v := 1) K d_Md_isBlank_12 (by decide) ?_
    refine pm_goto K d_Md_isBlank_13 17 (by decide) ?_
    cases hf
    exact pm_zret K (by decide) d_Md_isBlank_17
  · have hf := pm_iff c1 hf
    refine pm_iload_n K d_Md_isBlank_6 0 rfl rfl ?_
    refine pm_bipush (v := 32) K d_Md_isBlank_7 (by decide) ?_
    refine pm_icmp_ne K d_Md_isBlank_9 16 (by decide) (fun c2 => ?_) (fun c2 => ?_)
    · have hf := pm_iff c2 hf
      refine pm_iconst (v := 0) K d_Md_isBlank_16 (by decide) ?_
      cases hf
      exact pm_zret K (by decide) d_Md_isBlank_17
    · have hf := pm_ift c2 hf
      refine pm_iconst (v := 1) K d_Md_isBlank_12 (by decide) ?_
      refine pm_goto K d_Md_isBlank_13 17 (by decide) ?_
      cases hf
      exact pm_zret K (by decide) d_Md_isBlank_17
/-- CellLispModel.isBlank(C)Z -/
theorem c_Md_isBlank {l : Launch} {D : va_G} {ca : Nat → ClassId} {ad : Nat → Nat} {E : (Nat → Prop) → State → Heap → Prop} (hEc : pm_Ecl E) (r : Int32) (w' : pm_W) (x0 : Int32) (w : pm_W) (hf : f_Md_isBlank  x0 w = some (r, w')) : pm_Met l pmTs D vwCl (tyl ca) shM ca ad E y_Md_isBlank k_Md_isBlank 1 (some .boolean) { frames := 0, cells := 0, slots := 0, locals := 0 } [.int x0] w (some (.int r), w') :=
  pm_start pmTs_good hEc (by decide) (Nat.le_of_ble_eq_true rfl) (fun p e s m below meth c K => t_Md_isBlank K r w' x0 w hf)
def f_Md_isSign (x0 : Int32) (w : pm_W) : Option (Int32 × pm_W) :=
  if x0 = (40 : Int32) then
    some ((1 : Int32), w)
  else
    if x0 = (41 : Int32) then
      some ((1 : Int32), w)
    else
      if x0 = (39 : Int32) then
        some ((1 : Int32), w)
      else
        some ((0 : Int32), w)
set_option maxHeartbeats 4000000 in
set_option maxRecDepth 100000 in
theorem t_Md_isSign {p : Program} {l : Launch} {e : Env} {s : State} {m : MethodId} {args : Array Value} {below : List Frame} {meth : Method} {c : Code} {D : va_G} {ca : Nat → ClassId} {ad : Nat → Nat} {E : (Nat → Prop) → State → Heap → Prop} (K : pm_ok p s m args meth c k_Md_isSign 1 pmTs R_Md D vwCl (tyl ca) shM ad E (some .boolean)) (r : Int32) (w' : pm_W) (x0 : Int32) (w : pm_W) (hf : f_Md_isSign  x0 w = some (r, w')) : pm_wk p l e { frames := 0, cells := 0, slots := 0, locals := 0 } s m args below meth c D vwCl shM ca ad 1 (some (.int r), w') 0 [(0, .int x0)] [] w := by
  unfold f_Md_isSign at hf
  refine pm_iload_n K d_Md_isSign_0 0 rfl rfl ?_
  refine pm_bipush (v := 40) K d_Md_isSign_1 (by decide) ?_
  refine pm_icmp_eq K d_Md_isSign_3 18 (by decide) (fun c1 => ?_) (fun c1 => ?_)
  · have hf := pm_ift c1 hf
    refine pm_iconst (v := 1) K d_Md_isSign_18 (by decide) ?_
    refine pm_goto K d_Md_isSign_19 23 (by decide) ?_
    cases hf
    exact pm_zret K (by decide) d_Md_isSign_23
  · have hf := pm_iff c1 hf
    refine pm_iload_n K d_Md_isSign_6 0 rfl rfl ?_
    refine pm_bipush (v := 41) K d_Md_isSign_7 (by decide) ?_
    refine pm_icmp_eq K d_Md_isSign_9 18 (by decide) (fun c2 => ?_) (fun c2 => ?_)
    · have hf := pm_ift c2 hf
      refine pm_iconst (v := 1) K d_Md_isSign_18 (by decide) ?_
      refine pm_goto K d_Md_isSign_19 23 (by decide) ?_
      cases hf
      exact pm_zret K (by decide) d_Md_isSign_23
    · have hf := pm_iff c2 hf
      refine pm_iload_n K d_Md_isSign_12 0 rfl rfl ?_
      refine pm_bipush (v := 39) K d_Md_isSign_13 (by decide) ?_
      refine pm_icmp_ne K d_Md_isSign_15 22 (by decide) (fun c3 => ?_) (fun c3 => ?_)
      · have hf := pm_iff c3 hf
        refine pm_iconst (v := 0) K d_Md_isSign_22 (by decide) ?_
        cases hf
        exact pm_zret K (by decide) d_Md_isSign_23
      · have hf := pm_ift c3 hf
        refine pm_iconst (v := 1) K d_Md_isSign_18 (by decide) ?_
        refine pm_goto K d_Md_isSign_19 23 (by decide) ?_
        cases hf
        exact pm_zret K (by decide) d_Md_isSign_23
/-- CellLispModel.isSign(C)Z -/
theorem c_Md_isSign {l : Launch} {D : va_G} {ca : Nat → ClassId} {ad : Nat → Nat} {E : (Nat → Prop) → State → Heap → Prop} (hEc : pm_Ecl E) (r : Int32) (w' : pm_W) (x0 : Int32) (w : pm_W) (hf : f_Md_isSign  x0 w = some (r, w')) : pm_Met l pmTs D vwCl (tyl ca) shM ca ad E y_Md_isSign k_Md_isSign 1 (some .boolean) { frames := 0, cells := 0, slots := 0, locals := 0 } [.int x0] w (some (.int r), w') :=
  pm_start pmTs_good hEc (by decide) (Nat.le_of_ble_eq_true rfl) (fun p e s m below meth c K => t_Md_isSign K r w' x0 w hf)
def b_Md_skip_2 (rec : Nat → Int32 → pm_W → Option (Int32 × pm_W)) (x2 : Int32) (w : pm_W) : Option (Int32 × pm_W) :=
  if (w.1 0 20) ≤ x2 then
    some (x2, w)
  else
    if x2 < 0 ∨ 120 ≤ x2.toNatClampNeg then none else
    Option.bind (f_Md_isBlank (w.1 12 x2.toNatClampNeg) w) fun o3 =>
    if o3.1 = 0 then
      some (x2, o3.2)
    else
      rec 0 (x2 + (1 : Int32)) o3.2
def l_Md_skip : Nat → Nat → Int32 → pm_W → Option (Int32 × pm_W) := pm_it (fun _ _ _ => none) (fun rec k x2 w => b_Md_skip_2  rec x2 w)
def f_Md_skip (x1 : Int32) (w : pm_W) : Option (Int32 × pm_W) :=
  (l_Md_skip  pm_fuel) 0 x1 w
set_option maxHeartbeats 4000000 in
set_option maxRecDepth 100000 in
theorem t_Md_skip_2 {p : Program} {l : Launch} {e : Env} {s : State} {m : MethodId} {args : Array Value} {below : List Frame} {meth : Method} {c : Code} {D : va_G} {ca : Nat → ClassId} {ad : Nat → Nat} {E : (Nat → Prop) → State → Heap → Prop} (K : pm_ok p s m args meth c k_Md_skip 3 pmTs R_Md D vwCl (tyl ca) shM ad E (some .int)) (rec : Nat → Int32 → pm_W → Option (Int32 × pm_W)) (r : Int32) (w' : pm_W) (h2 : ∀ (x2 : Int32) (w : pm_W), rec 0 x2 w = some (r, w') → pm_wk p l e { frames := 1, cells := 0, slots := 0, locals := 20 } s m args below meth c D vwCl shM ca ad 3 (some (.int r), w') 2 [(0, .ref (ad 0)), (2, .int x2)] [] w) (x2 : Int32) (w : pm_W) (hf : b_Md_skip_2  rec x2 w = some (r, w')) : pm_wk p l e { frames := 1, cells := 0, slots := 0, locals := 20 } s m args below meth c D vwCl shM ca ad 3 (some (.int r), w') 2 [(0, .ref (ad 0)), (2, .int x2)] [] w := by
  unfold b_Md_skip_2 at hf
  refine pm_iload_n K d_Md_skip_2 1 rfl rfl ?_
  refine pm_aload_n K d_Md_skip_3 0 rfl rfl ?_
  refine pm_getI K fc_9 (o := 0) rfl 20 rfl (by decide) tw_689 d_Md_skip_4 (v := w.1 0 20) rfl ?_
  refine pm_icmp_ge K d_Md_skip_7 28 (by decide) (fun c1 => ?_) (fun c1 => ?_)
  · have hf := pm_ift c1 hf
    refine pm_iload_n K d_Md_skip_28 1 rfl rfl ?_
    cases hf
    exact pm_iret K d_Md_skip_29
  · have hf := pm_iff c1 hf
    refine pm_aload_n K d_Md_skip_10 0 rfl rfl ?_
    refine pm_getR K fc_9 (o := 0) rfl 21 rfl (by decide) tw_690 d_Md_skip_11 ?_
    refine pm_iload_n K d_Md_skip_14 1 rfl rfl ?_
    obtain ⟨q2, hf⟩ := pm_bnd hf
    refine pm_cald K (o := 12) rfl rfl q2 d_Md_skip_15 (v := w.1 12 x2.toNatClampNeg) rfl ?_
    obtain ⟨o3, z3, hf⟩ := pm_bind hf
    refine pm_callS (As := [.int (w.1 12 x2.toNatClampNeg)]) (rest := []) K (c_Md_isBlank K.2.2.2.2.2.2.2.2.2.2.2.2 o3.1 o3.2 (w.1 12 x2.toNatClampNeg) w z3) mi_Md_isBlank tw_718 tw_717 rfl ⟨rfl, rfl, Nat.le_of_ble_eq_true rfl, Nat.le_of_ble_eq_true rfl⟩ rfl (Nat.le_of_ble_eq_true rfl) d_Md_skip_16 ?_
    refine pm_if_eq K d_Md_skip_19 28 (by decide) (fun c4 => ?_) (fun c4 => ?_)
    · have hf := pm_ift c4 hf
      refine pm_iload_n K d_Md_skip_28 1 rfl rfl ?_
      cases hf
      exact pm_iret K d_Md_skip_29
    · have hf := pm_iff c4 hf
      refine pm_iinc (v := x2 + (1 : Int32)) (lv' := [(2, .int (x2 + (1 : Int32))), (0, .ref (ad 0))]) K d_Md_skip_22 1 rfl rfl (by decide) rfl ?_
      refine pm_goto K d_Md_skip_25 2 (by decide) ?_
      refine pm_sub (lv' := [(0, .ref (ad 0)), (2, .int (x2 + (1 : Int32)))]) [1, 0] rfl ?_
      exact h2 (x2 + (1 : Int32)) o3.2 hf
set_option maxHeartbeats 4000000 in
set_option maxRecDepth 100000 in
theorem a_Md_skip {p : Program} {l : Launch} {e : Env} {s : State} {m : MethodId} {args : Array Value} {below : List Frame} {meth : Method} {c : Code} {D : va_G} {ca : Nat → ClassId} {ad : Nat → Nat} {E : (Nat → Prop) → State → Heap → Prop} (K : pm_ok p s m args meth c k_Md_skip 3 pmTs R_Md D vwCl (tyl ca) shM ad E (some .int)) (r : Int32) (w' : pm_W) : ∀ n : Nat, (∀ (x2 : Int32) (w : pm_W), l_Md_skip  n 0 x2 w = some (r, w') → pm_wk p l e { frames := 1, cells := 0, slots := 0, locals := 20 } s m args below meth c D vwCl shM ca ad 3 (some (.int r), w') 2 [(0, .ref (ad 0)), (2, .int x2)] [] w) := by
  intro n
  induction n with
  | zero => exact fun _ _ hf => (by cases hf)
  | succ n ih => exact fun x2 w hf => t_Md_skip_2 K (l_Md_skip n) r w' (ih) x2 w hf
set_option maxHeartbeats 4000000 in
set_option maxRecDepth 100000 in
theorem t_Md_skip {p : Program} {l : Launch} {e : Env} {s : State} {m : MethodId} {args : Array Value} {below : List Frame} {meth : Method} {c : Code} {D : va_G} {ca : Nat → ClassId} {ad : Nat → Nat} {E : (Nat → Prop) → State → Heap → Prop} (K : pm_ok p s m args meth c k_Md_skip 3 pmTs R_Md D vwCl (tyl ca) shM ad E (some .int)) (r : Int32) (w' : pm_W) (x1 : Int32) (w : pm_W) (hf : f_Md_skip  x1 w = some (r, w')) : pm_wk p l e { frames := 1, cells := 0, slots := 0, locals := 20 } s m args below meth c D vwCl shM ca ad 3 (some (.int r), w') 0 [(0, .ref (ad 0)), (1, .int x1)] [] w := by
  unfold f_Md_skip at hf
  have h2 := (a_Md_skip (l := l) (e := e) (below := below) K  r w' pm_fuel)
  refine pm_iload_n K d_Md_skip_0 1 rfl rfl ?_
  refine pm_istore_n (lv' := [(2, .int x1), (0, .ref (ad 0)), (1, .int x1)]) K d_Md_skip_1 rfl (by decide) rfl ?_
  refine pm_sub (lv' := [(0, .ref (ad 0)), (2, .int x1)]) [1, 0] rfl ?_
  exact h2 x1 w hf
/-- CellLispModel.skip(I)I -/
theorem c_Md_skip {l : Launch} {D : va_G} {ca : Nat → ClassId} {ad : Nat → Nat} {E : (Nat → Prop) → State → Heap → Prop} (hEc : pm_Ecl E) (r : Int32) (w' : pm_W) (x1 : Int32) (w : pm_W) (hf : f_Md_skip  x1 w = some (r, w')) : pm_Met l pmTs D vwCl (tyl ca) shM ca ad E y_Md_skip k_Md_skip 3 (some .int) { frames := 1, cells := 0, slots := 0, locals := 20 } [.ref (ad 0), .int x1] w (some (.int r), w') :=
  pm_start pmTs_good hEc (by decide) (Nat.le_of_ble_eq_true rfl) (fun p e s m below meth c K => t_Md_skip K r w' x1 w hf)
def b_Md_tokenEnd_18 (rec : Nat → Int32 → pm_W → Option (Int32 × pm_W)) (x2 : Int32) (w : pm_W) : Option (Int32 × pm_W) :=
  if (w.1 0 20) ≤ x2 then
    some (x2, w)
  else
    if x2 < 0 ∨ 120 ≤ x2.toNatClampNeg then none else
    Option.bind (f_Md_isBlank (w.1 12 x2.toNatClampNeg) w) fun o6 =>
    if o6.1 = 0 then
      if x2 < 0 ∨ 120 ≤ x2.toNatClampNeg then none else
      Option.bind (f_Md_isSign (o6.2.1 12 x2.toNatClampNeg) o6.2) fun o9 =>
      if o9.1 = 0 then
        rec 0 (x2 + (1 : Int32)) o9.2
      else
        some (x2, o9.2)
    else
      some (x2, o6.2)
def l_Md_tokenEnd : Nat → Nat → Int32 → pm_W → Option (Int32 × pm_W) := pm_it (fun _ _ _ => none) (fun rec k x2 w => b_Md_tokenEnd_18  rec x2 w)
def f_Md_tokenEnd (x1 : Int32) (w : pm_W) : Option (Int32 × pm_W) :=
  if x1 < 0 ∨ 120 ≤ x1.toNatClampNeg then none else
  Option.bind (f_Md_isSign (w.1 12 x1.toNatClampNeg) w) fun o2 =>
  if o2.1 = 0 then
    (l_Md_tokenEnd  pm_fuel) 0 x1 o2.2
  else
    some (x1 + (1 : Int32), o2.2)
set_option maxHeartbeats 4000000 in
set_option maxRecDepth 100000 in
theorem t_Md_tokenEnd_18 {p : Program} {l : Launch} {e : Env} {s : State} {m : MethodId} {args : Array Value} {below : List Frame} {meth : Method} {c : Code} {D : va_G} {ca : Nat → ClassId} {ad : Nat → Nat} {E : (Nat → Prop) → State → Heap → Prop} (K : pm_ok p s m args meth c k_Md_tokenEnd 3 pmTs R_Md D vwCl (tyl ca) shM ad E (some .int)) (rec : Nat → Int32 → pm_W → Option (Int32 × pm_W)) (r : Int32) (w' : pm_W) (h18 : ∀ (x2 : Int32) (w : pm_W), rec 0 x2 w = some (r, w') → pm_wk p l e { frames := 1, cells := 0, slots := 0, locals := 20 } s m args below meth c D vwCl shM ca ad 3 (some (.int r), w') 18 [(0, .ref (ad 0)), (2, .int x2)] [] w) (x2 : Int32) (w : pm_W) (hf : b_Md_tokenEnd_18  rec x2 w = some (r, w')) : pm_wk p l e { frames := 1, cells := 0, slots := 0, locals := 20 } s m args below meth c D vwCl shM ca ad 3 (some (.int r), w') 18 [(0, .ref (ad 0)), (2, .int x2)] [] w := by
  unfold b_Md_tokenEnd_18 at hf
  refine pm_iload_n K d_Md_tokenEnd_18 1 rfl rfl ?_
  refine pm_aload_n K d_Md_tokenEnd_19 0 rfl rfl ?_
  refine pm_getI K fc_9 (o := 0) rfl 20 rfl (by decide) tw_689 d_Md_tokenEnd_20 (v := w.1 0 20) rfl ?_
  refine pm_icmp_ge K d_Md_tokenEnd_23 56 (by decide) (fun c4 => ?_) (fun c4 => ?_)
  · have hf := pm_ift c4 hf
    refine pm_iload_n K d_Md_tokenEnd_56 1 rfl rfl ?_
    cases hf
    exact pm_iret K d_Md_tokenEnd_57
  · have hf := pm_iff c4 hf
    refine pm_aload_n K d_Md_tokenEnd_26 0 rfl rfl ?_
    refine pm_getR K fc_9 (o := 0) rfl 21 rfl (by decide) tw_690 d_Md_tokenEnd_27 ?_
    refine pm_iload_n K d_Md_tokenEnd_30 1 rfl rfl ?_
    obtain ⟨q5, hf⟩ := pm_bnd hf
    refine pm_cald K (o := 12) rfl rfl q5 d_Md_tokenEnd_31 (v := w.1 12 x2.toNatClampNeg) rfl ?_
    obtain ⟨o6, z6, hf⟩ := pm_bind hf
    refine pm_callS (As := [.int (w.1 12 x2.toNatClampNeg)]) (rest := []) K (c_Md_isBlank K.2.2.2.2.2.2.2.2.2.2.2.2 o6.1 o6.2 (w.1 12 x2.toNatClampNeg) w z6) mi_Md_isBlank tw_718 tw_717 rfl ⟨rfl, rfl, Nat.le_of_ble_eq_true rfl, Nat.le_of_ble_eq_true rfl⟩ rfl (Nat.le_of_ble_eq_true rfl) d_Md_tokenEnd_32 ?_
    refine pm_if_ne K d_Md_tokenEnd_35 56 (by decide) (fun c7 => ?_) (fun c7 => ?_)
    · have hf := pm_iff c7 hf
      refine pm_iload_n K d_Md_tokenEnd_56 1 rfl rfl ?_
      cases hf
      exact pm_iret K d_Md_tokenEnd_57
    · have hf := pm_ift c7 hf
      refine pm_aload_n K d_Md_tokenEnd_38 0 rfl rfl ?_
      refine pm_getR K fc_9 (o := 0) rfl 21 rfl (by decide) tw_690 d_Md_tokenEnd_39 ?_
      refine pm_iload_n K d_Md_tokenEnd_42 1 rfl rfl ?_
      obtain ⟨q8, hf⟩ := pm_bnd hf
      refine pm_cald K (o := 12) rfl rfl q8 d_Md_tokenEnd_43 (v := o6.2.1 12 x2.toNatClampNeg) rfl ?_
      obtain ⟨o9, z9, hf⟩ := pm_bind hf
      refine pm_callS (As := [.int (o6.2.1 12 x2.toNatClampNeg)]) (rest := []) K (c_Md_isSign K.2.2.2.2.2.2.2.2.2.2.2.2 o9.1 o9.2 (o6.2.1 12 x2.toNatClampNeg) o6.2 z9) mi_Md_isSign tw_724 tw_723 rfl ⟨rfl, rfl, Nat.le_of_ble_eq_true rfl, Nat.le_of_ble_eq_true rfl⟩ rfl (Nat.le_of_ble_eq_true rfl) d_Md_tokenEnd_44 ?_
      refine pm_if_ne K d_Md_tokenEnd_47 56 (by decide) (fun c10 => ?_) (fun c10 => ?_)
      · have hf := pm_iff c10 hf
        refine pm_iload_n K d_Md_tokenEnd_56 1 rfl rfl ?_
        cases hf
        exact pm_iret K d_Md_tokenEnd_57
      · have hf := pm_ift c10 hf
        refine pm_iinc (v := x2 + (1 : Int32)) (lv' := [(2, .int (x2 + (1 : Int32))), (0, .ref (ad 0))]) K d_Md_tokenEnd_50 1 rfl rfl (by decide) rfl ?_
        refine pm_goto K d_Md_tokenEnd_53 18 (by decide) ?_
        refine pm_sub (lv' := [(0, .ref (ad 0)), (2, .int (x2 + (1 : Int32)))]) [1, 0] rfl ?_
        exact h18 (x2 + (1 : Int32)) o9.2 hf
set_option maxHeartbeats 4000000 in
set_option maxRecDepth 100000 in
theorem a_Md_tokenEnd {p : Program} {l : Launch} {e : Env} {s : State} {m : MethodId} {args : Array Value} {below : List Frame} {meth : Method} {c : Code} {D : va_G} {ca : Nat → ClassId} {ad : Nat → Nat} {E : (Nat → Prop) → State → Heap → Prop} (K : pm_ok p s m args meth c k_Md_tokenEnd 3 pmTs R_Md D vwCl (tyl ca) shM ad E (some .int)) (r : Int32) (w' : pm_W) : ∀ n : Nat, (∀ (x2 : Int32) (w : pm_W), l_Md_tokenEnd  n 0 x2 w = some (r, w') → pm_wk p l e { frames := 1, cells := 0, slots := 0, locals := 20 } s m args below meth c D vwCl shM ca ad 3 (some (.int r), w') 18 [(0, .ref (ad 0)), (2, .int x2)] [] w) := by
  intro n
  induction n with
  | zero => exact fun _ _ hf => (by cases hf)
  | succ n ih => exact fun x2 w hf => t_Md_tokenEnd_18 K (l_Md_tokenEnd n) r w' (ih) x2 w hf
set_option maxHeartbeats 4000000 in
set_option maxRecDepth 100000 in
theorem t_Md_tokenEnd {p : Program} {l : Launch} {e : Env} {s : State} {m : MethodId} {args : Array Value} {below : List Frame} {meth : Method} {c : Code} {D : va_G} {ca : Nat → ClassId} {ad : Nat → Nat} {E : (Nat → Prop) → State → Heap → Prop} (K : pm_ok p s m args meth c k_Md_tokenEnd 3 pmTs R_Md D vwCl (tyl ca) shM ad E (some .int)) (r : Int32) (w' : pm_W) (x1 : Int32) (w : pm_W) (hf : f_Md_tokenEnd  x1 w = some (r, w')) : pm_wk p l e { frames := 1, cells := 0, slots := 0, locals := 20 } s m args below meth c D vwCl shM ca ad 3 (some (.int r), w') 0 [(0, .ref (ad 0)), (1, .int x1)] [] w := by
  unfold f_Md_tokenEnd at hf
  have h18 := (a_Md_tokenEnd (l := l) (e := e) (below := below) K  r w' pm_fuel)
  refine pm_aload_n K d_Md_tokenEnd_0 0 rfl rfl ?_
  refine pm_getR K fc_9 (o := 0) rfl 21 rfl (by decide) tw_690 d_Md_tokenEnd_1 ?_
  refine pm_iload_n K d_Md_tokenEnd_4 1 rfl rfl ?_
  obtain ⟨q1, hf⟩ := pm_bnd hf
  refine pm_cald K (o := 12) rfl rfl q1 d_Md_tokenEnd_5 (v := w.1 12 x1.toNatClampNeg) rfl ?_
  obtain ⟨o2, z2, hf⟩ := pm_bind hf
  refine pm_callS (As := [.int (w.1 12 x1.toNatClampNeg)]) (rest := []) K (c_Md_isSign K.2.2.2.2.2.2.2.2.2.2.2.2 o2.1 o2.2 (w.1 12 x1.toNatClampNeg) w z2) mi_Md_isSign tw_724 tw_723 rfl ⟨rfl, rfl, Nat.le_of_ble_eq_true rfl, Nat.le_of_ble_eq_true rfl⟩ rfl (Nat.le_of_ble_eq_true rfl) d_Md_tokenEnd_6 ?_
  refine pm_if_eq K d_Md_tokenEnd_9 16 (by decide) (fun c3 => ?_) (fun c3 => ?_)
  · have hf := pm_ift c3 hf
    refine pm_iload_n K d_Md_tokenEnd_16 1 rfl rfl ?_
    refine pm_istore_n (lv' := [(2, .int x1), (0, .ref (ad 0)), (1, .int x1)]) K d_Md_tokenEnd_17 rfl (by decide) rfl ?_
    refine pm_sub (lv' := [(0, .ref (ad 0)), (2, .int x1)]) [1, 0] rfl ?_
    exact h18 x1 o2.2 hf
  · have hf := pm_iff c3 hf
    refine pm_iload_n K d_Md_tokenEnd_12 1 rfl rfl ?_
    refine pm_iconst (v := 1) K d_Md_tokenEnd_13 (by decide) ?_
    refine pm_iadd K d_Md_tokenEnd_14 ?_
    cases hf
    exact pm_iret K d_Md_tokenEnd_15
/-- CellLispModel.tokenEnd(I)I -/
theorem c_Md_tokenEnd {l : Launch} {D : va_G} {ca : Nat → ClassId} {ad : Nat → Nat} {E : (Nat → Prop) → State → Heap → Prop} (hEc : pm_Ecl E) (r : Int32) (w' : pm_W) (x1 : Int32) (w : pm_W) (hf : f_Md_tokenEnd  x1 w = some (r, w')) : pm_Met l pmTs D vwCl (tyl ca) shM ca ad E y_Md_tokenEnd k_Md_tokenEnd 3 (some .int) { frames := 1, cells := 0, slots := 0, locals := 20 } [.ref (ad 0), .int x1] w (some (.int r), w') :=
  pm_start pmTs_good hEc (by decide) (Nat.le_of_ble_eq_true rfl) (fun p e s m below meth c K => t_Md_tokenEnd K r w' x1 w hf)
def b_Md_drop_2 (rec : Nat → Int32 → Int32 → pm_W → Option pm_W) (x1 : Int32) (x2 : Int32) (w : pm_W) : Option pm_W :=
  if (w.1 0 20) ≤ x2 then
    some (pm_setI w 0 20 ((w.1 0 20) - x1))
  else
    if x2 < 0 ∨ 120 ≤ x2.toNatClampNeg then none else
    if (x2 - x1) < 0 ∨ 120 ≤ (x2 - x1).toNatClampNeg then none else
    rec 0 x1 (x2 + (1 : Int32)) (pm_setI w 12 (x2 - x1).toNatClampNeg (vp_nar .char (w.1 12 x2.toNatClampNeg)))
def l_Md_drop : Nat → Nat → Int32 → Int32 → pm_W → Option pm_W := pm_it (fun _ _ _ _ => none) (fun rec k x1 x2 w => b_Md_drop_2  rec x1 x2 w)
def f_Md_drop (x1 : Int32) (w : pm_W) : Option pm_W :=
  (l_Md_drop  pm_fuel) 0 x1 x1 w
set_option maxHeartbeats 4000000 in
set_option maxRecDepth 100000 in
theorem t_Md_drop_2 {p : Program} {l : Launch} {e : Env} {s : State} {m : MethodId} {args : Array Value} {below : List Frame} {meth : Method} {c : Code} {D : va_G} {ca : Nat → ClassId} {ad : Nat → Nat} {E : (Nat → Prop) → State → Heap → Prop} (K : pm_ok p s m args meth c k_Md_drop 3 pmTs R_Md D vwCl (tyl ca) shM ad E none) (rec : Nat → Int32 → Int32 → pm_W → Option pm_W) (w' : pm_W) (h2 : ∀ (x1 : Int32) (x2 : Int32) (w : pm_W), rec 0 x1 x2 w = some w' → pm_wk p l e { frames := 0, cells := 0, slots := 0, locals := 0 } s m args below meth c D vwCl shM ca ad 3 (none, w') 2 [(0, .ref (ad 0)), (1, .int x1), (2, .int x2)] [] w) (x1 : Int32) (x2 : Int32) (w : pm_W) (hf : b_Md_drop_2  rec x1 x2 w = some w') : pm_wk p l e { frames := 0, cells := 0, slots := 0, locals := 0 } s m args below meth c D vwCl shM ca ad 3 (none, w') 2 [(0, .ref (ad 0)), (1, .int x1), (2, .int x2)] [] w := by
  unfold b_Md_drop_2 at hf
  refine pm_iload_n K d_Md_drop_2 2 rfl rfl ?_
  refine pm_aload_n K d_Md_drop_3 0 rfl rfl ?_
  refine pm_getI K fc_9 (o := 0) rfl 20 rfl (by decide) tw_689 d_Md_drop_4 (v := w.1 0 20) rfl ?_
  refine pm_icmp_ge K d_Md_drop_7 30 (by decide) (fun c1 => ?_) (fun c1 => ?_)
  · have hf := pm_ift c1 hf
    refine pm_aload_n K d_Md_drop_30 0 rfl rfl ?_
    refine pm_aload_n K d_Md_drop_31 0 rfl rfl ?_
    refine pm_getI K fc_9 (o := 0) rfl 20 rfl (by decide) tw_689 d_Md_drop_32 (v := w.1 0 20) rfl ?_
    refine pm_iload_n K d_Md_drop_35 1 rfl rfl ?_
    refine pm_isub K d_Md_drop_36 ?_
    refine pm_putI K fc_9 (o := 0) (ty := .int) rfl 20 rfl (by decide) tw_689 rfl rfl rfl rfl d_Md_drop_37 ?_
    cases hf
    exact pm_vret K d_Md_drop_40
  · have hf := pm_iff c1 hf
    refine pm_aload_n K d_Md_drop_10 0 rfl rfl ?_
    refine pm_getR K fc_9 (o := 0) rfl 21 rfl (by decide) tw_690 d_Md_drop_11 ?_
    refine pm_iload_n K d_Md_drop_14 2 rfl rfl ?_
    refine pm_iload_n K d_Md_drop_15 1 rfl rfl ?_
    refine pm_isub K d_Md_drop_16 ?_
    refine pm_aload_n K d_Md_drop_17 0 rfl rfl ?_
    refine pm_getR K fc_9 (o := 0) rfl 21 rfl (by decide) tw_690 d_Md_drop_18 ?_
    refine pm_iload_n K d_Md_drop_21 2 rfl rfl ?_
    obtain ⟨q2, hf⟩ := pm_bnd hf
    refine pm_cald K (o := 12) rfl rfl q2 d_Md_drop_22 (v := w.1 12 x2.toNatClampNeg) rfl ?_
    obtain ⟨q3, hf⟩ := pm_bnd hf
    refine pm_cast K (o := 12) rfl rfl q3 d_Md_drop_23 ?_
    refine pm_iinc (v := x2 + (1 : Int32)) (lv' := [(2, .int (x2 + (1 : Int32))), (0, .ref (ad 0)), (1, .int x1)]) K d_Md_drop_24 2 rfl rfl (by decide) rfl ?_
    refine pm_goto K d_Md_drop_27 2 (by decide) ?_
    refine pm_sub (lv' := [(0, .ref (ad 0)), (1, .int x1), (2, .int (x2 + (1 : Int32)))]) [1, 2, 0] rfl ?_
    exact h2 x1 (x2 + (1 : Int32)) (pm_setI w 12 (x2 - x1).toNatClampNeg (vp_nar .char (w.1 12 x2.toNatClampNeg))) hf
set_option maxHeartbeats 4000000 in
set_option maxRecDepth 100000 in
theorem a_Md_drop {p : Program} {l : Launch} {e : Env} {s : State} {m : MethodId} {args : Array Value} {below : List Frame} {meth : Method} {c : Code} {D : va_G} {ca : Nat → ClassId} {ad : Nat → Nat} {E : (Nat → Prop) → State → Heap → Prop} (K : pm_ok p s m args meth c k_Md_drop 3 pmTs R_Md D vwCl (tyl ca) shM ad E none) (w' : pm_W) : ∀ n : Nat, (∀ (x1 : Int32) (x2 : Int32) (w : pm_W), l_Md_drop  n 0 x1 x2 w = some w' → pm_wk p l e { frames := 0, cells := 0, slots := 0, locals := 0 } s m args below meth c D vwCl shM ca ad 3 (none, w') 2 [(0, .ref (ad 0)), (1, .int x1), (2, .int x2)] [] w) := by
  intro n
  induction n with
  | zero => exact fun _ _ _ hf => (by cases hf)
  | succ n ih => exact fun x1 x2 w hf => t_Md_drop_2 K (l_Md_drop n) w' (ih) x1 x2 w hf
set_option maxHeartbeats 4000000 in
set_option maxRecDepth 100000 in
theorem t_Md_drop {p : Program} {l : Launch} {e : Env} {s : State} {m : MethodId} {args : Array Value} {below : List Frame} {meth : Method} {c : Code} {D : va_G} {ca : Nat → ClassId} {ad : Nat → Nat} {E : (Nat → Prop) → State → Heap → Prop} (K : pm_ok p s m args meth c k_Md_drop 3 pmTs R_Md D vwCl (tyl ca) shM ad E none) (w' : pm_W) (x1 : Int32) (w : pm_W) (hf : f_Md_drop  x1 w = some w') : pm_wk p l e { frames := 0, cells := 0, slots := 0, locals := 0 } s m args below meth c D vwCl shM ca ad 3 (none, w') 0 [(0, .ref (ad 0)), (1, .int x1)] [] w := by
  unfold f_Md_drop at hf
  have h2 := (a_Md_drop (l := l) (e := e) (below := below) K  w' pm_fuel)
  refine pm_iload_n K d_Md_drop_0 1 rfl rfl ?_
  refine pm_istore_n (lv' := [(2, .int x1), (0, .ref (ad 0)), (1, .int x1)]) K d_Md_drop_1 rfl (by decide) rfl ?_
  refine pm_sub (lv' := [(0, .ref (ad 0)), (1, .int x1), (2, .int x1)]) [1, 2, 0] rfl ?_
  exact h2 x1 x1 w hf
/-- CellLispModel.drop(I)V -/
theorem c_Md_drop {l : Launch} {D : va_G} {ca : Nat → ClassId} {ad : Nat → Nat} {E : (Nat → Prop) → State → Heap → Prop} (hEc : pm_Ecl E) (w' : pm_W) (x1 : Int32) (w : pm_W) (hf : f_Md_drop  x1 w = some w') : pm_Met l pmTs D vwCl (tyl ca) shM ca ad E y_Md_drop k_Md_drop 3 none { frames := 0, cells := 0, slots := 0, locals := 0 } [.ref (ad 0), .int x1] w (none, w') :=
  pm_start pmTs_good hEc (by decide) (Nat.le_of_ble_eq_true rfl) (fun p e s m below meth c K => t_Md_drop K w' x1 w hf)
def b_Md_isFigure_42 (rec : Nat → Int32 → Int32 → Int32 → pm_W → Option (Int32 × pm_W)) (x2 : Int32) (x4 : Int32) (x5 : Int32) (w : pm_W) : Option (Int32 × pm_W) :=
  if x2 ≤ x5 then
    if x4 &&& 1 = x4 then
      some (x4, w)
    else none
  else
    if x4 = 0 then
      rec 0 x2 (0 : Int32) (x5 + (1 : Int32)) w
    else
      if x5 < 0 ∨ 120 ≤ x5.toNatClampNeg then none else
      if (w.1 12 x5.toNatClampNeg) < (48 : Int32) then
        rec 0 x2 (0 : Int32) (x5 + (1 : Int32)) w
      else
        if x5 < 0 ∨ 120 ≤ x5.toNatClampNeg then none else
        if (57 : Int32) < (w.1 12 x5.toNatClampNeg) then
          rec 0 x2 (0 : Int32) (x5 + (1 : Int32)) w
        else
          rec 0 x2 (1 : Int32) (x5 + (1 : Int32)) w
def l_Md_isFigure : Nat → Nat → Int32 → Int32 → Int32 → pm_W → Option (Int32 × pm_W) := pm_it (fun _ _ _ _ _ => none) (fun rec k x2 x4 x5 w => b_Md_isFigure_42  rec x2 x4 x5 w)
def f_Md_isFigure (x1 : Int32) (x2 : Int32) (w : pm_W) : Option (Int32 × pm_W) :=
  if x1 < 0 ∨ 120 ≤ x1.toNatClampNeg then none else
  if (w.1 12 x1.toNatClampNeg) = (45 : Int32) then
    if x2 ≤ (x1 + (1 : Int32)) then
      (l_Md_isFigure  pm_fuel) 0 x2 (0 : Int32) (x1 + (1 : Int32)) w
    else
      if (10 : Int32) ≤ (x2 - (x1 + (1 : Int32))) then
        (l_Md_isFigure  pm_fuel) 0 x2 (0 : Int32) (x1 + (1 : Int32)) w
      else
        (l_Md_isFigure  pm_fuel) 0 x2 (1 : Int32) (x1 + (1 : Int32)) w
  else
    if x2 ≤ x1 then
      (l_Md_isFigure  pm_fuel) 0 x2 (0 : Int32) x1 w
    else
      if (10 : Int32) ≤ (x2 - x1) then
        (l_Md_isFigure  pm_fuel) 0 x2 (0 : Int32) x1 w
      else
        (l_Md_isFigure  pm_fuel) 0 x2 (1 : Int32) x1 w
set_option maxHeartbeats 4000000 in
set_option maxRecDepth 100000 in
theorem t_Md_isFigure_42 {p : Program} {l : Launch} {e : Env} {s : State} {m : MethodId} {args : Array Value} {below : List Frame} {meth : Method} {c : Code} {D : va_G} {ca : Nat → ClassId} {ad : Nat → Nat} {E : (Nat → Prop) → State → Heap → Prop} (K : pm_ok p s m args meth c k_Md_isFigure 6 pmTs R_Md D vwCl (tyl ca) shM ad E (some .boolean)) (rec : Nat → Int32 → Int32 → Int32 → pm_W → Option (Int32 × pm_W)) (r : Int32) (w' : pm_W) (h42 : ∀ (x2 : Int32) (x4 : Int32) (x5 : Int32) (w : pm_W), rec 0 x2 x4 x5 w = some (r, w') → pm_wk p l e { frames := 0, cells := 0, slots := 0, locals := 0 } s m args below meth c D vwCl shM ca ad 6 (some (.int r), w') 42 [(0, .ref (ad 0)), (2, .int x2), (4, .int x4), (5, .int x5)] [] w) (x2 : Int32) (x4 : Int32) (x5 : Int32) (w : pm_W) (hf : b_Md_isFigure_42  rec x2 x4 x5 w = some (r, w')) : pm_wk p l e { frames := 0, cells := 0, slots := 0, locals := 0 } s m args below meth c D vwCl shM ca ad 6 (some (.int r), w') 42 [(0, .ref (ad 0)), (2, .int x2), (4, .int x4), (5, .int x5)] [] w := by
  unfold b_Md_isFigure_42 at hf
  refine pm_iload K d_Md_isFigure_42 3 rfl ?_
  refine pm_iload_n K d_Md_isFigure_44 1 rfl rfl ?_
  refine pm_icmp_ge K d_Md_isFigure_45 90 (by decide) (fun c7 => ?_) (fun c7 => ?_)
  · have hf := pm_ift c7 hf
    refine pm_iload K d_Md_isFigure_90 2 rfl ?_
    obtain ⟨q8, hf⟩ := pm_chk hf
    cases hf
    exact pm_zret K (congrArg Value.int q8) d_Md_isFigure_92
  · have hf := pm_iff c7 hf
    refine pm_iload K d_Md_isFigure_48 2 rfl ?_
    refine pm_if_eq K d_Md_isFigure_50 81 (by decide) (fun c9 => ?_) (fun c9 => ?_)
    · have hf := pm_ift c9 hf
      refine pm_iconst (v := 0) K d_Md_isFigure_81 (by decide) ?_
      refine pm_istore (lv' := [(4, .int (0 : Int32)), (0, .ref (ad 0)), (2, .int x2), (5, .int x5)]) K d_Md_isFigure_82 (by decide) rfl ?_
      refine pm_iinc (v := x5 + (1 : Int32)) (lv' := [(5, .int (x5 + (1 : Int32))), (4, .int (0 : Int32)), (0, .ref (ad 0)), (2, .int x2)]) K d_Md_isFigure_84 3 rfl rfl (by decide) rfl ?_
      refine pm_goto K d_Md_isFigure_87 42 (by decide) ?_
      refine pm_sub (lv' := [(0, .ref (ad 0)), (2, .int x2), (4, .int (0 : Int32)), (5, .int (x5 + (1 : Int32)))]) [2, 3, 1, 0] rfl ?_
      exact h42 x2 (0 : Int32) (x5 + (1 : Int32)) w hf
    · have hf := pm_iff c9 hf
      refine pm_aload_n K d_Md_isFigure_53 0 rfl rfl ?_
      refine pm_getR K fc_9 (o := 0) rfl 21 rfl (by decide) tw_690 d_Md_isFigure_54 ?_
      refine pm_iload K d_Md_isFigure_57 3 rfl ?_
      obtain ⟨q10, hf⟩ := pm_bnd hf
      refine pm_cald K (o := 12) rfl rfl q10 d_Md_isFigure_59 (v := w.1 12 x5.toNatClampNeg) rfl ?_
      refine pm_bipush (v := 48) K d_Md_isFigure_60 (by decide) ?_
      refine pm_icmp_lt K d_Md_isFigure_62 81 (by decide) (fun c11 => ?_) (fun c11 => ?_)
      · have hf := pm_ift c11 hf
        refine pm_iconst (v := 0) K d_Md_isFigure_81 (by decide) ?_
        refine pm_istore (lv' := [(4, .int (0 : Int32)), (0, .ref (ad 0)), (2, .int x2), (5, .int x5)]) K d_Md_isFigure_82 (by decide) rfl ?_
        refine pm_iinc (v := x5 + (1 : Int32)) (lv' := [(5, .int (x5 + (1 : Int32))), (4, .int (0 : Int32)), (0, .ref (ad 0)), (2, .int x2)]) K d_Md_isFigure_84 3 rfl rfl (by decide) rfl ?_
        refine pm_goto K d_Md_isFigure_87 42 (by decide) ?_
        refine pm_sub (lv' := [(0, .ref (ad 0)), (2, .int x2), (4, .int (0 : Int32)), (5, .int (x5 + (1 : Int32)))]) [2, 3, 1, 0] rfl ?_
        exact h42 x2 (0 : Int32) (x5 + (1 : Int32)) w hf
      · have hf := pm_iff c11 hf
        refine pm_aload_n K d_Md_isFigure_65 0 rfl rfl ?_
        refine pm_getR K fc_9 (o := 0) rfl 21 rfl (by decide) tw_690 d_Md_isFigure_66 ?_
        refine pm_iload K d_Md_isFigure_69 3 rfl ?_
        obtain ⟨q12, hf⟩ := pm_bnd hf
        refine pm_cald K (o := 12) rfl rfl q12 d_Md_isFigure_71 (v := w.1 12 x5.toNatClampNeg) rfl ?_
        refine pm_bipush (v := 57) K d_Md_isFigure_72 (by decide) ?_
        refine pm_icmp_gt K d_Md_isFigure_74 81 (by decide) (fun c13 => ?_) (fun c13 => ?_)
        · have hf := pm_ift c13 hf
          refine pm_iconst (v := 0) K d_Md_isFigure_81 (by decide) ?_
          refine pm_istore (lv' := [(4, .int (0 : Int32)), (0, .ref (ad 0)), (2, .int x2), (5, .int x5)]) K d_Md_isFigure_82 (by decide) rfl ?_
          refine pm_iinc (v := x5 + (1 : Int32)) (lv' := [(5, .int (x5 + (1 : Int32))), (4, .int (0 : Int32)), (0, .ref (ad 0)), (2, .int x2)]) K d_Md_isFigure_84 3 rfl rfl (by decide) rfl ?_
          refine pm_goto K d_Md_isFigure_87 42 (by decide) ?_
          refine pm_sub (lv' := [(0, .ref (ad 0)), (2, .int x2), (4, .int (0 : Int32)), (5, .int (x5 + (1 : Int32)))]) [2, 3, 1, 0] rfl ?_
          exact h42 x2 (0 : Int32) (x5 + (1 : Int32)) w hf
        · have hf := pm_iff c13 hf
          refine pm_iconst (v := 1) K d_Md_isFigure_77 (by decide) ?_
          refine pm_goto K d_Md_isFigure_78 82 (by decide) ?_
          refine pm_istore (lv' := [(4, .int (1 : Int32)), (0, .ref (ad 0)), (2, .int x2), (5, .int x5)]) K d_Md_isFigure_82 (by decide) rfl ?_
          refine pm_iinc (v := x5 + (1 : Int32)) (lv' := [(5, .int (x5 + (1 : Int32))), (4, .int (1 : Int32)), (0, .ref (ad 0)), (2, .int x2)]) K d_Md_isFigure_84 3 rfl rfl (by decide) rfl ?_
          refine pm_goto K d_Md_isFigure_87 42 (by decide) ?_
          refine pm_sub (lv' := [(0, .ref (ad 0)), (2, .int x2), (4, .int (1 : Int32)), (5, .int (x5 + (1 : Int32)))]) [2, 3, 1, 0] rfl ?_
          exact h42 x2 (1 : Int32) (x5 + (1 : Int32)) w hf
set_option maxHeartbeats 4000000 in
set_option maxRecDepth 100000 in
theorem a_Md_isFigure {p : Program} {l : Launch} {e : Env} {s : State} {m : MethodId} {args : Array Value} {below : List Frame} {meth : Method} {c : Code} {D : va_G} {ca : Nat → ClassId} {ad : Nat → Nat} {E : (Nat → Prop) → State → Heap → Prop} (K : pm_ok p s m args meth c k_Md_isFigure 6 pmTs R_Md D vwCl (tyl ca) shM ad E (some .boolean)) (r : Int32) (w' : pm_W) : ∀ n : Nat, (∀ (x2 : Int32) (x4 : Int32) (x5 : Int32) (w : pm_W), l_Md_isFigure  n 0 x2 x4 x5 w = some (r, w') → pm_wk p l e { frames := 0, cells := 0, slots := 0, locals := 0 } s m args below meth c D vwCl shM ca ad 6 (some (.int r), w') 42 [(0, .ref (ad 0)), (2, .int x2), (4, .int x4), (5, .int x5)] [] w) := by
  intro n
  induction n with
  | zero => exact fun _ _ _ _ hf => (by cases hf)
  | succ n ih => exact fun x2 x4 x5 w hf => t_Md_isFigure_42 K (l_Md_isFigure n) r w' (ih) x2 x4 x5 w hf
set_option maxHeartbeats 4000000 in
set_option maxRecDepth 100000 in
theorem t_Md_isFigure {p : Program} {l : Launch} {e : Env} {s : State} {m : MethodId} {args : Array Value} {below : List Frame} {meth : Method} {c : Code} {D : va_G} {ca : Nat → ClassId} {ad : Nat → Nat} {E : (Nat → Prop) → State → Heap → Prop} (K : pm_ok p s m args meth c k_Md_isFigure 6 pmTs R_Md D vwCl (tyl ca) shM ad E (some .boolean)) (r : Int32) (w' : pm_W) (x1 : Int32) (x2 : Int32) (w : pm_W) (hf : f_Md_isFigure  x1 x2 w = some (r, w')) : pm_wk p l e { frames := 0, cells := 0, slots := 0, locals := 0 } s m args below meth c D vwCl shM ca ad 6 (some (.int r), w') 0 [(0, .ref (ad 0)), (1, .int x1), (2, .int x2)] [] w := by
  unfold f_Md_isFigure at hf
  have h42 := (a_Md_isFigure (l := l) (e := e) (below := below) K  r w' pm_fuel)
  refine pm_aload_n K d_Md_isFigure_0 0 rfl rfl ?_
  refine pm_getR K fc_9 (o := 0) rfl 21 rfl (by decide) tw_690 d_Md_isFigure_1 ?_
  refine pm_iload_n K d_Md_isFigure_4 1 rfl rfl ?_
  obtain ⟨q1, hf⟩ := pm_bnd hf
  refine pm_cald K (o := 12) rfl rfl q1 d_Md_isFigure_5 (v := w.1 12 x1.toNatClampNeg) rfl ?_
  refine pm_bipush (v := 45) K d_Md_isFigure_6 (by decide) ?_
  refine pm_icmp_ne K d_Md_isFigure_8 17 (by decide) (fun c2 => ?_) (fun c2 => ?_)
  · have hf := pm_iff c2 hf
    refine pm_iload_n K d_Md_isFigure_17 1 rfl rfl ?_
    refine pm_istore_n (lv' := [(3, .int x1), (0, .ref (ad 0)), (1, .int x1), (2, .int x2)]) K d_Md_isFigure_18 rfl (by decide) rfl ?_
    refine pm_iload_n K d_Md_isFigure_19 0 rfl rfl ?_
    refine pm_iload_n K d_Md_isFigure_20 3 rfl rfl ?_
    refine pm_icmp_ge K d_Md_isFigure_21 36 (by decide) (fun c3 => ?_) (fun c3 => ?_)
    · have hf := pm_ift c3 hf
      refine pm_iconst (v := 0) K d_Md_isFigure_36 (by decide) ?_
      refine pm_istore (lv' := [(4, .int (0 : Int32)), (3, .int x1), (0, .ref (ad 0)), (1, .int x1), (2, .int x2)]) K d_Md_isFigure_37 (by decide) rfl ?_
      refine pm_iload_n K d_Md_isFigure_39 1 rfl rfl ?_
      refine pm_istore (lv' := [(5, .int x1), (4, .int (0 : Int32)), (3, .int x1), (0, .ref (ad 0)), (1, .int x1), (2, .int x2)]) K d_Md_isFigure_40 (by decide) rfl ?_
      refine pm_sub (lv' := [(0, .ref (ad 0)), (2, .int x2), (4, .int (0 : Int32)), (5, .int x1)]) [3, 5, 1, 0] rfl ?_
      exact h42 x2 (0 : Int32) x1 w hf
    · have hf := pm_iff c3 hf
      refine pm_iload_n K d_Md_isFigure_24 3 rfl rfl ?_
      refine pm_iload_n K d_Md_isFigure_25 0 rfl rfl ?_
      refine pm_isub K d_Md_isFigure_26 ?_
      refine pm_bipush (v := 10) K d_Md_isFigure_27 (by decide) ?_
      refine pm_icmp_ge K d_Md_isFigure_29 36 (by decide) (fun c4 => ?_) (fun c4 => ?_)
      · have hf := pm_ift c4 hf
        refine pm_iconst (v := 0) K d_Md_isFigure_36 (by decide) ?_
        refine pm_istore (lv' := [(4, .int (0 : Int32)), (3, .int x1), (0, .ref (ad 0)), (1, .int x1), (2, .int x2)]) K d_Md_isFigure_37 (by decide) rfl ?_
        refine pm_iload_n K d_Md_isFigure_39 1 rfl rfl ?_
        refine pm_istore (lv' := [(5, .int x1), (4, .int (0 : Int32)), (3, .int x1), (0, .ref (ad 0)), (1, .int x1), (2, .int x2)]) K d_Md_isFigure_40 (by decide) rfl ?_
        refine pm_sub (lv' := [(0, .ref (ad 0)), (2, .int x2), (4, .int (0 : Int32)), (5, .int x1)]) [3, 5, 1, 0] rfl ?_
        exact h42 x2 (0 : Int32) x1 w hf
      · have hf := pm_iff c4 hf
        refine pm_iconst (v := 1) K d_Md_isFigure_32 (by decide) ?_
        refine pm_goto K d_Md_isFigure_33 37 (by decide) ?_
        refine pm_istore (lv' := [(4, .int (1 : Int32)), (3, .int x1), (0, .ref (ad 0)), (1, .int x1), (2, .int x2)]) K d_Md_isFigure_37 (by decide) rfl ?_
        refine pm_iload_n K d_Md_isFigure_39 1 rfl rfl ?_
        refine pm_istore (lv' := [(5, .int x1), (4, .int (1 : Int32)), (3, .int x1), (0, .ref (ad 0)), (1, .int x1), (2, .int x2)]) K d_Md_isFigure_40 (by decide) rfl ?_
        refine pm_sub (lv' := [(0, .ref (ad 0)), (2, .int x2), (4, .int (1 : Int32)), (5, .int x1)]) [3, 5, 1, 0] rfl ?_
        exact h42 x2 (1 : Int32) x1 w hf
  · have hf := pm_ift c2 hf
    refine pm_iload_n K d_Md_isFigure_11 1 rfl rfl ?_
    refine pm_iconst (v := 1) K d_Md_isFigure_12 (by decide) ?_
    refine pm_iadd K d_Md_isFigure_13 ?_
    refine pm_goto K d_Md_isFigure_14 18 (by decide) ?_
    refine pm_istore_n (lv' := [(3, .int (x1 + (1 : Int32))), (0, .ref (ad 0)), (1, .int x1), (2, .int x2)]) K d_Md_isFigure_18 rfl (by decide) rfl ?_
    refine pm_iload_n K d_Md_isFigure_19 0 rfl rfl ?_
    refine pm_iload_n K d_Md_isFigure_20 3 rfl rfl ?_
    refine pm_icmp_ge K d_Md_isFigure_21 36 (by decide) (fun c5 => ?_) (fun c5 => ?_)
    · have hf := pm_ift c5 hf
      refine pm_iconst (v := 0) K d_Md_isFigure_36 (by decide) ?_
      refine pm_istore (lv' := [(4, .int (0 : Int32)), (3, .int (x1 + (1 : Int32))), (0, .ref (ad 0)), (1, .int x1), (2, .int x2)]) K d_Md_isFigure_37 (by decide) rfl ?_
      refine pm_iload_n K d_Md_isFigure_39 1 rfl rfl ?_
      refine pm_istore (lv' := [(5, .int (x1 + (1 : Int32))), (4, .int (0 : Int32)), (3, .int (x1 + (1 : Int32))), (0, .ref (ad 0)), (1, .int x1), (2, .int x2)]) K d_Md_isFigure_40 (by decide) rfl ?_
      refine pm_sub (lv' := [(0, .ref (ad 0)), (2, .int x2), (4, .int (0 : Int32)), (5, .int (x1 + (1 : Int32)))]) [3, 5, 1, 0] rfl ?_
      exact h42 x2 (0 : Int32) (x1 + (1 : Int32)) w hf
    · have hf := pm_iff c5 hf
      refine pm_iload_n K d_Md_isFigure_24 3 rfl rfl ?_
      refine pm_iload_n K d_Md_isFigure_25 0 rfl rfl ?_
      refine pm_isub K d_Md_isFigure_26 ?_
      refine pm_bipush (v := 10) K d_Md_isFigure_27 (by decide) ?_
      refine pm_icmp_ge K d_Md_isFigure_29 36 (by decide) (fun c6 => ?_) (fun c6 => ?_)
      · have hf := pm_ift c6 hf
        refine pm_iconst (v := 0) K d_Md_isFigure_36 (by decide) ?_
        refine pm_istore (lv' := [(4, .int (0 : Int32)), (3, .int (x1 + (1 : Int32))), (0, .ref (ad 0)), (1, .int x1), (2, .int x2)]) K d_Md_isFigure_37 (by decide) rfl ?_
        refine pm_iload_n K d_Md_isFigure_39 1 rfl rfl ?_
        refine pm_istore (lv' := [(5, .int (x1 + (1 : Int32))), (4, .int (0 : Int32)), (3, .int (x1 + (1 : Int32))), (0, .ref (ad 0)), (1, .int x1), (2, .int x2)]) K d_Md_isFigure_40 (by decide) rfl ?_
        refine pm_sub (lv' := [(0, .ref (ad 0)), (2, .int x2), (4, .int (0 : Int32)), (5, .int (x1 + (1 : Int32)))]) [3, 5, 1, 0] rfl ?_
        exact h42 x2 (0 : Int32) (x1 + (1 : Int32)) w hf
      · have hf := pm_iff c6 hf
        refine pm_iconst (v := 1) K d_Md_isFigure_32 (by decide) ?_
        refine pm_goto K d_Md_isFigure_33 37 (by decide) ?_
        refine pm_istore (lv' := [(4, .int (1 : Int32)), (3, .int (x1 + (1 : Int32))), (0, .ref (ad 0)), (1, .int x1), (2, .int x2)]) K d_Md_isFigure_37 (by decide) rfl ?_
        refine pm_iload_n K d_Md_isFigure_39 1 rfl rfl ?_
        refine pm_istore (lv' := [(5, .int (x1 + (1 : Int32))), (4, .int (1 : Int32)), (3, .int (x1 + (1 : Int32))), (0, .ref (ad 0)), (1, .int x1), (2, .int x2)]) K d_Md_isFigure_40 (by decide) rfl ?_
        refine pm_sub (lv' := [(0, .ref (ad 0)), (2, .int x2), (4, .int (1 : Int32)), (5, .int (x1 + (1 : Int32)))]) [3, 5, 1, 0] rfl ?_
        exact h42 x2 (1 : Int32) (x1 + (1 : Int32)) w hf
/-- CellLispModel.isFigure(II)Z -/
theorem c_Md_isFigure {l : Launch} {D : va_G} {ca : Nat → ClassId} {ad : Nat → Nat} {E : (Nat → Prop) → State → Heap → Prop} (hEc : pm_Ecl E) (r : Int32) (w' : pm_W) (x1 : Int32) (x2 : Int32) (w : pm_W) (hf : f_Md_isFigure  x1 x2 w = some (r, w')) : pm_Met l pmTs D vwCl (tyl ca) shM ca ad E y_Md_isFigure k_Md_isFigure 6 (some .boolean) { frames := 0, cells := 0, slots := 0, locals := 0 } [.ref (ad 0), .int x1, .int x2] w (some (.int r), w') :=
  pm_start pmTs_good hEc (by decide) (Nat.le_of_ble_eq_true rfl) (fun p e s m below meth c K => t_Md_isFigure K r w' x1 x2 w hf)
