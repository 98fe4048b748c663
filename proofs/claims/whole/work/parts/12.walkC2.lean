def f_Output_isFull (S : Nat) (w : pm_W) : Option (Int32 × pm_W) :=
  if (w.1 2 1) < (200 : Int32) then
    some ((0 : Int32), w)
  else
    some ((1 : Int32), w)
set_option maxHeartbeats 4000000 in
set_option maxRecDepth 100000 in
theorem t_Output_isFull {p : Program} {l : Launch} {e : Env} {s : State} {m : MethodId} {args : Array Value} {below : List Frame} {meth : Method} {c : Code} {D : va_G} {ca : Nat → ClassId} {ad : Nat → Nat} {E : (Nat → Prop) → State → Heap → Prop} {S : Nat} (K : pm_ok p s m args meth c k_Output_isFull 1 pmTs R_Output D vwCl (tyl ca) (shC S) ad E (some .boolean)) (r : Int32) (w' : pm_W) (w : pm_W) (hf : f_Output_isFull  S w = some (r, w')) : pm_wk p l e { frames := 0, cells := 0, slots := 0, locals := 0 } s m args below meth c D vwCl (shC S) ca ad 1 (some (.int r), w') 0 [(0, .ref (ad 2))] [] w := by
  unfold f_Output_isFull at hf
  refine pm_aload_n K d_Output_isFull_0 0 rfl rfl ?_
  refine pm_getI K fc_2 (o := 2) rfl 1 rfl (by decide) tw_130 d_Output_isFull_1 (v := w.1 2 1) rfl ?_
  refine pm_sipush (v := 200) K d_Output_isFull_4 (by decide) ?_
  refine pm_icmp_lt K d_Output_isFull_7 14 (by decide) (fun c1 => ?_) (fun c1 => ?_)
  · have hf := pm_ift c1 hf
    refine pm_iconst (v := 0) K d_Output_isFull_14 (by decide) ?_
    cases hf
    exact pm_zret K (by decide) d_Output_isFull_15
  · have hf := pm_iff c1 hf
    refine pm_iconst (v := 1) K d_Output_isFull_10 (by decide) ?_
    refine pm_goto K d_Output_isFull_11 15 (by decide) ?_
    cases hf
    exact pm_zret K (by decide) d_Output_isFull_15
/-- CellLisp$Output.isFull()Z -/
theorem c_Output_isFull {l : Launch} {D : va_G} {ca : Nat → ClassId} {ad : Nat → Nat} {E : (Nat → Prop) → State → Heap → Prop} {S : Nat} (hEc : pm_Ecl E) (r : Int32) (w' : pm_W) (w : pm_W) (hf : f_Output_isFull  S w = some (r, w')) : pm_Met l pmTs D vwCl (tyl ca) (shC S) ca ad E y_Output_isFull k_Output_isFull 1 (some .boolean) { frames := 0, cells := 0, slots := 0, locals := 0 } [.ref (ad 2)] w (some (.int r), w') :=
  pm_start pmTs_good hEc (by decide) (Nat.le_of_ble_eq_true rfl) (fun p e s m below meth c K => t_Output_isFull K r w'  w hf)
def f_Output_put (S : Nat) (x1 : Int32) (w : pm_W) : Option pm_W :=
  if (w.1 2 1) < 0 then
    some w
  else
    if (200 : Int32) ≤ (w.1 2 1) then
      some w
    else
      if (w.1 2 1) < 0 ∨ 200 ≤ (w.1 2 1).toNatClampNeg then none else
      some (pm_setI (pm_setI w 10 (w.1 2 1).toNatClampNeg (vp_nar .char x1)) 2 1 ((w.1 2 1) + (1 : Int32)))
set_option maxHeartbeats 4000000 in
set_option maxRecDepth 100000 in
theorem t_Output_put {p : Program} {l : Launch} {e : Env} {s : State} {m : MethodId} {args : Array Value} {below : List Frame} {meth : Method} {c : Code} {D : va_G} {ca : Nat → ClassId} {ad : Nat → Nat} {E : (Nat → Prop) → State → Heap → Prop} {S : Nat} (K : pm_ok p s m args meth c k_Output_put 2 pmTs R_Output D vwCl (tyl ca) (shC S) ad E none) (w' : pm_W) (x1 : Int32) (w : pm_W) (hf : f_Output_put  S x1 w = some w') : pm_wk p l e { frames := 0, cells := 0, slots := 0, locals := 0 } s m args below meth c D vwCl (shC S) ca ad 2 (none, w') 0 [(0, .ref (ad 2)), (1, .int x1)] [] w := by
  unfold f_Output_put at hf
  refine pm_aload_n K d_Output_put_0 0 rfl rfl ?_
  refine pm_getI K fc_2 (o := 2) rfl 1 rfl (by decide) tw_130 d_Output_put_1 (v := w.1 2 1) rfl ?_
  refine pm_if_lt K d_Output_put_4 37 (by decide) (fun c1 => ?_) (fun c1 => ?_)
  · have hf := pm_ift c1 hf
    cases hf
    exact pm_vret K d_Output_put_37
  · have hf := pm_iff c1 hf
    refine pm_aload_n K d_Output_put_7 0 rfl rfl ?_
    refine pm_getI K fc_2 (o := 2) rfl 1 rfl (by decide) tw_130 d_Output_put_8 (v := w.1 2 1) rfl ?_
    refine pm_sipush (v := 200) K d_Output_put_11 (by decide) ?_
    refine pm_icmp_ge K d_Output_put_14 37 (by decide) (fun c2 => ?_) (fun c2 => ?_)
    · have hf := pm_ift c2 hf
      cases hf
      exact pm_vret K d_Output_put_37
    · have hf := pm_iff c2 hf
      refine pm_aload_n K d_Output_put_17 0 rfl rfl ?_
      refine pm_getR K fc_2 (o := 2) rfl 0 rfl (by decide) tw_129 d_Output_put_18 ?_
      refine pm_aload_n K d_Output_put_21 0 rfl rfl ?_
      refine pm_getI K fc_2 (o := 2) rfl 1 rfl (by decide) tw_130 d_Output_put_22 (v := w.1 2 1) rfl ?_
      refine pm_iload_n K d_Output_put_25 1 rfl rfl ?_
      obtain ⟨q3, hf⟩ := pm_bnd hf
      refine pm_cast K (o := 10) rfl rfl q3 d_Output_put_26 ?_
      refine pm_aload_n K d_Output_put_27 0 rfl rfl ?_
      refine pm_dup K d_Output_put_28 rfl ?_
      refine pm_getI K fc_2 (o := 2) rfl 1 rfl (by decide) tw_130 d_Output_put_29 (v := w.1 2 1) rfl ?_
      refine pm_iconst (v := 1) K d_Output_put_32 (by decide) ?_
      refine pm_iadd K d_Output_put_33 ?_
      refine pm_putI K fc_2 (o := 2) (ty := .int) rfl 1 rfl (by decide) tw_130 rfl rfl rfl rfl d_Output_put_34 ?_
      cases hf
      exact pm_vret K d_Output_put_37
/-- CellLisp$Output.put(C)V -/
theorem c_Output_put {l : Launch} {D : va_G} {ca : Nat → ClassId} {ad : Nat → Nat} {E : (Nat → Prop) → State → Heap → Prop} {S : Nat} (hEc : pm_Ecl E) (w' : pm_W) (x1 : Int32) (w : pm_W) (hf : f_Output_put  S x1 w = some w') : pm_Met l pmTs D vwCl (tyl ca) (shC S) ca ad E y_Output_put k_Output_put 2 none { frames := 0, cells := 0, slots := 0, locals := 0 } [.ref (ad 2), .int x1] w (none, w') :=
  pm_start pmTs_good hEc (by decide) (Nat.le_of_ble_eq_true rfl) (fun p e s m below meth c K => t_Output_put K w' x1 w hf)
def b_Symbols_find_2 (S : Nat) (rec : Nat → Int64 → Int32 → pm_W → Option (Int32 × pm_W)) (y1 : Int64) (x3 : Int32) (w : pm_W) : Option (Int32 × pm_W) :=
  if (w.1 3 2) ≤ x3 then
    some ((-1 : Int32), w)
  else
    if (40 : Int32) ≤ x3 then
      some ((-1 : Int32), w)
    else
      if x3 < 0 ∨ 40 ≤ x3.toNatClampNeg then none else
      if (lg_cmp (w.2 11 x3.toNatClampNeg) y1) = 0 then
        some (x3, w)
      else
        rec 0 y1 (x3 + (1 : Int32)) w
def l_Symbols_find (S : Nat) : Nat → Nat → Int64 → Int32 → pm_W → Option (Int32 × pm_W) := pm_it (fun _ _ _ _ => none) (fun rec k y1 x3 w => b_Symbols_find_2  S rec y1 x3 w)
def f_Symbols_find (S : Nat) (y1 : Int64) (w : pm_W) : Option (Int32 × pm_W) :=
  (l_Symbols_find  S pm_fuel) 0 y1 (0 : Int32) w
set_option maxHeartbeats 4000000 in
set_option maxRecDepth 100000 in
theorem t_Symbols_find_2 {p : Program} {l : Launch} {e : Env} {s : State} {m : MethodId} {args : Array Value} {below : List Frame} {meth : Method} {c : Code} {D : va_G} {ca : Nat → ClassId} {ad : Nat → Nat} {E : (Nat → Prop) → State → Heap → Prop} {S : Nat} (K : pm_ok p s m args meth c k_Symbols_find 4 pmTs R_Symbols D vwCl (tyl ca) (shC S) ad E (some .int)) (rec : Nat → Int64 → Int32 → pm_W → Option (Int32 × pm_W)) (r : Int32) (w' : pm_W) (h2 : ∀ (y1 : Int64) (x3 : Int32) (w : pm_W), rec 0 y1 x3 w = some (r, w') → pm_wk p l e { frames := 0, cells := 0, slots := 0, locals := 0 } s m args below meth c D vwCl (shC S) ca ad 4 (some (.int r), w') 2 [(0, .ref (ad 3)), (1, .long y1), (3, .int x3)] [] w) (y1 : Int64) (x3 : Int32) (w : pm_W) (hf : b_Symbols_find_2  S rec y1 x3 w = some (r, w')) : pm_wk p l e { frames := 0, cells := 0, slots := 0, locals := 0 } s m args below meth c D vwCl (shC S) ca ad 4 (some (.int r), w') 2 [(0, .ref (ad 3)), (1, .long y1), (3, .int x3)] [] w := by
  unfold b_Symbols_find_2 at hf
  refine pm_iload_n K d_Symbols_find_2 2 rfl rfl ?_
  refine pm_aload_n K d_Symbols_find_3 0 rfl rfl ?_
  refine pm_getI K fc_3 (o := 3) rfl 2 rfl (by decide) tw_195 d_Symbols_find_4 (v := w.1 3 2) rfl ?_
  refine pm_icmp_ge K d_Symbols_find_7 35 (by decide) (fun c1 => ?_) (fun c1 => ?_)
  · have hf := pm_ift c1 hf
    refine pm_iconst (v := -1) K d_Symbols_find_35 (by decide) ?_
    cases hf
    exact pm_iret K d_Symbols_find_36
  · have hf := pm_iff c1 hf
    refine pm_iload_n K d_Symbols_find_10 2 rfl rfl ?_
    refine pm_bipush (v := 40) K d_Symbols_find_11 (by decide) ?_
    refine pm_icmp_ge K d_Symbols_find_13 35 (by decide) (fun c2 => ?_) (fun c2 => ?_)
    · have hf := pm_ift c2 hf
      refine pm_iconst (v := -1) K d_Symbols_find_35 (by decide) ?_
      cases hf
      exact pm_iret K d_Symbols_find_36
    · have hf := pm_iff c2 hf
      refine pm_aload_n K d_Symbols_find_16 0 rfl rfl ?_
      refine pm_getR K fc_3 (o := 3) rfl 0 rfl (by decide) tw_192 d_Symbols_find_17 ?_
      refine pm_iload_n K d_Symbols_find_20 2 rfl rfl ?_
      obtain ⟨q3, hf⟩ := pm_bnd hf
      refine pm_lald K (o := 11) rfl rfl q3 d_Symbols_find_21 (v := w.2 11 x3.toNatClampNeg) rfl ?_
      refine pm_lload_n K d_Symbols_find_22 1 rfl rfl ?_
      refine pm_lcmp K d_Symbols_find_23 ?_
      refine pm_if_ne K d_Symbols_find_24 29 (by decide) (fun c4 => ?_) (fun c4 => ?_)
      · have hf := pm_iff c4 hf
        refine pm_iinc (v := x3 + (1 : Int32)) (lv' := [(3, .int (x3 + (1 : Int32))), (0, .ref (ad 3)), (1, .long y1)]) K d_Symbols_find_29 2 rfl rfl (by decide) rfl ?_
        refine pm_goto K d_Symbols_find_32 2 (by decide) ?_
        refine pm_sub (lv' := [(0, .ref (ad 3)), (1, .long y1), (3, .int (x3 + (1 : Int32)))]) [1, 2, 0] rfl ?_
        exact h2 y1 (x3 + (1 : Int32)) w hf
      · have hf := pm_ift c4 hf
        refine pm_iload_n K d_Symbols_find_27 2 rfl rfl ?_
        cases hf
        exact pm_iret K d_Symbols_find_28
set_option maxHeartbeats 4000000 in
set_option maxRecDepth 100000 in
theorem a_Symbols_find {p : Program} {l : Launch} {e : Env} {s : State} {m : MethodId} {args : Array Value} {below : List Frame} {meth : Method} {c : Code} {D : va_G} {ca : Nat → ClassId} {ad : Nat → Nat} {E : (Nat → Prop) → State → Heap → Prop} {S : Nat} (K : pm_ok p s m args meth c k_Symbols_find 4 pmTs R_Symbols D vwCl (tyl ca) (shC S) ad E (some .int)) (r : Int32) (w' : pm_W) : ∀ n : Nat, (∀ (y1 : Int64) (x3 : Int32) (w : pm_W), l_Symbols_find  S n 0 y1 x3 w = some (r, w') → pm_wk p l e { frames := 0, cells := 0, slots := 0, locals := 0 } s m args below meth c D vwCl (shC S) ca ad 4 (some (.int r), w') 2 [(0, .ref (ad 3)), (1, .long y1), (3, .int x3)] [] w) := by
  intro n
  induction n with
  | zero => exact fun _ _ _ hf => (by cases hf)
  | succ n ih => exact fun y1 x3 w hf => t_Symbols_find_2 K (l_Symbols_find S n) r w' (ih) y1 x3 w hf
set_option maxHeartbeats 4000000 in
set_option maxRecDepth 100000 in
theorem t_Symbols_find {p : Program} {l : Launch} {e : Env} {s : State} {m : MethodId} {args : Array Value} {below : List Frame} {meth : Method} {c : Code} {D : va_G} {ca : Nat → ClassId} {ad : Nat → Nat} {E : (Nat → Prop) → State → Heap → Prop} {S : Nat} (K : pm_ok p s m args meth c k_Symbols_find 4 pmTs R_Symbols D vwCl (tyl ca) (shC S) ad E (some .int)) (r : Int32) (w' : pm_W) (y1 : Int64) (w : pm_W) (hf : f_Symbols_find  S y1 w = some (r, w')) : pm_wk p l e { frames := 0, cells := 0, slots := 0, locals := 0 } s m args below meth c D vwCl (shC S) ca ad 4 (some (.int r), w') 0 [(0, .ref (ad 3)), (1, .long y1)] [] w := by
  unfold f_Symbols_find at hf
  have h2 := (a_Symbols_find (l := l) (e := e) (below := below) K  r w' pm_fuel)
  refine pm_iconst (v := 0) K d_Symbols_find_0 (by decide) ?_
  refine pm_istore_n (lv' := [(3, .int (0 : Int32)), (0, .ref (ad 3)), (1, .long y1)]) K d_Symbols_find_1 rfl (by decide) rfl ?_
  refine pm_sub (lv' := [(0, .ref (ad 3)), (1, .long y1), (3, .int (0 : Int32))]) [1, 2, 0] rfl ?_
  exact h2 y1 (0 : Int32) w hf
/-- CellLisp$Symbols.find(J)I -/
theorem c_Symbols_find {l : Launch} {D : va_G} {ca : Nat → ClassId} {ad : Nat → Nat} {E : (Nat → Prop) → State → Heap → Prop} {S : Nat} (hEc : pm_Ecl E) (r : Int32) (w' : pm_W) (y1 : Int64) (w : pm_W) (hf : f_Symbols_find  S y1 w = some (r, w')) : pm_Met l pmTs D vwCl (tyl ca) (shC S) ca ad E y_Symbols_find k_Symbols_find 4 (some .int) { frames := 0, cells := 0, slots := 0, locals := 0 } [.ref (ad 3), .long y1] w (some (.int r), w') :=
  pm_start pmTs_good hEc (by decide) (Nat.le_of_ble_eq_true rfl) (fun p e s m below meth c K => t_Symbols_find K r w' y1 w hf)
def f_Symbols_learn (S : Nat) (y1 : Int64) (w : pm_W) : Option (Int32 × pm_W) :=
  Option.bind (f_Symbols_find S y1 w) fun o1 =>
  if o1.1 < 0 then
    if (o1.2.1 3 2) < (40 : Int32) then
      if (o1.2.1 3 2) < 0 ∨ 40 ≤ (o1.2.1 3 2).toNatClampNeg then none else
      if (o1.2.1 3 2) < 0 ∨ 40 ≤ (o1.2.1 3 2).toNatClampNeg then none else
      some ((1 : Int32), pm_setI (pm_setI (pm_setJ o1.2 11 (o1.2.1 3 2).toNatClampNeg y1) 12 (o1.2.1 3 2).toNatClampNeg (6 : Int32)) 3 2 ((o1.2.1 3 2) + (1 : Int32)))
    else
      some ((0 : Int32), o1.2)
  else
    some ((1 : Int32), o1.2)
set_option maxHeartbeats 4000000 in
set_option maxRecDepth 100000 in
theorem t_Symbols_learn {p : Program} {l : Launch} {e : Env} {s : State} {m : MethodId} {args : Array Value} {below : List Frame} {meth : Method} {c : Code} {D : va_G} {ca : Nat → ClassId} {ad : Nat → Nat} {E : (Nat → Prop) → State → Heap → Prop} {S : Nat} (K : pm_ok p s m args meth c k_Symbols_learn 3 pmTs R_Symbols D vwCl (tyl ca) (shC S) ad E (some .boolean)) (r : Int32) (w' : pm_W) (y1 : Int64) (w : pm_W) (hf : f_Symbols_learn  S y1 w = some (r, w')) : pm_wk p l e { frames := 1, cells := 0, slots := 0, locals := 23 } s m args below meth c D vwCl (shC S) ca ad 3 (some (.int r), w') 0 [(0, .ref (ad 3)), (1, .long y1)] [] w := by
  unfold f_Symbols_learn at hf
  refine pm_aload_n K d_Symbols_learn_0 0 rfl rfl ?_
  refine pm_lload_n K d_Symbols_learn_1 1 rfl rfl ?_
  obtain ⟨o1, z1, hf⟩ := pm_bind hf
  refine pm_callV (As := [.long y1]) (rest := []) (o := 3) K (c_Symbols_find K.2.2.2.2.2.2.2.2.2.2.2.2 o1.1 o1.2 y1 w z1) mi_Symbols_find rfl rfl tw_186 tw_187 tw_185 rfl ⟨rfl, rfl, Nat.le_of_ble_eq_true rfl, Nat.le_of_ble_eq_true rfl⟩ rfl (Nat.le_of_ble_eq_true rfl) d_Symbols_learn_2 ?_
  refine pm_if_lt K d_Symbols_learn_5 10 (by decide) (fun c2 => ?_) (fun c2 => ?_)
  · have hf := pm_ift c2 hf
    refine pm_aload_n K d_Symbols_learn_10 0 rfl rfl ?_
    refine pm_getI K fc_3 (o := 3) rfl 2 rfl (by decide) tw_195 d_Symbols_learn_11 (v := o1.2.1 3 2) rfl ?_
    refine pm_bipush (v := 40) K d_Symbols_learn_14 (by decide) ?_
    refine pm_icmp_lt K d_Symbols_learn_16 21 (by decide) (fun c3 => ?_) (fun c3 => ?_)
    · have hf := pm_ift c3 hf
      refine pm_aload_n K d_Symbols_learn_21 0 rfl rfl ?_
      refine pm_getR K fc_3 (o := 3) rfl 0 rfl (by decide) tw_192 d_Symbols_learn_22 ?_
      refine pm_aload_n K d_Symbols_learn_25 0 rfl rfl ?_
      refine pm_getI K fc_3 (o := 3) rfl 2 rfl (by decide) tw_195 d_Symbols_learn_26 (v := o1.2.1 3 2) rfl ?_
      refine pm_lload_n K d_Symbols_learn_29 1 rfl rfl ?_
      obtain ⟨q4, hf⟩ := pm_bnd hf
      refine pm_last K (o := 11) rfl rfl q4 d_Symbols_learn_30 ?_
      refine pm_aload_n K d_Symbols_learn_31 0 rfl rfl ?_
      refine pm_getR K fc_3 (o := 3) rfl 1 rfl (by decide) tw_193 d_Symbols_learn_32 ?_
      refine pm_aload_n K d_Symbols_learn_35 0 rfl rfl ?_
      refine pm_getI K fc_3 (o := 3) rfl 2 rfl (by decide) tw_195 d_Symbols_learn_36 (v := o1.2.1 3 2) rfl ?_
      refine pm_bipush (v := 6) K d_Symbols_learn_39 (by decide) ?_
      obtain ⟨q5, hf⟩ := pm_bnd hf
      refine pm_iast K (o := 12) rfl rfl q5 d_Symbols_learn_41 ?_
      refine pm_aload_n K d_Symbols_learn_42 0 rfl rfl ?_
      refine pm_dup K d_Symbols_learn_43 rfl ?_
      refine pm_getI K fc_3 (o := 3) rfl 2 rfl (by decide) tw_195 d_Symbols_learn_44 (v := o1.2.1 3 2) rfl ?_
      refine pm_iconst (v := 1) K d_Symbols_learn_47 (by decide) ?_
      refine pm_iadd K d_Symbols_learn_48 ?_
      refine pm_putI K fc_3 (o := 3) (ty := .int) rfl 2 rfl (by decide) tw_195 rfl rfl rfl rfl d_Symbols_learn_49 ?_
      refine pm_iconst (v := 1) K d_Symbols_learn_52 (by decide) ?_
      cases hf
      exact pm_zret K (by decide) d_Symbols_learn_53
    · have hf := pm_iff c3 hf
      refine pm_iconst (v := 0) K d_Symbols_learn_19 (by decide) ?_
      cases hf
      exact pm_zret K (by decide) d_Symbols_learn_20
  · have hf := pm_iff c2 hf
    refine pm_iconst (v := 1) K d_Symbols_learn_8 (by decide) ?_
    cases hf
    exact pm_zret K (by decide) d_Symbols_learn_9
/-- CellLisp$Symbols.learn(J)Z -/
theorem c_Symbols_learn {l : Launch} {D : va_G} {ca : Nat → ClassId} {ad : Nat → Nat} {E : (Nat → Prop) → State → Heap → Prop} {S : Nat} (hEc : pm_Ecl E) (r : Int32) (w' : pm_W) (y1 : Int64) (w : pm_W) (hf : f_Symbols_learn  S y1 w = some (r, w')) : pm_Met l pmTs D vwCl (tyl ca) (shC S) ca ad E y_Symbols_learn k_Symbols_learn 3 (some .boolean) { frames := 1, cells := 0, slots := 0, locals := 23 } [.ref (ad 3), .long y1] w (some (.int r), w') :=
  pm_start pmTs_good hEc (by decide) (Nat.le_of_ble_eq_true rfl) (fun p e s m below meth c K => t_Symbols_learn K r w' y1 w hf)
def f_Symbols_name (S : Nat) (x1 : Int32) (w : pm_W) : Option (Int64 × pm_W) :=
  if x1 < 0 then
    some ((0 : Int64), w)
  else
    if (40 : Int32) ≤ x1 then
      some ((0 : Int64), w)
    else
      if x1 < 0 ∨ 40 ≤ x1.toNatClampNeg then none else
      some (w.2 11 x1.toNatClampNeg, w)
set_option maxHeartbeats 4000000 in
set_option maxRecDepth 100000 in
theorem t_Symbols_name {p : Program} {l : Launch} {e : Env} {s : State} {m : MethodId} {args : Array Value} {below : List Frame} {meth : Method} {c : Code} {D : va_G} {ca : Nat → ClassId} {ad : Nat → Nat} {E : (Nat → Prop) → State → Heap → Prop} {S : Nat} (K : pm_ok p s m args meth c k_Symbols_name 2 pmTs R_Symbols D vwCl (tyl ca) (shC S) ad E (some .long)) (r : Int64) (w' : pm_W) (x1 : Int32) (w : pm_W) (hf : f_Symbols_name  S x1 w = some (r, w')) : pm_wk p l e { frames := 0, cells := 0, slots := 0, locals := 0 } s m args below meth c D vwCl (shC S) ca ad 2 (some (.long r), w') 0 [(0, .ref (ad 3)), (1, .int x1)] [] w := by
  unfold f_Symbols_name at hf
  refine pm_iload_n K d_Symbols_name_0 1 rfl rfl ?_
  refine pm_if_lt K d_Symbols_name_1 19 (by decide) (fun c1 => ?_) (fun c1 => ?_)
  · have hf := pm_ift c1 hf
    refine pm_lconst (v := 0) K d_Symbols_name_19 (by decide) ?_
    cases hf
    exact pm_lret K d_Symbols_name_20
  · have hf := pm_iff c1 hf
    refine pm_iload_n K d_Symbols_name_4 1 rfl rfl ?_
    refine pm_bipush (v := 40) K d_Symbols_name_5 (by decide) ?_
    refine pm_icmp_ge K d_Symbols_name_7 19 (by decide) (fun c2 => ?_) (fun c2 => ?_)
    · have hf := pm_ift c2 hf
      refine pm_lconst (v := 0) K d_Symbols_name_19 (by decide) ?_
      cases hf
      exact pm_lret K d_Symbols_name_20
    · have hf := pm_iff c2 hf
      refine pm_aload_n K d_Symbols_name_10 0 rfl rfl ?_
      refine pm_getR K fc_3 (o := 3) rfl 0 rfl (by decide) tw_192 d_Symbols_name_11 ?_
      refine pm_iload_n K d_Symbols_name_14 1 rfl rfl ?_
      obtain ⟨q3, hf⟩ := pm_bnd hf
      refine pm_lald K (o := 11) rfl rfl q3 d_Symbols_name_15 (v := w.2 11 x1.toNatClampNeg) rfl ?_
      refine pm_goto K d_Symbols_name_16 20 (by decide) ?_
      cases hf
      exact pm_lret K d_Symbols_name_20
/-- CellLisp$Symbols.name(I)J -/
theorem c_Symbols_name {l : Launch} {D : va_G} {ca : Nat → ClassId} {ad : Nat → Nat} {E : (Nat → Prop) → State → Heap → Prop} {S : Nat} (hEc : pm_Ecl E) (r : Int64) (w' : pm_W) (x1 : Int32) (w : pm_W) (hf : f_Symbols_name  S x1 w = some (r, w')) : pm_Met l pmTs D vwCl (tyl ca) (shC S) ca ad E y_Symbols_name k_Symbols_name 2 (some .long) { frames := 0, cells := 0, slots := 0, locals := 0 } [.ref (ad 3), .int x1] w (some (.long r), w') :=
  pm_start pmTs_good hEc (by decide) (Nat.le_of_ble_eq_true rfl) (fun p e s m below meth c K => t_Symbols_name K r w' x1 w hf)
def f_Symbols_global (S : Nat) (x1 : Int32) (w : pm_W) : Option (Int32 × pm_W) :=
  if x1 < 0 then
    some ((6 : Int32), w)
  else
    if (40 : Int32) ≤ x1 then
      some ((6 : Int32), w)
    else
      if x1 < 0 ∨ 40 ≤ x1.toNatClampNeg then none else
      some (w.1 12 x1.toNatClampNeg, w)
set_option maxHeartbeats 4000000 in
set_option maxRecDepth 100000 in
theorem t_Symbols_global {p : Program} {l : Launch} {e : Env} {s : State} {m : MethodId} {args : Array Value} {below : List Frame} {meth : Method} {c : Code} {D : va_G} {ca : Nat → ClassId} {ad : Nat → Nat} {E : (Nat → Prop) → State → Heap → Prop} {S : Nat} (K : pm_ok p s m args meth c k_Symbols_global 2 pmTs R_Symbols D vwCl (tyl ca) (shC S) ad E (some .int)) (r : Int32) (w' : pm_W) (x1 : Int32) (w : pm_W) (hf : f_Symbols_global  S x1 w = some (r, w')) : pm_wk p l e { frames := 0, cells := 0, slots := 0, locals := 0 } s m args below meth c D vwCl (shC S) ca ad 2 (some (.int r), w') 0 [(0, .ref (ad 3)), (1, .int x1)] [] w := by
  unfold f_Symbols_global at hf
  refine pm_iload_n K d_Symbols_global_0 1 rfl rfl ?_
  refine pm_if_lt K d_Symbols_global_1 19 (by decide) (fun c1 => ?_) (fun c1 => ?_)
  · have hf := pm_ift c1 hf
    refine pm_bipush (v := 6) K d_Symbols_global_19 (by decide) ?_
    cases hf
    exact pm_iret K d_Symbols_global_21
  · have hf := pm_iff c1 hf
    refine pm_iload_n K d_Symbols_global_4 1 rfl rfl ?_
    refine pm_bipush (v := 40) K d_Symbols_global_5 (by decide) ?_
    refine pm_icmp_ge K d_Symbols_global_7 19 (by decide) (fun c2 => ?_) (fun c2 => ?_)
    · have hf := pm_ift c2 hf
      refine pm_bipush (v := 6) K d_Symbols_global_19 (by decide) ?_
      cases hf
      exact pm_iret K d_Symbols_global_21
    · have hf := pm_iff c2 hf
      refine pm_aload_n K d_Symbols_global_10 0 rfl rfl ?_
      refine pm_getR K fc_3 (o := 3) rfl 1 rfl (by decide) tw_193 d_Symbols_global_11 ?_
      refine pm_iload_n K d_Symbols_global_14 1 rfl rfl ?_
      obtain ⟨q3, hf⟩ := pm_bnd hf
      refine pm_iald K (o := 12) rfl rfl q3 d_Symbols_global_15 (v := w.1 12 x1.toNatClampNeg) rfl ?_
      refine pm_goto K d_Symbols_global_16 21 (by decide) ?_
      cases hf
      exact pm_iret K d_Symbols_global_21
/-- CellLisp$Symbols.global(I)I -/
theorem c_Symbols_global {l : Launch} {D : va_G} {ca : Nat → ClassId} {ad : Nat → Nat} {E : (Nat → Prop) → State → Heap → Prop} {S : Nat} (hEc : pm_Ecl E) (r : Int32) (w' : pm_W) (x1 : Int32) (w : pm_W) (hf : f_Symbols_global  S x1 w = some (r, w')) : pm_Met l pmTs D vwCl (tyl ca) (shC S) ca ad E y_Symbols_global k_Symbols_global 2 (some .int) { frames := 0, cells := 0, slots := 0, locals := 0 } [.ref (ad 3), .int x1] w (some (.int r), w') :=
  pm_start pmTs_good hEc (by decide) (Nat.le_of_ble_eq_true rfl) (fun p e s m below meth c K => t_Symbols_global K r w' x1 w hf)
def f_Symbols_setGlobal (S : Nat) (x1 : Int32) (x2 : Int32) (w : pm_W) : Option pm_W :=
  if x1 < 0 then
    some w
  else
    if (40 : Int32) ≤ x1 then
      some w
    else
      if x1 < 0 ∨ 40 ≤ x1.toNatClampNeg then none else
      some (pm_setI w 12 x1.toNatClampNeg x2)
set_option maxHeartbeats 4000000 in
set_option maxRecDepth 100000 in
theorem t_Symbols_setGlobal {p : Program} {l : Launch} {e : Env} {s : State} {m : MethodId} {args : Array Value} {below : List Frame} {meth : Method} {c : Code} {D : va_G} {ca : Nat → ClassId} {ad : Nat → Nat} {E : (Nat → Prop) → State → Heap → Prop} {S : Nat} (K : pm_ok p s m args meth c k_Symbols_setGlobal 3 pmTs R_Symbols D vwCl (tyl ca) (shC S) ad E none) (w' : pm_W) (x1 : Int32) (x2 : Int32) (w : pm_W) (hf : f_Symbols_setGlobal  S x1 x2 w = some w') : pm_wk p l e { frames := 0, cells := 0, slots := 0, locals := 0 } s m args below meth c D vwCl (shC S) ca ad 3 (none, w') 0 [(0, .ref (ad 3)), (1, .int x1), (2, .int x2)] [] w := by
  unfold f_Symbols_setGlobal at hf
  refine pm_iload_n K d_Symbols_setGlobal_0 1 rfl rfl ?_
  refine pm_if_lt K d_Symbols_setGlobal_1 17 (by decide) (fun c1 => ?_) (fun c1 => ?_)
  · have hf := pm_ift c1 hf
    cases hf
    exact pm_vret K d_Symbols_setGlobal_17
  · have hf := pm_iff c1 hf
    refine pm_iload_n K d_Symbols_setGlobal_4 1 rfl rfl ?_
    refine pm_bipush (v := 40) K d_Symbols_setGlobal_5 (by decide) ?_
    refine pm_icmp_ge K d_Symbols_setGlobal_7 17 (by decide) (fun c2 => ?_) (fun c2 => ?_)
    · have hf := pm_ift c2 hf
      cases hf
      exact pm_vret K d_Symbols_setGlobal_17
    · have hf := pm_iff c2 hf
      refine pm_aload_n K d_Symbols_setGlobal_10 0 rfl rfl ?_
      refine pm_getR K fc_3 (o := 3) rfl 1 rfl (by decide) tw_193 d_Symbols_setGlobal_11 ?_
      refine pm_iload_n K d_Symbols_setGlobal_14 1 rfl rfl ?_
      refine pm_iload_n K d_Symbols_setGlobal_15 2 rfl rfl ?_
      obtain ⟨q3, hf⟩ := pm_bnd hf
      refine pm_iast K (o := 12) rfl rfl q3 d_Symbols_setGlobal_16 ?_
      cases hf
      exact pm_vret K d_Symbols_setGlobal_17
/-- CellLisp$Symbols.setGlobal(II)V -/
theorem c_Symbols_setGlobal {l : Launch} {D : va_G} {ca : Nat → ClassId} {ad : Nat → Nat} {E : (Nat → Prop) → State → Heap → Prop} {S : Nat} (hEc : pm_Ecl E) (w' : pm_W) (x1 : Int32) (x2 : Int32) (w : pm_W) (hf : f_Symbols_setGlobal  S x1 x2 w = some w') : pm_Met l pmTs D vwCl (tyl ca) (shC S) ca ad E y_Symbols_setGlobal k_Symbols_setGlobal 3 none { frames := 0, cells := 0, slots := 0, locals := 0 } [.ref (ad 3), .int x1, .int x2] w (none, w') :=
  pm_start pmTs_good hEc (by decide) (Nat.le_of_ble_eq_true rfl) (fun p e s m below meth c K => t_Symbols_setGlobal K w' x1 x2 w hf)
def f_State_push (S : Nat) (x1 : Int32) (x2 : Int32) (x3 : Int32) (w : pm_W) : Option (Int32 × pm_W) :=
  if (w.1 4 3) < 0 then
    some ((0 : Int32), w)
  else
    if (w.1 4 3) < (30 : Int32) then
      if (w.1 4 3) < 0 ∨ 30 ≤ (w.1 4 3).toNatClampNeg then none else
      if (w.1 4 3) < 0 ∨ 30 ≤ (w.1 4 3).toNatClampNeg then none else
      if (w.1 4 3) < 0 ∨ 30 ≤ (w.1 4 3).toNatClampNeg then none else
      if (w.1 4 3) < 0 ∨ 30 ≤ (w.1 4 3).toNatClampNeg then none else
      some ((1 : Int32), pm_setI (pm_setI (pm_setI (pm_setI (pm_setI w 13 (w.1 4 3).toNatClampNeg x1) 14 (w.1 4 3).toNatClampNeg x2) 15 (w.1 4 3).toNatClampNeg x3) 16 (w.1 4 3).toNatClampNeg (2 : Int32)) 4 3 ((w.1 4 3) + (1 : Int32)))
    else
      some ((0 : Int32), w)
set_option maxHeartbeats 4000000 in
set_option maxRecDepth 100000 in
theorem t_State_push {p : Program} {l : Launch} {e : Env} {s : State} {m : MethodId} {args : Array Value} {below : List Frame} {meth : Method} {c : Code} {D : va_G} {ca : Nat → ClassId} {ad : Nat → Nat} {E : (Nat → Prop) → State → Heap → Prop} {S : Nat} (K : pm_ok p s m args meth c k_State_push 4 pmTs R_State D vwCl (tyl ca) (shC S) ad E (some .boolean)) (r : Int32) (w' : pm_W) (x1 : Int32) (x2 : Int32) (x3 : Int32) (w : pm_W) (hf : f_State_push  S x1 x2 x3 w = some (r, w')) : pm_wk p l e { frames := 0, cells := 0, slots := 0, locals := 0 } s m args below meth c D vwCl (shC S) ca ad 4 (some (.int r), w') 0 [(0, .ref (ad 4)), (1, .int x1), (2, .int x2), (3, .int x3)] [] w := by
  unfold f_State_push at hf
  refine pm_aload_n K d_State_push_0 0 rfl rfl ?_
  refine pm_getI K fc_4 (o := 4) rfl 3 rfl (by decide) tw_211 d_State_push_1 (v := w.1 4 3) rfl ?_
  refine pm_if_lt K d_State_push_4 16 (by decide) (fun c1 => ?_) (fun c1 => ?_)
  · have hf := pm_ift c1 hf
    refine pm_iconst (v := 0) K d_State_push_16 (by decide) ?_
    cases hf
    exact pm_zret K (by decide) d_State_push_17
  · have hf := pm_iff c1 hf
    refine pm_aload_n K d_State_push_7 0 rfl rfl ?_
    refine pm_getI K fc_4 (o := 4) rfl 3 rfl (by decide) tw_211 d_State_push_8 (v := w.1 4 3) rfl ?_
    refine pm_bipush (v := 30) K d_State_push_11 (by decide) ?_
    refine pm_icmp_lt K d_State_push_13 18 (by decide) (fun c2 => ?_) (fun c2 => ?_)
    · have hf := pm_ift c2 hf
      refine pm_aload_n K d_State_push_18 0 rfl rfl ?_
      refine pm_getR K fc_4 (o := 4) rfl 4 rfl (by decide) tw_215 d_State_push_19 ?_
      refine pm_aload_n K d_State_push_22 0 rfl rfl ?_
      refine pm_getI K fc_4 (o := 4) rfl 3 rfl (by decide) tw_211 d_State_push_23 (v := w.1 4 3) rfl ?_
      refine pm_iload_n K d_State_push_26 1 rfl rfl ?_
      obtain ⟨q3, hf⟩ := pm_bnd hf
      refine pm_iast K (o := 13) rfl rfl q3 d_State_push_27 ?_
      refine pm_aload_n K d_State_push_28 0 rfl rfl ?_
      refine pm_getR K fc_4 (o := 4) rfl 5 rfl (by decide) tw_216 d_State_push_29 ?_
      refine pm_aload_n K d_State_push_32 0 rfl rfl ?_
      refine pm_getI K fc_4 (o := 4) rfl 3 rfl (by decide) tw_211 d_State_push_33 (v := w.1 4 3) rfl ?_
      refine pm_iload_n K d_State_push_36 2 rfl rfl ?_
      obtain ⟨q4, hf⟩ := pm_bnd hf
      refine pm_iast K (o := 14) rfl rfl q4 d_State_push_37 ?_
      refine pm_aload_n K d_State_push_38 0 rfl rfl ?_
      refine pm_getR K fc_4 (o := 4) rfl 6 rfl (by decide) tw_218 d_State_push_39 ?_
      refine pm_aload_n K d_State_push_42 0 rfl rfl ?_
      refine pm_getI K fc_4 (o := 4) rfl 3 rfl (by decide) tw_211 d_State_push_43 (v := w.1 4 3) rfl ?_
      refine pm_iload_n K d_State_push_46 3 rfl rfl ?_
      obtain ⟨q5, hf⟩ := pm_bnd hf
      refine pm_iast K (o := 15) rfl rfl q5 d_State_push_47 ?_
      refine pm_aload_n K d_State_push_48 0 rfl rfl ?_
      refine pm_getR K fc_4 (o := 4) rfl 7 rfl (by decide) tw_220 d_State_push_49 ?_
      refine pm_aload_n K d_State_push_52 0 rfl rfl ?_
      refine pm_getI K fc_4 (o := 4) rfl 3 rfl (by decide) tw_211 d_State_push_53 (v := w.1 4 3) rfl ?_
      refine pm_iconst (v := 2) K d_State_push_56 (by decide) ?_
      obtain ⟨q6, hf⟩ := pm_bnd hf
      refine pm_iast K (o := 16) rfl rfl q6 d_State_push_57 ?_
      refine pm_aload_n K d_State_push_58 0 rfl rfl ?_
      refine pm_dup K d_State_push_59 rfl ?_
      refine pm_getI K fc_4 (o := 4) rfl 3 rfl (by decide) tw_211 d_State_push_60 (v := w.1 4 3) rfl ?_
      refine pm_iconst (v := 1) K d_State_push_63 (by decide) ?_
      refine pm_iadd K d_State_push_64 ?_
      refine pm_putI K fc_4 (o := 4) (ty := .int) rfl 3 rfl (by decide) tw_211 rfl rfl rfl rfl d_State_push_65 ?_
      refine pm_iconst (v := 1) K d_State_push_68 (by decide) ?_
      cases hf
      exact pm_zret K (by decide) d_State_push_69
    · have hf := pm_iff c2 hf
      refine pm_iconst (v := 0) K d_State_push_16 (by decide) ?_
      cases hf
      exact pm_zret K (by decide) d_State_push_17
/-- CellLisp$State.push(III)Z -/
theorem c_State_push {l : Launch} {D : va_G} {ca : Nat → ClassId} {ad : Nat → Nat} {E : (Nat → Prop) → State → Heap → Prop} {S : Nat} (hEc : pm_Ecl E) (r : Int32) (w' : pm_W) (x1 : Int32) (x2 : Int32) (x3 : Int32) (w : pm_W) (hf : f_State_push  S x1 x2 x3 w = some (r, w')) : pm_Met l pmTs D vwCl (tyl ca) (shC S) ca ad E y_State_push k_State_push 4 (some .boolean) { frames := 0, cells := 0, slots := 0, locals := 0 } [.ref (ad 4), .int x1, .int x2, .int x3] w (some (.int r), w') :=
  pm_start pmTs_good hEc (by decide) (Nat.le_of_ble_eq_true rfl) (fun p e s m below meth c K => t_State_push K r w' x1 x2 x3 w hf)
def f_State_pop (S : Nat) (w : pm_W) : Option pm_W :=
  if (w.1 4 3) ≤ 0 then
    some w
  else
    some (pm_setI w 4 3 ((w.1 4 3) - (1 : Int32)))
set_option maxHeartbeats 4000000 in
set_option maxRecDepth 100000 in
theorem t_State_pop {p : Program} {l : Launch} {e : Env} {s : State} {m : MethodId} {args : Array Value} {below : List Frame} {meth : Method} {c : Code} {D : va_G} {ca : Nat → ClassId} {ad : Nat → Nat} {E : (Nat → Prop) → State → Heap → Prop} {S : Nat} (K : pm_ok p s m args meth c k_State_pop 1 pmTs R_State D vwCl (tyl ca) (shC S) ad E none) (w' : pm_W) (w : pm_W) (hf : f_State_pop  S w = some w') : pm_wk p l e { frames := 0, cells := 0, slots := 0, locals := 0 } s m args below meth c D vwCl (shC S) ca ad 1 (none, w') 0 [(0, .ref (ad 4))] [] w := by
  unfold f_State_pop at hf
  refine pm_aload_n K d_State_pop_0 0 rfl rfl ?_
  refine pm_getI K fc_4 (o := 4) rfl 3 rfl (by decide) tw_211 d_State_pop_1 (v := w.1 4 3) rfl ?_
  refine pm_if_le K d_State_pop_4 17 (by decide) (fun c1 => ?_) (fun c1 => ?_)
  · have hf := pm_ift c1 hf
    cases hf
    exact pm_vret K d_State_pop_17
  · have hf := pm_iff c1 hf
    refine pm_aload_n K d_State_pop_7 0 rfl rfl ?_
    refine pm_dup K d_State_pop_8 rfl ?_
    refine pm_getI K fc_4 (o := 4) rfl 3 rfl (by decide) tw_211 d_State_pop_9 (v := w.1 4 3) rfl ?_
    refine pm_iconst (v := 1) K d_State_pop_12 (by decide) ?_
    refine pm_isub K d_State_pop_13 ?_
    refine pm_putI K fc_4 (o := 4) (ty := .int) rfl 3 rfl (by decide) tw_211 rfl rfl rfl rfl d_State_pop_14 ?_
    cases hf
    exact pm_vret K d_State_pop_17
/-- CellLisp$State.pop()V -/
theorem c_State_pop {l : Launch} {D : va_G} {ca : Nat → ClassId} {ad : Nat → Nat} {E : (Nat → Prop) → State → Heap → Prop} {S : Nat} (hEc : pm_Ecl E) (w' : pm_W) (w : pm_W) (hf : f_State_pop  S w = some w') : pm_Met l pmTs D vwCl (tyl ca) (shC S) ca ad E y_State_pop k_State_pop 1 none { frames := 0, cells := 0, slots := 0, locals := 0 } [.ref (ad 4)] w (none, w') :=
  pm_start pmTs_good hEc (by decide) (Nat.le_of_ble_eq_true rfl) (fun p e s m below meth c K => t_State_pop K w'  w hf)
def f_State_hasTop (S : Nat) (w : pm_W) : Option (Int32 × pm_W) :=
  if (w.1 4 3) < (1 : Int32) then
    some ((0 : Int32), w)
  else
    if (30 : Int32) < (w.1 4 3) then
      some ((0 : Int32), w)
    else
      some ((1 : Int32), w)
set_option maxHeartbeats 4000000 in
set_option maxRecDepth 100000 in
theorem t_State_hasTop {p : Program} {l : Launch} {e : Env} {s : State} {m : MethodId} {args : Array Value} {below : List Frame} {meth : Method} {c : Code} {D : va_G} {ca : Nat → ClassId} {ad : Nat → Nat} {E : (Nat → Prop) → State → Heap → Prop} {S : Nat} (K : pm_ok p s m args meth c k_State_hasTop 1 pmTs R_State D vwCl (tyl ca) (shC S) ad E (some .boolean)) (r : Int32) (w' : pm_W) (w : pm_W) (hf : f_State_hasTop  S w = some (r, w')) : pm_wk p l e { frames := 0, cells := 0, slots := 0, locals := 0 } s m args below meth c D vwCl (shC S) ca ad 1 (some (.int r), w') 0 [(0, .ref (ad 4))] [] w := by
  unfold f_State_hasTop at hf
  refine pm_aload_n K d_State_hasTop_0 0 rfl rfl ?_
  refine pm_getI K fc_4 (o := 4) rfl 3 rfl (by decide) tw_211 d_State_hasTop_1 (v := w.1 4 3) rfl ?_
  refine pm_iconst (v := 1) K d_State_hasTop_4 (by decide) ?_
  refine pm_icmp_lt K d_State_hasTop_5 21 (by decide) (fun c1 => ?_) (fun c1 => ?_)
  · have hf := pm_ift c1 hf
    refine pm_iconst (v := 0) K d_State_hasTop_21 (by decide) ?_
    cases hf
    exact pm_zret K (by decide) d_State_hasTop_22
  · have hf := pm_iff c1 hf
    refine pm_aload_n K d_State_hasTop_8 0 rfl rfl ?_
    refine pm_getI K fc_4 (o := 4) rfl 3 rfl (by decide) tw_211 d_State_hasTop_9 (v := w.1 4 3) rfl ?_
    refine pm_bipush (v := 30) K d_State_hasTop_12 (by decide) ?_
    refine pm_icmp_gt K d_State_hasTop_14 21 (by decide) (fun c2 => ?_) (fun c2 => ?_)
    · have hf := pm_ift c2 hf
      refine pm_iconst (v := 0) K d_State_hasTop_21 (by decide) ?_
      cases hf
      exact pm_zret K (by decide) d_State_hasTop_22
    · have hf := pm_iff c2 hf
      refine pm_iconst (v := 1) K d_State_hasTop_17 (by decide) ?_
      refine pm_goto K d_State_hasTop_18 22 (by decide) ?_
      cases hf
      exact pm_zret K (by decide) d_State_hasTop_22
/-- CellLisp$State.hasTop()Z -/
theorem c_State_hasTop {l : Launch} {D : va_G} {ca : Nat → ClassId} {ad : Nat → Nat} {E : (Nat → Prop) → State → Heap → Prop} {S : Nat} (hEc : pm_Ecl E) (r : Int32) (w' : pm_W) (w : pm_W) (hf : f_State_hasTop  S w = some (r, w')) : pm_Met l pmTs D vwCl (tyl ca) (shC S) ca ad E y_State_hasTop k_State_hasTop 1 (some .boolean) { frames := 0, cells := 0, slots := 0, locals := 0 } [.ref (ad 4)] w (some (.int r), w') :=
  pm_start pmTs_good hEc (by decide) (Nat.le_of_ble_eq_true rfl) (fun p e s m below meth c K => t_State_hasTop K r w'  w hf)
def f_State_kind (S : Nat) (w : pm_W) : Option (Int32 × pm_W) :=
  Option.bind (f_State_hasTop S w) fun o1 =>
  if o1.1 = 0 then
    some ((0 : Int32), o1.2)
  else
    if ((o1.2.1 4 3) - (1 : Int32)) < 0 ∨ 30 ≤ ((o1.2.1 4 3) - (1 : Int32)).toNatClampNeg then none else
    some (o1.2.1 13 ((o1.2.1 4 3) - (1 : Int32)).toNatClampNeg, o1.2)
set_option maxHeartbeats 4000000 in
set_option maxRecDepth 100000 in
theorem t_State_kind {p : Program} {l : Launch} {e : Env} {s : State} {m : MethodId} {args : Array Value} {below : List Frame} {meth : Method} {c : Code} {D : va_G} {ca : Nat → ClassId} {ad : Nat → Nat} {E : (Nat → Prop) → State → Heap → Prop} {S : Nat} (K : pm_ok p s m args meth c k_State_kind 1 pmTs R_State D vwCl (tyl ca) (shC S) ad E (some .int)) (r : Int32) (w' : pm_W) (w : pm_W) (hf : f_State_kind  S w = some (r, w')) : pm_wk p l e { frames := 1, cells := 0, slots := 0, locals := 20 } s m args below meth c D vwCl (shC S) ca ad 1 (some (.int r), w') 0 [(0, .ref (ad 4))] [] w := by
  unfold f_State_kind at hf
  refine pm_aload_n K d_State_kind_0 0 rfl rfl ?_
  obtain ⟨o1, z1, hf⟩ := pm_bind hf
  refine pm_callV (As := []) (rest := []) (o := 4) K (c_State_hasTop K.2.2.2.2.2.2.2.2.2.2.2.2 o1.1 o1.2 w z1) mi_State_hasTop rfl rfl tw_502 tw_23 tw_501 rfl ⟨rfl, rfl, Nat.le_of_ble_eq_true rfl, Nat.le_of_ble_eq_true rfl⟩ rfl (Nat.le_of_ble_eq_true rfl) d_State_kind_1 ?_
  refine pm_if_eq K d_State_kind_4 21 (by decide) (fun c2 => ?_) (fun c2 => ?_)
  · have hf := pm_ift c2 hf
    refine pm_iconst (v := 0) K d_State_kind_21 (by decide) ?_
    cases hf
    exact pm_iret K d_State_kind_22
  · have hf := pm_iff c2 hf
    refine pm_aload_n K d_State_kind_7 0 rfl rfl ?_
    refine pm_getR K fc_4 (o := 4) rfl 4 rfl (by decide) tw_215 d_State_kind_8 ?_
    refine pm_aload_n K d_State_kind_11 0 rfl rfl ?_
    refine pm_getI K fc_4 (o := 4) rfl 3 rfl (by decide) tw_211 d_State_kind_12 (v := o1.2.1 4 3) rfl ?_
    refine pm_iconst (v := 1) K d_State_kind_15 (by decide) ?_
    refine pm_isub K d_State_kind_16 ?_
    obtain ⟨q3, hf⟩ := pm_bnd hf
    refine pm_iald K (o := 13) rfl rfl q3 d_State_kind_17 (v := o1.2.1 13 ((o1.2.1 4 3) - (1 : Int32)).toNatClampNeg) rfl ?_
    refine pm_goto K d_State_kind_18 22 (by decide) ?_
    cases hf
    exact pm_iret K d_State_kind_22
/-- CellLisp$State.kind()I -/
theorem c_State_kind {l : Launch} {D : va_G} {ca : Nat → ClassId} {ad : Nat → Nat} {E : (Nat → Prop) → State → Heap → Prop} {S : Nat} (hEc : pm_Ecl E) (r : Int32) (w' : pm_W) (w : pm_W) (hf : f_State_kind  S w = some (r, w')) : pm_Met l pmTs D vwCl (tyl ca) (shC S) ca ad E y_State_kind k_State_kind 1 (some .int) { frames := 1, cells := 0, slots := 0, locals := 20 } [.ref (ad 4)] w (some (.int r), w') :=
  pm_start pmTs_good hEc (by decide) (Nat.le_of_ble_eq_true rfl) (fun p e s m below meth c K => t_State_kind K r w'  w hf)
def f_State_a (S : Nat) (w : pm_W) : Option (Int32 × pm_W) :=
  Option.bind (f_State_hasTop S w) fun o1 =>
  if o1.1 = 0 then
    some ((2 : Int32), o1.2)
  else
    if ((o1.2.1 4 3) - (1 : Int32)) < 0 ∨ 30 ≤ ((o1.2.1 4 3) - (1 : Int32)).toNatClampNeg then none else
    some (o1.2.1 14 ((o1.2.1 4 3) - (1 : Int32)).toNatClampNeg, o1.2)
set_option maxHeartbeats 4000000 in
set_option maxRecDepth 100000 in
theorem t_State_a {p : Program} {l : Launch} {e : Env} {s : State} {m : MethodId} {args : Array Value} {below : List Frame} {meth : Method} {c : Code} {D : va_G} {ca : Nat → ClassId} {ad : Nat → Nat} {E : (Nat → Prop) → State → Heap → Prop} {S : Nat} (K : pm_ok p s m args meth c k_State_a 1 pmTs R_State D vwCl (tyl ca) (shC S) ad E (some .int)) (r : Int32) (w' : pm_W) (w : pm_W) (hf : f_State_a  S w = some (r, w')) : pm_wk p l e { frames := 1, cells := 0, slots := 0, locals := 20 } s m args below meth c D vwCl (shC S) ca ad 1 (some (.int r), w') 0 [(0, .ref (ad 4))] [] w := by
  unfold f_State_a at hf
  refine pm_aload_n K d_State_a_0 0 rfl rfl ?_
  obtain ⟨o1, z1, hf⟩ := pm_bind hf
  refine pm_callV (As := []) (rest := []) (o := 4) K (c_State_hasTop K.2.2.2.2.2.2.2.2.2.2.2.2 o1.1 o1.2 w z1) mi_State_hasTop rfl rfl tw_502 tw_23 tw_501 rfl ⟨rfl, rfl, Nat.le_of_ble_eq_true rfl, Nat.le_of_ble_eq_true rfl⟩ rfl (Nat.le_of_ble_eq_true rfl) d_State_a_1 ?_
  refine pm_if_eq K d_State_a_4 21 (by decide) (fun c2 => ?_) (fun c2 => ?_)
  · have hf := pm_ift c2 hf
    refine pm_iconst (v := 2) K d_State_a_21 (by decide) ?_
    cases hf
    exact pm_iret K d_State_a_22
  · have hf := pm_iff c2 hf
    refine pm_aload_n K d_State_a_7 0 rfl rfl ?_
    refine pm_getR K fc_4 (o := 4) rfl 5 rfl (by decide) tw_216 d_State_a_8 ?_
    refine pm_aload_n K d_State_a_11 0 rfl rfl ?_
    refine pm_getI K fc_4 (o := 4) rfl 3 rfl (by decide) tw_211 d_State_a_12 (v := o1.2.1 4 3) rfl ?_
    refine pm_iconst (v := 1) K d_State_a_15 (by decide) ?_
    refine pm_isub K d_State_a_16 ?_
    obtain ⟨q3, hf⟩ := pm_bnd hf
    refine pm_iald K (o := 14) rfl rfl q3 d_State_a_17 (v := o1.2.1 14 ((o1.2.1 4 3) - (1 : Int32)).toNatClampNeg) rfl ?_
    refine pm_goto K d_State_a_18 22 (by decide) ?_
    cases hf
    exact pm_iret K d_State_a_22
/-- CellLisp$State.a()I -/
theorem c_State_a {l : Launch} {D : va_G} {ca : Nat → ClassId} {ad : Nat → Nat} {E : (Nat → Prop) → State → Heap → Prop} {S : Nat} (hEc : pm_Ecl E) (r : Int32) (w' : pm_W) (w : pm_W) (hf : f_State_a  S w = some (r, w')) : pm_Met l pmTs D vwCl (tyl ca) (shC S) ca ad E y_State_a k_State_a 1 (some .int) { frames := 1, cells := 0, slots := 0, locals := 20 } [.ref (ad 4)] w (some (.int r), w') :=
  pm_start pmTs_good hEc (by decide) (Nat.le_of_ble_eq_true rfl) (fun p e s m below meth c K => t_State_a K r w'  w hf)
def f_State_b (S : Nat) (w : pm_W) : Option (Int32 × pm_W) :=
  Option.bind (f_State_hasTop S w) fun o1 =>
  if o1.1 = 0 then
    some ((2 : Int32), o1.2)
  else
    if ((o1.2.1 4 3) - (1 : Int32)) < 0 ∨ 30 ≤ ((o1.2.1 4 3) - (1 : Int32)).toNatClampNeg then none else
    some (o1.2.1 15 ((o1.2.1 4 3) - (1 : Int32)).toNatClampNeg, o1.2)
set_option maxHeartbeats 4000000 in
set_option maxRecDepth 100000 in
theorem t_State_b {p : Program} {l : Launch} {e : Env} {s : State} {m : MethodId} {args : Array Value} {below : List Frame} {meth : Method} {c : Code} {D : va_G} {ca : Nat → ClassId} {ad : Nat → Nat} {E : (Nat → Prop) → State → Heap → Prop} {S : Nat} (K : pm_ok p s m args meth c k_State_b 1 pmTs R_State D vwCl (tyl ca) (shC S) ad E (some .int)) (r : Int32) (w' : pm_W) (w : pm_W) (hf : f_State_b  S w = some (r, w')) : pm_wk p l e { frames := 1, cells := 0, slots := 0, locals := 20 } s m args below meth c D vwCl (shC S) ca ad 1 (some (.int r), w') 0 [(0, .ref (ad 4))] [] w := by
  unfold f_State_b at hf
  refine pm_aload_n K d_State_b_0 0 rfl rfl ?_
  obtain ⟨o1, z1, hf⟩ := pm_bind hf
  refine pm_callV (As := []) (rest := []) (o := 4) K (c_State_hasTop K.2.2.2.2.2.2.2.2.2.2.2.2 o1.1 o1.2 w z1) mi_State_hasTop rfl rfl tw_502 tw_23 tw_501 rfl ⟨rfl, rfl, Nat.le_of_ble_eq_true rfl, Nat.le_of_ble_eq_true rfl⟩ rfl (Nat.le_of_ble_eq_true rfl) d_State_b_1 ?_
  refine pm_if_eq K d_State_b_4 21 (by decide) (fun c2 => ?_) (fun c2 => ?_)
  · have hf := pm_ift c2 hf
    refine pm_iconst (v := 2) K d_State_b_21 (by decide) ?_
    cases hf
    exact pm_iret K d_State_b_22
  · have hf := pm_iff c2 hf
    refine pm_aload_n K d_State_b_7 0 rfl rfl ?_
    refine pm_getR K fc_4 (o := 4) rfl 6 rfl (by decide) tw_218 d_State_b_8 ?_
    refine pm_aload_n K d_State_b_11 0 rfl rfl ?_
    refine pm_getI K fc_4 (o := 4) rfl 3 rfl (by decide) tw_211 d_State_b_12 (v := o1.2.1 4 3) rfl ?_
    refine pm_iconst (v := 1) K d_State_b_15 (by decide) ?_
    refine pm_isub K d_State_b_16 ?_
    obtain ⟨q3, hf⟩ := pm_bnd hf
    refine pm_iald K (o := 15) rfl rfl q3 d_State_b_17 (v := o1.2.1 15 ((o1.2.1 4 3) - (1 : Int32)).toNatClampNeg) rfl ?_
    refine pm_goto K d_State_b_18 22 (by decide) ?_
    cases hf
    exact pm_iret K d_State_b_22
/-- CellLisp$State.b()I -/
theorem c_State_b {l : Launch} {D : va_G} {ca : Nat → ClassId} {ad : Nat → Nat} {E : (Nat → Prop) → State → Heap → Prop} {S : Nat} (hEc : pm_Ecl E) (r : Int32) (w' : pm_W) (w : pm_W) (hf : f_State_b  S w = some (r, w')) : pm_Met l pmTs D vwCl (tyl ca) (shC S) ca ad E y_State_b k_State_b 1 (some .int) { frames := 1, cells := 0, slots := 0, locals := 20 } [.ref (ad 4)] w (some (.int r), w') :=
  pm_start pmTs_good hEc (by decide) (Nat.le_of_ble_eq_true rfl) (fun p e s m below meth c K => t_State_b K r w'  w hf)
def f_State_c (S : Nat) (w : pm_W) : Option (Int32 × pm_W) :=
  Option.bind (f_State_hasTop S w) fun o1 =>
  if o1.1 = 0 then
    some ((2 : Int32), o1.2)
  else
    if ((o1.2.1 4 3) - (1 : Int32)) < 0 ∨ 30 ≤ ((o1.2.1 4 3) - (1 : Int32)).toNatClampNeg then none else
    some (o1.2.1 16 ((o1.2.1 4 3) - (1 : Int32)).toNatClampNeg, o1.2)
set_option maxHeartbeats 4000000 in
set_option maxRecDepth 100000 in
theorem t_State_c {p : Program} {l : Launch} {e : Env} {s : State} {m : MethodId} {args : Array Value} {below : List Frame} {meth : Method} {c : Code} {D : va_G} {ca : Nat → ClassId} {ad : Nat → Nat} {E : (Nat → Prop) → State → Heap → Prop} {S : Nat} (K : pm_ok p s m args meth c k_State_c 1 pmTs R_State D vwCl (tyl ca) (shC S) ad E (some .int)) (r : Int32) (w' : pm_W) (w : pm_W) (hf : f_State_c  S w = some (r, w')) : pm_wk p l e { frames := 1, cells := 0, slots := 0, locals := 20 } s m args below meth c D vwCl (shC S) ca ad 1 (some (.int r), w') 0 [(0, .ref (ad 4))] [] w := by
  unfold f_State_c at hf
  refine pm_aload_n K d_State_c_0 0 rfl rfl ?_
  obtain ⟨o1, z1, hf⟩ := pm_bind hf
  refine pm_callV (As := []) (rest := []) (o := 4) K (c_State_hasTop K.2.2.2.2.2.2.2.2.2.2.2.2 o1.1 o1.2 w z1) mi_State_hasTop rfl rfl tw_502 tw_23 tw_501 rfl ⟨rfl, rfl, Nat.le_of_ble_eq_true rfl, Nat.le_of_ble_eq_true rfl⟩ rfl (Nat.le_of_ble_eq_true rfl) d_State_c_1 ?_
  refine pm_if_eq K d_State_c_4 21 (by decide) (fun c2 => ?_) (fun c2 => ?_)
  · have hf := pm_ift c2 hf
    refine pm_iconst (v := 2) K d_State_c_21 (by decide) ?_
    cases hf
    exact pm_iret K d_State_c_22
  · have hf := pm_iff c2 hf
    refine pm_aload_n K d_State_c_7 0 rfl rfl ?_
    refine pm_getR K fc_4 (o := 4) rfl 7 rfl (by decide) tw_220 d_State_c_8 ?_
    refine pm_aload_n K d_State_c_11 0 rfl rfl ?_
    refine pm_getI K fc_4 (o := 4) rfl 3 rfl (by decide) tw_211 d_State_c_12 (v := o1.2.1 4 3) rfl ?_
    refine pm_iconst (v := 1) K d_State_c_15 (by decide) ?_
    refine pm_isub K d_State_c_16 ?_
    obtain ⟨q3, hf⟩ := pm_bnd hf
    refine pm_iald K (o := 16) rfl rfl q3 d_State_c_17 (v := o1.2.1 16 ((o1.2.1 4 3) - (1 : Int32)).toNatClampNeg) rfl ?_
    refine pm_goto K d_State_c_18 22 (by decide) ?_
    cases hf
    exact pm_iret K d_State_c_22
/-- CellLisp$State.c()I -/
theorem c_State_c {l : Launch} {D : va_G} {ca : Nat → ClassId} {ad : Nat → Nat} {E : (Nat → Prop) → State → Heap → Prop} {S : Nat} (hEc : pm_Ecl E) (r : Int32) (w' : pm_W) (w : pm_W) (hf : f_State_c  S w = some (r, w')) : pm_Met l pmTs D vwCl (tyl ca) (shC S) ca ad E y_State_c k_State_c 1 (some .int) { frames := 1, cells := 0, slots := 0, locals := 20 } [.ref (ad 4)] w (some (.int r), w') :=
  pm_start pmTs_good hEc (by decide) (Nat.le_of_ble_eq_true rfl) (fun p e s m below meth c K => t_State_c K r w'  w hf)
def f_State_setA (S : Nat) (x1 : Int32) (w : pm_W) : Option pm_W :=
  Option.bind (f_State_hasTop S w) fun o1 =>
  if o1.1 = 0 then
    some o1.2
  else
    if ((o1.2.1 4 3) - (1 : Int32)) < 0 ∨ 30 ≤ ((o1.2.1 4 3) - (1 : Int32)).toNatClampNeg then none else
    some (pm_setI o1.2 14 ((o1.2.1 4 3) - (1 : Int32)).toNatClampNeg x1)
set_option maxHeartbeats 4000000 in
set_option maxRecDepth 100000 in
theorem t_State_setA {p : Program} {l : Launch} {e : Env} {s : State} {m : MethodId} {args : Array Value} {below : List Frame} {meth : Method} {c : Code} {D : va_G} {ca : Nat → ClassId} {ad : Nat → Nat} {E : (Nat → Prop) → State → Heap → Prop} {S : Nat} (K : pm_ok p s m args meth c k_State_setA 2 pmTs R_State D vwCl (tyl ca) (shC S) ad E none) (w' : pm_W) (x1 : Int32) (w : pm_W) (hf : f_State_setA  S x1 w = some w') : pm_wk p l e { frames := 1, cells := 0, slots := 0, locals := 20 } s m args below meth c D vwCl (shC S) ca ad 2 (none, w') 0 [(0, .ref (ad 4)), (1, .int x1)] [] w := by
  unfold f_State_setA at hf
  refine pm_aload_n K d_State_setA_0 0 rfl rfl ?_
  obtain ⟨o1, z1, hf⟩ := pm_bind hf
  refine pm_callV (As := []) (rest := []) (o := 4) K (c_State_hasTop K.2.2.2.2.2.2.2.2.2.2.2.2 o1.1 o1.2 w z1) mi_State_hasTop rfl rfl tw_502 tw_23 tw_501 rfl ⟨rfl, rfl, Nat.le_of_ble_eq_true rfl, Nat.le_of_ble_eq_true rfl⟩ rfl (Nat.le_of_ble_eq_true rfl) d_State_setA_1 ?_
  refine pm_if_eq K d_State_setA_4 19 (by decide) (fun c2 => ?_) (fun c2 => ?_)
  · have hf := pm_ift c2 hf
    cases hf
    exact pm_vret K d_State_setA_19
  · have hf := pm_iff c2 hf
    refine pm_aload_n K d_State_setA_7 0 rfl rfl ?_
    refine pm_getR K fc_4 (o := 4) rfl 5 rfl (by decide) tw_216 d_State_setA_8 ?_
    refine pm_aload_n K d_State_setA_11 0 rfl rfl ?_
    refine pm_getI K fc_4 (o := 4) rfl 3 rfl (by decide) tw_211 d_State_setA_12 (v := o1.2.1 4 3) rfl ?_
    refine pm_iconst (v := 1) K d_State_setA_15 (by decide) ?_
    refine pm_isub K d_State_setA_16 ?_
    refine pm_iload_n K d_State_setA_17 1 rfl rfl ?_
    obtain ⟨q3, hf⟩ := pm_bnd hf
    refine pm_iast K (o := 14) rfl rfl q3 d_State_setA_18 ?_
    cases hf
    exact pm_vret K d_State_setA_19
/-- CellLisp$State.setA(I)V -/
theorem c_State_setA {l : Launch} {D : va_G} {ca : Nat → ClassId} {ad : Nat → Nat} {E : (Nat → Prop) → State → Heap → Prop} {S : Nat} (hEc : pm_Ecl E) (w' : pm_W) (x1 : Int32) (w : pm_W) (hf : f_State_setA  S x1 w = some w') : pm_Met l pmTs D vwCl (tyl ca) (shC S) ca ad E y_State_setA k_State_setA 2 none { frames := 1, cells := 0, slots := 0, locals := 20 } [.ref (ad 4), .int x1] w (none, w') :=
  pm_start pmTs_good hEc (by decide) (Nat.le_of_ble_eq_true rfl) (fun p e s m below meth c K => t_State_setA K w' x1 w hf)
def f_State_setC (S : Nat) (x1 : Int32) (w : pm_W) : Option pm_W :=
  Option.bind (f_State_hasTop S w) fun o1 =>
  if o1.1 = 0 then
    some o1.2
  else
    if ((o1.2.1 4 3) - (1 : Int32)) < 0 ∨ 30 ≤ ((o1.2.1 4 3) - (1 : Int32)).toNatClampNeg then none else
    some (pm_setI o1.2 16 ((o1.2.1 4 3) - (1 : Int32)).toNatClampNeg x1)
set_option maxHeartbeats 4000000 in
set_option maxRecDepth 100000 in
theorem t_State_setC {p : Program} {l : Launch} {e : Env} {s : State} {m : MethodId} {args : Array Value} {below : List Frame} {meth : Method} {c : Code} {D : va_G} {ca : Nat → ClassId} {ad : Nat → Nat} {E : (Nat → Prop) → State → Heap → Prop} {S : Nat} (K : pm_ok p s m args meth c k_State_setC 2 pmTs R_State D vwCl (tyl ca) (shC S) ad E none) (w' : pm_W) (x1 : Int32) (w : pm_W) (hf : f_State_setC  S x1 w = some w') : pm_wk p l e { frames := 1, cells := 0, slots := 0, locals := 20 } s m args below meth c D vwCl (shC S) ca ad 2 (none, w') 0 [(0, .ref (ad 4)), (1, .int x1)] [] w := by
  unfold f_State_setC at hf
  refine pm_aload_n K d_State_setC_0 0 rfl rfl ?_
  obtain ⟨o1, z1, hf⟩ := pm_bind hf
  refine pm_callV (As := []) (rest := []) (o := 4) K (c_State_hasTop K.2.2.2.2.2.2.2.2.2.2.2.2 o1.1 o1.2 w z1) mi_State_hasTop rfl rfl tw_502 tw_23 tw_501 rfl ⟨rfl, rfl, Nat.le_of_ble_eq_true rfl, Nat.le_of_ble_eq_true rfl⟩ rfl (Nat.le_of_ble_eq_true rfl) d_State_setC_1 ?_
  refine pm_if_eq K d_State_setC_4 19 (by decide) (fun c2 => ?_) (fun c2 => ?_)
  · have hf := pm_ift c2 hf
    cases hf
    exact pm_vret K d_State_setC_19
  · have hf := pm_iff c2 hf
    refine pm_aload_n K d_State_setC_7 0 rfl rfl ?_
    refine pm_getR K fc_4 (o := 4) rfl 7 rfl (by decide) tw_220 d_State_setC_8 ?_
    refine pm_aload_n K d_State_setC_11 0 rfl rfl ?_
    refine pm_getI K fc_4 (o := 4) rfl 3 rfl (by decide) tw_211 d_State_setC_12 (v := o1.2.1 4 3) rfl ?_
    refine pm_iconst (v := 1) K d_State_setC_15 (by decide) ?_
    refine pm_isub K d_State_setC_16 ?_
    refine pm_iload_n K d_State_setC_17 1 rfl rfl ?_
    obtain ⟨q3, hf⟩ := pm_bnd hf
    refine pm_iast K (o := 16) rfl rfl q3 d_State_setC_18 ?_
    cases hf
    exact pm_vret K d_State_setC_19
/-- CellLisp$State.setC(I)V -/
theorem c_State_setC {l : Launch} {D : va_G} {ca : Nat → ClassId} {ad : Nat → Nat} {E : (Nat → Prop) → State → Heap → Prop} {S : Nat} (hEc : pm_Ecl E) (w' : pm_W) (x1 : Int32) (w : pm_W) (hf : f_State_setC  S x1 w = some w') : pm_Met l pmTs D vwCl (tyl ca) (shC S) ca ad E y_State_setC k_State_setC 2 none { frames := 1, cells := 0, slots := 0, locals := 20 } [.ref (ad 4), .int x1] w (none, w') :=
  pm_start pmTs_good hEc (by decide) (Nat.le_of_ble_eq_true rfl) (fun p e s m below meth c K => t_State_setC K w' x1 w hf)
def f_Room_hasFor (S : Nat) (x1 : Int32) (w : pm_W) : Option (Int32 × pm_W) :=
  if ((w.1 5 10) + x1) ≤ (w.1 5 0) then
    if (w.1 5 0) < ((w.1 5 10) + x1) then
      some ((0 : Int32), w)
    else
      some ((1 : Int32), w)
  else
    Option.bind (f_Room_collect S w) fun o3 =>
    if (o3.1 5 0) < ((o3.1 5 10) + x1) then
      some ((0 : Int32), o3)
    else
      some ((1 : Int32), o3)
set_option maxHeartbeats 4000000 in
set_option maxRecDepth 100000 in
theorem t_Room_hasFor {p : Program} {l : Launch} {e : Env} {s : State} {m : MethodId} {args : Array Value} {below : List Frame} {meth : Method} {c : Code} {D : va_G} {ca : Nat → ClassId} {ad : Nat → Nat} {E : (Nat → Prop) → State → Heap → Prop} {S : Nat} (K : pm_ok p s m args meth c k_Room_hasFor 2 pmTs R_Room D vwCl (tyl ca) (shC S) ad E (some .boolean)) (r : Int32) (w' : pm_W) (x1 : Int32) (w : pm_W) (hf : f_Room_hasFor  S x1 w = some (r, w')) : pm_wk p l e { frames := 3, cells := 0, slots := 0, locals := 66 } s m args below meth c D vwCl (shC S) ca ad 2 (some (.int r), w') 0 [(0, .ref (ad 5)), (1, .int x1)] [] w := by
  unfold f_Room_hasFor at hf
  refine pm_aload_n K d_Room_hasFor_0 0 rfl rfl ?_
  refine pm_getI K fc_5 (o := 5) rfl 10 rfl (by decide) tw_245 d_Room_hasFor_1 (v := w.1 5 10) rfl ?_
  refine pm_iload_n K d_Room_hasFor_4 1 rfl rfl ?_
  refine pm_iadd K d_Room_hasFor_5 ?_
  refine pm_aload_n K d_Room_hasFor_6 0 rfl rfl ?_
  refine pm_getI K fc_5 (o := 5) rfl 0 rfl (by decide) tw_235 d_Room_hasFor_7 (v := w.1 5 0) rfl ?_
  refine pm_icmp_le K d_Room_hasFor_10 17 (by decide) (fun c1 => ?_) (fun c1 => ?_)
  · have hf := pm_ift c1 hf
    refine pm_aload_n K d_Room_hasFor_17 0 rfl rfl ?_
    refine pm_getI K fc_5 (o := 5) rfl 10 rfl (by decide) tw_245 d_Room_hasFor_18 (v := w.1 5 10) rfl ?_
    refine pm_iload_n K d_Room_hasFor_21 1 rfl rfl ?_
    refine pm_iadd K d_Room_hasFor_22 ?_
    refine pm_aload_n K d_Room_hasFor_23 0 rfl rfl ?_
    refine pm_getI K fc_5 (o := 5) rfl 0 rfl (by decide) tw_235 d_Room_hasFor_24 (v := w.1 5 0) rfl ?_
    refine pm_icmp_gt K d_Room_hasFor_27 34 (by decide) (fun c2 => ?_) (fun c2 => ?_)
    · have hf := pm_ift c2 hf
      refine pm_iconst (v := 0) K d_Room_hasFor_34 (by decide) ?_
      cases hf
      exact pm_zret K (by decide) d_Room_hasFor_35
    · have hf := pm_iff c2 hf
      refine pm_iconst (v := 1) K d_Room_hasFor_30 (by decide) ?_
      refine pm_goto K d_Room_hasFor_31 35 (by decide) ?_
      cases hf
      exact pm_zret K (by decide) d_Room_hasFor_35
  · have hf := pm_iff c1 hf
    refine pm_aload_n K d_Room_hasFor_13 0 rfl rfl ?_
    obtain ⟨o3, z3, hf⟩ := pm_bind hf
    refine pm_callV (As := []) (rest := []) (o := 5) K (c_Room_collect K.2.2.2.2.2.2.2.2.2.2.2.2 o3 w z3) mi_Room_collect rfl rfl tw_367 tw_368 tw_366 rfl ⟨rfl, rfl, Nat.le_of_ble_eq_true rfl, Nat.le_of_ble_eq_true rfl⟩ rfl (Nat.le_of_ble_eq_true rfl) d_Room_hasFor_14 ?_
    refine pm_aload_n K d_Room_hasFor_17 0 rfl rfl ?_
    refine pm_getI K fc_5 (o := 5) rfl 10 rfl (by decide) tw_245 d_Room_hasFor_18 (v := o3.1 5 10) rfl ?_
    refine pm_iload_n K d_Room_hasFor_21 1 rfl rfl ?_
    refine pm_iadd K d_Room_hasFor_22 ?_
    refine pm_aload_n K d_Room_hasFor_23 0 rfl rfl ?_
    refine pm_getI K fc_5 (o := 5) rfl 0 rfl (by decide) tw_235 d_Room_hasFor_24 (v := o3.1 5 0) rfl ?_
    refine pm_icmp_gt K d_Room_hasFor_27 34 (by decide) (fun c4 => ?_) (fun c4 => ?_)
    · have hf := pm_ift c4 hf
      refine pm_iconst (v := 0) K d_Room_hasFor_34 (by decide) ?_
      cases hf
      exact pm_zret K (by decide) d_Room_hasFor_35
    · have hf := pm_iff c4 hf
      refine pm_iconst (v := 1) K d_Room_hasFor_30 (by decide) ?_
      refine pm_goto K d_Room_hasFor_31 35 (by decide) ?_
      cases hf
      exact pm_zret K (by decide) d_Room_hasFor_35
/-- CellLisp$Room.hasFor(I)Z -/
theorem c_Room_hasFor {l : Launch} {D : va_G} {ca : Nat → ClassId} {ad : Nat → Nat} {E : (Nat → Prop) → State → Heap → Prop} {S : Nat} (hEc : pm_Ecl E) (r : Int32) (w' : pm_W) (x1 : Int32) (w : pm_W) (hf : f_Room_hasFor  S x1 w = some (r, w')) : pm_Met l pmTs D vwCl (tyl ca) (shC S) ca ad E y_Room_hasFor k_Room_hasFor 2 (some .boolean) { frames := 3, cells := 0, slots := 0, locals := 66 } [.ref (ad 5), .int x1] w (some (.int r), w') :=
  pm_start pmTs_good hEc (by decide) (Nat.le_of_ble_eq_true rfl) (fun p e s m below meth c K => t_Room_hasFor K r w' x1 w hf)
def f_Room_make (S : Nat) (x1 : Int32) (x2 : Int32) (x3 : Int32) (x4 : Int32) (w : pm_W) : Option (Int32 × pm_W) :=
  if (w.1 5 9) < (1 : Int32) then
    some ((2 : Int32), w)
  else
    if (w.1 5 9) ≤ (w.1 5 1) then
      if ((w.1 5 9) - (1 : Int32)) < 0 ∨ S ≤ ((w.1 5 9) - (1 : Int32)).toNatClampNeg then none else
      if (w.1 22 ((w.1 5 9) - (1 : Int32)).toNatClampNeg) < 0 then
        some ((2 : Int32), pm_setI w 5 9 ((w.1 5 9) - (1 : Int32)))
      else
        if (w.1 22 ((w.1 5 9) - (1 : Int32)).toNatClampNeg) < (w.1 5 1) then
          if (w.1 22 ((w.1 5 9) - (1 : Int32)).toNatClampNeg) < 0 ∨ S ≤ (w.1 22 ((w.1 5 9) - (1 : Int32)).toNatClampNeg).toNatClampNeg then none else
          if (w.1 22 ((w.1 5 9) - (1 : Int32)).toNatClampNeg) < 0 ∨ S ≤ (w.1 22 ((w.1 5 9) - (1 : Int32)).toNatClampNeg).toNatClampNeg then none else
          if (w.1 22 ((w.1 5 9) - (1 : Int32)).toNatClampNeg) < 0 ∨ S ≤ (w.1 22 ((w.1 5 9) - (1 : Int32)).toNatClampNeg).toNatClampNeg then none else
          some (((w.1 22 ((w.1 5 9) - (1 : Int32)).toNatClampNeg) <<< ((3 : Int32) &&& 31)) ||| x1, pm_setI (pm_setI (pm_setI (pm_setI w 5 9 ((w.1 5 9) - (1 : Int32))) 17 (w.1 22 ((w.1 5 9) - (1 : Int32)).toNatClampNeg).toNatClampNeg x2) 18 (w.1 22 ((w.1 5 9) - (1 : Int32)).toNatClampNeg).toNatClampNeg x3) 19 (w.1 22 ((w.1 5 9) - (1 : Int32)).toNatClampNeg).toNatClampNeg x4)
        else
          some ((2 : Int32), pm_setI w 5 9 ((w.1 5 9) - (1 : Int32)))
    else
      some ((2 : Int32), w)
set_option maxHeartbeats 4000000 in
set_option maxRecDepth 100000 in
theorem t_Room_make {p : Program} {l : Launch} {e : Env} {s : State} {m : MethodId} {args : Array Value} {below : List Frame} {meth : Method} {c : Code} {D : va_G} {ca : Nat → ClassId} {ad : Nat → Nat} {E : (Nat → Prop) → State → Heap → Prop} {S : Nat} (K : pm_ok p s m args meth c k_Room_make 6 pmTs R_Room D vwCl (tyl ca) (shC S) ad E (some .int)) (r : Int32) (w' : pm_W) (x1 : Int32) (x2 : Int32) (x3 : Int32) (x4 : Int32) (w : pm_W) (hf : f_Room_make  S x1 x2 x3 x4 w = some (r, w')) : pm_wk p l e { frames := 0, cells := 0, slots := 0, locals := 0 } s m args below meth c D vwCl (shC S) ca ad 6 (some (.int r), w') 0 [(0, .ref (ad 5)), (1, .int x1), (2, .int x2), (3, .int x3), (4, .int x4)] [] w := by
  unfold f_Room_make at hf
  refine pm_aload_n K d_Room_make_0 0 rfl rfl ?_
  refine pm_getI K fc_5 (o := 5) rfl 9 rfl (by decide) tw_244 d_Room_make_1 (v := w.1 5 9) rfl ?_
  refine pm_iconst (v := 1) K d_Room_make_4 (by decide) ?_
  refine pm_icmp_lt K d_Room_make_5 19 (by decide) (fun c1 => ?_) (fun c1 => ?_)
  · have hf := pm_ift c1 hf
    refine pm_iconst (v := 2) K d_Room_make_19 (by decide) ?_
    cases hf
    exact pm_iret K d_Room_make_20
  · have hf := pm_iff c1 hf
    refine pm_aload_n K d_Room_make_8 0 rfl rfl ?_
    refine pm_getI K fc_5 (o := 5) rfl 9 rfl (by decide) tw_244 d_Room_make_9 (v := w.1 5 9) rfl ?_
    refine pm_aload_n K d_Room_make_12 0 rfl rfl ?_
    refine pm_getI K fc_5 (o := 5) rfl 1 rfl (by decide) tw_236 d_Room_make_13 (v := w.1 5 1) rfl ?_
    refine pm_icmp_le K d_Room_make_16 21 (by decide) (fun c2 => ?_) (fun c2 => ?_)
    · have hf := pm_ift c2 hf
      refine pm_aload_n K d_Room_make_21 0 rfl rfl ?_
      refine pm_dup K d_Room_make_22 rfl ?_
      refine pm_getI K fc_5 (o := 5) rfl 9 rfl (by decide) tw_244 d_Room_make_23 (v := w.1 5 9) rfl ?_
      refine pm_iconst (v := 1) K d_Room_make_26 (by decide) ?_
      refine pm_isub K d_Room_make_27 ?_
      refine pm_putI K fc_5 (o := 5) (ty := .int) rfl 9 rfl (by decide) tw_244 rfl rfl rfl rfl d_Room_make_28 ?_
      refine pm_aload_n K d_Room_make_31 0 rfl rfl ?_
      refine pm_getR K fc_5 (o := 5) rfl 7 rfl (by decide) tw_242 d_Room_make_32 ?_
      refine pm_aload_n K d_Room_make_35 0 rfl rfl ?_
      refine pm_getI K fc_5 (o := 5) rfl 9 rfl (by decide) tw_244 d_Room_make_36 (v := (w.1 5 9) - (1 : Int32)) rfl ?_
      obtain ⟨q3, hf⟩ := pm_bnd hf
      refine pm_iald K (o := 22) rfl rfl q3 d_Room_make_39 (v := w.1 22 ((w.1 5 9) - (1 : Int32)).toNatClampNeg) rfl ?_
      refine pm_istore (lv' := [(5, .int (w.1 22 ((w.1 5 9) - (1 : Int32)).toNatClampNeg)), (0, .ref (ad 5)), (1, .int x1), (2, .int x2), (3, .int x3), (4, .int x4)]) K d_Room_make_40 (by decide) rfl ?_
      refine pm_iload K d_Room_make_42 0 rfl ?_
      refine pm_if_lt K d_Room_make_44 56 (by decide) (fun c4 => ?_) (fun c4 => ?_)
      · have hf := pm_ift c4 hf
        refine pm_iconst (v := 2) K d_Room_make_56 (by decide) ?_
        cases hf
        exact pm_iret K d_Room_make_57
      · have hf := pm_iff c4 hf
        refine pm_iload K d_Room_make_47 0 rfl ?_
        refine pm_aload_n K d_Room_make_49 1 rfl rfl ?_
        refine pm_getI K fc_5 (o := 5) rfl 1 rfl (by decide) tw_236 d_Room_make_50 (v := w.1 5 1) rfl ?_
        refine pm_icmp_lt K d_Room_make_53 58 (by decide) (fun c5 => ?_) (fun c5 => ?_)
        · have hf := pm_ift c5 hf
          refine pm_aload_n K d_Room_make_58 1 rfl rfl ?_
          refine pm_getR K fc_5 (o := 5) rfl 2 rfl (by decide) tw_237 d_Room_make_59 ?_
          refine pm_iload K d_Room_make_62 0 rfl ?_
          refine pm_iload_n K d_Room_make_64 3 rfl rfl ?_
          obtain ⟨q6, hf⟩ := pm_bnd hf
          refine pm_iast K (o := 17) rfl rfl q6 d_Room_make_65 ?_
          refine pm_aload_n K d_Room_make_66 1 rfl rfl ?_
          refine pm_getR K fc_5 (o := 5) rfl 3 rfl (by decide) tw_238 d_Room_make_67 ?_
          refine pm_iload K d_Room_make_70 0 rfl ?_
          refine pm_iload_n K d_Room_make_72 4 rfl rfl ?_
          obtain ⟨q7, hf⟩ := pm_bnd hf
          refine pm_iast K (o := 18) rfl rfl q7 d_Room_make_73 ?_
          refine pm_aload_n K d_Room_make_74 1 rfl rfl ?_
          refine pm_getR K fc_5 (o := 5) rfl 4 rfl (by decide) tw_239 d_Room_make_75 ?_
          refine pm_iload K d_Room_make_78 0 rfl ?_
          refine pm_iload K d_Room_make_80 5 rfl ?_
          obtain ⟨q8, hf⟩ := pm_bnd hf
          refine pm_iast K (o := 19) rfl rfl q8 d_Room_make_82 ?_
          refine pm_iload K d_Room_make_83 0 rfl ?_
          refine pm_iconst (v := 3) K d_Room_make_85 (by decide) ?_
          refine pm_ishl K d_Room_make_86 ?_
          refine pm_iload_n K d_Room_make_87 2 rfl rfl ?_
          refine pm_ior K d_Room_make_88 ?_
          cases hf
          exact pm_iret K d_Room_make_89
        · have hf := pm_iff c5 hf
          refine pm_iconst (v := 2) K d_Room_make_56 (by decide) ?_
          cases hf
          exact pm_iret K d_Room_make_57
    · have hf := pm_iff c2 hf
      refine pm_iconst (v := 2) K d_Room_make_19 (by decide) ?_
      cases hf
      exact pm_iret K d_Room_make_20
/-- CellLisp$Room.make(IIII)I -/
theorem c_Room_make {l : Launch} {D : va_G} {ca : Nat → ClassId} {ad : Nat → Nat} {E : (Nat → Prop) → State → Heap → Prop} {S : Nat} (hEc : pm_Ecl E) (r : Int32) (w' : pm_W) (x1 : Int32) (x2 : Int32) (x3 : Int32) (x4 : Int32) (w : pm_W) (hf : f_Room_make  S x1 x2 x3 x4 w = some (r, w')) : pm_Met l pmTs D vwCl (tyl ca) (shC S) ca ad E y_Room_make k_Room_make 6 (some .int) { frames := 0, cells := 0, slots := 0, locals := 0 } [.ref (ad 5), .int x1, .int x2, .int x3, .int x4] w (some (.int r), w') :=
  pm_start pmTs_good hEc (by decide) (Nat.le_of_ble_eq_true rfl) (fun p e s m below meth c K => t_Room_make K r w' x1 x2 x3 x4 w hf)
