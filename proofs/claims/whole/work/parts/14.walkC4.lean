def f_Reader_isSymbol (S : Nat) (x1 : Int32) (x2 : Int32) (w : pm_W) : Option (Int32 × pm_W) :=
  Option.bind (f_Text_at S x1 w) fun o1 =>
  Option.bind (f_Text_isOfWord S o1.1 o1.2) fun o2 =>
  if o2.1 = 0 then
    some ((0 : Int32), o2.2)
  else
    Option.bind (f_Text_isNumber S x1 x2 o2.2) fun o4 =>
    if o4.1 = 0 then
      Option.bind (f_Text_name S x1 x2 o4.2) fun o6 =>
      if (lg_cmp o6.1 (7235948 : Int64)) = 0 then
        some ((0 : Int32), o6.2)
      else
        some ((1 : Int32), o6.2)
    else
      some ((0 : Int32), o4.2)
set_option maxHeartbeats 4000000 in
set_option maxRecDepth 100000 in
theorem t_Reader_isSymbol {p : Program} {l : Launch} {e : Env} {s : State} {m : MethodId} {args : Array Value} {below : List Frame} {meth : Method} {c : Code} {D : va_G} {ca : Nat → ClassId} {ad : Nat → Nat} {E : (Nat → Prop) → State → Heap → Prop} {S : Nat} (K : pm_ok p s m args meth c k_Reader_isSymbol 3 pmTs R_Reader D vwCl (tyl ca) (shC S) ad E (some .boolean)) (r : Int32) (w' : pm_W) (x1 : Int32) (x2 : Int32) (w : pm_W) (hf : f_Reader_isSymbol  S x1 x2 w = some (r, w')) : pm_wk p l e { frames := 2, cells := 0, slots := 0, locals := 46 } s m args below meth c D vwCl (shC S) ca ad 3 (some (.int r), w') 0 [(0, .ref (ad 7)), (1, .int x1), (2, .int x2)] [] w := by
  unfold f_Reader_isSymbol at hf
  refine pm_aload_n K d_Reader_isSymbol_0 0 rfl rfl ?_
  refine pm_getR K fc_7 (o := 7) rfl 0 rfl (by decide) tw_257 d_Reader_isSymbol_1 ?_
  refine pm_iload_n K d_Reader_isSymbol_4 1 rfl rfl ?_
  obtain ⟨o1, z1, hf⟩ := pm_bind hf
  refine pm_callV (As := [.int x1]) (rest := []) (o := 1) K (c_Text_at K.2.2.2.2.2.2.2.2.2.2.2.2 o1.1 o1.2 x1 w z1) mi_Text_at rfl rfl tw_324 tw_325 tw_323 rfl ⟨rfl, rfl, Nat.le_of_ble_eq_true rfl, Nat.le_of_ble_eq_true rfl⟩ rfl (Nat.le_of_ble_eq_true rfl) d_Reader_isSymbol_5 ?_
  obtain ⟨o2, z2, hf⟩ := pm_bind hf
  refine pm_callSN (As := [.int o1.1]) (rest := []) K (c_Text_isOfWord K.2.2.2.2.2.2.2.2.2.2.2.2 o2.1 o2.2 o1.1 o1.2 z2) mi_Text_isOfWord tw_333 tw_351 rfl ⟨rfl, rfl, Nat.le_of_ble_eq_true rfl, Nat.le_of_ble_eq_true rfl⟩ rfl (Nat.le_of_ble_eq_true rfl) d_Reader_isSymbol_8 ?_
  refine pm_if_eq K d_Reader_isSymbol_11 46 (by decide) (fun c3 => ?_) (fun c3 => ?_)
  · have hf := pm_ift c3 hf
    refine pm_iconst (v := 0) K d_Reader_isSymbol_46 (by decide) ?_
    cases hf
    exact pm_zret K (by decide) d_Reader_isSymbol_47
  · have hf := pm_iff c3 hf
    refine pm_aload_n K d_Reader_isSymbol_14 0 rfl rfl ?_
    refine pm_getR K fc_7 (o := 7) rfl 0 rfl (by decide) tw_257 d_Reader_isSymbol_15 ?_
    refine pm_iload_n K d_Reader_isSymbol_18 1 rfl rfl ?_
    refine pm_iload_n K d_Reader_isSymbol_19 2 rfl rfl ?_
    obtain ⟨o4, z4, hf⟩ := pm_bind hf
    refine pm_callV (As := [.int x1, .int x2]) (rest := []) (o := 1) K (c_Text_isNumber K.2.2.2.2.2.2.2.2.2.2.2.2 o4.1 o4.2 x1 x2 o2.2 z4) mi_Text_isNumber rfl rfl tw_353 tw_354 tw_352 rfl ⟨rfl, rfl, Nat.le_of_ble_eq_true rfl, Nat.le_of_ble_eq_true rfl⟩ rfl (Nat.le_of_ble_eq_true rfl) d_Reader_isSymbol_20 ?_
    refine pm_if_ne K d_Reader_isSymbol_23 46 (by decide) (fun c5 => ?_) (fun c5 => ?_)
    · have hf := pm_iff c5 hf
      refine pm_iconst (v := 0) K d_Reader_isSymbol_46 (by decide) ?_
      cases hf
      exact pm_zret K (by decide) d_Reader_isSymbol_47
    · have hf := pm_ift c5 hf
      refine pm_aload_n K d_Reader_isSymbol_26 0 rfl rfl ?_
      refine pm_getR K fc_7 (o := 7) rfl 0 rfl (by decide) tw_257 d_Reader_isSymbol_27 ?_
      refine pm_iload_n K d_Reader_isSymbol_30 1 rfl rfl ?_
      refine pm_iload_n K d_Reader_isSymbol_31 2 rfl rfl ?_
      obtain ⟨o6, z6, hf⟩ := pm_bind hf
      refine pm_callV (As := [.int x1, .int x2]) (rest := []) (o := 1) K (c_Text_name K.2.2.2.2.2.2.2.2.2.2.2.2 o6.1 o6.2 x1 x2 o4.2 z6) mi_Text_name rfl rfl tw_357 tw_358 tw_356 rfl ⟨rfl, rfl, Nat.le_of_ble_eq_true rfl, Nat.le_of_ble_eq_true rfl⟩ rfl (Nat.le_of_ble_eq_true rfl) d_Reader_isSymbol_32 ?_
      refine pm_ldc2 K tw_360 d_Reader_isSymbol_35 ?_
      refine pm_lcmp K d_Reader_isSymbol_38 ?_
      refine pm_if_eq K d_Reader_isSymbol_39 46 (by decide) (fun c7 => ?_) (fun c7 => ?_)
      · have hf := pm_ift c7 hf
        refine pm_iconst (v := 0) K d_Reader_isSymbol_46 (by decide) ?_
        cases hf
        exact pm_zret K (by decide) d_Reader_isSymbol_47
      · have hf := pm_iff c7 hf
        refine pm_iconst (v := 1) K d_Reader_isSymbol_42 (by decide) ?_
        refine pm_goto K d_Reader_isSymbol_43 47 (by decide) ?_
        cases hf
        exact pm_zret K (by decide) d_Reader_isSymbol_47
/-- CellLisp$Reader.isSymbol(II)Z -/
theorem c_Reader_isSymbol {l : Launch} {D : va_G} {ca : Nat → ClassId} {ad : Nat → Nat} {E : (Nat → Prop) → State → Heap → Prop} {S : Nat} (hEc : pm_Ecl E) (r : Int32) (w' : pm_W) (x1 : Int32) (x2 : Int32) (w : pm_W) (hf : f_Reader_isSymbol  S x1 x2 w = some (r, w')) : pm_Met l pmTs D vwCl (tyl ca) (shC S) ca ad E y_Reader_isSymbol k_Reader_isSymbol 3 (some .boolean) { frames := 2, cells := 0, slots := 0, locals := 46 } [.ref (ad 7), .int x1, .int x2] w (some (.int r), w') :=
  pm_start pmTs_good hEc (by decide) (Nat.le_of_ble_eq_true rfl) (fun p e s m below meth c K => t_Reader_isSymbol K r w' x1 x2 w hf)
def b_Reader_learnSymbols_4 (S : Nat) (rec : Nat → Int32 → Int32 → pm_W → Option (Int32 × pm_W)) (x1 : Int32) (x2 : Int32) (w : pm_W) : Option (Int32 × pm_W) :=
  if (120 : Int32) ≤ x2 then
    some ((1 : Int32), w)
  else
    if (w.1 7 3) ≤ x1 then
      some ((1 : Int32), w)
    else
      Option.bind (f_Text_pieceEnd S x1 w) fun o3 =>
      Option.bind (f_Reader_isSymbol S x1 o3.1 o3.2) fun o4 =>
      if o4.1 = 0 then
        rec 0 o3.1 (x2 + (1 : Int32)) o4.2
      else
        Option.bind (f_Text_name S x1 o3.1 o4.2) fun o6 =>
        Option.bind (f_Symbols_learn S o6.1 o6.2) fun o7 =>
        if o7.1 = 0 then
          some ((0 : Int32), o7.2)
        else
          rec 0 o3.1 (x2 + (1 : Int32)) o7.2
def l_Reader_learnSymbols (S : Nat) : Nat → Nat → Int32 → Int32 → pm_W → Option (Int32 × pm_W) := pm_it (fun _ _ _ _ => none) (fun rec k x1 x2 w => b_Reader_learnSymbols_4  S rec x1 x2 w)
def f_Reader_learnSymbols (S : Nat) (w : pm_W) : Option (Int32 × pm_W) :=
  (l_Reader_learnSymbols  S pm_fuel) 0 (0 : Int32) (0 : Int32) w
set_option maxHeartbeats 4000000 in
set_option maxRecDepth 100000 in
theorem t_Reader_learnSymbols_4 {p : Program} {l : Launch} {e : Env} {s : State} {m : MethodId} {args : Array Value} {below : List Frame} {meth : Method} {c : Code} {D : va_G} {ca : Nat → ClassId} {ad : Nat → Nat} {E : (Nat → Prop) → State → Heap → Prop} {S : Nat} (K : pm_ok p s m args meth c k_Reader_learnSymbols 4 pmTs R_Reader D vwCl (tyl ca) (shC S) ad E (some .boolean)) (rec : Nat → Int32 → Int32 → pm_W → Option (Int32 × pm_W)) (r : Int32) (w' : pm_W) (h4 : ∀ (x1 : Int32) (x2 : Int32) (w : pm_W), rec 0 x1 x2 w = some (r, w') → pm_wk p l e { frames := 3, cells := 0, slots := 0, locals := 68 } s m args below meth c D vwCl (shC S) ca ad 4 (some (.int r), w') 4 [(0, .ref (ad 7)), (1, .int x1), (2, .int x2)] [] w) (x1 : Int32) (x2 : Int32) (w : pm_W) (hf : b_Reader_learnSymbols_4  S rec x1 x2 w = some (r, w')) : pm_wk p l e { frames := 3, cells := 0, slots := 0, locals := 68 } s m args below meth c D vwCl (shC S) ca ad 4 (some (.int r), w') 4 [(0, .ref (ad 7)), (1, .int x1), (2, .int x2)] [] w := by
  unfold b_Reader_learnSymbols_4 at hf
  refine pm_iload_n K d_Reader_learnSymbols_4 2 rfl rfl ?_
  refine pm_bipush (v := 120) K d_Reader_learnSymbols_5 (by decide) ?_
  refine pm_icmp_ge K d_Reader_learnSymbols_7 65 (by decide) (fun c1 => ?_) (fun c1 => ?_)
  · have hf := pm_ift c1 hf
    refine pm_iconst (v := 1) K d_Reader_learnSymbols_65 (by decide) ?_
    cases hf
    exact pm_zret K (by decide) d_Reader_learnSymbols_66
  · have hf := pm_iff c1 hf
    refine pm_iload_n K d_Reader_learnSymbols_10 1 rfl rfl ?_
    refine pm_aload_n K d_Reader_learnSymbols_11 0 rfl rfl ?_
    refine pm_getI K fc_7 (o := 7) rfl 3 rfl (by decide) tw_260 d_Reader_learnSymbols_12 (v := w.1 7 3) rfl ?_
    refine pm_icmp_ge K d_Reader_learnSymbols_15 65 (by decide) (fun c2 => ?_) (fun c2 => ?_)
    · have hf := pm_ift c2 hf
      refine pm_iconst (v := 1) K d_Reader_learnSymbols_65 (by decide) ?_
      cases hf
      exact pm_zret K (by decide) d_Reader_learnSymbols_66
    · have hf := pm_iff c2 hf
      refine pm_aload_n K d_Reader_learnSymbols_18 0 rfl rfl ?_
      refine pm_getR K fc_7 (o := 7) rfl 0 rfl (by decide) tw_257 d_Reader_learnSymbols_19 ?_
      refine pm_iload_n K d_Reader_learnSymbols_22 1 rfl rfl ?_
      obtain ⟨o3, z3, hf⟩ := pm_bind hf
      refine pm_callV (As := [.int x1]) (rest := []) (o := 1) K (c_Text_pieceEnd K.2.2.2.2.2.2.2.2.2.2.2.2 o3.1 o3.2 x1 w z3) mi_Text_pieceEnd rfl rfl tw_328 tw_329 tw_327 rfl ⟨rfl, rfl, Nat.le_of_ble_eq_true rfl, Nat.le_of_ble_eq_true rfl⟩ rfl (Nat.le_of_ble_eq_true rfl) d_Reader_learnSymbols_23 ?_
      refine pm_istore_n (lv' := [(3, .int o3.1), (0, .ref (ad 7)), (1, .int x1), (2, .int x2)]) K d_Reader_learnSymbols_26 rfl (by decide) rfl ?_
      refine pm_aload_n K d_Reader_learnSymbols_27 1 rfl rfl ?_
      refine pm_iload_n K d_Reader_learnSymbols_28 2 rfl rfl ?_
      refine pm_iload_n K d_Reader_learnSymbols_29 0 rfl rfl ?_
      obtain ⟨o4, z4, hf⟩ := pm_bind hf
      refine pm_callV (As := [.int x1, .int o3.1]) (rest := []) (o := 7) K (c_Reader_isSymbol K.2.2.2.2.2.2.2.2.2.2.2.2 o4.1 o4.2 x1 o3.1 o3.2 z4) mi_Reader_isSymbol rfl rfl tw_349 tw_3 tw_348 rfl ⟨rfl, rfl, Nat.le_of_ble_eq_true rfl, Nat.le_of_ble_eq_true rfl⟩ rfl (Nat.le_of_ble_eq_true rfl) d_Reader_learnSymbols_30 ?_
      refine pm_if_eq K d_Reader_learnSymbols_33 57 (by decide) (fun c5 => ?_) (fun c5 => ?_)
      · have hf := pm_ift c5 hf
        refine pm_iload_n K d_Reader_learnSymbols_57 0 rfl rfl ?_
        refine pm_istore_n (lv' := [(1, .int o3.1), (3, .int o3.1), (0, .ref (ad 7)), (2, .int x2)]) K d_Reader_learnSymbols_58 rfl (by decide) rfl ?_
        refine pm_iinc (v := x2 + (1 : Int32)) (lv' := [(2, .int (x2 + (1 : Int32))), (1, .int o3.1), (3, .int o3.1), (0, .ref (ad 7))]) K d_Reader_learnSymbols_59 3 rfl rfl (by decide) rfl ?_
        refine pm_goto K d_Reader_learnSymbols_62 4 (by decide) ?_
        refine pm_sub (lv' := [(0, .ref (ad 7)), (1, .int o3.1), (2, .int (x2 + (1 : Int32)))]) [3, 1, 0] rfl ?_
        exact h4 o3.1 (x2 + (1 : Int32)) o4.2 hf
      · have hf := pm_iff c5 hf
        refine pm_aload_n K d_Reader_learnSymbols_36 1 rfl rfl ?_
        refine pm_getR K fc_7 (o := 7) rfl 1 rfl (by decide) tw_258 d_Reader_learnSymbols_37 ?_
        refine pm_aload_n K d_Reader_learnSymbols_40 1 rfl rfl ?_
        refine pm_getR K fc_7 (o := 7) rfl 0 rfl (by decide) tw_257 d_Reader_learnSymbols_41 ?_
        refine pm_iload_n K d_Reader_learnSymbols_44 2 rfl rfl ?_
        refine pm_iload_n K d_Reader_learnSymbols_45 0 rfl rfl ?_
        obtain ⟨o6, z6, hf⟩ := pm_bind hf
        refine pm_callV (As := [.int x1, .int o3.1]) (rest := [.ref (ad 3)]) (o := 1) K (c_Text_name K.2.2.2.2.2.2.2.2.2.2.2.2 o6.1 o6.2 x1 o3.1 o4.2 z6) mi_Text_name rfl rfl tw_357 tw_358 tw_356 rfl ⟨rfl, rfl, Nat.le_of_ble_eq_true rfl, Nat.le_of_ble_eq_true rfl⟩ rfl (Nat.le_of_ble_eq_true rfl) d_Reader_learnSymbols_46 ?_
        obtain ⟨o7, z7, hf⟩ := pm_bind hf
        refine pm_callV (As := [.long o6.1]) (rest := []) (o := 3) K (c_Symbols_learn K.2.2.2.2.2.2.2.2.2.2.2.2 o7.1 o7.2 o6.1 o6.2 z7) mi_Symbols_learn rfl rfl tw_182 tw_183 tw_361 rfl ⟨rfl, rfl, Nat.le_of_ble_eq_true rfl, Nat.le_of_ble_eq_true rfl⟩ rfl (Nat.le_of_ble_eq_true rfl) d_Reader_learnSymbols_49 ?_
        refine pm_if_ne K d_Reader_learnSymbols_52 57 (by decide) (fun c8 => ?_) (fun c8 => ?_)
        · have hf := pm_iff c8 hf
          refine pm_iload_n K d_Reader_learnSymbols_57 0 rfl rfl ?_
          refine pm_istore_n (lv' := [(1, .int o3.1), (3, .int o3.1), (0, .ref (ad 7)), (2, .int x2)]) K d_Reader_learnSymbols_58 rfl (by decide) rfl ?_
          refine pm_iinc (v := x2 + (1 : Int32)) (lv' := [(2, .int (x2 + (1 : Int32))), (1, .int o3.1), (3, .int o3.1), (0, .ref (ad 7))]) K d_Reader_learnSymbols_59 3 rfl rfl (by decide) rfl ?_
          refine pm_goto K d_Reader_learnSymbols_62 4 (by decide) ?_
          refine pm_sub (lv' := [(0, .ref (ad 7)), (1, .int o3.1), (2, .int (x2 + (1 : Int32)))]) [3, 1, 0] rfl ?_
          exact h4 o3.1 (x2 + (1 : Int32)) o7.2 hf
        · have hf := pm_ift c8 hf
          refine pm_iconst (v := 0) K d_Reader_learnSymbols_55 (by decide) ?_
          cases hf
          exact pm_zret K (by decide) d_Reader_learnSymbols_56
set_option maxHeartbeats 4000000 in
set_option maxRecDepth 100000 in
theorem a_Reader_learnSymbols {p : Program} {l : Launch} {e : Env} {s : State} {m : MethodId} {args : Array Value} {below : List Frame} {meth : Method} {c : Code} {D : va_G} {ca : Nat → ClassId} {ad : Nat → Nat} {E : (Nat → Prop) → State → Heap → Prop} {S : Nat} (K : pm_ok p s m args meth c k_Reader_learnSymbols 4 pmTs R_Reader D vwCl (tyl ca) (shC S) ad E (some .boolean)) (r : Int32) (w' : pm_W) : ∀ n : Nat, (∀ (x1 : Int32) (x2 : Int32) (w : pm_W), l_Reader_learnSymbols  S n 0 x1 x2 w = some (r, w') → pm_wk p l e { frames := 3, cells := 0, slots := 0, locals := 68 } s m args below meth c D vwCl (shC S) ca ad 4 (some (.int r), w') 4 [(0, .ref (ad 7)), (1, .int x1), (2, .int x2)] [] w) := by
  intro n
  induction n with
  | zero => exact fun _ _ _ hf => (by cases hf)
  | succ n ih => exact fun x1 x2 w hf => t_Reader_learnSymbols_4 K (l_Reader_learnSymbols S n) r w' (ih) x1 x2 w hf
set_option maxHeartbeats 4000000 in
set_option maxRecDepth 100000 in
theorem t_Reader_learnSymbols {p : Program} {l : Launch} {e : Env} {s : State} {m : MethodId} {args : Array Value} {below : List Frame} {meth : Method} {c : Code} {D : va_G} {ca : Nat → ClassId} {ad : Nat → Nat} {E : (Nat → Prop) → State → Heap → Prop} {S : Nat} (K : pm_ok p s m args meth c k_Reader_learnSymbols 4 pmTs R_Reader D vwCl (tyl ca) (shC S) ad E (some .boolean)) (r : Int32) (w' : pm_W) (w : pm_W) (hf : f_Reader_learnSymbols  S w = some (r, w')) : pm_wk p l e { frames := 3, cells := 0, slots := 0, locals := 68 } s m args below meth c D vwCl (shC S) ca ad 4 (some (.int r), w') 0 [(0, .ref (ad 7))] [] w := by
  unfold f_Reader_learnSymbols at hf
  have h4 := (a_Reader_learnSymbols (l := l) (e := e) (below := below) K  r w' pm_fuel)
  refine pm_iconst (v := 0) K d_Reader_learnSymbols_0 (by decide) ?_
  refine pm_istore_n (lv' := [(1, .int (0 : Int32)), (0, .ref (ad 7))]) K d_Reader_learnSymbols_1 rfl (by decide) rfl ?_
  refine pm_iconst (v := 0) K d_Reader_learnSymbols_2 (by decide) ?_
  refine pm_istore_n (lv' := [(2, .int (0 : Int32)), (1, .int (0 : Int32)), (0, .ref (ad 7))]) K d_Reader_learnSymbols_3 rfl (by decide) rfl ?_
  refine pm_sub (lv' := [(0, .ref (ad 7)), (1, .int (0 : Int32)), (2, .int (0 : Int32))]) [2, 1, 0] rfl ?_
  exact h4 (0 : Int32) (0 : Int32) w hf
/-- CellLisp$Reader.learnSymbols()Z -/
theorem c_Reader_learnSymbols {l : Launch} {D : va_G} {ca : Nat → ClassId} {ad : Nat → Nat} {E : (Nat → Prop) → State → Heap → Prop} {S : Nat} (hEc : pm_Ecl E) (r : Int32) (w' : pm_W) (w : pm_W) (hf : f_Reader_learnSymbols  S w = some (r, w')) : pm_Met l pmTs D vwCl (tyl ca) (shC S) ca ad E y_Reader_learnSymbols k_Reader_learnSymbols 4 (some .boolean) { frames := 3, cells := 0, slots := 0, locals := 68 } [.ref (ad 7)] w (some (.int r), w') :=
  pm_start pmTs_good hEc (by decide) (Nat.le_of_ble_eq_true rfl) (fun p e s m below meth c K => t_Reader_learnSymbols K r w'  w hf)
def f_Value_of (S : Nat) (x0 : Int32) (x1 : Int32) (w : pm_W) : Option (Int32 × pm_W) :=
  some ((x1 <<< ((3 : Int32) &&& 31)) ||| x0, w)
set_option maxHeartbeats 4000000 in
set_option maxRecDepth 100000 in
theorem t_Value_of {p : Program} {l : Launch} {e : Env} {s : State} {m : MethodId} {args : Array Value} {below : List Frame} {meth : Method} {c : Code} {D : va_G} {ca : Nat → ClassId} {ad : Nat → Nat} {E : (Nat → Prop) → State → Heap → Prop} {S : Nat} (K : pm_ok p s m args meth c k_Value_of 2 pmTs R_Value D vwCl (tyl ca) (shC S) ad E (some .int)) (r : Int32) (w' : pm_W) (x0 : Int32) (x1 : Int32) (w : pm_W) (hf : f_Value_of  S x0 x1 w = some (r, w')) : pm_wk p l e { frames := 0, cells := 0, slots := 0, locals := 0 } s m args below meth c D vwCl (shC S) ca ad 2 (some (.int r), w') 0 [(0, .int x0), (1, .int x1)] [] w := by
  unfold f_Value_of at hf
  refine pm_iload_n K d_Value_of_0 1 rfl rfl ?_
  refine pm_iconst (v := 3) K d_Value_of_1 (by decide) ?_
  refine pm_ishl K d_Value_of_2 ?_
  refine pm_iload_n K d_Value_of_3 0 rfl rfl ?_
  refine pm_ior K d_Value_of_4 ?_
  cases hf
  exact pm_iret K d_Value_of_5
/-- CellLisp$Value.of(II)I -/
theorem c_Value_of {l : Launch} {D : va_G} {ca : Nat → ClassId} {ad : Nat → Nat} {E : (Nat → Prop) → State → Heap → Prop} {S : Nat} (hEc : pm_Ecl E) (r : Int32) (w' : pm_W) (x0 : Int32) (x1 : Int32) (w : pm_W) (hf : f_Value_of  S x0 x1 w = some (r, w')) : pm_Met l pmTs D vwCl (tyl ca) (shC S) ca ad E y_Value_of k_Value_of 2 (some .int) { frames := 0, cells := 0, slots := 0, locals := 0 } [.int x0, .int x1] w (some (.int r), w') :=
  pm_start pmTs_good hEc (by decide) (Nat.le_of_ble_eq_true rfl) (fun p e s m below meth c K => t_Value_of K r w' x0 x1 w hf)
def b_Reader_place_31 (S : Nat) (x3 : Int32) (x4 : Int32) (w : pm_W) : Option pm_W :=
  if x3 < (1 : Int32) then
    some (pm_setI w 7 5 x4)
  else
    if x3 ≤ (10 : Int32) then
      Option.bind (f_Room_pair S x4 (2 : Int32) w) fun o7 =>
      if x3 < 0 ∨ 11 ≤ x3.toNatClampNeg then none else
      if (o7.2.1 23 x3.toNatClampNeg) = (2 : Int32) then
        if x3 < 0 ∨ 11 ≤ x3.toNatClampNeg then none else
        if x3 < 0 ∨ 11 ≤ x3.toNatClampNeg then none else
        some (pm_setI (pm_setI o7.2 23 x3.toNatClampNeg o7.1) 24 x3.toNatClampNeg o7.1)
      else
        if x3 < 0 ∨ 11 ≤ x3.toNatClampNeg then none else
        Option.bind (f_Room_setSecond S (o7.2.1 24 x3.toNatClampNeg) o7.1 o7.2) fun o11 =>
        if x3 < 0 ∨ 11 ≤ x3.toNatClampNeg then none else
        some (pm_setI o11 24 x3.toNatClampNeg o7.1)
    else
      some (pm_setI w 7 5 x4)
def f_Reader_place (S : Nat) (x1 : Int32) (x2 : Int32) (x3 : Int32) (w : pm_W) : Option pm_W :=
  if x2 = 0 then
    b_Reader_place_31  S  x3 x1 w
  else
    Option.bind (f_Value_of S (1 : Int32) (10 : Int32) w) fun o2 =>
    Option.bind (f_Room_pair S x1 (2 : Int32) o2.2) fun o3 =>
    Option.bind (f_Room_pair S o2.1 o3.1 o3.2) fun o4 =>
    b_Reader_place_31  S  x3 o4.1 o4.2
set_option maxHeartbeats 4000000 in
set_option maxRecDepth 100000 in
theorem t_Reader_place_31 {p : Program} {l : Launch} {e : Env} {s : State} {m : MethodId} {args : Array Value} {below : List Frame} {meth : Method} {c : Code} {D : va_G} {ca : Nat → ClassId} {ad : Nat → Nat} {E : (Nat → Prop) → State → Heap → Prop} {S : Nat} (K : pm_ok p s m args meth c k_Reader_place 6 pmTs R_Reader D vwCl (tyl ca) (shC S) ad E none) (w' : pm_W) (x3 : Int32) (x4 : Int32) (w : pm_W) (hf : b_Reader_place_31  S x3 x4 w = some w') : pm_wk p l e { frames := 2, cells := 0, slots := 0, locals := 47 } s m args below meth c D vwCl (shC S) ca ad 6 (none, w') 31 [(0, .ref (ad 7)), (3, .int x3), (4, .int x4)] [] w := by
  unfold b_Reader_place_31 at hf
  refine pm_iload_n K d_Reader_place_31 1 rfl rfl ?_
  refine pm_iconst (v := 1) K d_Reader_place_32 (by decide) ?_
  refine pm_icmp_lt K d_Reader_place_33 42 (by decide) (fun c5 => ?_) (fun c5 => ?_)
  · have hf := pm_ift c5 hf
    refine pm_aload_n K d_Reader_place_42 0 rfl rfl ?_
    refine pm_iload K d_Reader_place_43 2 rfl ?_
    refine pm_putI K fc_7 (o := 7) (ty := .int) rfl 5 rfl (by decide) tw_262 rfl rfl rfl rfl d_Reader_place_45 ?_
    cases hf
    exact pm_vret K d_Reader_place_48
  · have hf := pm_iff c5 hf
    refine pm_iload_n K d_Reader_place_36 1 rfl rfl ?_
    refine pm_bipush (v := 10) K d_Reader_place_37 (by decide) ?_
    refine pm_icmp_le K d_Reader_place_39 49 (by decide) (fun c6 => ?_) (fun c6 => ?_)
    · have hf := pm_ift c6 hf
      refine pm_aload_n K d_Reader_place_49 0 rfl rfl ?_
      refine pm_getR K fc_7 (o := 7) rfl 2 rfl (by decide) tw_259 d_Reader_place_50 ?_
      refine pm_iload K d_Reader_place_53 2 rfl ?_
      refine pm_iconst (v := 2) K d_Reader_place_55 (by decide) ?_
      obtain ⟨o7, z7, hf⟩ := pm_bind hf
      refine pm_callV (As := [.int x4, .int (2 : Int32)]) (rest := []) (o := 5) K (c_Room_pair K.2.2.2.2.2.2.2.2.2.2.2.2 o7.1 o7.2 x4 (2 : Int32) w z7) mi_Room_pair rfl rfl tw_390 tw_391 tw_389 rfl ⟨rfl, rfl, Nat.le_of_ble_eq_true rfl, Nat.le_of_ble_eq_true rfl⟩ rfl (Nat.le_of_ble_eq_true rfl) d_Reader_place_56 ?_
      refine pm_istore (lv' := [(5, .int o7.1), (0, .ref (ad 7)), (3, .int x3), (4, .int x4)]) K d_Reader_place_59 (by decide) rfl ?_
      refine pm_aload_n K d_Reader_place_61 1 rfl rfl ?_
      refine pm_getR K fc_7 (o := 7) rfl 6 rfl (by decide) tw_264 d_Reader_place_62 ?_
      refine pm_iload_n K d_Reader_place_65 2 rfl rfl ?_
      obtain ⟨q8, hf⟩ := pm_bnd hf
      refine pm_iald K (o := 23) rfl rfl q8 d_Reader_place_66 (v := o7.2.1 23 x3.toNatClampNeg) rfl ?_
      refine pm_iconst (v := 2) K d_Reader_place_67 (by decide) ?_
      refine pm_icmp_ne K d_Reader_place_68 82 (by decide) (fun c9 => ?_) (fun c9 => ?_)
      · have hf := pm_iff c9 hf
        refine pm_aload_n K d_Reader_place_82 1 rfl rfl ?_
        refine pm_getR K fc_7 (o := 7) rfl 2 rfl (by decide) tw_259 d_Reader_place_83 ?_
        refine pm_aload_n K d_Reader_place_86 1 rfl rfl ?_
        refine pm_getR K fc_7 (o := 7) rfl 7 rfl (by decide) tw_265 d_Reader_place_87 ?_
        refine pm_iload_n K d_Reader_place_90 2 rfl rfl ?_
        obtain ⟨q10, hf⟩ := pm_bnd hf
        refine pm_iald K (o := 24) rfl rfl q10 d_Reader_place_91 (v := o7.2.1 24 x3.toNatClampNeg) rfl ?_
        refine pm_iload K d_Reader_place_92 0 rfl ?_
        obtain ⟨o11, z11, hf⟩ := pm_bind hf
        refine pm_callV (As := [.int (o7.2.1 24 x3.toNatClampNeg), .int o7.1]) (rest := []) (o := 5) K (c_Room_setSecond K.2.2.2.2.2.2.2.2.2.2.2.2 o11 (o7.2.1 24 x3.toNatClampNeg) o7.1 o7.2 z11) mi_Room_setSecond rfl rfl tw_397 tw_398 tw_396 rfl ⟨rfl, rfl, Nat.le_of_ble_eq_true rfl, Nat.le_of_ble_eq_true rfl⟩ rfl (Nat.le_of_ble_eq_true rfl) d_Reader_place_94 ?_
        refine pm_aload_n K d_Reader_place_97 1 rfl rfl ?_
        refine pm_getR K fc_7 (o := 7) rfl 7 rfl (by decide) tw_265 d_Reader_place_98 ?_
        refine pm_iload_n K d_Reader_place_101 2 rfl rfl ?_
        refine pm_iload K d_Reader_place_102 0 rfl ?_
        obtain ⟨q12, hf⟩ := pm_bnd hf
        refine pm_iast K (o := 24) rfl rfl q12 d_Reader_place_104 ?_
        cases hf
        exact pm_vret K d_Reader_place_105
      · have hf := pm_ift c9 hf
        refine pm_aload_n K d_Reader_place_71 1 rfl rfl ?_
        refine pm_getR K fc_7 (o := 7) rfl 6 rfl (by decide) tw_264 d_Reader_place_72 ?_
        refine pm_iload_n K d_Reader_place_75 2 rfl rfl ?_
        refine pm_iload K d_Reader_place_76 0 rfl ?_
        obtain ⟨q13, hf⟩ := pm_bnd hf
        refine pm_iast K (o := 23) rfl rfl q13 d_Reader_place_78 ?_
        refine pm_goto K d_Reader_place_79 97 (by decide) ?_
        refine pm_aload_n K d_Reader_place_97 1 rfl rfl ?_
        refine pm_getR K fc_7 (o := 7) rfl 7 rfl (by decide) tw_265 d_Reader_place_98 ?_
        refine pm_iload_n K d_Reader_place_101 2 rfl rfl ?_
        refine pm_iload K d_Reader_place_102 0 rfl ?_
        obtain ⟨q14, hf⟩ := pm_bnd hf
        refine pm_iast K (o := 24) rfl rfl q14 d_Reader_place_104 ?_
        cases hf
        exact pm_vret K d_Reader_place_105
    · have hf := pm_iff c6 hf
      refine pm_aload_n K d_Reader_place_42 0 rfl rfl ?_
      refine pm_iload K d_Reader_place_43 2 rfl ?_
      refine pm_putI K fc_7 (o := 7) (ty := .int) rfl 5 rfl (by decide) tw_262 rfl rfl rfl rfl d_Reader_place_45 ?_
      cases hf
      exact pm_vret K d_Reader_place_48
set_option maxHeartbeats 4000000 in
set_option maxRecDepth 100000 in
theorem t_Reader_place {p : Program} {l : Launch} {e : Env} {s : State} {m : MethodId} {args : Array Value} {below : List Frame} {meth : Method} {c : Code} {D : va_G} {ca : Nat → ClassId} {ad : Nat → Nat} {E : (Nat → Prop) → State → Heap → Prop} {S : Nat} (K : pm_ok p s m args meth c k_Reader_place 6 pmTs R_Reader D vwCl (tyl ca) (shC S) ad E none) (w' : pm_W) (x1 : Int32) (x2 : Int32) (x3 : Int32) (w : pm_W) (hf : f_Reader_place  S x1 x2 x3 w = some w') : pm_wk p l e { frames := 2, cells := 0, slots := 0, locals := 47 } s m args below meth c D vwCl (shC S) ca ad 6 (none, w') 0 [(0, .ref (ad 7)), (1, .int x1), (2, .int x2), (3, .int x3)] [] w := by
  unfold f_Reader_place at hf
  refine pm_iload_n K d_Reader_place_0 1 rfl rfl ?_
  refine pm_istore (lv' := [(4, .int x1), (0, .ref (ad 7)), (1, .int x1), (2, .int x2), (3, .int x3)]) K d_Reader_place_1 (by decide) rfl ?_
  refine pm_iload_n K d_Reader_place_3 3 rfl rfl ?_
  refine pm_if_eq K d_Reader_place_4 31 (by decide) (fun c1 => ?_) (fun c1 => ?_)
  · have hf := pm_ift c1 hf
    refine pm_sub (lv' := [(0, .ref (ad 7)), (3, .int x3), (4, .int x1)]) [1, 4, 0] rfl ?_
    exact t_Reader_place_31 K  w'  x3 x1 w hf
  · have hf := pm_iff c1 hf
    refine pm_aload_n K d_Reader_place_7 1 rfl rfl ?_
    refine pm_getR K fc_7 (o := 7) rfl 2 rfl (by decide) tw_259 d_Reader_place_8 ?_
    refine pm_iconst (v := 1) K d_Reader_place_11 (by decide) ?_
    refine pm_bipush (v := 10) K d_Reader_place_12 (by decide) ?_
    obtain ⟨o2, z2, hf⟩ := pm_bind hf
    refine pm_callS (As := [.int (1 : Int32), .int (10 : Int32)]) (rest := [.ref (ad 5)]) K (c_Value_of K.2.2.2.2.2.2.2.2.2.2.2.2 o2.1 o2.2 (1 : Int32) (10 : Int32) w z2) mi_Value_of tw_190 tw_388 rfl ⟨rfl, rfl, Nat.le_of_ble_eq_true rfl, Nat.le_of_ble_eq_true rfl⟩ rfl (Nat.le_of_ble_eq_true rfl) d_Reader_place_14 ?_
    refine pm_aload_n K d_Reader_place_17 1 rfl rfl ?_
    refine pm_getR K fc_7 (o := 7) rfl 2 rfl (by decide) tw_259 d_Reader_place_18 ?_
    refine pm_iload_n K d_Reader_place_21 2 rfl rfl ?_
    refine pm_iconst (v := 2) K d_Reader_place_22 (by decide) ?_
    obtain ⟨o3, z3, hf⟩ := pm_bind hf
    refine pm_callV (As := [.int x1, .int (2 : Int32)]) (rest := [.int o2.1, .ref (ad 5)]) (o := 5) K (c_Room_pair K.2.2.2.2.2.2.2.2.2.2.2.2 o3.1 o3.2 x1 (2 : Int32) o2.2 z3) mi_Room_pair rfl rfl tw_390 tw_391 tw_389 rfl ⟨rfl, rfl, Nat.le_of_ble_eq_true rfl, Nat.le_of_ble_eq_true rfl⟩ rfl (Nat.le_of_ble_eq_true rfl) d_Reader_place_23 ?_
    obtain ⟨o4, z4, hf⟩ := pm_bind hf
    refine pm_callV (As := [.int o2.1, .int o3.1]) (rest := []) (o := 5) K (c_Room_pair K.2.2.2.2.2.2.2.2.2.2.2.2 o4.1 o4.2 o2.1 o3.1 o3.2 z4) mi_Room_pair rfl rfl tw_390 tw_391 tw_389 rfl ⟨rfl, rfl, Nat.le_of_ble_eq_true rfl, Nat.le_of_ble_eq_true rfl⟩ rfl (Nat.le_of_ble_eq_true rfl) d_Reader_place_26 ?_
    refine pm_istore (lv' := [(4, .int o4.1), (0, .ref (ad 7)), (1, .int x1), (2, .int x2), (3, .int x3)]) K d_Reader_place_29 (by decide) rfl ?_
    refine pm_sub (lv' := [(0, .ref (ad 7)), (3, .int x3), (4, .int o4.1)]) [1, 4, 0] rfl ?_
    exact t_Reader_place_31 K  w'  x3 o4.1 o4.2 hf
/-- CellLisp$Reader.place(IZI)V -/
theorem c_Reader_place {l : Launch} {D : va_G} {ca : Nat → ClassId} {ad : Nat → Nat} {E : (Nat → Prop) → State → Heap → Prop} {S : Nat} (hEc : pm_Ecl E) (w' : pm_W) (x1 : Int32) (x2 : Int32) (x3 : Int32) (w : pm_W) (hf : f_Reader_place  S x1 x2 x3 w = some w') : pm_Met l pmTs D vwCl (tyl ca) (shC S) ca ad E y_Reader_place k_Reader_place 6 none { frames := 2, cells := 0, slots := 0, locals := 47 } [.ref (ad 7), .int x1, .int x2, .int x3] w (none, w') :=
  pm_start pmTs_good hEc (by decide) (Nat.le_of_ble_eq_true rfl) (fun p e s m below meth c K => t_Reader_place K w' x1 x2 x3 w hf)
def f_Reader_wordValue (S : Nat) (x1 : Int32) (x2 : Int32) (w : pm_W) : Option (Int32 × pm_W) :=
  Option.bind (f_Text_isNumber S x1 x2 w) fun o1 =>
  if o1.1 = 0 then
    Option.bind (f_Text_name S x1 x2 o1.2) fun o3 =>
    Option.bind (f_Symbols_find S o3.1 o3.2) fun o4 =>
    if 0 ≤ o4.1 then
      Option.bind (f_Value_of S (1 : Int32) o4.1 o4.2) fun o6 =>
      some (o6.1, o6.2)
    else
      some ((2 : Int32), o4.2)
  else
    Option.bind (f_Text_number S x1 x2 o1.2) fun o7 =>
    Option.bind (f_Value_of S (0 : Int32) o7.1 o7.2) fun o8 =>
    some (o8.1, o8.2)
set_option maxHeartbeats 4000000 in
set_option maxRecDepth 100000 in
theorem t_Reader_wordValue {p : Program} {l : Launch} {e : Env} {s : State} {m : MethodId} {args : Array Value} {below : List Frame} {meth : Method} {c : Code} {D : va_G} {ca : Nat → ClassId} {ad : Nat → Nat} {E : (Nat → Prop) → State → Heap → Prop} {S : Nat} (K : pm_ok p s m args meth c k_Reader_wordValue 4 pmTs R_Reader D vwCl (tyl ca) (shC S) ad E (some .int)) (r : Int32) (w' : pm_W) (x1 : Int32) (x2 : Int32) (w : pm_W) (hf : f_Reader_wordValue  S x1 x2 w = some (r, w')) : pm_wk p l e { frames := 2, cells := 0, slots := 0, locals := 46 } s m args below meth c D vwCl (shC S) ca ad 4 (some (.int r), w') 0 [(0, .ref (ad 7)), (1, .int x1), (2, .int x2)] [] w := by
  unfold f_Reader_wordValue at hf
  refine pm_aload_n K d_Reader_wordValue_0 0 rfl rfl ?_
  refine pm_getR K fc_7 (o := 7) rfl 0 rfl (by decide) tw_257 d_Reader_wordValue_1 ?_
  refine pm_iload_n K d_Reader_wordValue_4 1 rfl rfl ?_
  refine pm_iload_n K d_Reader_wordValue_5 2 rfl rfl ?_
  obtain ⟨o1, z1, hf⟩ := pm_bind hf
  refine pm_callV (As := [.int x1, .int x2]) (rest := []) (o := 1) K (c_Text_isNumber K.2.2.2.2.2.2.2.2.2.2.2.2 o1.1 o1.2 x1 x2 w z1) mi_Text_isNumber rfl rfl tw_353 tw_354 tw_352 rfl ⟨rfl, rfl, Nat.le_of_ble_eq_true rfl, Nat.le_of_ble_eq_true rfl⟩ rfl (Nat.le_of_ble_eq_true rfl) d_Reader_wordValue_6 ?_
  refine pm_if_eq K d_Reader_wordValue_9 26 (by decide) (fun c2 => ?_) (fun c2 => ?_)
  · have hf := pm_ift c2 hf
    refine pm_aload_n K d_Reader_wordValue_26 0 rfl rfl ?_
    refine pm_getR K fc_7 (o := 7) rfl 1 rfl (by decide) tw_258 d_Reader_wordValue_27 ?_
    refine pm_aload_n K d_Reader_wordValue_30 0 rfl rfl ?_
    refine pm_getR K fc_7 (o := 7) rfl 0 rfl (by decide) tw_257 d_Reader_wordValue_31 ?_
    refine pm_iload_n K d_Reader_wordValue_34 1 rfl rfl ?_
    refine pm_iload_n K d_Reader_wordValue_35 2 rfl rfl ?_
    obtain ⟨o3, z3, hf⟩ := pm_bind hf
    refine pm_callV (As := [.int x1, .int x2]) (rest := [.ref (ad 3)]) (o := 1) K (c_Text_name K.2.2.2.2.2.2.2.2.2.2.2.2 o3.1 o3.2 x1 x2 o1.2 z3) mi_Text_name rfl rfl tw_357 tw_358 tw_356 rfl ⟨rfl, rfl, Nat.le_of_ble_eq_true rfl, Nat.le_of_ble_eq_true rfl⟩ rfl (Nat.le_of_ble_eq_true rfl) d_Reader_wordValue_36 ?_
    obtain ⟨o4, z4, hf⟩ := pm_bind hf
    refine pm_callV (As := [.long o3.1]) (rest := []) (o := 3) K (c_Symbols_find K.2.2.2.2.2.2.2.2.2.2.2.2 o4.1 o4.2 o3.1 o3.2 z4) mi_Symbols_find rfl rfl tw_186 tw_187 tw_410 rfl ⟨rfl, rfl, Nat.le_of_ble_eq_true rfl, Nat.le_of_ble_eq_true rfl⟩ rfl (Nat.le_of_ble_eq_true rfl) d_Reader_wordValue_39 ?_
    refine pm_istore_n (lv' := [(3, .int o4.1), (0, .ref (ad 7)), (1, .int x1), (2, .int x2)]) K d_Reader_wordValue_42 rfl (by decide) rfl ?_
    refine pm_iload_n K d_Reader_wordValue_43 0 rfl rfl ?_
    refine pm_if_ge K d_Reader_wordValue_44 51 (by decide) (fun c5 => ?_) (fun c5 => ?_)
    · have hf := pm_ift c5 hf
      refine pm_iconst (v := 1) K d_Reader_wordValue_51 (by decide) ?_
      refine pm_iload_n K d_Reader_wordValue_52 0 rfl rfl ?_
      obtain ⟨o6, z6, hf⟩ := pm_bind hf
      refine pm_callS (As := [.int (1 : Int32), .int o4.1]) (rest := []) K (c_Value_of K.2.2.2.2.2.2.2.2.2.2.2.2 o6.1 o6.2 (1 : Int32) o4.1 o4.2 z6) mi_Value_of tw_190 tw_388 rfl ⟨rfl, rfl, Nat.le_of_ble_eq_true rfl, Nat.le_of_ble_eq_true rfl⟩ rfl (Nat.le_of_ble_eq_true rfl) d_Reader_wordValue_53 ?_
      cases hf
      exact pm_iret K d_Reader_wordValue_56
    · have hf := pm_iff c5 hf
      refine pm_iconst (v := 2) K d_Reader_wordValue_47 (by decide) ?_
      refine pm_goto K d_Reader_wordValue_48 56 (by decide) ?_
      cases hf
      exact pm_iret K d_Reader_wordValue_56
  · have hf := pm_iff c2 hf
    refine pm_iconst (v := 0) K d_Reader_wordValue_12 (by decide) ?_
    refine pm_aload_n K d_Reader_wordValue_13 0 rfl rfl ?_
    refine pm_getR K fc_7 (o := 7) rfl 0 rfl (by decide) tw_257 d_Reader_wordValue_14 ?_
    refine pm_iload_n K d_Reader_wordValue_17 1 rfl rfl ?_
    refine pm_iload_n K d_Reader_wordValue_18 2 rfl rfl ?_
    obtain ⟨o7, z7, hf⟩ := pm_bind hf
    refine pm_callV (As := [.int x1, .int x2]) (rest := [.int (0 : Int32)]) (o := 1) K (c_Text_number K.2.2.2.2.2.2.2.2.2.2.2.2 o7.1 o7.2 x1 x2 o1.2 z7) mi_Text_number rfl rfl tw_407 tw_408 tw_406 rfl ⟨rfl, rfl, Nat.le_of_ble_eq_true rfl, Nat.le_of_ble_eq_true rfl⟩ rfl (Nat.le_of_ble_eq_true rfl) d_Reader_wordValue_19 ?_
    obtain ⟨o8, z8, hf⟩ := pm_bind hf
    refine pm_callS (As := [.int (0 : Int32), .int o7.1]) (rest := []) K (c_Value_of K.2.2.2.2.2.2.2.2.2.2.2.2 o8.1 o8.2 (0 : Int32) o7.1 o7.2 z8) mi_Value_of tw_190 tw_388 rfl ⟨rfl, rfl, Nat.le_of_ble_eq_true rfl, Nat.le_of_ble_eq_true rfl⟩ rfl (Nat.le_of_ble_eq_true rfl) d_Reader_wordValue_22 ?_
    cases hf
    exact pm_iret K d_Reader_wordValue_25
/-- CellLisp$Reader.wordValue(II)I -/
theorem c_Reader_wordValue {l : Launch} {D : va_G} {ca : Nat → ClassId} {ad : Nat → Nat} {E : (Nat → Prop) → State → Heap → Prop} {S : Nat} (hEc : pm_Ecl E) (r : Int32) (w' : pm_W) (x1 : Int32) (x2 : Int32) (w : pm_W) (hf : f_Reader_wordValue  S x1 x2 w = some (r, w')) : pm_Met l pmTs D vwCl (tyl ca) (shC S) ca ad E y_Reader_wordValue k_Reader_wordValue 4 (some .int) { frames := 2, cells := 0, slots := 0, locals := 46 } [.ref (ad 7), .int x1, .int x2] w (some (.int r), w') :=
  pm_start pmTs_good hEc (by decide) (Nat.le_of_ble_eq_true rfl) (fun p e s m below meth c K => t_Reader_wordValue K r w' x1 x2 w hf)
def b_Reader_build_140 (S : Nat) (rec : Nat → Int32 → Int32 → Int32 → Int32 → pm_W → Option pm_W) (x1 : Int32) (x2 : Int32) (x3 : Int32) (x4 : Int32) (x5 : Int32) (x6 : Int32) (w : pm_W) : Option pm_W :=
  if x5 = (39 : Int32) then
    rec 0 x1 (1 : Int32) x6 (x4 + (1 : Int32)) w
  else
    Option.bind (f_Text_isOfWord S x5 w) fun o18 =>
    if o18.1 = 0 then
      rec 0 x1 x2 x6 (x4 + (1 : Int32)) o18.2
    else
      Option.bind (f_Reader_wordValue S x3 x6 o18.2) fun o20 =>
      Option.bind (f_Reader_place S o20.1 x2 x1 o20.2) fun o21 =>
      rec 0 x1 (0 : Int32) x6 (x4 + (1 : Int32)) o21
def b_Reader_build_95 (S : Nat) (rec : Nat → Int32 → Int32 → Int32 → Int32 → pm_W → Option pm_W) (x1 : Int32) (x2 : Int32) (x3 : Int32) (x4 : Int32) (x5 : Int32) (x6 : Int32) (w : pm_W) : Option pm_W :=
  if x5 = (41 : Int32) then
    if x1 < (1 : Int32) then
      b_Reader_build_140  S rec x1 x2 x3 x4 x5 x6 w
    else
      if (10 : Int32) < x1 then
        b_Reader_build_140  S rec x1 x2 x3 x4 x5 x6 w
      else
        if ((x1 + (-1 : Int32)) + (1 : Int32)) < 0 ∨ 11 ≤ ((x1 + (-1 : Int32)) + (1 : Int32)).toNatClampNeg then none else
        if ((x1 + (-1 : Int32)) + (1 : Int32)) < 0 ∨ 11 ≤ ((x1 + (-1 : Int32)) + (1 : Int32)).toNatClampNeg then none else
        Option.bind (f_Reader_place S (w.1 23 ((x1 + (-1 : Int32)) + (1 : Int32)).toNatClampNeg) (w.1 25 ((x1 + (-1 : Int32)) + (1 : Int32)).toNatClampNeg) (x1 + (-1 : Int32)) w) fun o16 =>
        rec 0 (x1 + (-1 : Int32)) x2 x6 (x4 + (1 : Int32)) o16
  else
    b_Reader_build_140  S rec x1 x2 x3 x4 x5 x6 w
def b_Reader_build_14 (S : Nat) (rec : Nat → Int32 → Int32 → Int32 → Int32 → pm_W → Option pm_W) (x1 : Int32) (x2 : Int32) (x3 : Int32) (x4 : Int32) (w : pm_W) : Option pm_W :=
  if (120 : Int32) ≤ x4 then
    some w
  else
    if (w.1 7 3) ≤ x3 then
      some w
    else
      Option.bind (f_Text_at S x3 w) fun o3 =>
      Option.bind (f_Text_pieceEnd S x3 o3.2) fun o4 =>
      if o3.1 = (40 : Int32) then
        if x1 < 0 then
          b_Reader_build_95  S rec x1 x2 x3 x4 o3.1 o4.1 o4.2
        else
          if (10 : Int32) ≤ x1 then
            b_Reader_build_95  S rec x1 x2 x3 x4 o3.1 o4.1 o4.2
          else
            if (x1 + (1 : Int32)) < 0 ∨ 11 ≤ (x1 + (1 : Int32)).toNatClampNeg then none else
            if (x1 + (1 : Int32)) < 0 ∨ 11 ≤ (x1 + (1 : Int32)).toNatClampNeg then none else
            if (x1 + (1 : Int32)) < 0 ∨ 11 ≤ (x1 + (1 : Int32)).toNatClampNeg then none else
            rec 0 (x1 + (1 : Int32)) (0 : Int32) o4.1 (x4 + (1 : Int32)) (pm_setI (pm_setI (pm_setI o4.2 23 (x1 + (1 : Int32)).toNatClampNeg (2 : Int32)) 24 (x1 + (1 : Int32)).toNatClampNeg (2 : Int32)) 25 (x1 + (1 : Int32)).toNatClampNeg (vp_nar .boolean x2))
      else
        b_Reader_build_95  S rec x1 x2 x3 x4 o3.1 o4.1 o4.2
def l_Reader_build (S : Nat) : Nat → Nat → Int32 → Int32 → Int32 → Int32 → pm_W → Option pm_W := pm_it (fun _ _ _ _ _ _ => none) (fun rec k x1 x2 x3 x4 w => b_Reader_build_14  S rec x1 x2 x3 x4 w)
def f_Reader_build (S : Nat) (w : pm_W) : Option pm_W :=
  (l_Reader_build  S pm_fuel) 0 (0 : Int32) (0 : Int32) (0 : Int32) (0 : Int32) (pm_setI w 7 5 (2 : Int32))
set_option maxHeartbeats 4000000 in
set_option maxRecDepth 100000 in
theorem t_Reader_build_140 {p : Program} {l : Launch} {e : Env} {s : State} {m : MethodId} {args : Array Value} {below : List Frame} {meth : Method} {c : Code} {D : va_G} {ca : Nat → ClassId} {ad : Nat → Nat} {E : (Nat → Prop) → State → Heap → Prop} {S : Nat} (K : pm_ok p s m args meth c k_Reader_build 7 pmTs R_Reader D vwCl (tyl ca) (shC S) ad E none) (rec : Nat → Int32 → Int32 → Int32 → Int32 → pm_W → Option pm_W) (w' : pm_W) (h14 : ∀ (x1 : Int32) (x2 : Int32) (x3 : Int32) (x4 : Int32) (w : pm_W), rec 0 x1 x2 x3 x4 w = some w' → pm_wk p l e { frames := 3, cells := 0, slots := 0, locals := 72 } s m args below meth c D vwCl (shC S) ca ad 7 (none, w') 14 [(0, .ref (ad 7)), (1, .int x1), (2, .int x2), (3, .int x3), (4, .int x4)] [] w) (x1 : Int32) (x2 : Int32) (x3 : Int32) (x4 : Int32) (x5 : Int32) (x6 : Int32) (w : pm_W) (hf : b_Reader_build_140  S rec x1 x2 x3 x4 x5 x6 w = some w') : pm_wk p l e { frames := 3, cells := 0, slots := 0, locals := 72 } s m args below meth c D vwCl (shC S) ca ad 7 (none, w') 140 [(0, .ref (ad 7)), (1, .int x1), (2, .int x2), (3, .int x3), (4, .int x4), (5, .int x5), (6, .int x6)] [] w := by
  unfold b_Reader_build_140 at hf
  refine pm_iload K d_Reader_build_140 5 rfl ?_
  refine pm_bipush (v := 39) K d_Reader_build_142 (by decide) ?_
  refine pm_icmp_ne K d_Reader_build_144 152 (by decide) (fun c17 => ?_) (fun c17 => ?_)
  · have hf := pm_iff c17 hf
    refine pm_iload K d_Reader_build_152 5 rfl ?_
    obtain ⟨o18, z18, hf⟩ := pm_bind hf
    refine pm_callSN (As := [.int x5]) (rest := []) K (c_Text_isOfWord K.2.2.2.2.2.2.2.2.2.2.2.2 o18.1 o18.2 x5 w z18) mi_Text_isOfWord tw_333 tw_351 rfl ⟨rfl, rfl, Nat.le_of_ble_eq_true rfl, Nat.le_of_ble_eq_true rfl⟩ rfl (Nat.le_of_ble_eq_true rfl) d_Reader_build_154 ?_
    refine pm_if_eq K d_Reader_build_157 175 (by decide) (fun c19 => ?_) (fun c19 => ?_)
    · have hf := pm_ift c19 hf
      refine pm_iload K d_Reader_build_175 6 rfl ?_
      refine pm_istore_n (lv' := [(3, .int x6), (0, .ref (ad 7)), (1, .int x1), (2, .int x2), (4, .int x4), (5, .int x5), (6, .int x6)]) K d_Reader_build_177 rfl (by decide) rfl ?_
      refine pm_iinc (v := x4 + (1 : Int32)) (lv' := [(4, .int (x4 + (1 : Int32))), (3, .int x6), (0, .ref (ad 7)), (1, .int x1), (2, .int x2), (5, .int x5), (6, .int x6)]) K d_Reader_build_178 4 rfl rfl (by decide) rfl ?_
      refine pm_goto K d_Reader_build_181 14 (by decide) ?_
      refine pm_sub (lv' := [(0, .ref (ad 7)), (1, .int x1), (2, .int x2), (3, .int x6), (4, .int (x4 + (1 : Int32)))]) [2, 3, 4, 1, 0] rfl ?_
      exact h14 x1 x2 x6 (x4 + (1 : Int32)) o18.2 hf
    · have hf := pm_iff c19 hf
      refine pm_aload_n K d_Reader_build_160 0 rfl rfl ?_
      refine pm_aload_n K d_Reader_build_161 0 rfl rfl ?_
      refine pm_iload_n K d_Reader_build_162 3 rfl rfl ?_
      refine pm_iload K d_Reader_build_163 6 rfl ?_
      obtain ⟨o20, z20, hf⟩ := pm_bind hf
      refine pm_callV (As := [.int x3, .int x6]) (rest := [.ref (ad 7)]) (o := 7) K (c_Reader_wordValue K.2.2.2.2.2.2.2.2.2.2.2.2 o20.1 o20.2 x3 x6 o18.2 z20) mi_Reader_wordValue rfl rfl tw_404 tw_10 tw_403 rfl ⟨rfl, rfl, Nat.le_of_ble_eq_true rfl, Nat.le_of_ble_eq_true rfl⟩ rfl (Nat.le_of_ble_eq_true rfl) d_Reader_build_165 ?_
      refine pm_iload_n K d_Reader_build_168 2 rfl rfl ?_
      refine pm_iload_n K d_Reader_build_169 1 rfl rfl ?_
      obtain ⟨o21, z21, hf⟩ := pm_bind hf
      refine pm_callV (As := [.int o20.1, .int x2, .int x1]) (rest := []) (o := 7) K (c_Reader_place K.2.2.2.2.2.2.2.2.2.2.2.2 o21 o20.1 x2 x1 o20.2 z21) mi_Reader_place rfl rfl tw_386 tw_7 tw_385 rfl ⟨rfl, rfl, Nat.le_of_ble_eq_true rfl, Nat.le_of_ble_eq_true rfl⟩ rfl (Nat.le_of_ble_eq_true rfl) d_Reader_build_170 ?_
      refine pm_iconst (v := 0) K d_Reader_build_173 (by decide) ?_
      refine pm_istore_n (lv' := [(2, .int (0 : Int32)), (0, .ref (ad 7)), (1, .int x1), (3, .int x3), (4, .int x4), (5, .int x5), (6, .int x6)]) K d_Reader_build_174 rfl (by decide) rfl ?_
      refine pm_iload K d_Reader_build_175 6 rfl ?_
      refine pm_istore_n (lv' := [(3, .int x6), (2, .int (0 : Int32)), (0, .ref (ad 7)), (1, .int x1), (4, .int x4), (5, .int x5), (6, .int x6)]) K d_Reader_build_177 rfl (by decide) rfl ?_
      refine pm_iinc (v := x4 + (1 : Int32)) (lv' := [(4, .int (x4 + (1 : Int32))), (3, .int x6), (2, .int (0 : Int32)), (0, .ref (ad 7)), (1, .int x1), (5, .int x5), (6, .int x6)]) K d_Reader_build_178 4 rfl rfl (by decide) rfl ?_
      refine pm_goto K d_Reader_build_181 14 (by decide) ?_
      refine pm_sub (lv' := [(0, .ref (ad 7)), (1, .int x1), (2, .int (0 : Int32)), (3, .int x6), (4, .int (x4 + (1 : Int32)))]) [3, 4, 2, 1, 0] rfl ?_
      exact h14 x1 (0 : Int32) x6 (x4 + (1 : Int32)) o21 hf
  · have hf := pm_ift c17 hf
    refine pm_iconst (v := 1) K d_Reader_build_147 (by decide) ?_
    refine pm_istore_n (lv' := [(2, .int (1 : Int32)), (0, .ref (ad 7)), (1, .int x1), (3, .int x3), (4, .int x4), (5, .int x5), (6, .int x6)]) K d_Reader_build_148 rfl (by decide) rfl ?_
    refine pm_goto K d_Reader_build_149 175 (by decide) ?_
    refine pm_iload K d_Reader_build_175 6 rfl ?_
    refine pm_istore_n (lv' := [(3, .int x6), (2, .int (1 : Int32)), (0, .ref (ad 7)), (1, .int x1), (4, .int x4), (5, .int x5), (6, .int x6)]) K d_Reader_build_177 rfl (by decide) rfl ?_
    refine pm_iinc (v := x4 + (1 : Int32)) (lv' := [(4, .int (x4 + (1 : Int32))), (3, .int x6), (2, .int (1 : Int32)), (0, .ref (ad 7)), (1, .int x1), (5, .int x5), (6, .int x6)]) K d_Reader_build_178 4 rfl rfl (by decide) rfl ?_
    refine pm_goto K d_Reader_build_181 14 (by decide) ?_
    refine pm_sub (lv' := [(0, .ref (ad 7)), (1, .int x1), (2, .int (1 : Int32)), (3, .int x6), (4, .int (x4 + (1 : Int32)))]) [3, 4, 2, 1, 0] rfl ?_
    exact h14 x1 (1 : Int32) x6 (x4 + (1 : Int32)) w hf
set_option maxHeartbeats 4000000 in
set_option maxRecDepth 100000 in
theorem t_Reader_build_95 {p : Program} {l : Launch} {e : Env} {s : State} {m : MethodId} {args : Array Value} {below : List Frame} {meth : Method} {c : Code} {D : va_G} {ca : Nat → ClassId} {ad : Nat → Nat} {E : (Nat → Prop) → State → Heap → Prop} {S : Nat} (K : pm_ok p s m args meth c k_Reader_build 7 pmTs R_Reader D vwCl (tyl ca) (shC S) ad E none) (rec : Nat → Int32 → Int32 → Int32 → Int32 → pm_W → Option pm_W) (w' : pm_W) (h14 : ∀ (x1 : Int32) (x2 : Int32) (x3 : Int32) (x4 : Int32) (w : pm_W), rec 0 x1 x2 x3 x4 w = some w' → pm_wk p l e { frames := 3, cells := 0, slots := 0, locals := 72 } s m args below meth c D vwCl (shC S) ca ad 7 (none, w') 14 [(0, .ref (ad 7)), (1, .int x1), (2, .int x2), (3, .int x3), (4, .int x4)] [] w) (x1 : Int32) (x2 : Int32) (x3 : Int32) (x4 : Int32) (x5 : Int32) (x6 : Int32) (w : pm_W) (hf : b_Reader_build_95  S rec x1 x2 x3 x4 x5 x6 w = some w') : pm_wk p l e { frames := 3, cells := 0, slots := 0, locals := 72 } s m args below meth c D vwCl (shC S) ca ad 7 (none, w') 95 [(0, .ref (ad 7)), (1, .int x1), (2, .int x2), (3, .int x3), (4, .int x4), (5, .int x5), (6, .int x6)] [] w := by
  unfold b_Reader_build_95 at hf
  refine pm_iload K d_Reader_build_95 5 rfl ?_
  refine pm_bipush (v := 41) K d_Reader_build_97 (by decide) ?_
  refine pm_icmp_ne K d_Reader_build_99 140 (by decide) (fun c11 => ?_) (fun c11 => ?_)
  · have hf := pm_iff c11 hf
    refine pm_sub (lv' := [(0, .ref (ad 7)), (1, .int x1), (2, .int x2), (3, .int x3), (4, .int x4), (5, .int x5), (6, .int x6)]) [0, 1, 2, 3, 4, 5, 6] rfl ?_
    exact t_Reader_build_140 K  rec w' h14 x1 x2 x3 x4 x5 x6 w hf
  · have hf := pm_ift c11 hf
    refine pm_iload_n K d_Reader_build_102 1 rfl rfl ?_
    refine pm_iconst (v := 1) K d_Reader_build_103 (by decide) ?_
    refine pm_icmp_lt K d_Reader_build_104 140 (by decide) (fun c12 => ?_) (fun c12 => ?_)
    · have hf := pm_ift c12 hf
      refine pm_sub (lv' := [(0, .ref (ad 7)), (1, .int x1), (2, .int x2), (3, .int x3), (4, .int x4), (5, .int x5), (6, .int x6)]) [0, 1, 2, 3, 4, 5, 6] rfl ?_
      exact t_Reader_build_140 K  rec w' h14 x1 x2 x3 x4 x5 x6 w hf
    · have hf := pm_iff c12 hf
      refine pm_iload_n K d_Reader_build_107 1 rfl rfl ?_
      refine pm_bipush (v := 10) K d_Reader_build_108 (by decide) ?_
      refine pm_icmp_gt K d_Reader_build_110 140 (by decide) (fun c13 => ?_) (fun c13 => ?_)
      · have hf := pm_ift c13 hf
        refine pm_sub (lv' := [(0, .ref (ad 7)), (1, .int x1), (2, .int x2), (3, .int x3), (4, .int x4), (5, .int x5), (6, .int x6)]) [0, 1, 2, 3, 4, 5, 6] rfl ?_
        exact t_Reader_build_140 K  rec w' h14 x1 x2 x3 x4 x5 x6 w hf
      · have hf := pm_iff c13 hf
        refine pm_iinc (v := x1 + (-1 : Int32)) (lv' := [(1, .int (x1 + (-1 : Int32))), (0, .ref (ad 7)), (2, .int x2), (3, .int x3), (4, .int x4), (5, .int x5), (6, .int x6)]) K d_Reader_build_113 1 rfl rfl (by decide) rfl ?_
        refine pm_aload_n K d_Reader_build_116 1 rfl rfl ?_
        refine pm_aload_n K d_Reader_build_117 1 rfl rfl ?_
        refine pm_getR K fc_7 (o := 7) rfl 6 rfl (by decide) tw_264 d_Reader_build_118 ?_
        refine pm_iload_n K d_Reader_build_121 0 rfl rfl ?_
        refine pm_iconst (v := 1) K d_Reader_build_122 (by decide) ?_
        refine pm_iadd K d_Reader_build_123 ?_
        obtain ⟨q14, hf⟩ := pm_bnd hf
        refine pm_iald K (o := 23) rfl rfl q14 d_Reader_build_124 (v := w.1 23 ((x1 + (-1 : Int32)) + (1 : Int32)).toNatClampNeg) rfl ?_
        refine pm_aload_n K d_Reader_build_125 1 rfl rfl ?_
        refine pm_getR K fc_7 (o := 7) rfl 8 rfl (by decide) tw_266 d_Reader_build_126 ?_
        refine pm_iload_n K d_Reader_build_129 0 rfl rfl ?_
        refine pm_iconst (v := 1) K d_Reader_build_130 (by decide) ?_
        refine pm_iadd K d_Reader_build_131 ?_
        obtain ⟨q15, hf⟩ := pm_bnd hf
        refine pm_zald K (o := 25) rfl rfl q15 d_Reader_build_132 (v := w.1 25 ((x1 + (-1 : Int32)) + (1 : Int32)).toNatClampNeg) rfl ?_
        refine pm_iload_n K d_Reader_build_133 0 rfl rfl ?_
        obtain ⟨o16, z16, hf⟩ := pm_bind hf
        refine pm_callV (As := [.int (w.1 23 ((x1 + (-1 : Int32)) + (1 : Int32)).toNatClampNeg), .int (w.1 25 ((x1 + (-1 : Int32)) + (1 : Int32)).toNatClampNeg), .int (x1 + (-1 : Int32))]) (rest := []) (o := 7) K (c_Reader_place K.2.2.2.2.2.2.2.2.2.2.2.2 o16 (w.1 23 ((x1 + (-1 : Int32)) + (1 : Int32)).toNatClampNeg) (w.1 25 ((x1 + (-1 : Int32)) + (1 : Int32)).toNatClampNeg) (x1 + (-1 : Int32)) w z16) mi_Reader_place rfl rfl tw_386 tw_7 tw_385 rfl ⟨rfl, rfl, Nat.le_of_ble_eq_true rfl, Nat.le_of_ble_eq_true rfl⟩ rfl (Nat.le_of_ble_eq_true rfl) d_Reader_build_134 ?_
        refine pm_goto K d_Reader_build_137 175 (by decide) ?_
        refine pm_iload K d_Reader_build_175 6 rfl ?_
        refine pm_istore_n (lv' := [(3, .int x6), (1, .int (x1 + (-1 : Int32))), (0, .ref (ad 7)), (2, .int x2), (4, .int x4), (5, .int x5), (6, .int x6)]) K d_Reader_build_177 rfl (by decide) rfl ?_
        refine pm_iinc (v := x4 + (1 : Int32)) (lv' := [(4, .int (x4 + (1 : Int32))), (3, .int x6), (1, .int (x1 + (-1 : Int32))), (0, .ref (ad 7)), (2, .int x2), (5, .int x5), (6, .int x6)]) K d_Reader_build_178 4 rfl rfl (by decide) rfl ?_
        refine pm_goto K d_Reader_build_181 14 (by decide) ?_
        refine pm_sub (lv' := [(0, .ref (ad 7)), (1, .int (x1 + (-1 : Int32))), (2, .int x2), (3, .int x6), (4, .int (x4 + (1 : Int32)))]) [3, 2, 4, 1, 0] rfl ?_
        exact h14 (x1 + (-1 : Int32)) x2 x6 (x4 + (1 : Int32)) o16 hf
set_option maxHeartbeats 4000000 in
set_option maxRecDepth 100000 in
theorem t_Reader_build_14 {p : Program} {l : Launch} {e : Env} {s : State} {m : MethodId} {args : Array Value} {below : List Frame} {meth : Method} {c : Code} {D : va_G} {ca : Nat → ClassId} {ad : Nat → Nat} {E : (Nat → Prop) → State → Heap → Prop} {S : Nat} (K : pm_ok p s m args meth c k_Reader_build 7 pmTs R_Reader D vwCl (tyl ca) (shC S) ad E none) (rec : Nat → Int32 → Int32 → Int32 → Int32 → pm_W → Option pm_W) (w' : pm_W) (h14 : ∀ (x1 : Int32) (x2 : Int32) (x3 : Int32) (x4 : Int32) (w : pm_W), rec 0 x1 x2 x3 x4 w = some w' → pm_wk p l e { frames := 3, cells := 0, slots := 0, locals := 72 } s m args below meth c D vwCl (shC S) ca ad 7 (none, w') 14 [(0, .ref (ad 7)), (1, .int x1), (2, .int x2), (3, .int x3), (4, .int x4)] [] w) (x1 : Int32) (x2 : Int32) (x3 : Int32) (x4 : Int32) (w : pm_W) (hf : b_Reader_build_14  S rec x1 x2 x3 x4 w = some w') : pm_wk p l e { frames := 3, cells := 0, slots := 0, locals := 72 } s m args below meth c D vwCl (shC S) ca ad 7 (none, w') 14 [(0, .ref (ad 7)), (1, .int x1), (2, .int x2), (3, .int x3), (4, .int x4)] [] w := by
  unfold b_Reader_build_14 at hf
  refine pm_iload K d_Reader_build_14 4 rfl ?_
  refine pm_bipush (v := 120) K d_Reader_build_16 (by decide) ?_
  refine pm_icmp_ge K d_Reader_build_18 184 (by decide) (fun c1 => ?_) (fun c1 => ?_)
  · have hf := pm_ift c1 hf
    cases hf
    exact pm_vret K d_Reader_build_184
  · have hf := pm_iff c1 hf
    refine pm_iload_n K d_Reader_build_21 3 rfl rfl ?_
    refine pm_aload_n K d_Reader_build_22 0 rfl rfl ?_
    refine pm_getI K fc_7 (o := 7) rfl 3 rfl (by decide) tw_260 d_Reader_build_23 (v := w.1 7 3) rfl ?_
    refine pm_icmp_ge K d_Reader_build_26 184 (by decide) (fun c2 => ?_) (fun c2 => ?_)
    · have hf := pm_ift c2 hf
      cases hf
      exact pm_vret K d_Reader_build_184
    · have hf := pm_iff c2 hf
      refine pm_aload_n K d_Reader_build_29 0 rfl rfl ?_
      refine pm_getR K fc_7 (o := 7) rfl 0 rfl (by decide) tw_257 d_Reader_build_30 ?_
      refine pm_iload_n K d_Reader_build_33 3 rfl rfl ?_
      obtain ⟨o3, z3, hf⟩ := pm_bind hf
      refine pm_callV (As := [.int x3]) (rest := []) (o := 1) K (c_Text_at K.2.2.2.2.2.2.2.2.2.2.2.2 o3.1 o3.2 x3 w z3) mi_Text_at rfl rfl tw_324 tw_325 tw_323 rfl ⟨rfl, rfl, Nat.le_of_ble_eq_true rfl, Nat.le_of_ble_eq_true rfl⟩ rfl (Nat.le_of_ble_eq_true rfl) d_Reader_build_34 ?_
      refine pm_istore (lv' := [(5, .int o3.1), (0, .ref (ad 7)), (1, .int x1), (2, .int x2), (3, .int x3), (4, .int x4)]) K d_Reader_build_37 (by decide) rfl ?_
      refine pm_aload_n K d_Reader_build_39 1 rfl rfl ?_
      refine pm_getR K fc_7 (o := 7) rfl 0 rfl (by decide) tw_257 d_Reader_build_40 ?_
      refine pm_iload_n K d_Reader_build_43 4 rfl rfl ?_
      obtain ⟨o4, z4, hf⟩ := pm_bind hf
      refine pm_callV (As := [.int x3]) (rest := []) (o := 1) K (c_Text_pieceEnd K.2.2.2.2.2.2.2.2.2.2.2.2 o4.1 o4.2 x3 o3.2 z4) mi_Text_pieceEnd rfl rfl tw_328 tw_329 tw_327 rfl ⟨rfl, rfl, Nat.le_of_ble_eq_true rfl, Nat.le_of_ble_eq_true rfl⟩ rfl (Nat.le_of_ble_eq_true rfl) d_Reader_build_44 ?_
      refine pm_istore (lv' := [(6, .int o4.1), (5, .int o3.1), (0, .ref (ad 7)), (1, .int x1), (2, .int x2), (3, .int x3), (4, .int x4)]) K d_Reader_build_47 (by decide) rfl ?_
      refine pm_iload K d_Reader_build_49 1 rfl ?_
      refine pm_bipush (v := 40) K d_Reader_build_51 (by decide) ?_
      refine pm_icmp_ne K d_Reader_build_53 95 (by decide) (fun c5 => ?_) (fun c5 => ?_)
      · have hf := pm_iff c5 hf
        refine pm_sub (lv' := [(0, .ref (ad 7)), (1, .int x1), (2, .int x2), (3, .int x3), (4, .int x4), (5, .int o3.1), (6, .int o4.1)]) [2, 3, 4, 5, 6, 1, 0] rfl ?_
        exact t_Reader_build_95 K  rec w' h14 x1 x2 x3 x4 o3.1 o4.1 o4.2 hf
      · have hf := pm_ift c5 hf
        refine pm_iload_n K d_Reader_build_56 3 rfl rfl ?_
        refine pm_if_lt K d_Reader_build_57 95 (by decide) (fun c6 => ?_) (fun c6 => ?_)
        · have hf := pm_ift c6 hf
          refine pm_sub (lv' := [(0, .ref (ad 7)), (1, .int x1), (2, .int x2), (3, .int x3), (4, .int x4), (5, .int o3.1), (6, .int o4.1)]) [2, 3, 4, 5, 6, 1, 0] rfl ?_
          exact t_Reader_build_95 K  rec w' h14 x1 x2 x3 x4 o3.1 o4.1 o4.2 hf
        · have hf := pm_iff c6 hf
          refine pm_iload_n K d_Reader_build_60 3 rfl rfl ?_
          refine pm_bipush (v := 10) K d_Reader_build_61 (by decide) ?_
          refine pm_icmp_ge K d_Reader_build_63 95 (by decide) (fun c7 => ?_) (fun c7 => ?_)
          · have hf := pm_ift c7 hf
            refine pm_sub (lv' := [(0, .ref (ad 7)), (1, .int x1), (2, .int x2), (3, .int x3), (4, .int x4), (5, .int o3.1), (6, .int o4.1)]) [2, 3, 4, 5, 6, 1, 0] rfl ?_
            exact t_Reader_build_95 K  rec w' h14 x1 x2 x3 x4 o3.1 o4.1 o4.2 hf
          · have hf := pm_iff c7 hf
            refine pm_iinc (v := x1 + (1 : Int32)) (lv' := [(1, .int (x1 + (1 : Int32))), (6, .int o4.1), (5, .int o3.1), (0, .ref (ad 7)), (2, .int x2), (3, .int x3), (4, .int x4)]) K d_Reader_build_66 3 rfl rfl (by decide) rfl ?_
            refine pm_aload_n K d_Reader_build_69 3 rfl rfl ?_
            refine pm_getR K fc_7 (o := 7) rfl 6 rfl (by decide) tw_264 d_Reader_build_70 ?_
            refine pm_iload_n K d_Reader_build_73 0 rfl rfl ?_
            refine pm_iconst (v := 2) K d_Reader_build_74 (by decide) ?_
            obtain ⟨q8, hf⟩ := pm_bnd hf
            refine pm_iast K (o := 23) rfl rfl q8 d_Reader_build_75 ?_
            refine pm_aload_n K d_Reader_build_76 3 rfl rfl ?_
            refine pm_getR K fc_7 (o := 7) rfl 7 rfl (by decide) tw_265 d_Reader_build_77 ?_
            refine pm_iload_n K d_Reader_build_80 0 rfl rfl ?_
            refine pm_iconst (v := 2) K d_Reader_build_81 (by decide) ?_
            obtain ⟨q9, hf⟩ := pm_bnd hf
            refine pm_iast K (o := 24) rfl rfl q9 d_Reader_build_82 ?_
            refine pm_aload_n K d_Reader_build_83 3 rfl rfl ?_
            refine pm_getR K fc_7 (o := 7) rfl 8 rfl (by decide) tw_266 d_Reader_build_84 ?_
            refine pm_iload_n K d_Reader_build_87 0 rfl rfl ?_
            refine pm_iload_n K d_Reader_build_88 4 rfl rfl ?_
            obtain ⟨q10, hf⟩ := pm_bnd hf
            refine pm_zast K (o := 25) rfl rfl q10 d_Reader_build_89 ?_
            refine pm_iconst (v := 0) K d_Reader_build_90 (by decide) ?_
            refine pm_istore_n (lv' := [(2, .int (0 : Int32)), (1, .int (x1 + (1 : Int32))), (6, .int o4.1), (5, .int o3.1), (0, .ref (ad 7)), (3, .int x3), (4, .int x4)]) K d_Reader_build_91 rfl (by decide) rfl ?_
            refine pm_goto K d_Reader_build_92 175 (by decide) ?_
            refine pm_iload K d_Reader_build_175 2 rfl ?_
            refine pm_istore_n (lv' := [(3, .int o4.1), (2, .int (0 : Int32)), (1, .int (x1 + (1 : Int32))), (6, .int o4.1), (5, .int o3.1), (0, .ref (ad 7)), (4, .int x4)]) K d_Reader_build_177 rfl (by decide) rfl ?_
            refine pm_iinc (v := x4 + (1 : Int32)) (lv' := [(4, .int (x4 + (1 : Int32))), (3, .int o4.1), (2, .int (0 : Int32)), (1, .int (x1 + (1 : Int32))), (6, .int o4.1), (5, .int o3.1), (0, .ref (ad 7))]) K d_Reader_build_178 6 rfl rfl (by decide) rfl ?_
            refine pm_goto K d_Reader_build_181 14 (by decide) ?_
            refine pm_sub (lv' := [(0, .ref (ad 7)), (1, .int (x1 + (1 : Int32))), (2, .int (0 : Int32)), (3, .int o4.1), (4, .int (x4 + (1 : Int32)))]) [6, 3, 2, 1, 0] rfl ?_
            exact h14 (x1 + (1 : Int32)) (0 : Int32) o4.1 (x4 + (1 : Int32)) (pm_setI (pm_setI (pm_setI o4.2 23 (x1 + (1 : Int32)).toNatClampNeg (2 : Int32)) 24 (x1 + (1 : Int32)).toNatClampNeg (2 : Int32)) 25 (x1 + (1 : Int32)).toNatClampNeg (vp_nar .boolean x2)) hf
set_option maxHeartbeats 4000000 in
set_option maxRecDepth 100000 in
theorem a_Reader_build {p : Program} {l : Launch} {e : Env} {s : State} {m : MethodId} {args : Array Value} {below : List Frame} {meth : Method} {c : Code} {D : va_G} {ca : Nat → ClassId} {ad : Nat → Nat} {E : (Nat → Prop) → State → Heap → Prop} {S : Nat} (K : pm_ok p s m args meth c k_Reader_build 7 pmTs R_Reader D vwCl (tyl ca) (shC S) ad E none) (w' : pm_W) : ∀ n : Nat, (∀ (x1 : Int32) (x2 : Int32) (x3 : Int32) (x4 : Int32) (w : pm_W), l_Reader_build  S n 0 x1 x2 x3 x4 w = some w' → pm_wk p l e { frames := 3, cells := 0, slots := 0, locals := 72 } s m args below meth c D vwCl (shC S) ca ad 7 (none, w') 14 [(0, .ref (ad 7)), (1, .int x1), (2, .int x2), (3, .int x3), (4, .int x4)] [] w) := by
  intro n
  induction n with
  | zero => exact fun _ _ _ _ _ hf => (by cases hf)
  | succ n ih => exact fun x1 x2 x3 x4 w hf => t_Reader_build_14 K (l_Reader_build S n) w' (ih) x1 x2 x3 x4 w hf
set_option maxHeartbeats 4000000 in
set_option maxRecDepth 100000 in
theorem t_Reader_build {p : Program} {l : Launch} {e : Env} {s : State} {m : MethodId} {args : Array Value} {below : List Frame} {meth : Method} {c : Code} {D : va_G} {ca : Nat → ClassId} {ad : Nat → Nat} {E : (Nat → Prop) → State → Heap → Prop} {S : Nat} (K : pm_ok p s m args meth c k_Reader_build 7 pmTs R_Reader D vwCl (tyl ca) (shC S) ad E none) (w' : pm_W) (w : pm_W) (hf : f_Reader_build  S w = some w') : pm_wk p l e { frames := 3, cells := 0, slots := 0, locals := 72 } s m args below meth c D vwCl (shC S) ca ad 7 (none, w') 0 [(0, .ref (ad 7))] [] w := by
  unfold f_Reader_build at hf
  have h14 := (a_Reader_build (l := l) (e := e) (below := below) K  w' pm_fuel)
  refine pm_iconst (v := 0) K d_Reader_build_0 (by decide) ?_
  refine pm_istore_n (lv' := [(1, .int (0 : Int32)), (0, .ref (ad 7))]) K d_Reader_build_1 rfl (by decide) rfl ?_
  refine pm_iconst (v := 0) K d_Reader_build_2 (by decide) ?_
  refine pm_istore_n (lv' := [(2, .int (0 : Int32)), (1, .int (0 : Int32)), (0, .ref (ad 7))]) K d_Reader_build_3 rfl (by decide) rfl ?_
  refine pm_iconst (v := 0) K d_Reader_build_4 (by decide) ?_
  refine pm_istore_n (lv' := [(3, .int (0 : Int32)), (2, .int (0 : Int32)), (1, .int (0 : Int32)), (0, .ref (ad 7))]) K d_Reader_build_5 rfl (by decide) rfl ?_
  refine pm_aload_n K d_Reader_build_6 3 rfl rfl ?_
  refine pm_iconst (v := 2) K d_Reader_build_7 (by decide) ?_
  refine pm_putI K fc_7 (o := 7) (ty := .int) rfl 5 rfl (by decide) tw_262 rfl rfl rfl rfl d_Reader_build_8 ?_
  refine pm_iconst (v := 0) K d_Reader_build_11 (by decide) ?_
  refine pm_istore (lv' := [(4, .int (0 : Int32)), (3, .int (0 : Int32)), (2, .int (0 : Int32)), (1, .int (0 : Int32)), (0, .ref (ad 7))]) K d_Reader_build_12 (by decide) rfl ?_
  refine pm_sub (lv' := [(0, .ref (ad 7)), (1, .int (0 : Int32)), (2, .int (0 : Int32)), (3, .int (0 : Int32)), (4, .int (0 : Int32))]) [4, 3, 2, 1, 0] rfl ?_
  exact h14 (0 : Int32) (0 : Int32) (0 : Int32) (0 : Int32) (pm_setI w 7 5 (2 : Int32)) hf
/-- CellLisp$Reader.build()V -/
theorem c_Reader_build {l : Launch} {D : va_G} {ca : Nat → ClassId} {ad : Nat → Nat} {E : (Nat → Prop) → State → Heap → Prop} {S : Nat} (hEc : pm_Ecl E) (w' : pm_W) (w : pm_W) (hf : f_Reader_build  S w = some w') : pm_Met l pmTs D vwCl (tyl ca) (shC S) ca ad E y_Reader_build k_Reader_build 7 none { frames := 3, cells := 0, slots := 0, locals := 72 } [.ref (ad 7)] w (none, w') :=
  pm_start pmTs_good hEc (by decide) (Nat.le_of_ble_eq_true rfl) (fun p e s m below meth c K => t_Reader_build K w'  w hf)
def b_Reader_read_40 (S : Nat) (x1 : Int32) (w : pm_W) : Option (Int32 × pm_W) :=
  if x1 = 0 then
    Option.bind (f_Reader_build S w) fun o11 =>
    if x1 = (2 : Int32) then
      some (x1, o11)
    else
      Option.bind (f_Text_drop S (o11.1 7 3) o11) fun o13 =>
      some (x1, o13)
  else
    if x1 = (2 : Int32) then
      some (x1, w)
    else
      Option.bind (f_Text_drop S (w.1 7 3) w) fun o10 =>
      some (x1, o10)
def b_Reader_read_19 (S : Nat) (x1 : Int32) (w : pm_W) : Option (Int32 × pm_W) :=
  if x1 = 0 then
    Option.bind (f_Room_hasFor S (w.1 7 4) w) fun o6 =>
    if o6.1 = 0 then
      b_Reader_read_40  S  (-7 : Int32) o6.2
    else
      b_Reader_read_40  S  x1 o6.2
  else
    b_Reader_read_40  S  x1 w
def f_Reader_read (S : Nat) (w : pm_W) : Option (Int32 × pm_W) :=
  Option.bind (f_Reader_findForm S w) fun o1 =>
  if o1.1 = 0 then
    Option.bind (f_Reader_learnSymbols S o1.2) fun o3 =>
    if o3.1 = 0 then
      b_Reader_read_19  S  (-8 : Int32) o3.2
    else
      b_Reader_read_19  S  o1.1 o3.2
  else
    b_Reader_read_19  S  o1.1 o1.2
set_option maxHeartbeats 4000000 in
set_option maxRecDepth 100000 in
theorem t_Reader_read_40 {p : Program} {l : Launch} {e : Env} {s : State} {m : MethodId} {args : Array Value} {below : List Frame} {meth : Method} {c : Code} {D : va_G} {ca : Nat → ClassId} {ad : Nat → Nat} {E : (Nat → Prop) → State → Heap → Prop} {S : Nat} (K : pm_ok p s m args meth c k_Reader_read 2 pmTs R_Reader D vwCl (tyl ca) (shC S) ad E (some .int)) (r : Int32) (w' : pm_W) (x1 : Int32) (w : pm_W) (hf : b_Reader_read_40  S x1 w = some (r, w')) : pm_wk p l e { frames := 4, cells := 0, slots := 0, locals := 98 } s m args below meth c D vwCl (shC S) ca ad 2 (some (.int r), w') 40 [(0, .ref (ad 7)), (1, .int x1)] [] w := by
  unfold b_Reader_read_40 at hf
  refine pm_iload_n K d_Reader_read_40 1 rfl rfl ?_
  refine pm_if_ne K d_Reader_read_41 48 (by decide) (fun c8 => ?_) (fun c8 => ?_)
  · have hf := pm_iff c8 hf
    refine pm_iload_n K d_Reader_read_48 1 rfl rfl ?_
    refine pm_iconst (v := 2) K d_Reader_read_49 (by decide) ?_
    refine pm_icmp_eq K d_Reader_read_50 64 (by decide) (fun c9 => ?_) (fun c9 => ?_)
    · have hf := pm_ift c9 hf
      refine pm_iload_n K d_Reader_read_64 1 rfl rfl ?_
      cases hf
      exact pm_iret K d_Reader_read_65
    · have hf := pm_iff c9 hf
      refine pm_aload_n K d_Reader_read_53 0 rfl rfl ?_
      refine pm_getR K fc_7 (o := 7) rfl 0 rfl (by decide) tw_257 d_Reader_read_54 ?_
      refine pm_aload_n K d_Reader_read_57 0 rfl rfl ?_
      refine pm_getI K fc_7 (o := 7) rfl 3 rfl (by decide) tw_260 d_Reader_read_58 (v := w.1 7 3) rfl ?_
      obtain ⟨o10, z10, hf⟩ := pm_bind hf
      refine pm_callV (As := [.int (w.1 7 3)]) (rest := []) (o := 1) K (c_Text_drop K.2.2.2.2.2.2.2.2.2.2.2.2 o10 (w.1 7 3) w z10) mi_Text_drop rfl rfl tw_412 tw_413 tw_411 rfl ⟨rfl, rfl, Nat.le_of_ble_eq_true rfl, Nat.le_of_ble_eq_true rfl⟩ rfl (Nat.le_of_ble_eq_true rfl) d_Reader_read_61 ?_
      refine pm_iload_n K d_Reader_read_64 1 rfl rfl ?_
      cases hf
      exact pm_iret K d_Reader_read_65
  · have hf := pm_ift c8 hf
    refine pm_aload_n K d_Reader_read_44 0 rfl rfl ?_
    obtain ⟨o11, z11, hf⟩ := pm_bind hf
    refine pm_callV (As := []) (rest := []) (o := 7) K (c_Reader_build K.2.2.2.2.2.2.2.2.2.2.2.2 o11 w z11) mi_Reader_build rfl rfl tw_383 tw_6 tw_382 rfl ⟨rfl, rfl, Nat.le_of_ble_eq_true rfl, Nat.le_of_ble_eq_true rfl⟩ rfl (Nat.le_of_ble_eq_true rfl) d_Reader_read_45 ?_
    refine pm_iload_n K d_Reader_read_48 1 rfl rfl ?_
    refine pm_iconst (v := 2) K d_Reader_read_49 (by decide) ?_
    refine pm_icmp_eq K d_Reader_read_50 64 (by decide) (fun c12 => ?_) (fun c12 => ?_)
    · have hf := pm_ift c12 hf
      refine pm_iload_n K d_Reader_read_64 1 rfl rfl ?_
      cases hf
      exact pm_iret K d_Reader_read_65
    · have hf := pm_iff c12 hf
      refine pm_aload_n K d_Reader_read_53 0 rfl rfl ?_
      refine pm_getR K fc_7 (o := 7) rfl 0 rfl (by decide) tw_257 d_Reader_read_54 ?_
      refine pm_aload_n K d_Reader_read_57 0 rfl rfl ?_
      refine pm_getI K fc_7 (o := 7) rfl 3 rfl (by decide) tw_260 d_Reader_read_58 (v := o11.1 7 3) rfl ?_
      obtain ⟨o13, z13, hf⟩ := pm_bind hf
      refine pm_callV (As := [.int (o11.1 7 3)]) (rest := []) (o := 1) K (c_Text_drop K.2.2.2.2.2.2.2.2.2.2.2.2 o13 (o11.1 7 3) o11 z13) mi_Text_drop rfl rfl tw_412 tw_413 tw_411 rfl ⟨rfl, rfl, Nat.le_of_ble_eq_true rfl, Nat.le_of_ble_eq_true rfl⟩ rfl (Nat.le_of_ble_eq_true rfl) d_Reader_read_61 ?_
      refine pm_iload_n K d_Reader_read_64 1 rfl rfl ?_
      cases hf
      exact pm_iret K d_Reader_read_65
set_option maxHeartbeats 4000000 in
set_option maxRecDepth 100000 in
theorem t_Reader_read_19 {p : Program} {l : Launch} {e : Env} {s : State} {m : MethodId} {args : Array Value} {below : List Frame} {meth : Method} {c : Code} {D : va_G} {ca : Nat → ClassId} {ad : Nat → Nat} {E : (Nat → Prop) → State → Heap → Prop} {S : Nat} (K : pm_ok p s m args meth c k_Reader_read 2 pmTs R_Reader D vwCl (tyl ca) (shC S) ad E (some .int)) (r : Int32) (w' : pm_W) (x1 : Int32) (w : pm_W) (hf : b_Reader_read_19  S x1 w = some (r, w')) : pm_wk p l e { frames := 4, cells := 0, slots := 0, locals := 98 } s m args below meth c D vwCl (shC S) ca ad 2 (some (.int r), w') 19 [(0, .ref (ad 7)), (1, .int x1)] [] w := by
  unfold b_Reader_read_19 at hf
  refine pm_iload_n K d_Reader_read_19 1 rfl rfl ?_
  refine pm_if_ne K d_Reader_read_20 40 (by decide) (fun c5 => ?_) (fun c5 => ?_)
  · have hf := pm_iff c5 hf
    refine pm_sub (lv' := [(0, .ref (ad 7)), (1, .int x1)]) [0, 1] rfl ?_
    exact t_Reader_read_40 K  r w'  x1 w hf
  · have hf := pm_ift c5 hf
    refine pm_aload_n K d_Reader_read_23 0 rfl rfl ?_
    refine pm_getR K fc_7 (o := 7) rfl 2 rfl (by decide) tw_259 d_Reader_read_24 ?_
    refine pm_aload_n K d_Reader_read_27 0 rfl rfl ?_
    refine pm_getI K fc_7 (o := 7) rfl 4 rfl (by decide) tw_261 d_Reader_read_28 (v := w.1 7 4) rfl ?_
    obtain ⟨o6, z6, hf⟩ := pm_bind hf
    refine pm_callV (As := [.int (w.1 7 4)]) (rest := []) (o := 5) K (c_Room_hasFor K.2.2.2.2.2.2.2.2.2.2.2.2 o6.1 o6.2 (w.1 7 4) w z6) mi_Room_hasFor rfl rfl tw_363 tw_364 tw_362 rfl ⟨rfl, rfl, Nat.le_of_ble_eq_true rfl, Nat.le_of_ble_eq_true rfl⟩ rfl (Nat.le_of_ble_eq_true rfl) d_Reader_read_31 ?_
    refine pm_if_ne K d_Reader_read_34 40 (by decide) (fun c7 => ?_) (fun c7 => ?_)
    · have hf := pm_iff c7 hf
      refine pm_sub (lv' := [(0, .ref (ad 7)), (1, .int x1)]) [0, 1] rfl ?_
      exact t_Reader_read_40 K  r w'  x1 o6.2 hf
    · have hf := pm_ift c7 hf
      refine pm_bipush (v := -7) K d_Reader_read_37 (by decide) ?_
      refine pm_istore_n (lv' := [(1, .int (-7 : Int32)), (0, .ref (ad 7))]) K d_Reader_read_39 rfl (by decide) rfl ?_
      refine pm_sub (lv' := [(0, .ref (ad 7)), (1, .int (-7 : Int32))]) [1, 0] rfl ?_
      exact t_Reader_read_40 K  r w'  (-7 : Int32) o6.2 hf
set_option maxHeartbeats 4000000 in
set_option maxRecDepth 100000 in
theorem t_Reader_read {p : Program} {l : Launch} {e : Env} {s : State} {m : MethodId} {args : Array Value} {below : List Frame} {meth : Method} {c : Code} {D : va_G} {ca : Nat → ClassId} {ad : Nat → Nat} {E : (Nat → Prop) → State → Heap → Prop} {S : Nat} (K : pm_ok p s m args meth c k_Reader_read 2 pmTs R_Reader D vwCl (tyl ca) (shC S) ad E (some .int)) (r : Int32) (w' : pm_W) (w : pm_W) (hf : f_Reader_read  S w = some (r, w')) : pm_wk p l e { frames := 4, cells := 0, slots := 0, locals := 98 } s m args below meth c D vwCl (shC S) ca ad 2 (some (.int r), w') 0 [(0, .ref (ad 7))] [] w := by
  unfold f_Reader_read at hf
  refine pm_aload_n K d_Reader_read_0 0 rfl rfl ?_
  obtain ⟨o1, z1, hf⟩ := pm_bind hf
  refine pm_callV (As := []) (rest := []) (o := 7) K (c_Reader_findForm K.2.2.2.2.2.2.2.2.2.2.2.2 o1.1 o1.2 w z1) mi_Reader_findForm rfl rfl tw_321 tw_1 tw_320 rfl ⟨rfl, rfl, Nat.le_of_ble_eq_true rfl, Nat.le_of_ble_eq_true rfl⟩ rfl (Nat.le_of_ble_eq_true rfl) d_Reader_read_1 ?_
  refine pm_istore_n (lv' := [(1, .int o1.1), (0, .ref (ad 7))]) K d_Reader_read_4 rfl (by decide) rfl ?_
  refine pm_iload_n K d_Reader_read_5 0 rfl rfl ?_
  refine pm_if_ne K d_Reader_read_6 19 (by decide) (fun c2 => ?_) (fun c2 => ?_)
  · have hf := pm_iff c2 hf
    refine pm_sub (lv' := [(0, .ref (ad 7)), (1, .int o1.1)]) [1, 0] rfl ?_
    exact t_Reader_read_19 K  r w'  o1.1 o1.2 hf
  · have hf := pm_ift c2 hf
    refine pm_aload_n K d_Reader_read_9 1 rfl rfl ?_
    obtain ⟨o3, z3, hf⟩ := pm_bind hf
    refine pm_callV (As := []) (rest := []) (o := 7) K (c_Reader_learnSymbols K.2.2.2.2.2.2.2.2.2.2.2.2 o3.1 o3.2 o1.2 z3) mi_Reader_learnSymbols rfl rfl tw_346 tw_2 tw_345 rfl ⟨rfl, rfl, Nat.le_of_ble_eq_true rfl, Nat.le_of_ble_eq_true rfl⟩ rfl (Nat.le_of_ble_eq_true rfl) d_Reader_read_10 ?_
    refine pm_if_ne K d_Reader_read_13 19 (by decide) (fun c4 => ?_) (fun c4 => ?_)
    · have hf := pm_iff c4 hf
      refine pm_sub (lv' := [(0, .ref (ad 7)), (1, .int o1.1)]) [1, 0] rfl ?_
      exact t_Reader_read_19 K  r w'  o1.1 o3.2 hf
    · have hf := pm_ift c4 hf
      refine pm_bipush (v := -8) K d_Reader_read_16 (by decide) ?_
      refine pm_istore_n (lv' := [(1, .int (-8 : Int32)), (0, .ref (ad 7))]) K d_Reader_read_18 rfl (by decide) rfl ?_
      refine pm_sub (lv' := [(0, .ref (ad 7)), (1, .int (-8 : Int32))]) [1, 0] rfl ?_
      exact t_Reader_read_19 K  r w'  (-8 : Int32) o3.2 hf
/-- CellLisp$Reader.read()I -/
theorem c_Reader_read {l : Launch} {D : va_G} {ca : Nat → ClassId} {ad : Nat → Nat} {E : (Nat → Prop) → State → Heap → Prop} {S : Nat} (hEc : pm_Ecl E) (r : Int32) (w' : pm_W) (w : pm_W) (hf : f_Reader_read  S w = some (r, w')) : pm_Met l pmTs D vwCl (tyl ca) (shC S) ca ad E y_Reader_read k_Reader_read 2 (some .int) { frames := 4, cells := 0, slots := 0, locals := 98 } [.ref (ad 7)] w (some (.int r), w') :=
  pm_start pmTs_good hEc (by decide) (Nat.le_of_ble_eq_true rfl) (fun p e s m below meth c K => t_Reader_read K r w'  w hf)
