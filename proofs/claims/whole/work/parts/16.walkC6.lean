def b_Machine_evaluate_73 (S : Nat) (x1 : Int32) (s0 : Int32) (w : pm_W) : Option (Int32 × pm_W) :=
  if s0 = (10 : Int32) then
    Option.bind (f_Machine_evaluateQuote S w) fun o12 =>
    some (o12.1, o12.2)
  else
    if s0 = (11 : Int32) then
      Option.bind (f_Machine_evaluateIf S w) fun o14 =>
      some (o14.1, o14.2)
    else
      if s0 = (12 : Int32) then
        Option.bind (f_Machine_evaluateLambda S w) fun o16 =>
        some (o16.1, o16.2)
      else
        if s0 = (13 : Int32) then
          Option.bind (f_Machine_evaluateNaming S (2 : Int32) (2 : Int32) w) fun o18 =>
          some (o18.1, o18.2)
        else
          if s0 = (14 : Int32) then
            Option.bind (f_Machine_evaluateNaming S (3 : Int32) (w.1 4 1) w) fun o20 =>
            some (o20.1, o20.2)
          else
            Option.bind (f_Room_second S (w.1 4 0) w) fun o21 =>
            Option.bind (f_Machine_evaluateUnder S (4 : Int32) o21.1 (o21.2.1 4 1) x1 o21.2) fun o22 =>
            some (o22.1, o22.2)
def f_Machine_evaluate (S : Nat) (w : pm_W) : Option (Int32 × pm_W) :=
  Option.bind (f_Value_isSymbol S (w.1 4 0) w) fun o1 =>
  if o1.1 = 0 then
    Option.bind (f_Value_isPair S (o1.2.1 4 0) o1.2) fun o3 =>
    if o3.1 = 0 then
      Option.bind (f_Machine_returnNext S (o3.2.1 4 0) o3.2) fun o9 =>
      some (o9.1, o9.2)
    else
      Option.bind (f_Room_first S (o3.2.1 4 0) o3.2) fun o5 =>
      Option.bind (f_Value_isSymbol S o5.1 o5.2) fun o6 =>
      if o6.1 = 0 then
        b_Machine_evaluate_73  S  o5.1 (-1 : Int32) o6.2
      else
        Option.bind (f_Value_content S o5.1 o6.2) fun o8 =>
        b_Machine_evaluate_73  S  o5.1 o8.1 o8.2
  else
    Option.bind (f_Machine_evaluateSymbol S o1.2) fun o10 =>
    some (o10.1, o10.2)
set_option maxHeartbeats 4000000 in
set_option maxRecDepth 100000 in
theorem t_Machine_evaluate_73 {p : Program} {l : Launch} {e : Env} {s : State} {m : MethodId} {args : Array Value} {below : List Frame} {meth : Method} {c : Code} {D : va_G} {ca : Nat → ClassId} {ad : Nat → Nat} {E : (Nat → Prop) → State → Heap → Prop} {S : Nat} (K : pm_ok p s m args meth c k_Machine_evaluate 2 pmTs R_Machine D vwCl (tyl ca) (shC S) ad E (some .int)) (r : Int32) (w' : pm_W) (x1 : Int32) (s0 : Int32) (w : pm_W) (hf : b_Machine_evaluate_73  S x1 s0 w = some (r, w')) : pm_wk p l e { frames := 5, cells := 0, slots := 0, locals := 111 } s m args below meth c D vwCl (shC S) ca ad 2 (some (.int r), w') 73 [(0, .ref (ad 6)), (1, .int x1)] [.int s0] w := by
  unfold b_Machine_evaluate_73 at hf
  by_cases c11 : s0 = (10 : Int32)
  · have hf := pm_ift c11 hf
    refine pm_tableIn K d_Machine_evaluate_73 (by rw [c11]; decide) (by rw [c11]; decide) (by rw [c11]; rfl) 108 (by decide) ?_
    refine pm_aload_n K d_Machine_evaluate_108 0 rfl rfl ?_
    obtain ⟨o12, z12, hf⟩ := pm_bind hf
    refine pm_callV (As := []) (rest := []) (o := 6) K (c_Machine_evaluateQuote K.2.2.2.2.2.2.2.2.2.2.2.2 o12.1 o12.2 w z12) mi_Machine_evaluateQuote rfl rfl tw_457 tw_15 tw_456 rfl ⟨rfl, rfl, Nat.le_of_ble_eq_true rfl, Nat.le_of_ble_eq_true rfl⟩ rfl (Nat.le_of_ble_eq_true rfl) d_Machine_evaluate_109 ?_
    cases hf
    exact pm_iret K d_Machine_evaluate_112
  have hf := pm_iff c11 hf
  by_cases c13 : s0 = (11 : Int32)
  · have hf := pm_ift c13 hf
    refine pm_tableIn K d_Machine_evaluate_73 (by rw [c13]; decide) (by rw [c13]; decide) (by rw [c13]; rfl) 113 (by decide) ?_
    refine pm_aload_n K d_Machine_evaluate_113 0 rfl rfl ?_
    obtain ⟨o14, z14, hf⟩ := pm_bind hf
    refine pm_callV (As := []) (rest := []) (o := 6) K (c_Machine_evaluateIf K.2.2.2.2.2.2.2.2.2.2.2.2 o14.1 o14.2 w z14) mi_Machine_evaluateIf rfl rfl tw_471 tw_17 tw_470 rfl ⟨rfl, rfl, Nat.le_of_ble_eq_true rfl, Nat.le_of_ble_eq_true rfl⟩ rfl (Nat.le_of_ble_eq_true rfl) d_Machine_evaluate_114 ?_
    cases hf
    exact pm_iret K d_Machine_evaluate_117
  have hf := pm_iff c13 hf
  by_cases c15 : s0 = (12 : Int32)
  · have hf := pm_ift c15 hf
    refine pm_tableIn K d_Machine_evaluate_73 (by rw [c15]; decide) (by rw [c15]; decide) (by rw [c15]; rfl) 118 (by decide) ?_
    refine pm_aload_n K d_Machine_evaluate_118 0 rfl rfl ?_
    obtain ⟨o16, z16, hf⟩ := pm_bind hf
    refine pm_callV (As := []) (rest := []) (o := 6) K (c_Machine_evaluateLambda K.2.2.2.2.2.2.2.2.2.2.2.2 o16.1 o16.2 w z16) mi_Machine_evaluateLambda rfl rfl tw_481 tw_19 tw_480 rfl ⟨rfl, rfl, Nat.le_of_ble_eq_true rfl, Nat.le_of_ble_eq_true rfl⟩ rfl (Nat.le_of_ble_eq_true rfl) d_Machine_evaluate_119 ?_
    cases hf
    exact pm_iret K d_Machine_evaluate_122
  have hf := pm_iff c15 hf
  by_cases c17 : s0 = (13 : Int32)
  · have hf := pm_ift c17 hf
    refine pm_tableIn K d_Machine_evaluate_73 (by rw [c17]; decide) (by rw [c17]; decide) (by rw [c17]; rfl) 123 (by decide) ?_
    refine pm_aload_n K d_Machine_evaluate_123 0 rfl rfl ?_
    refine pm_iconst (v := 2) K d_Machine_evaluate_124 (by decide) ?_
    refine pm_iconst (v := 2) K d_Machine_evaluate_125 (by decide) ?_
    obtain ⟨o18, z18, hf⟩ := pm_bind hf
    refine pm_callV (As := [.int (2 : Int32), .int (2 : Int32)]) (rest := []) (o := 6) K (c_Machine_evaluateNaming K.2.2.2.2.2.2.2.2.2.2.2.2 o18.1 o18.2 (2 : Int32) (2 : Int32) w z18) mi_Machine_evaluateNaming rfl rfl tw_492 tw_21 tw_491 rfl ⟨rfl, rfl, Nat.le_of_ble_eq_true rfl, Nat.le_of_ble_eq_true rfl⟩ rfl (Nat.le_of_ble_eq_true rfl) d_Machine_evaluate_126 ?_
    cases hf
    exact pm_iret K d_Machine_evaluate_129
  have hf := pm_iff c17 hf
  by_cases c19 : s0 = (14 : Int32)
  · have hf := pm_ift c19 hf
    refine pm_tableIn K d_Machine_evaluate_73 (by rw [c19]; decide) (by rw [c19]; decide) (by rw [c19]; rfl) 130 (by decide) ?_
    refine pm_aload_n K d_Machine_evaluate_130 0 rfl rfl ?_
    refine pm_iconst (v := 3) K d_Machine_evaluate_131 (by decide) ?_
    refine pm_aload_n K d_Machine_evaluate_132 0 rfl rfl ?_
    refine pm_getR K fc_6 (o := 6) rfl 0 rfl (by decide) tw_280 d_Machine_evaluate_133 ?_
    refine pm_getIN K fc_4 (o := 4) rfl 1 rfl (by decide) tw_208 d_Machine_evaluate_136 (v := w.1 4 1) rfl ?_
    obtain ⟨o20, z20, hf⟩ := pm_bind hf
    refine pm_callV (As := [.int (3 : Int32), .int (w.1 4 1)]) (rest := []) (o := 6) K (c_Machine_evaluateNaming K.2.2.2.2.2.2.2.2.2.2.2.2 o20.1 o20.2 (3 : Int32) (w.1 4 1) w z20) mi_Machine_evaluateNaming rfl rfl tw_492 tw_21 tw_491 rfl ⟨rfl, rfl, Nat.le_of_ble_eq_true rfl, Nat.le_of_ble_eq_true rfl⟩ rfl (Nat.le_of_ble_eq_true rfl) d_Machine_evaluate_139 ?_
    cases hf
    exact pm_iret K d_Machine_evaluate_142
  have hf := pm_iff c19 hf
  have hne : ¬ s0.toInt = 10 ∧ ¬ s0.toInt = 11 ∧ ¬ s0.toInt = 12 ∧ ¬ s0.toInt = 13 ∧ ¬ s0.toInt = 14 := ⟨lv_neT c11 (by decide), lv_neT c13 (by decide), lv_neT c15 (by decide), lv_neT c17 (by decide), lv_neT c19 (by decide)⟩
  refine pm_tableOut K d_Machine_evaluate_73 (by omega) 143 (by decide) ?_
  refine pm_aload_n K d_Machine_evaluate_143 0 rfl rfl ?_
  refine pm_iconst (v := 4) K d_Machine_evaluate_144 (by decide) ?_
  refine pm_aload_n K d_Machine_evaluate_145 0 rfl rfl ?_
  refine pm_getR K fc_6 (o := 6) rfl 1 rfl (by decide) tw_281 d_Machine_evaluate_146 ?_
  refine pm_aload_n K d_Machine_evaluate_149 0 rfl rfl ?_
  refine pm_getR K fc_6 (o := 6) rfl 0 rfl (by decide) tw_280 d_Machine_evaluate_150 ?_
  refine pm_getIN K fc_4 (o := 4) rfl 0 rfl (by decide) tw_205 d_Machine_evaluate_153 (v := w.1 4 0) rfl ?_
  obtain ⟨o21, z21, hf⟩ := pm_bind hf
  refine pm_callV (As := [.int (w.1 4 0)]) (rest := [.int (4 : Int32), .ref (ad 6)]) (o := 5) K (c_Room_second K.2.2.2.2.2.2.2.2.2.2.2.2 o21.1 o21.2 (w.1 4 0) w z21) mi_Room_second rfl rfl tw_442 tw_443 tw_445 rfl ⟨rfl, rfl, Nat.le_of_ble_eq_true rfl, Nat.le_of_ble_eq_true rfl⟩ rfl (Nat.le_of_ble_eq_true rfl) d_Machine_evaluate_156 ?_
  refine pm_aload_n K d_Machine_evaluate_159 0 rfl rfl ?_
  refine pm_getR K fc_6 (o := 6) rfl 0 rfl (by decide) tw_280 d_Machine_evaluate_160 ?_
  refine pm_getIN K fc_4 (o := 4) rfl 1 rfl (by decide) tw_208 d_Machine_evaluate_163 (v := o21.2.1 4 1) rfl ?_
  refine pm_iload_n K d_Machine_evaluate_166 1 rfl rfl ?_
  obtain ⟨o22, z22, hf⟩ := pm_bind hf
  refine pm_callV (As := [.int (4 : Int32), .int o21.1, .int (o21.2.1 4 1), .int x1]) (rest := []) (o := 6) K (c_Machine_evaluateUnder K.2.2.2.2.2.2.2.2.2.2.2.2 o22.1 o22.2 (4 : Int32) o21.1 (o21.2.1 4 1) x1 o21.2 z22) mi_Machine_evaluateUnder rfl rfl tw_474 tw_18 tw_473 rfl ⟨rfl, rfl, Nat.le_of_ble_eq_true rfl, Nat.le_of_ble_eq_true rfl⟩ rfl (Nat.le_of_ble_eq_true rfl) d_Machine_evaluate_167 ?_
  cases hf
  exact pm_iret K d_Machine_evaluate_170
set_option maxHeartbeats 4000000 in
set_option maxRecDepth 100000 in
theorem t_Machine_evaluate {p : Program} {l : Launch} {e : Env} {s : State} {m : MethodId} {args : Array Value} {below : List Frame} {meth : Method} {c : Code} {D : va_G} {ca : Nat → ClassId} {ad : Nat → Nat} {E : (Nat → Prop) → State → Heap → Prop} {S : Nat} (K : pm_ok p s m args meth c k_Machine_evaluate 2 pmTs R_Machine D vwCl (tyl ca) (shC S) ad E (some .int)) (r : Int32) (w' : pm_W) (w : pm_W) (hf : f_Machine_evaluate  S w = some (r, w')) : pm_wk p l e { frames := 5, cells := 0, slots := 0, locals := 111 } s m args below meth c D vwCl (shC S) ca ad 2 (some (.int r), w') 0 [(0, .ref (ad 6))] [] w := by
  unfold f_Machine_evaluate at hf
  refine pm_aload_n K d_Machine_evaluate_0 0 rfl rfl ?_
  refine pm_getR K fc_6 (o := 6) rfl 0 rfl (by decide) tw_280 d_Machine_evaluate_1 ?_
  refine pm_getIN K fc_4 (o := 4) rfl 0 rfl (by decide) tw_205 d_Machine_evaluate_4 (v := w.1 4 0) rfl ?_
  obtain ⟨o1, z1, hf⟩ := pm_bind hf
  refine pm_callS (As := [.int (w.1 4 0)]) (rest := []) K (c_Value_isSymbol K.2.2.2.2.2.2.2.2.2.2.2.2 o1.1 o1.2 (w.1 4 0) w z1) mi_Value_isSymbol tw_424 tw_423 rfl ⟨rfl, rfl, Nat.le_of_ble_eq_true rfl, Nat.le_of_ble_eq_true rfl⟩ rfl (Nat.le_of_ble_eq_true rfl) d_Machine_evaluate_7 ?_
  refine pm_if_eq K d_Machine_evaluate_10 18 (by decide) (fun c2 => ?_) (fun c2 => ?_)
  · have hf := pm_ift c2 hf
    refine pm_aload_n K d_Machine_evaluate_18 0 rfl rfl ?_
    refine pm_getR K fc_6 (o := 6) rfl 0 rfl (by decide) tw_280 d_Machine_evaluate_19 ?_
    refine pm_getIN K fc_4 (o := 4) rfl 0 rfl (by decide) tw_205 d_Machine_evaluate_22 (v := o1.2.1 4 0) rfl ?_
    obtain ⟨o3, z3, hf⟩ := pm_bind hf
    refine pm_callS (As := [.int (o1.2.1 4 0)]) (rest := []) K (c_Value_isPair K.2.2.2.2.2.2.2.2.2.2.2.2 o3.1 o3.2 (o1.2.1 4 0) o1.2 z3) mi_Value_isPair tw_435 tw_454 rfl ⟨rfl, rfl, Nat.le_of_ble_eq_true rfl, Nat.le_of_ble_eq_true rfl⟩ rfl (Nat.le_of_ble_eq_true rfl) d_Machine_evaluate_25 ?_
    refine pm_if_ne K d_Machine_evaluate_28 43 (by decide) (fun c4 => ?_) (fun c4 => ?_)
    · have hf := pm_iff c4 hf
      refine pm_aload_n K d_Machine_evaluate_43 0 rfl rfl ?_
      refine pm_getR K fc_6 (o := 6) rfl 1 rfl (by decide) tw_281 d_Machine_evaluate_44 ?_
      refine pm_aload_n K d_Machine_evaluate_47 0 rfl rfl ?_
      refine pm_getR K fc_6 (o := 6) rfl 0 rfl (by decide) tw_280 d_Machine_evaluate_48 ?_
      refine pm_getIN K fc_4 (o := 4) rfl 0 rfl (by decide) tw_205 d_Machine_evaluate_51 (v := o3.2.1 4 0) rfl ?_
      obtain ⟨o5, z5, hf⟩ := pm_bind hf
      refine pm_callV (As := [.int (o3.2.1 4 0)]) (rest := []) (o := 5) K (c_Room_first K.2.2.2.2.2.2.2.2.2.2.2.2 o5.1 o5.2 (o3.2.1 4 0) o3.2 z5) mi_Room_first rfl rfl tw_438 tw_439 tw_455 rfl ⟨rfl, rfl, Nat.le_of_ble_eq_true rfl, Nat.le_of_ble_eq_true rfl⟩ rfl (Nat.le_of_ble_eq_true rfl) d_Machine_evaluate_54 ?_
      refine pm_istore_n (lv' := [(1, .int o5.1), (0, .ref (ad 6))]) K d_Machine_evaluate_57 rfl (by decide) rfl ?_
      refine pm_iload_n K d_Machine_evaluate_58 0 rfl rfl ?_
      obtain ⟨o6, z6, hf⟩ := pm_bind hf
      refine pm_callS (As := [.int o5.1]) (rest := []) K (c_Value_isSymbol K.2.2.2.2.2.2.2.2.2.2.2.2 o6.1 o6.2 o5.1 o5.2 z6) mi_Value_isSymbol tw_424 tw_423 rfl ⟨rfl, rfl, Nat.le_of_ble_eq_true rfl, Nat.le_of_ble_eq_true rfl⟩ rfl (Nat.le_of_ble_eq_true rfl) d_Machine_evaluate_59 ?_
      refine pm_if_eq K d_Machine_evaluate_62 72 (by decide) (fun c7 => ?_) (fun c7 => ?_)
      · have hf := pm_ift c7 hf
        refine pm_iconst (v := -1) K d_Machine_evaluate_72 (by decide) ?_
        refine pm_sub (lv' := [(0, .ref (ad 6)), (1, .int o5.1)]) [1, 0] rfl ?_
        exact t_Machine_evaluate_73 K  r w'  o5.1 (-1 : Int32) o6.2 hf
      · have hf := pm_iff c7 hf
        refine pm_iload_n K d_Machine_evaluate_65 0 rfl rfl ?_
        obtain ⟨o8, z8, hf⟩ := pm_bind hf
        refine pm_callS (As := [.int o5.1]) (rest := []) K (c_Value_content K.2.2.2.2.2.2.2.2.2.2.2.2 o8.1 o8.2 o5.1 o6.2 z8) mi_Value_content tw_377 tw_449 rfl ⟨rfl, rfl, Nat.le_of_ble_eq_true rfl, Nat.le_of_ble_eq_true rfl⟩ rfl (Nat.le_of_ble_eq_true rfl) d_Machine_evaluate_66 ?_
        refine pm_goto K d_Machine_evaluate_69 73 (by decide) ?_
        refine pm_sub (lv' := [(0, .ref (ad 6)), (1, .int o5.1)]) [1, 0] rfl ?_
        exact t_Machine_evaluate_73 K  r w'  o5.1 o8.1 o8.2 hf
    · have hf := pm_ift c4 hf
      refine pm_aload_n K d_Machine_evaluate_31 0 rfl rfl ?_
      refine pm_aload_n K d_Machine_evaluate_32 0 rfl rfl ?_
      refine pm_getR K fc_6 (o := 6) rfl 0 rfl (by decide) tw_280 d_Machine_evaluate_33 ?_
      refine pm_getIN K fc_4 (o := 4) rfl 0 rfl (by decide) tw_205 d_Machine_evaluate_36 (v := o3.2.1 4 0) rfl ?_
      obtain ⟨o9, z9, hf⟩ := pm_bind hf
      refine pm_callV (As := [.int (o3.2.1 4 0)]) (rest := []) (o := 6) K (c_Machine_returnNext K.2.2.2.2.2.2.2.2.2.2.2.2 o9.1 o9.2 (o3.2.1 4 0) o3.2 z9) mi_Machine_returnNext rfl rfl tw_447 tw_14 tw_446 rfl ⟨rfl, rfl, Nat.le_of_ble_eq_true rfl, Nat.le_of_ble_eq_true rfl⟩ rfl (Nat.le_of_ble_eq_true rfl) d_Machine_evaluate_39 ?_
      cases hf
      exact pm_iret K d_Machine_evaluate_42
  · have hf := pm_iff c2 hf
    refine pm_aload_n K d_Machine_evaluate_13 0 rfl rfl ?_
    obtain ⟨o10, z10, hf⟩ := pm_bind hf
    refine pm_callV (As := []) (rest := []) (o := 6) K (c_Machine_evaluateSymbol K.2.2.2.2.2.2.2.2.2.2.2.2 o10.1 o10.2 o1.2 z10) mi_Machine_evaluateSymbol rfl rfl tw_428 tw_13 tw_427 rfl ⟨rfl, rfl, Nat.le_of_ble_eq_true rfl, Nat.le_of_ble_eq_true rfl⟩ rfl (Nat.le_of_ble_eq_true rfl) d_Machine_evaluate_14 ?_
    cases hf
    exact pm_iret K d_Machine_evaluate_17
/-- CellLisp$Machine.evaluate()I -/
theorem c_Machine_evaluate {l : Launch} {D : va_G} {ca : Nat → ClassId} {ad : Nat → Nat} {E : (Nat → Prop) → State → Heap → Prop} {S : Nat} (hEc : pm_Ecl E) (r : Int32) (w' : pm_W) (w : pm_W) (hf : f_Machine_evaluate  S w = some (r, w')) : pm_Met l pmTs D vwCl (tyl ca) (shC S) ca ad E y_Machine_evaluate k_Machine_evaluate 2 (some .int) { frames := 5, cells := 0, slots := 0, locals := 111 } [.ref (ad 6)] w (some (.int r), w') :=
  pm_start pmTs_good hEc (by decide) (Nat.le_of_ble_eq_true rfl) (fun p e s m below meth c K => t_Machine_evaluate K r w'  w hf)
def f_Machine_choose (S : Nat) (w : pm_W) : Option (Int32 × pm_W) :=
  if (w.1 4 0) = (2 : Int32) then
    Option.bind (f_State_a S w) fun o10 =>
    Option.bind (f_Room_second S o10.1 o10.2) fun o11 =>
    Option.bind (f_State_b S o11.2) fun o12 =>
    Option.bind (f_State_pop S o12.2) fun o13 =>
    Option.bind (f_Value_isPair S o11.1 o13) fun o14 =>
    if o14.1 = 0 then
      Option.bind (f_Machine_returnNext S (2 : Int32) o14.2) fun o18 =>
      some (o18.1, o18.2)
    else
      Option.bind (f_Room_first S o11.1 o14.2) fun o16 =>
      Option.bind (f_Machine_evaluateNext S o16.1 o12.1 o16.2) fun o17 =>
      some (o17.1, o17.2)
  else
    Option.bind (f_State_a S w) fun o2 =>
    Option.bind (f_State_b S o2.2) fun o3 =>
    Option.bind (f_State_pop S o3.2) fun o4 =>
    Option.bind (f_Value_isPair S o2.1 o4) fun o5 =>
    if o5.1 = 0 then
      Option.bind (f_Machine_returnNext S (2 : Int32) o5.2) fun o9 =>
      some (o9.1, o9.2)
    else
      Option.bind (f_Room_first S o2.1 o5.2) fun o7 =>
      Option.bind (f_Machine_evaluateNext S o7.1 o3.1 o7.2) fun o8 =>
      some (o8.1, o8.2)
set_option maxHeartbeats 4000000 in
set_option maxRecDepth 100000 in
theorem t_Machine_choose {p : Program} {l : Launch} {e : Env} {s : State} {m : MethodId} {args : Array Value} {below : List Frame} {meth : Method} {c : Code} {D : va_G} {ca : Nat → ClassId} {ad : Nat → Nat} {E : (Nat → Prop) → State → Heap → Prop} {S : Nat} (K : pm_ok p s m args meth c k_Machine_choose 3 pmTs R_Machine D vwCl (tyl ca) (shC S) ad E (some .int)) (r : Int32) (w' : pm_W) (w : pm_W) (hf : f_Machine_choose  S w = some (r, w')) : pm_wk p l e { frames := 2, cells := 0, slots := 0, locals := 44 } s m args below meth c D vwCl (shC S) ca ad 3 (some (.int r), w') 0 [(0, .ref (ad 6))] [] w := by
  unfold f_Machine_choose at hf
  refine pm_aload_n K d_Machine_choose_0 0 rfl rfl ?_
  refine pm_getR K fc_6 (o := 6) rfl 0 rfl (by decide) tw_280 d_Machine_choose_1 ?_
  refine pm_getIN K fc_4 (o := 4) rfl 0 rfl (by decide) tw_205 d_Machine_choose_4 (v := w.1 4 0) rfl ?_
  refine pm_iconst (v := 2) K d_Machine_choose_7 (by decide) ?_
  refine pm_icmp_ne K d_Machine_choose_8 28 (by decide) (fun c1 => ?_) (fun c1 => ?_)
  · have hf := pm_iff c1 hf
    refine pm_aload_n K d_Machine_choose_28 0 rfl rfl ?_
    refine pm_getR K fc_6 (o := 6) rfl 0 rfl (by decide) tw_280 d_Machine_choose_29 ?_
    obtain ⟨o2, z2, hf⟩ := pm_bind hf
    refine pm_callV (As := []) (rest := []) (o := 4) K (c_State_a K.2.2.2.2.2.2.2.2.2.2.2.2 o2.1 o2.2 w z2) mi_State_a rfl rfl tw_508 tw_509 tw_507 rfl ⟨rfl, rfl, Nat.le_of_ble_eq_true rfl, Nat.le_of_ble_eq_true rfl⟩ rfl (Nat.le_of_ble_eq_true rfl) d_Machine_choose_32 ?_
    refine pm_istore_n (lv' := [(1, .int o2.1), (0, .ref (ad 6))]) K d_Machine_choose_35 rfl (by decide) rfl ?_
    refine pm_aload_n K d_Machine_choose_36 1 rfl rfl ?_
    refine pm_getR K fc_6 (o := 6) rfl 0 rfl (by decide) tw_280 d_Machine_choose_37 ?_
    obtain ⟨o3, z3, hf⟩ := pm_bind hf
    refine pm_callV (As := []) (rest := []) (o := 4) K (c_State_b K.2.2.2.2.2.2.2.2.2.2.2.2 o3.1 o3.2 o2.2 z3) mi_State_b rfl rfl tw_512 tw_513 tw_511 rfl ⟨rfl, rfl, Nat.le_of_ble_eq_true rfl, Nat.le_of_ble_eq_true rfl⟩ rfl (Nat.le_of_ble_eq_true rfl) d_Machine_choose_40 ?_
    refine pm_istore_n (lv' := [(2, .int o3.1), (1, .int o2.1), (0, .ref (ad 6))]) K d_Machine_choose_43 rfl (by decide) rfl ?_
    refine pm_aload_n K d_Machine_choose_44 2 rfl rfl ?_
    refine pm_getR K fc_6 (o := 6) rfl 0 rfl (by decide) tw_280 d_Machine_choose_45 ?_
    obtain ⟨o4, z4, hf⟩ := pm_bind hf
    refine pm_callV (As := []) (rest := []) (o := 4) K (c_State_pop K.2.2.2.2.2.2.2.2.2.2.2.2 o4 o3.2 z4) mi_State_pop rfl rfl tw_516 tw_517 tw_515 rfl ⟨rfl, rfl, Nat.le_of_ble_eq_true rfl, Nat.le_of_ble_eq_true rfl⟩ rfl (Nat.le_of_ble_eq_true rfl) d_Machine_choose_48 ?_
    refine pm_iload_n K d_Machine_choose_51 1 rfl rfl ?_
    obtain ⟨o5, z5, hf⟩ := pm_bind hf
    refine pm_callS (As := [.int o2.1]) (rest := []) K (c_Value_isPair K.2.2.2.2.2.2.2.2.2.2.2.2 o5.1 o5.2 o2.1 o4 z5) mi_Value_isPair tw_435 tw_454 rfl ⟨rfl, rfl, Nat.le_of_ble_eq_true rfl, Nat.le_of_ble_eq_true rfl⟩ rfl (Nat.le_of_ble_eq_true rfl) d_Machine_choose_52 ?_
    refine pm_if_ne K d_Machine_choose_55 64 (by decide) (fun c6 => ?_) (fun c6 => ?_)
    · have hf := pm_iff c6 hf
      refine pm_aload_n K d_Machine_choose_64 2 rfl rfl ?_
      refine pm_aload_n K d_Machine_choose_65 2 rfl rfl ?_
      refine pm_getR K fc_6 (o := 6) rfl 1 rfl (by decide) tw_281 d_Machine_choose_66 ?_
      refine pm_iload_n K d_Machine_choose_69 1 rfl rfl ?_
      obtain ⟨o7, z7, hf⟩ := pm_bind hf
      refine pm_callV (As := [.int o2.1]) (rest := [.ref (ad 6)]) (o := 5) K (c_Room_first K.2.2.2.2.2.2.2.2.2.2.2.2 o7.1 o7.2 o2.1 o5.2 z7) mi_Room_first rfl rfl tw_438 tw_439 tw_455 rfl ⟨rfl, rfl, Nat.le_of_ble_eq_true rfl, Nat.le_of_ble_eq_true rfl⟩ rfl (Nat.le_of_ble_eq_true rfl) d_Machine_choose_70 ?_
      refine pm_iload_n K d_Machine_choose_73 0 rfl rfl ?_
      obtain ⟨o8, z8, hf⟩ := pm_bind hf
      refine pm_callV (As := [.int o7.1, .int o3.1]) (rest := []) (o := 6) K (c_Machine_evaluateNext K.2.2.2.2.2.2.2.2.2.2.2.2 o8.1 o8.2 o7.1 o3.1 o7.2 z8) mi_Machine_evaluateNext rfl rfl tw_418 tw_11 tw_417 rfl ⟨rfl, rfl, Nat.le_of_ble_eq_true rfl, Nat.le_of_ble_eq_true rfl⟩ rfl (Nat.le_of_ble_eq_true rfl) d_Machine_choose_74 ?_
      cases hf
      exact pm_iret K d_Machine_choose_77
    · have hf := pm_ift c6 hf
      refine pm_aload_n K d_Machine_choose_58 2 rfl rfl ?_
      refine pm_iconst (v := 2) K d_Machine_choose_59 (by decide) ?_
      obtain ⟨o9, z9, hf⟩ := pm_bind hf
      refine pm_callV (As := [.int (2 : Int32)]) (rest := []) (o := 6) K (c_Machine_returnNext K.2.2.2.2.2.2.2.2.2.2.2.2 o9.1 o9.2 (2 : Int32) o5.2 z9) mi_Machine_returnNext rfl rfl tw_447 tw_14 tw_446 rfl ⟨rfl, rfl, Nat.le_of_ble_eq_true rfl, Nat.le_of_ble_eq_true rfl⟩ rfl (Nat.le_of_ble_eq_true rfl) d_Machine_choose_60 ?_
      cases hf
      exact pm_iret K d_Machine_choose_63
  · have hf := pm_ift c1 hf
    refine pm_aload_n K d_Machine_choose_11 0 rfl rfl ?_
    refine pm_getR K fc_6 (o := 6) rfl 1 rfl (by decide) tw_281 d_Machine_choose_12 ?_
    refine pm_aload_n K d_Machine_choose_15 0 rfl rfl ?_
    refine pm_getR K fc_6 (o := 6) rfl 0 rfl (by decide) tw_280 d_Machine_choose_16 ?_
    obtain ⟨o10, z10, hf⟩ := pm_bind hf
    refine pm_callV (As := []) (rest := [.ref (ad 5)]) (o := 4) K (c_State_a K.2.2.2.2.2.2.2.2.2.2.2.2 o10.1 o10.2 w z10) mi_State_a rfl rfl tw_508 tw_509 tw_507 rfl ⟨rfl, rfl, Nat.le_of_ble_eq_true rfl, Nat.le_of_ble_eq_true rfl⟩ rfl (Nat.le_of_ble_eq_true rfl) d_Machine_choose_19 ?_
    obtain ⟨o11, z11, hf⟩ := pm_bind hf
    refine pm_callV (As := [.int o10.1]) (rest := []) (o := 5) K (c_Room_second K.2.2.2.2.2.2.2.2.2.2.2.2 o11.1 o11.2 o10.1 o10.2 z11) mi_Room_second rfl rfl tw_442 tw_443 tw_445 rfl ⟨rfl, rfl, Nat.le_of_ble_eq_true rfl, Nat.le_of_ble_eq_true rfl⟩ rfl (Nat.le_of_ble_eq_true rfl) d_Machine_choose_22 ?_
    refine pm_goto K d_Machine_choose_25 35 (by decide) ?_
    refine pm_istore_n (lv' := [(1, .int o11.1), (0, .ref (ad 6))]) K d_Machine_choose_35 rfl (by decide) rfl ?_
    refine pm_aload_n K d_Machine_choose_36 1 rfl rfl ?_
    refine pm_getR K fc_6 (o := 6) rfl 0 rfl (by decide) tw_280 d_Machine_choose_37 ?_
    obtain ⟨o12, z12, hf⟩ := pm_bind hf
    refine pm_callV (As := []) (rest := []) (o := 4) K (c_State_b K.2.2.2.2.2.2.2.2.2.2.2.2 o12.1 o12.2 o11.2 z12) mi_State_b rfl rfl tw_512 tw_513 tw_511 rfl ⟨rfl, rfl, Nat.le_of_ble_eq_true rfl, Nat.le_of_ble_eq_true rfl⟩ rfl (Nat.le_of_ble_eq_true rfl) d_Machine_choose_40 ?_
    refine pm_istore_n (lv' := [(2, .int o12.1), (1, .int o11.1), (0, .ref (ad 6))]) K d_Machine_choose_43 rfl (by decide) rfl ?_
    refine pm_aload_n K d_Machine_choose_44 2 rfl rfl ?_
    refine pm_getR K fc_6 (o := 6) rfl 0 rfl (by decide) tw_280 d_Machine_choose_45 ?_
    obtain ⟨o13, z13, hf⟩ := pm_bind hf
    refine pm_callV (As := []) (rest := []) (o := 4) K (c_State_pop K.2.2.2.2.2.2.2.2.2.2.2.2 o13 o12.2 z13) mi_State_pop rfl rfl tw_516 tw_517 tw_515 rfl ⟨rfl, rfl, Nat.le_of_ble_eq_true rfl, Nat.le_of_ble_eq_true rfl⟩ rfl (Nat.le_of_ble_eq_true rfl) d_Machine_choose_48 ?_
    refine pm_iload_n K d_Machine_choose_51 1 rfl rfl ?_
    obtain ⟨o14, z14, hf⟩ := pm_bind hf
    refine pm_callS (As := [.int o11.1]) (rest := []) K (c_Value_isPair K.2.2.2.2.2.2.2.2.2.2.2.2 o14.1 o14.2 o11.1 o13 z14) mi_Value_isPair tw_435 tw_454 rfl ⟨rfl, rfl, Nat.le_of_ble_eq_true rfl, Nat.le_of_ble_eq_true rfl⟩ rfl (Nat.le_of_ble_eq_true rfl) d_Machine_choose_52 ?_
    refine pm_if_ne K d_Machine_choose_55 64 (by decide) (fun c15 => ?_) (fun c15 => ?_)
    · have hf := pm_iff c15 hf
      refine pm_aload_n K d_Machine_choose_64 2 rfl rfl ?_
      refine pm_aload_n K d_Machine_choose_65 2 rfl rfl ?_
      refine pm_getR K fc_6 (o := 6) rfl 1 rfl (by decide) tw_281 d_Machine_choose_66 ?_
      refine pm_iload_n K d_Machine_choose_69 1 rfl rfl ?_
      obtain ⟨o16, z16, hf⟩ := pm_bind hf
      refine pm_callV (As := [.int o11.1]) (rest := [.ref (ad 6)]) (o := 5) K (c_Room_first K.2.2.2.2.2.2.2.2.2.2.2.2 o16.1 o16.2 o11.1 o14.2 z16) mi_Room_first rfl rfl tw_438 tw_439 tw_455 rfl ⟨rfl, rfl, Nat.le_of_ble_eq_true rfl, Nat.le_of_ble_eq_true rfl⟩ rfl (Nat.le_of_ble_eq_true rfl) d_Machine_choose_70 ?_
      refine pm_iload_n K d_Machine_choose_73 0 rfl rfl ?_
      obtain ⟨o17, z17, hf⟩ := pm_bind hf
      refine pm_callV (As := [.int o16.1, .int o12.1]) (rest := []) (o := 6) K (c_Machine_evaluateNext K.2.2.2.2.2.2.2.2.2.2.2.2 o17.1 o17.2 o16.1 o12.1 o16.2 z17) mi_Machine_evaluateNext rfl rfl tw_418 tw_11 tw_417 rfl ⟨rfl, rfl, Nat.le_of_ble_eq_true rfl, Nat.le_of_ble_eq_true rfl⟩ rfl (Nat.le_of_ble_eq_true rfl) d_Machine_choose_74 ?_
      cases hf
      exact pm_iret K d_Machine_choose_77
    · have hf := pm_ift c15 hf
      refine pm_aload_n K d_Machine_choose_58 2 rfl rfl ?_
      refine pm_iconst (v := 2) K d_Machine_choose_59 (by decide) ?_
      obtain ⟨o18, z18, hf⟩ := pm_bind hf
      refine pm_callV (As := [.int (2 : Int32)]) (rest := []) (o := 6) K (c_Machine_returnNext K.2.2.2.2.2.2.2.2.2.2.2.2 o18.1 o18.2 (2 : Int32) o14.2 z18) mi_Machine_returnNext rfl rfl tw_447 tw_14 tw_446 rfl ⟨rfl, rfl, Nat.le_of_ble_eq_true rfl, Nat.le_of_ble_eq_true rfl⟩ rfl (Nat.le_of_ble_eq_true rfl) d_Machine_choose_60 ?_
      cases hf
      exact pm_iret K d_Machine_choose_63
/-- CellLisp$Machine.choose()I -/
theorem c_Machine_choose {l : Launch} {D : va_G} {ca : Nat → ClassId} {ad : Nat → Nat} {E : (Nat → Prop) → State → Heap → Prop} {S : Nat} (hEc : pm_Ecl E) (r : Int32) (w' : pm_W) (w : pm_W) (hf : f_Machine_choose  S w = some (r, w')) : pm_Met l pmTs D vwCl (tyl ca) (shC S) ca ad E y_Machine_choose k_Machine_choose 3 (some .int) { frames := 2, cells := 0, slots := 0, locals := 44 } [.ref (ad 6)] w (some (.int r), w') :=
  pm_start pmTs_good hEc (by decide) (Nat.le_of_ble_eq_true rfl) (fun p e s m below meth c K => t_Machine_choose K r w'  w hf)
def f_Machine_define (S : Nat) (w : pm_W) : Option (Int32 × pm_W) :=
  Option.bind (f_State_a S w) fun o1 =>
  Option.bind (f_Value_content S o1.1 o1.2) fun o2 =>
  Option.bind (f_Symbols_setGlobal S o2.1 (o2.2.1 4 0) o2.2) fun o3 =>
  Option.bind (f_State_pop S o3) fun o4 =>
  Option.bind (f_Machine_returnNext S o1.1 o4) fun o5 =>
  some (o5.1, o5.2)
set_option maxHeartbeats 4000000 in
set_option maxRecDepth 100000 in
theorem t_Machine_define {p : Program} {l : Launch} {e : Env} {s : State} {m : MethodId} {args : Array Value} {below : List Frame} {meth : Method} {c : Code} {D : va_G} {ca : Nat → ClassId} {ad : Nat → Nat} {E : (Nat → Prop) → State → Heap → Prop} {S : Nat} (K : pm_ok p s m args meth c k_Machine_define 2 pmTs R_Machine D vwCl (tyl ca) (shC S) ad E (some .int)) (r : Int32) (w' : pm_W) (w : pm_W) (hf : f_Machine_define  S w = some (r, w')) : pm_wk p l e { frames := 2, cells := 0, slots := 0, locals := 40 } s m args below meth c D vwCl (shC S) ca ad 2 (some (.int r), w') 0 [(0, .ref (ad 6))] [] w := by
  unfold f_Machine_define at hf
  refine pm_aload_n K d_Machine_define_0 0 rfl rfl ?_
  refine pm_getR K fc_6 (o := 6) rfl 0 rfl (by decide) tw_280 d_Machine_define_1 ?_
  obtain ⟨o1, z1, hf⟩ := pm_bind hf
  refine pm_callV (As := []) (rest := []) (o := 4) K (c_State_a K.2.2.2.2.2.2.2.2.2.2.2.2 o1.1 o1.2 w z1) mi_State_a rfl rfl tw_508 tw_509 tw_507 rfl ⟨rfl, rfl, Nat.le_of_ble_eq_true rfl, Nat.le_of_ble_eq_true rfl⟩ rfl (Nat.le_of_ble_eq_true rfl) d_Machine_define_4 ?_
  refine pm_istore_n (lv' := [(1, .int o1.1), (0, .ref (ad 6))]) K d_Machine_define_7 rfl (by decide) rfl ?_
  refine pm_aload_n K d_Machine_define_8 1 rfl rfl ?_
  refine pm_getR K fc_6 (o := 6) rfl 2 rfl (by decide) tw_282 d_Machine_define_9 ?_
  refine pm_iload_n K d_Machine_define_12 0 rfl rfl ?_
  obtain ⟨o2, z2, hf⟩ := pm_bind hf
  refine pm_callS (As := [.int o1.1]) (rest := [.ref (ad 3)]) K (c_Value_content K.2.2.2.2.2.2.2.2.2.2.2.2 o2.1 o2.2 o1.1 o1.2 z2) mi_Value_content tw_377 tw_449 rfl ⟨rfl, rfl, Nat.le_of_ble_eq_true rfl, Nat.le_of_ble_eq_true rfl⟩ rfl (Nat.le_of_ble_eq_true rfl) d_Machine_define_13 ?_
  refine pm_aload_n K d_Machine_define_16 1 rfl rfl ?_
  refine pm_getR K fc_6 (o := 6) rfl 0 rfl (by decide) tw_280 d_Machine_define_17 ?_
  refine pm_getIN K fc_4 (o := 4) rfl 0 rfl (by decide) tw_205 d_Machine_define_20 (v := o2.2.1 4 0) rfl ?_
  obtain ⟨o3, z3, hf⟩ := pm_bind hf
  refine pm_callV (As := [.int o2.1, .int (o2.2.1 4 0)]) (rest := []) (o := 3) K (c_Symbols_setGlobal K.2.2.2.2.2.2.2.2.2.2.2.2 o3 o2.1 (o2.2.1 4 0) o2.2 z3) mi_Symbols_setGlobal rfl rfl tw_523 tw_524 tw_522 rfl ⟨rfl, rfl, Nat.le_of_ble_eq_true rfl, Nat.le_of_ble_eq_true rfl⟩ rfl (Nat.le_of_ble_eq_true rfl) d_Machine_define_23 ?_
  refine pm_aload_n K d_Machine_define_26 1 rfl rfl ?_
  refine pm_getR K fc_6 (o := 6) rfl 0 rfl (by decide) tw_280 d_Machine_define_27 ?_
  obtain ⟨o4, z4, hf⟩ := pm_bind hf
  refine pm_callV (As := []) (rest := []) (o := 4) K (c_State_pop K.2.2.2.2.2.2.2.2.2.2.2.2 o4 o3 z4) mi_State_pop rfl rfl tw_516 tw_517 tw_515 rfl ⟨rfl, rfl, Nat.le_of_ble_eq_true rfl, Nat.le_of_ble_eq_true rfl⟩ rfl (Nat.le_of_ble_eq_true rfl) d_Machine_define_30 ?_
  refine pm_aload_n K d_Machine_define_33 1 rfl rfl ?_
  refine pm_iload_n K d_Machine_define_34 0 rfl rfl ?_
  obtain ⟨o5, z5, hf⟩ := pm_bind hf
  refine pm_callV (As := [.int o1.1]) (rest := []) (o := 6) K (c_Machine_returnNext K.2.2.2.2.2.2.2.2.2.2.2.2 o5.1 o5.2 o1.1 o4 z5) mi_Machine_returnNext rfl rfl tw_447 tw_14 tw_446 rfl ⟨rfl, rfl, Nat.le_of_ble_eq_true rfl, Nat.le_of_ble_eq_true rfl⟩ rfl (Nat.le_of_ble_eq_true rfl) d_Machine_define_35 ?_
  cases hf
  exact pm_iret K d_Machine_define_38
/-- CellLisp$Machine.define()I -/
theorem c_Machine_define {l : Launch} {D : va_G} {ca : Nat → ClassId} {ad : Nat → Nat} {E : (Nat → Prop) → State → Heap → Prop} {S : Nat} (hEc : pm_Ecl E) (r : Int32) (w' : pm_W) (w : pm_W) (hf : f_Machine_define  S w = some (r, w')) : pm_Met l pmTs D vwCl (tyl ca) (shC S) ca ad E y_Machine_define k_Machine_define 2 (some .int) { frames := 2, cells := 0, slots := 0, locals := 40 } [.ref (ad 6)] w (some (.int r), w') :=
  pm_start pmTs_good hEc (by decide) (Nat.le_of_ble_eq_true rfl) (fun p e s m below meth c K => t_Machine_define K r w'  w hf)
def f_Machine_assign (S : Nat) (w : pm_W) : Option (Int32 × pm_W) :=
  Option.bind (f_State_a S w) fun o1 =>
  Option.bind (f_State_b S o1.2) fun o2 =>
  Option.bind (f_Room_binding S o1.1 o2.1 o2.2) fun o3 =>
  Option.bind (f_State_a S o3.2) fun o4 =>
  Option.bind (f_Value_content S o4.1 o4.2) fun o5 =>
  if o3.1 = (2 : Int32) then
    Option.bind (f_Symbols_global S o5.1 o5.2) fun o7 =>
    if o7.1 = (6 : Int32) then
      some ((-2 : Int32), o7.2)
    else
      Option.bind (f_Symbols_setGlobal S o5.1 (o7.2.1 4 0) o7.2) fun o9 =>
      Option.bind (f_State_pop S o9) fun o10 =>
      Option.bind (f_Machine_returnNext S (o10.1 4 0) o10) fun o11 =>
      some (o11.1, o11.2)
  else
    Option.bind (f_Room_setSecond S o3.1 (o5.2.1 4 0) o5.2) fun o12 =>
    Option.bind (f_State_pop S o12) fun o13 =>
    Option.bind (f_Machine_returnNext S (o13.1 4 0) o13) fun o14 =>
    some (o14.1, o14.2)
set_option maxHeartbeats 4000000 in
set_option maxRecDepth 100000 in
theorem t_Machine_assign {p : Program} {l : Launch} {e : Env} {s : State} {m : MethodId} {args : Array Value} {below : List Frame} {meth : Method} {c : Code} {D : va_G} {ca : Nat → ClassId} {ad : Nat → Nat} {E : (Nat → Prop) → State → Heap → Prop} {S : Nat} (K : pm_ok p s m args meth c k_Machine_assign 3 pmTs R_Machine D vwCl (tyl ca) (shC S) ad E (some .int)) (r : Int32) (w' : pm_W) (w : pm_W) (hf : f_Machine_assign  S w = some (r, w')) : pm_wk p l e { frames := 3, cells := 0, slots := 0, locals := 68 } s m args below meth c D vwCl (shC S) ca ad 3 (some (.int r), w') 0 [(0, .ref (ad 6))] [] w := by
  unfold f_Machine_assign at hf
  refine pm_aload_n K d_Machine_assign_0 0 rfl rfl ?_
  refine pm_getR K fc_6 (o := 6) rfl 1 rfl (by decide) tw_281 d_Machine_assign_1 ?_
  refine pm_aload_n K d_Machine_assign_4 0 rfl rfl ?_
  refine pm_getR K fc_6 (o := 6) rfl 0 rfl (by decide) tw_280 d_Machine_assign_5 ?_
  obtain ⟨o1, z1, hf⟩ := pm_bind hf
  refine pm_callV (As := []) (rest := [.ref (ad 5)]) (o := 4) K (c_State_a K.2.2.2.2.2.2.2.2.2.2.2.2 o1.1 o1.2 w z1) mi_State_a rfl rfl tw_508 tw_509 tw_507 rfl ⟨rfl, rfl, Nat.le_of_ble_eq_true rfl, Nat.le_of_ble_eq_true rfl⟩ rfl (Nat.le_of_ble_eq_true rfl) d_Machine_assign_8 ?_
  refine pm_aload_n K d_Machine_assign_11 0 rfl rfl ?_
  refine pm_getR K fc_6 (o := 6) rfl 0 rfl (by decide) tw_280 d_Machine_assign_12 ?_
  obtain ⟨o2, z2, hf⟩ := pm_bind hf
  refine pm_callV (As := []) (rest := [.int o1.1, .ref (ad 5)]) (o := 4) K (c_State_b K.2.2.2.2.2.2.2.2.2.2.2.2 o2.1 o2.2 o1.2 z2) mi_State_b rfl rfl tw_512 tw_513 tw_511 rfl ⟨rfl, rfl, Nat.le_of_ble_eq_true rfl, Nat.le_of_ble_eq_true rfl⟩ rfl (Nat.le_of_ble_eq_true rfl) d_Machine_assign_15 ?_
  obtain ⟨o3, z3, hf⟩ := pm_bind hf
  refine pm_callV (As := [.int o1.1, .int o2.1]) (rest := []) (o := 5) K (c_Room_binding K.2.2.2.2.2.2.2.2.2.2.2.2 o3.1 o3.2 o1.1 o2.1 o2.2 z3) mi_Room_binding rfl rfl tw_431 tw_432 tw_430 rfl ⟨rfl, rfl, Nat.le_of_ble_eq_true rfl, Nat.le_of_ble_eq_true rfl⟩ rfl (Nat.le_of_ble_eq_true rfl) d_Machine_assign_18 ?_
  refine pm_istore_n (lv' := [(1, .int o3.1), (0, .ref (ad 6))]) K d_Machine_assign_21 rfl (by decide) rfl ?_
  refine pm_aload_n K d_Machine_assign_22 1 rfl rfl ?_
  refine pm_getR K fc_6 (o := 6) rfl 0 rfl (by decide) tw_280 d_Machine_assign_23 ?_
  obtain ⟨o4, z4, hf⟩ := pm_bind hf
  refine pm_callV (As := []) (rest := []) (o := 4) K (c_State_a K.2.2.2.2.2.2.2.2.2.2.2.2 o4.1 o4.2 o3.2 z4) mi_State_a rfl rfl tw_508 tw_509 tw_507 rfl ⟨rfl, rfl, Nat.le_of_ble_eq_true rfl, Nat.le_of_ble_eq_true rfl⟩ rfl (Nat.le_of_ble_eq_true rfl) d_Machine_assign_26 ?_
  obtain ⟨o5, z5, hf⟩ := pm_bind hf
  refine pm_callS (As := [.int o4.1]) (rest := []) K (c_Value_content K.2.2.2.2.2.2.2.2.2.2.2.2 o5.1 o5.2 o4.1 o4.2 z5) mi_Value_content tw_377 tw_449 rfl ⟨rfl, rfl, Nat.le_of_ble_eq_true rfl, Nat.le_of_ble_eq_true rfl⟩ rfl (Nat.le_of_ble_eq_true rfl) d_Machine_assign_29 ?_
  refine pm_istore_n (lv' := [(2, .int o5.1), (1, .int o3.1), (0, .ref (ad 6))]) K d_Machine_assign_32 rfl (by decide) rfl ?_
  refine pm_iload_n K d_Machine_assign_33 1 rfl rfl ?_
  refine pm_iconst (v := 2) K d_Machine_assign_34 (by decide) ?_
  refine pm_icmp_eq K d_Machine_assign_35 56 (by decide) (fun c6 => ?_) (fun c6 => ?_)
  · have hf := pm_ift c6 hf
    refine pm_aload_n K d_Machine_assign_56 2 rfl rfl ?_
    refine pm_getR K fc_6 (o := 6) rfl 2 rfl (by decide) tw_282 d_Machine_assign_57 ?_
    refine pm_iload_n K d_Machine_assign_60 0 rfl rfl ?_
    obtain ⟨o7, z7, hf⟩ := pm_bind hf
    refine pm_callV (As := [.int o5.1]) (rest := []) (o := 3) K (c_Symbols_global K.2.2.2.2.2.2.2.2.2.2.2.2 o7.1 o7.2 o5.1 o5.2 z7) mi_Symbols_global rfl rfl tw_451 tw_452 tw_450 rfl ⟨rfl, rfl, Nat.le_of_ble_eq_true rfl, Nat.le_of_ble_eq_true rfl⟩ rfl (Nat.le_of_ble_eq_true rfl) d_Machine_assign_61 ?_
    refine pm_bipush (v := 6) K d_Machine_assign_64 (by decide) ?_
    refine pm_icmp_eq K d_Machine_assign_66 87 (by decide) (fun c8 => ?_) (fun c8 => ?_)
    · have hf := pm_ift c8 hf
      refine pm_bipush (v := -2) K d_Machine_assign_87 (by decide) ?_
      cases hf
      exact pm_iret K d_Machine_assign_89
    · have hf := pm_iff c8 hf
      refine pm_aload_n K d_Machine_assign_69 2 rfl rfl ?_
      refine pm_getR K fc_6 (o := 6) rfl 2 rfl (by decide) tw_282 d_Machine_assign_70 ?_
      refine pm_iload_n K d_Machine_assign_73 0 rfl rfl ?_
      refine pm_aload_n K d_Machine_assign_74 2 rfl rfl ?_
      refine pm_getR K fc_6 (o := 6) rfl 0 rfl (by decide) tw_280 d_Machine_assign_75 ?_
      refine pm_getIN K fc_4 (o := 4) rfl 0 rfl (by decide) tw_205 d_Machine_assign_78 (v := o7.2.1 4 0) rfl ?_
      obtain ⟨o9, z9, hf⟩ := pm_bind hf
      refine pm_callV (As := [.int o5.1, .int (o7.2.1 4 0)]) (rest := []) (o := 3) K (c_Symbols_setGlobal K.2.2.2.2.2.2.2.2.2.2.2.2 o9 o5.1 (o7.2.1 4 0) o7.2 z9) mi_Symbols_setGlobal rfl rfl tw_523 tw_524 tw_522 rfl ⟨rfl, rfl, Nat.le_of_ble_eq_true rfl, Nat.le_of_ble_eq_true rfl⟩ rfl (Nat.le_of_ble_eq_true rfl) d_Machine_assign_81 ?_
      refine pm_goto K d_Machine_assign_84 90 (by decide) ?_
      refine pm_aload_n K d_Machine_assign_90 2 rfl rfl ?_
      refine pm_getR K fc_6 (o := 6) rfl 0 rfl (by decide) tw_280 d_Machine_assign_91 ?_
      obtain ⟨o10, z10, hf⟩ := pm_bind hf
      refine pm_callV (As := []) (rest := []) (o := 4) K (c_State_pop K.2.2.2.2.2.2.2.2.2.2.2.2 o10 o9 z10) mi_State_pop rfl rfl tw_516 tw_517 tw_515 rfl ⟨rfl, rfl, Nat.le_of_ble_eq_true rfl, Nat.le_of_ble_eq_true rfl⟩ rfl (Nat.le_of_ble_eq_true rfl) d_Machine_assign_94 ?_
      refine pm_aload_n K d_Machine_assign_97 2 rfl rfl ?_
      refine pm_aload_n K d_Machine_assign_98 2 rfl rfl ?_
      refine pm_getR K fc_6 (o := 6) rfl 0 rfl (by decide) tw_280 d_Machine_assign_99 ?_
      refine pm_getIN K fc_4 (o := 4) rfl 0 rfl (by decide) tw_205 d_Machine_assign_102 (v := o10.1 4 0) rfl ?_
      obtain ⟨o11, z11, hf⟩ := pm_bind hf
      refine pm_callV (As := [.int (o10.1 4 0)]) (rest := []) (o := 6) K (c_Machine_returnNext K.2.2.2.2.2.2.2.2.2.2.2.2 o11.1 o11.2 (o10.1 4 0) o10 z11) mi_Machine_returnNext rfl rfl tw_447 tw_14 tw_446 rfl ⟨rfl, rfl, Nat.le_of_ble_eq_true rfl, Nat.le_of_ble_eq_true rfl⟩ rfl (Nat.le_of_ble_eq_true rfl) d_Machine_assign_105 ?_
      cases hf
      exact pm_iret K d_Machine_assign_108
  · have hf := pm_iff c6 hf
    refine pm_aload_n K d_Machine_assign_38 2 rfl rfl ?_
    refine pm_getR K fc_6 (o := 6) rfl 1 rfl (by decide) tw_281 d_Machine_assign_39 ?_
    refine pm_iload_n K d_Machine_assign_42 1 rfl rfl ?_
    refine pm_aload_n K d_Machine_assign_43 2 rfl rfl ?_
    refine pm_getR K fc_6 (o := 6) rfl 0 rfl (by decide) tw_280 d_Machine_assign_44 ?_
    refine pm_getIN K fc_4 (o := 4) rfl 0 rfl (by decide) tw_205 d_Machine_assign_47 (v := o5.2.1 4 0) rfl ?_
    obtain ⟨o12, z12, hf⟩ := pm_bind hf
    refine pm_callV (As := [.int o3.1, .int (o5.2.1 4 0)]) (rest := []) (o := 5) K (c_Room_setSecond K.2.2.2.2.2.2.2.2.2.2.2.2 o12 o3.1 (o5.2.1 4 0) o5.2 z12) mi_Room_setSecond rfl rfl tw_397 tw_398 tw_529 rfl ⟨rfl, rfl, Nat.le_of_ble_eq_true rfl, Nat.le_of_ble_eq_true rfl⟩ rfl (Nat.le_of_ble_eq_true rfl) d_Machine_assign_50 ?_
    refine pm_goto K d_Machine_assign_53 90 (by decide) ?_
    refine pm_aload_n K d_Machine_assign_90 2 rfl rfl ?_
    refine pm_getR K fc_6 (o := 6) rfl 0 rfl (by decide) tw_280 d_Machine_assign_91 ?_
    obtain ⟨o13, z13, hf⟩ := pm_bind hf
    refine pm_callV (As := []) (rest := []) (o := 4) K (c_State_pop K.2.2.2.2.2.2.2.2.2.2.2.2 o13 o12 z13) mi_State_pop rfl rfl tw_516 tw_517 tw_515 rfl ⟨rfl, rfl, Nat.le_of_ble_eq_true rfl, Nat.le_of_ble_eq_true rfl⟩ rfl (Nat.le_of_ble_eq_true rfl) d_Machine_assign_94 ?_
    refine pm_aload_n K d_Machine_assign_97 2 rfl rfl ?_
    refine pm_aload_n K d_Machine_assign_98 2 rfl rfl ?_
    refine pm_getR K fc_6 (o := 6) rfl 0 rfl (by decide) tw_280 d_Machine_assign_99 ?_
    refine pm_getIN K fc_4 (o := 4) rfl 0 rfl (by decide) tw_205 d_Machine_assign_102 (v := o13.1 4 0) rfl ?_
    obtain ⟨o14, z14, hf⟩ := pm_bind hf
    refine pm_callV (As := [.int (o13.1 4 0)]) (rest := []) (o := 6) K (c_Machine_returnNext K.2.2.2.2.2.2.2.2.2.2.2.2 o14.1 o14.2 (o13.1 4 0) o13 z14) mi_Machine_returnNext rfl rfl tw_447 tw_14 tw_446 rfl ⟨rfl, rfl, Nat.le_of_ble_eq_true rfl, Nat.le_of_ble_eq_true rfl⟩ rfl (Nat.le_of_ble_eq_true rfl) d_Machine_assign_105 ?_
    cases hf
    exact pm_iret K d_Machine_assign_108
/-- CellLisp$Machine.assign()I -/
theorem c_Machine_assign {l : Launch} {D : va_G} {ca : Nat → ClassId} {ad : Nat → Nat} {E : (Nat → Prop) → State → Heap → Prop} {S : Nat} (hEc : pm_Ecl E) (r : Int32) (w' : pm_W) (w : pm_W) (hf : f_Machine_assign  S w = some (r, w')) : pm_Met l pmTs D vwCl (tyl ca) (shC S) ca ad E y_Machine_assign k_Machine_assign 3 (some .int) { frames := 3, cells := 0, slots := 0, locals := 68 } [.ref (ad 6)] w (some (.int r), w') :=
  pm_start pmTs_good hEc (by decide) (Nat.le_of_ble_eq_true rfl) (fun p e s m below meth c K => t_Machine_assign K r w'  w hf)
def f_Machine_keepValue (S : Nat) (w : pm_W) : Option (Int32 × pm_W) :=
  Option.bind (f_Room_hasFor S (2 : Int32) w) fun o1 =>
  if o1.1 = 0 then
    some ((0 : Int32), o1.2)
  else
    Option.bind (f_State_c S o1.2) fun o3 =>
    Option.bind (f_Room_pair S (o1.2.1 4 0) o3.1 o3.2) fun o4 =>
    Option.bind (f_State_setC S o4.1 o4.2) fun o5 =>
    some ((1 : Int32), o5)
set_option maxHeartbeats 4000000 in
set_option maxRecDepth 100000 in
theorem t_Machine_keepValue {p : Program} {l : Launch} {e : Env} {s : State} {m : MethodId} {args : Array Value} {below : List Frame} {meth : Method} {c : Code} {D : va_G} {ca : Nat → ClassId} {ad : Nat → Nat} {E : (Nat → Prop) → State → Heap → Prop} {S : Nat} (K : pm_ok p s m args meth c k_Machine_keepValue 1 pmTs R_Machine D vwCl (tyl ca) (shC S) ad E (some .boolean)) (r : Int32) (w' : pm_W) (w : pm_W) (hf : f_Machine_keepValue  S w = some (r, w')) : pm_wk p l e { frames := 4, cells := 0, slots := 0, locals := 87 } s m args below meth c D vwCl (shC S) ca ad 1 (some (.int r), w') 0 [(0, .ref (ad 6))] [] w := by
  unfold f_Machine_keepValue at hf
  refine pm_aload_n K d_Machine_keepValue_0 0 rfl rfl ?_
  refine pm_getR K fc_6 (o := 6) rfl 1 rfl (by decide) tw_281 d_Machine_keepValue_1 ?_
  refine pm_iconst (v := 2) K d_Machine_keepValue_4 (by decide) ?_
  obtain ⟨o1, z1, hf⟩ := pm_bind hf
  refine pm_callV (As := [.int (2 : Int32)]) (rest := []) (o := 5) K (c_Room_hasFor K.2.2.2.2.2.2.2.2.2.2.2.2 o1.1 o1.2 (2 : Int32) w z1) mi_Room_hasFor rfl rfl tw_363 tw_364 tw_486 rfl ⟨rfl, rfl, Nat.le_of_ble_eq_true rfl, Nat.le_of_ble_eq_true rfl⟩ rfl (Nat.le_of_ble_eq_true rfl) d_Machine_keepValue_5 ?_
  refine pm_if_ne K d_Machine_keepValue_8 13 (by decide) (fun c2 => ?_) (fun c2 => ?_)
  · have hf := pm_iff c2 hf
    refine pm_aload_n K d_Machine_keepValue_13 0 rfl rfl ?_
    refine pm_getR K fc_6 (o := 6) rfl 0 rfl (by decide) tw_280 d_Machine_keepValue_14 ?_
    refine pm_aload_n K d_Machine_keepValue_17 0 rfl rfl ?_
    refine pm_getR K fc_6 (o := 6) rfl 1 rfl (by decide) tw_281 d_Machine_keepValue_18 ?_
    refine pm_aload_n K d_Machine_keepValue_21 0 rfl rfl ?_
    refine pm_getR K fc_6 (o := 6) rfl 0 rfl (by decide) tw_280 d_Machine_keepValue_22 ?_
    refine pm_getIN K fc_4 (o := 4) rfl 0 rfl (by decide) tw_205 d_Machine_keepValue_25 (v := o1.2.1 4 0) rfl ?_
    refine pm_aload_n K d_Machine_keepValue_28 0 rfl rfl ?_
    refine pm_getR K fc_6 (o := 6) rfl 0 rfl (by decide) tw_280 d_Machine_keepValue_29 ?_
    obtain ⟨o3, z3, hf⟩ := pm_bind hf
    refine pm_callV (As := []) (rest := [.int (o1.2.1 4 0), .ref (ad 5), .ref (ad 4)]) (o := 4) K (c_State_c K.2.2.2.2.2.2.2.2.2.2.2.2 o3.1 o3.2 o1.2 z3) mi_State_c rfl rfl tw_534 tw_535 tw_533 rfl ⟨rfl, rfl, Nat.le_of_ble_eq_true rfl, Nat.le_of_ble_eq_true rfl⟩ rfl (Nat.le_of_ble_eq_true rfl) d_Machine_keepValue_32 ?_
    obtain ⟨o4, z4, hf⟩ := pm_bind hf
    refine pm_callV (As := [.int (o1.2.1 4 0), .int o3.1]) (rest := [.ref (ad 4)]) (o := 5) K (c_Room_pair K.2.2.2.2.2.2.2.2.2.2.2.2 o4.1 o4.2 (o1.2.1 4 0) o3.1 o3.2 z4) mi_Room_pair rfl rfl tw_390 tw_391 tw_537 rfl ⟨rfl, rfl, Nat.le_of_ble_eq_true rfl, Nat.le_of_ble_eq_true rfl⟩ rfl (Nat.le_of_ble_eq_true rfl) d_Machine_keepValue_35 ?_
    obtain ⟨o5, z5, hf⟩ := pm_bind hf
    refine pm_callV (As := [.int o4.1]) (rest := []) (o := 4) K (c_State_setC K.2.2.2.2.2.2.2.2.2.2.2.2 o5 o4.1 o4.2 z5) mi_State_setC rfl rfl tw_539 tw_540 tw_538 rfl ⟨rfl, rfl, Nat.le_of_ble_eq_true rfl, Nat.le_of_ble_eq_true rfl⟩ rfl (Nat.le_of_ble_eq_true rfl) d_Machine_keepValue_38 ?_
    refine pm_iconst (v := 1) K d_Machine_keepValue_41 (by decide) ?_
    cases hf
    exact pm_zret K (by decide) d_Machine_keepValue_42
  · have hf := pm_ift c2 hf
    refine pm_iconst (v := 0) K d_Machine_keepValue_11 (by decide) ?_
    cases hf
    exact pm_zret K (by decide) d_Machine_keepValue_12
/-- CellLisp$Machine.keepValue()Z -/
theorem c_Machine_keepValue {l : Launch} {D : va_G} {ca : Nat → ClassId} {ad : Nat → Nat} {E : (Nat → Prop) → State → Heap → Prop} {S : Nat} (hEc : pm_Ecl E) (r : Int32) (w' : pm_W) (w : pm_W) (hf : f_Machine_keepValue  S w = some (r, w')) : pm_Met l pmTs D vwCl (tyl ca) (shC S) ca ad E y_Machine_keepValue k_Machine_keepValue 1 (some .boolean) { frames := 4, cells := 0, slots := 0, locals := 87 } [.ref (ad 6)] w (some (.int r), w') :=
  pm_start pmTs_good hEc (by decide) (Nat.le_of_ble_eq_true rfl) (fun p e s m below meth c K => t_Machine_keepValue K r w'  w hf)
def f_Machine_nextArgument (S : Nat) (w : pm_W) : Option (Int32 × pm_W) :=
  Option.bind (f_State_a S w) fun o1 =>
  Option.bind (f_Room_second S o1.1 o1.2) fun o2 =>
  Option.bind (f_State_setA S o2.1 o2.2) fun o3 =>
  Option.bind (f_Room_first S o1.1 o3) fun o4 =>
  Option.bind (f_State_b S o4.2) fun o5 =>
  Option.bind (f_Machine_evaluateNext S o4.1 o5.1 o5.2) fun o6 =>
  some (o6.1, o6.2)
set_option maxHeartbeats 4000000 in
set_option maxRecDepth 100000 in
theorem t_Machine_nextArgument {p : Program} {l : Launch} {e : Env} {s : State} {m : MethodId} {args : Array Value} {below : List Frame} {meth : Method} {c : Code} {D : va_G} {ca : Nat → ClassId} {ad : Nat → Nat} {E : (Nat → Prop) → State → Heap → Prop} {S : Nat} (K : pm_ok p s m args meth c k_Machine_nextArgument 2 pmTs R_Machine D vwCl (tyl ca) (shC S) ad E (some .int)) (r : Int32) (w' : pm_W) (w : pm_W) (hf : f_Machine_nextArgument  S w = some (r, w')) : pm_wk p l e { frames := 2, cells := 0, slots := 0, locals := 44 } s m args below meth c D vwCl (shC S) ca ad 2 (some (.int r), w') 0 [(0, .ref (ad 6))] [] w := by
  unfold f_Machine_nextArgument at hf
  refine pm_aload_n K d_Machine_nextArgument_0 0 rfl rfl ?_
  refine pm_getR K fc_6 (o := 6) rfl 0 rfl (by decide) tw_280 d_Machine_nextArgument_1 ?_
  obtain ⟨o1, z1, hf⟩ := pm_bind hf
  refine pm_callV (As := []) (rest := []) (o := 4) K (c_State_a K.2.2.2.2.2.2.2.2.2.2.2.2 o1.1 o1.2 w z1) mi_State_a rfl rfl tw_508 tw_509 tw_507 rfl ⟨rfl, rfl, Nat.le_of_ble_eq_true rfl, Nat.le_of_ble_eq_true rfl⟩ rfl (Nat.le_of_ble_eq_true rfl) d_Machine_nextArgument_4 ?_
  refine pm_istore_n (lv' := [(1, .int o1.1), (0, .ref (ad 6))]) K d_Machine_nextArgument_7 rfl (by decide) rfl ?_
  refine pm_aload_n K d_Machine_nextArgument_8 1 rfl rfl ?_
  refine pm_getR K fc_6 (o := 6) rfl 0 rfl (by decide) tw_280 d_Machine_nextArgument_9 ?_
  refine pm_aload_n K d_Machine_nextArgument_12 1 rfl rfl ?_
  refine pm_getR K fc_6 (o := 6) rfl 1 rfl (by decide) tw_281 d_Machine_nextArgument_13 ?_
  refine pm_iload_n K d_Machine_nextArgument_16 0 rfl rfl ?_
  obtain ⟨o2, z2, hf⟩ := pm_bind hf
  refine pm_callV (As := [.int o1.1]) (rest := [.ref (ad 4)]) (o := 5) K (c_Room_second K.2.2.2.2.2.2.2.2.2.2.2.2 o2.1 o2.2 o1.1 o1.2 z2) mi_Room_second rfl rfl tw_442 tw_443 tw_445 rfl ⟨rfl, rfl, Nat.le_of_ble_eq_true rfl, Nat.le_of_ble_eq_true rfl⟩ rfl (Nat.le_of_ble_eq_true rfl) d_Machine_nextArgument_17 ?_
  obtain ⟨o3, z3, hf⟩ := pm_bind hf
  refine pm_callV (As := [.int o2.1]) (rest := []) (o := 4) K (c_State_setA K.2.2.2.2.2.2.2.2.2.2.2.2 o3 o2.1 o2.2 z3) mi_State_setA rfl rfl tw_546 tw_547 tw_545 rfl ⟨rfl, rfl, Nat.le_of_ble_eq_true rfl, Nat.le_of_ble_eq_true rfl⟩ rfl (Nat.le_of_ble_eq_true rfl) d_Machine_nextArgument_20 ?_
  refine pm_aload_n K d_Machine_nextArgument_23 1 rfl rfl ?_
  refine pm_aload_n K d_Machine_nextArgument_24 1 rfl rfl ?_
  refine pm_getR K fc_6 (o := 6) rfl 1 rfl (by decide) tw_281 d_Machine_nextArgument_25 ?_
  refine pm_iload_n K d_Machine_nextArgument_28 0 rfl rfl ?_
  obtain ⟨o4, z4, hf⟩ := pm_bind hf
  refine pm_callV (As := [.int o1.1]) (rest := [.ref (ad 6)]) (o := 5) K (c_Room_first K.2.2.2.2.2.2.2.2.2.2.2.2 o4.1 o4.2 o1.1 o3 z4) mi_Room_first rfl rfl tw_438 tw_439 tw_455 rfl ⟨rfl, rfl, Nat.le_of_ble_eq_true rfl, Nat.le_of_ble_eq_true rfl⟩ rfl (Nat.le_of_ble_eq_true rfl) d_Machine_nextArgument_29 ?_
  refine pm_aload_n K d_Machine_nextArgument_32 1 rfl rfl ?_
  refine pm_getR K fc_6 (o := 6) rfl 0 rfl (by decide) tw_280 d_Machine_nextArgument_33 ?_
  obtain ⟨o5, z5, hf⟩ := pm_bind hf
  refine pm_callV (As := []) (rest := [.int o4.1, .ref (ad 6)]) (o := 4) K (c_State_b K.2.2.2.2.2.2.2.2.2.2.2.2 o5.1 o5.2 o4.2 z5) mi_State_b rfl rfl tw_512 tw_513 tw_511 rfl ⟨rfl, rfl, Nat.le_of_ble_eq_true rfl, Nat.le_of_ble_eq_true rfl⟩ rfl (Nat.le_of_ble_eq_true rfl) d_Machine_nextArgument_36 ?_
  obtain ⟨o6, z6, hf⟩ := pm_bind hf
  refine pm_callV (As := [.int o4.1, .int o5.1]) (rest := []) (o := 6) K (c_Machine_evaluateNext K.2.2.2.2.2.2.2.2.2.2.2.2 o6.1 o6.2 o4.1 o5.1 o5.2 z6) mi_Machine_evaluateNext rfl rfl tw_418 tw_11 tw_417 rfl ⟨rfl, rfl, Nat.le_of_ble_eq_true rfl, Nat.le_of_ble_eq_true rfl⟩ rfl (Nat.le_of_ble_eq_true rfl) d_Machine_nextArgument_39 ?_
  cases hf
  exact pm_iret K d_Machine_nextArgument_42
/-- CellLisp$Machine.nextArgument()I -/
theorem c_Machine_nextArgument {l : Launch} {D : va_G} {ca : Nat → ClassId} {ad : Nat → Nat} {E : (Nat → Prop) → State → Heap → Prop} {S : Nat} (hEc : pm_Ecl E) (r : Int32) (w' : pm_W) (w : pm_W) (hf : f_Machine_nextArgument  S w = some (r, w')) : pm_Met l pmTs D vwCl (tyl ca) (shC S) ca ad E y_Machine_nextArgument k_Machine_nextArgument 2 (some .int) { frames := 2, cells := 0, slots := 0, locals := 44 } [.ref (ad 6)] w (some (.int r), w') :=
  pm_start pmTs_good hEc (by decide) (Nat.le_of_ble_eq_true rfl) (fun p e s m below meth c K => t_Machine_nextArgument K r w'  w hf)
def f_Value_isNumber (S : Nat) (x0 : Int32) (w : pm_W) : Option (Int32 × pm_W) :=
  Option.bind (f_Value_kind S x0 w) fun o1 =>
  if o1.1 = 0 then
    some ((1 : Int32), o1.2)
  else
    some ((0 : Int32), o1.2)
set_option maxHeartbeats 4000000 in
set_option maxRecDepth 100000 in
theorem t_Value_isNumber {p : Program} {l : Launch} {e : Env} {s : State} {m : MethodId} {args : Array Value} {below : List Frame} {meth : Method} {c : Code} {D : va_G} {ca : Nat → ClassId} {ad : Nat → Nat} {E : (Nat → Prop) → State → Heap → Prop} {S : Nat} (K : pm_ok p s m args meth c k_Value_isNumber 1 pmTs R_Value D vwCl (tyl ca) (shC S) ad E (some .boolean)) (r : Int32) (w' : pm_W) (x0 : Int32) (w : pm_W) (hf : f_Value_isNumber  S x0 w = some (r, w')) : pm_wk p l e { frames := 1, cells := 0, slots := 0, locals := 20 } s m args below meth c D vwCl (shC S) ca ad 1 (some (.int r), w') 0 [(0, .int x0)] [] w := by
  unfold f_Value_isNumber at hf
  refine pm_iload_n K d_Value_isNumber_0 0 rfl rfl ?_
  obtain ⟨o1, z1, hf⟩ := pm_bind hf
  refine pm_callS (As := [.int x0]) (rest := []) K (c_Value_kind K.2.2.2.2.2.2.2.2.2.2.2.2 o1.1 o1.2 x0 w z1) mi_Value_kind tw_374 tw_426 rfl ⟨rfl, rfl, Nat.le_of_ble_eq_true rfl, Nat.le_of_ble_eq_true rfl⟩ rfl (Nat.le_of_ble_eq_true rfl) d_Value_isNumber_1 ?_
  refine pm_if_ne K d_Value_isNumber_4 11 (by decide) (fun c2 => ?_) (fun c2 => ?_)
  · have hf := pm_iff c2 hf
    refine pm_iconst (v := 0) K d_Value_isNumber_11 (by decide) ?_
    cases hf
    exact pm_zret K (by decide) d_Value_isNumber_12
  · have hf := pm_ift c2 hf
    refine pm_iconst (v := 1) K d_Value_isNumber_7 (by decide) ?_
    refine pm_goto K d_Value_isNumber_8 12 (by decide) ?_
    cases hf
    exact pm_zret K (by decide) d_Value_isNumber_12
/-- CellLisp$Value.isNumber(I)Z -/
theorem c_Value_isNumber {l : Launch} {D : va_G} {ca : Nat → ClassId} {ad : Nat → Nat} {E : (Nat → Prop) → State → Heap → Prop} {S : Nat} (hEc : pm_Ecl E) (r : Int32) (w' : pm_W) (x0 : Int32) (w : pm_W) (hf : f_Value_isNumber  S x0 w = some (r, w')) : pm_Met l pmTs D vwCl (tyl ca) (shC S) ca ad E y_Value_isNumber k_Value_isNumber 1 (some .boolean) { frames := 1, cells := 0, slots := 0, locals := 20 } [.int x0] w (some (.int r), w') :=
  pm_start pmTs_good hEc (by decide) (Nat.le_of_ble_eq_true rfl) (fun p e s m below meth c K => t_Value_isNumber K r w' x0 w hf)
def f_Machine_faultOfPrimitive (S : Nat) (x1 : Int32) (x2 : Int32) (w : pm_W) : Option (Int32 × pm_W) :=
  Option.bind (f_State_c S w) fun o1 =>
  Option.bind (f_Room_first S o1.1 o1.2) fun o2 =>
  Option.bind (f_State_c S o2.2) fun o3 =>
  Option.bind (f_Room_second S o3.1 o3.2) fun o4 =>
  Option.bind (f_Room_first S o4.1 o4.2) fun o5 =>
  if x1 = (4 : Int32) then
    if x2 = (2 : Int32) then
      some ((1 : Int32), o5.2)
    else
      some ((-4 : Int32), o5.2)
  else
    if x1 = (5 : Int32) then
      if x2 = (1 : Int32) then
        some ((1 : Int32), o5.2)
      else
        some ((-4 : Int32), o5.2)
    else
      if x1 = (6 : Int32) then
        if x2 = (2 : Int32) then
          some ((1 : Int32), o5.2)
        else
          some ((-4 : Int32), o5.2)
      else
        if x1 = (7 : Int32) then
          if x2 = (1 : Int32) then
            Option.bind (f_Value_isPair S o2.1 o5.2) fun o14 =>
            if o14.1 = 0 then
              some ((-5 : Int32), o14.2)
            else
              some ((1 : Int32), o14.2)
          else
            some ((-4 : Int32), o5.2)
        else
          if x1 = (8 : Int32) then
            if x2 = (1 : Int32) then
              Option.bind (f_Value_isPair S o2.1 o5.2) fun o18 =>
              if o18.1 = 0 then
                some ((-5 : Int32), o18.2)
              else
                some ((1 : Int32), o18.2)
            else
              some ((-4 : Int32), o5.2)
          else
            if x1 = (9 : Int32) then
              some ((1 : Int32), o5.2)
            else
              if x2 = (2 : Int32) then
                Option.bind (f_Value_isNumber S o2.1 o5.2) fun o22 =>
                if o22.1 = 0 then
                  some ((-5 : Int32), o22.2)
                else
                  Option.bind (f_Value_isNumber S o5.1 o22.2) fun o24 =>
                  if o24.1 = 0 then
                    some ((-5 : Int32), o24.2)
                  else
                    some ((1 : Int32), o24.2)
              else
                some ((-4 : Int32), o5.2)
set_option maxHeartbeats 4000000 in
set_option maxRecDepth 100000 in
theorem t_Machine_faultOfPrimitive {p : Program} {l : Launch} {e : Env} {s : State} {m : MethodId} {args : Array Value} {below : List Frame} {meth : Method} {c : Code} {D : va_G} {ca : Nat → ClassId} {ad : Nat → Nat} {E : (Nat → Prop) → State → Heap → Prop} {S : Nat} (K : pm_ok p s m args meth c k_Machine_faultOfPrimitive 5 pmTs R_Machine D vwCl (tyl ca) (shC S) ad E (some .int)) (r : Int32) (w' : pm_W) (x1 : Int32) (x2 : Int32) (w : pm_W) (hf : f_Machine_faultOfPrimitive  S x1 x2 w = some (r, w')) : pm_wk p l e { frames := 2, cells := 0, slots := 0, locals := 44 } s m args below meth c D vwCl (shC S) ca ad 5 (some (.int r), w') 0 [(0, .ref (ad 6)), (1, .int x1), (2, .int x2)] [] w := by
  unfold f_Machine_faultOfPrimitive at hf
  refine pm_aload_n K d_Machine_faultOfPrimitive_0 0 rfl rfl ?_
  refine pm_getR K fc_6 (o := 6) rfl 1 rfl (by decide) tw_281 d_Machine_faultOfPrimitive_1 ?_
  refine pm_aload_n K d_Machine_faultOfPrimitive_4 0 rfl rfl ?_
  refine pm_getR K fc_6 (o := 6) rfl 0 rfl (by decide) tw_280 d_Machine_faultOfPrimitive_5 ?_
  obtain ⟨o1, z1, hf⟩ := pm_bind hf
  refine pm_callV (As := []) (rest := [.ref (ad 5)]) (o := 4) K (c_State_c K.2.2.2.2.2.2.2.2.2.2.2.2 o1.1 o1.2 w z1) mi_State_c rfl rfl tw_534 tw_535 tw_533 rfl ⟨rfl, rfl, Nat.le_of_ble_eq_true rfl, Nat.le_of_ble_eq_true rfl⟩ rfl (Nat.le_of_ble_eq_true rfl) d_Machine_faultOfPrimitive_8 ?_
  obtain ⟨o2, z2, hf⟩ := pm_bind hf
  refine pm_callV (As := [.int o1.1]) (rest := []) (o := 5) K (c_Room_first K.2.2.2.2.2.2.2.2.2.2.2.2 o2.1 o2.2 o1.1 o1.2 z2) mi_Room_first rfl rfl tw_438 tw_439 tw_455 rfl ⟨rfl, rfl, Nat.le_of_ble_eq_true rfl, Nat.le_of_ble_eq_true rfl⟩ rfl (Nat.le_of_ble_eq_true rfl) d_Machine_faultOfPrimitive_11 ?_
  refine pm_istore_n (lv' := [(3, .int o2.1), (0, .ref (ad 6)), (1, .int x1), (2, .int x2)]) K d_Machine_faultOfPrimitive_14 rfl (by decide) rfl ?_
  refine pm_aload_n K d_Machine_faultOfPrimitive_15 1 rfl rfl ?_
  refine pm_getR K fc_6 (o := 6) rfl 1 rfl (by decide) tw_281 d_Machine_faultOfPrimitive_16 ?_
  refine pm_aload_n K d_Machine_faultOfPrimitive_19 1 rfl rfl ?_
  refine pm_getR K fc_6 (o := 6) rfl 1 rfl (by decide) tw_281 d_Machine_faultOfPrimitive_20 ?_
  refine pm_aload_n K d_Machine_faultOfPrimitive_23 1 rfl rfl ?_
  refine pm_getR K fc_6 (o := 6) rfl 0 rfl (by decide) tw_280 d_Machine_faultOfPrimitive_24 ?_
  obtain ⟨o3, z3, hf⟩ := pm_bind hf
  refine pm_callV (As := []) (rest := [.ref (ad 5), .ref (ad 5)]) (o := 4) K (c_State_c K.2.2.2.2.2.2.2.2.2.2.2.2 o3.1 o3.2 o2.2 z3) mi_State_c rfl rfl tw_534 tw_535 tw_533 rfl ⟨rfl, rfl, Nat.le_of_ble_eq_true rfl, Nat.le_of_ble_eq_true rfl⟩ rfl (Nat.le_of_ble_eq_true rfl) d_Machine_faultOfPrimitive_27 ?_
  obtain ⟨o4, z4, hf⟩ := pm_bind hf
  refine pm_callV (As := [.int o3.1]) (rest := [.ref (ad 5)]) (o := 5) K (c_Room_second K.2.2.2.2.2.2.2.2.2.2.2.2 o4.1 o4.2 o3.1 o3.2 z4) mi_Room_second rfl rfl tw_442 tw_443 tw_445 rfl ⟨rfl, rfl, Nat.le_of_ble_eq_true rfl, Nat.le_of_ble_eq_true rfl⟩ rfl (Nat.le_of_ble_eq_true rfl) d_Machine_faultOfPrimitive_30 ?_
  obtain ⟨o5, z5, hf⟩ := pm_bind hf
  refine pm_callV (As := [.int o4.1]) (rest := []) (o := 5) K (c_Room_first K.2.2.2.2.2.2.2.2.2.2.2.2 o5.1 o5.2 o4.1 o4.2 z5) mi_Room_first rfl rfl tw_438 tw_439 tw_455 rfl ⟨rfl, rfl, Nat.le_of_ble_eq_true rfl, Nat.le_of_ble_eq_true rfl⟩ rfl (Nat.le_of_ble_eq_true rfl) d_Machine_faultOfPrimitive_33 ?_
  refine pm_istore (lv' := [(4, .int o5.1), (3, .int o2.1), (0, .ref (ad 6)), (1, .int x1), (2, .int x2)]) K d_Machine_faultOfPrimitive_36 (by decide) rfl ?_
  refine pm_iload_n K d_Machine_faultOfPrimitive_38 3 rfl rfl ?_
  by_cases c6 : x1 = (4 : Int32)
  · have hf := pm_ift c6 hf
    refine pm_tableIn K d_Machine_faultOfPrimitive_39 (by rw [c6]; decide) (by rw [c6]; decide) (by rw [c6]; rfl) 112 (by decide) ?_
    refine pm_iload_n K d_Machine_faultOfPrimitive_112 4 rfl rfl ?_
    refine pm_iconst (v := 2) K d_Machine_faultOfPrimitive_113 (by decide) ?_
    refine pm_icmp_ne K d_Machine_faultOfPrimitive_114 121 (by decide) (fun c7 => ?_) (fun c7 => ?_)
    · have hf := pm_iff c7 hf
      refine pm_bipush (v := -4) K d_Machine_faultOfPrimitive_121 (by decide) ?_
      cases hf
      exact pm_iret K d_Machine_faultOfPrimitive_123
    · have hf := pm_ift c7 hf
      refine pm_iconst (v := 1) K d_Machine_faultOfPrimitive_117 (by decide) ?_
      refine pm_goto K d_Machine_faultOfPrimitive_118 123 (by decide) ?_
      cases hf
      exact pm_iret K d_Machine_faultOfPrimitive_123
  have hf := pm_iff c6 hf
  by_cases c8 : x1 = (5 : Int32)
  · have hf := pm_ift c8 hf
    refine pm_tableIn K d_Machine_faultOfPrimitive_39 (by rw [c8]; decide) (by rw [c8]; decide) (by rw [c8]; rfl) 78 (by decide) ?_
    refine pm_iload_n K d_Machine_faultOfPrimitive_78 4 rfl rfl ?_
    refine pm_iconst (v := 1) K d_Machine_faultOfPrimitive_79 (by decide) ?_
    refine pm_icmp_ne K d_Machine_faultOfPrimitive_80 87 (by decide) (fun c9 => ?_) (fun c9 => ?_)
    · have hf := pm_iff c9 hf
      refine pm_bipush (v := -4) K d_Machine_faultOfPrimitive_87 (by decide) ?_
      cases hf
      exact pm_iret K d_Machine_faultOfPrimitive_89
    · have hf := pm_ift c9 hf
      refine pm_iconst (v := 1) K d_Machine_faultOfPrimitive_83 (by decide) ?_
      refine pm_goto K d_Machine_faultOfPrimitive_84 89 (by decide) ?_
      cases hf
      exact pm_iret K d_Machine_faultOfPrimitive_89
  have hf := pm_iff c8 hf
  by_cases c10 : x1 = (6 : Int32)
  · have hf := pm_ift c10 hf
    refine pm_tableIn K d_Machine_faultOfPrimitive_39 (by rw [c10]; decide) (by rw [c10]; decide) (by rw [c10]; rfl) 112 (by decide) ?_
    refine pm_iload_n K d_Machine_faultOfPrimitive_112 4 rfl rfl ?_
    refine pm_iconst (v := 2) K d_Machine_faultOfPrimitive_113 (by decide) ?_
    refine pm_icmp_ne K d_Machine_faultOfPrimitive_114 121 (by decide) (fun c11 => ?_) (fun c11 => ?_)
    · have hf := pm_iff c11 hf
      refine pm_bipush (v := -4) K d_Machine_faultOfPrimitive_121 (by decide) ?_
      cases hf
      exact pm_iret K d_Machine_faultOfPrimitive_123
    · have hf := pm_ift c11 hf
      refine pm_iconst (v := 1) K d_Machine_faultOfPrimitive_117 (by decide) ?_
      refine pm_goto K d_Machine_faultOfPrimitive_118 123 (by decide) ?_
      cases hf
      exact pm_iret K d_Machine_faultOfPrimitive_123
  have hf := pm_iff c10 hf
  by_cases c12 : x1 = (7 : Int32)
  · have hf := pm_ift c12 hf
    refine pm_tableIn K d_Machine_faultOfPrimitive_39 (by rw [c12]; decide) (by rw [c12]; decide) (by rw [c12]; rfl) 90 (by decide) ?_
    refine pm_iload_n K d_Machine_faultOfPrimitive_90 4 rfl rfl ?_
    refine pm_iconst (v := 1) K d_Machine_faultOfPrimitive_91 (by decide) ?_
    refine pm_icmp_eq K d_Machine_faultOfPrimitive_92 98 (by decide) (fun c13 => ?_) (fun c13 => ?_)
    · have hf := pm_ift c13 hf
      refine pm_iload_n K d_Machine_faultOfPrimitive_98 1 rfl rfl ?_
      obtain ⟨o14, z14, hf⟩ := pm_bind hf
      refine pm_callS (As := [.int o2.1]) (rest := []) K (c_Value_isPair K.2.2.2.2.2.2.2.2.2.2.2.2 o14.1 o14.2 o2.1 o5.2 z14) mi_Value_isPair tw_435 tw_454 rfl ⟨rfl, rfl, Nat.le_of_ble_eq_true rfl, Nat.le_of_ble_eq_true rfl⟩ rfl (Nat.le_of_ble_eq_true rfl) d_Machine_faultOfPrimitive_99 ?_
      refine pm_if_eq K d_Machine_faultOfPrimitive_102 109 (by decide) (fun c15 => ?_) (fun c15 => ?_)
      · have hf := pm_ift c15 hf
        refine pm_bipush (v := -5) K d_Machine_faultOfPrimitive_109 (by decide) ?_
        cases hf
        exact pm_iret K d_Machine_faultOfPrimitive_111
      · have hf := pm_iff c15 hf
        refine pm_iconst (v := 1) K d_Machine_faultOfPrimitive_105 (by decide) ?_
        refine pm_goto K d_Machine_faultOfPrimitive_106 111 (by decide) ?_
        cases hf
        exact pm_iret K d_Machine_faultOfPrimitive_111
    · have hf := pm_iff c13 hf
      refine pm_bipush (v := -4) K d_Machine_faultOfPrimitive_95 (by decide) ?_
      cases hf
      exact pm_iret K d_Machine_faultOfPrimitive_97
  have hf := pm_iff c12 hf
  by_cases c16 : x1 = (8 : Int32)
  · have hf := pm_ift c16 hf
    refine pm_tableIn K d_Machine_faultOfPrimitive_39 (by rw [c16]; decide) (by rw [c16]; decide) (by rw [c16]; rfl) 90 (by decide) ?_
    refine pm_iload_n K d_Machine_faultOfPrimitive_90 4 rfl rfl ?_
    refine pm_iconst (v := 1) K d_Machine_faultOfPrimitive_91 (by decide) ?_
    refine pm_icmp_eq K d_Machine_faultOfPrimitive_92 98 (by decide) (fun c17 => ?_) (fun c17 => ?_)
    · have hf := pm_ift c17 hf
      refine pm_iload_n K d_Machine_faultOfPrimitive_98 1 rfl rfl ?_
      obtain ⟨o18, z18, hf⟩ := pm_bind hf
      refine pm_callS (As := [.int o2.1]) (rest := []) K (c_Value_isPair K.2.2.2.2.2.2.2.2.2.2.2.2 o18.1 o18.2 o2.1 o5.2 z18) mi_Value_isPair tw_435 tw_454 rfl ⟨rfl, rfl, Nat.le_of_ble_eq_true rfl, Nat.le_of_ble_eq_true rfl⟩ rfl (Nat.le_of_ble_eq_true rfl) d_Machine_faultOfPrimitive_99 ?_
      refine pm_if_eq K d_Machine_faultOfPrimitive_102 109 (by decide) (fun c19 => ?_) (fun c19 => ?_)
      · have hf := pm_ift c19 hf
        refine pm_bipush (v := -5) K d_Machine_faultOfPrimitive_109 (by decide) ?_
        cases hf
        exact pm_iret K d_Machine_faultOfPrimitive_111
      · have hf := pm_iff c19 hf
        refine pm_iconst (v := 1) K d_Machine_faultOfPrimitive_105 (by decide) ?_
        refine pm_goto K d_Machine_faultOfPrimitive_106 111 (by decide) ?_
        cases hf
        exact pm_iret K d_Machine_faultOfPrimitive_111
    · have hf := pm_iff c17 hf
      refine pm_bipush (v := -4) K d_Machine_faultOfPrimitive_95 (by decide) ?_
      cases hf
      exact pm_iret K d_Machine_faultOfPrimitive_97
  have hf := pm_iff c16 hf
  by_cases c20 : x1 = (9 : Int32)
  · have hf := pm_ift c20 hf
    refine pm_tableIn K d_Machine_faultOfPrimitive_39 (by rw [c20]; decide) (by rw [c20]; decide) (by rw [c20]; rfl) 76 (by decide) ?_
    refine pm_iconst (v := 1) K d_Machine_faultOfPrimitive_76 (by decide) ?_
    cases hf
    exact pm_iret K d_Machine_faultOfPrimitive_77
  have hf := pm_iff c20 hf
  have hne : ¬ x1.toInt = 4 ∧ ¬ x1.toInt = 5 ∧ ¬ x1.toInt = 6 ∧ ¬ x1.toInt = 7 ∧ ¬ x1.toInt = 8 ∧ ¬ x1.toInt = 9 := ⟨lv_neT c6 (by decide), lv_neT c8 (by decide), lv_neT c10 (by decide), lv_neT c12 (by decide), lv_neT c16 (by decide), lv_neT c20 (by decide)⟩
  refine pm_tableOut K d_Machine_faultOfPrimitive_39 (by omega) 124 (by decide) ?_
  refine pm_iload_n K d_Machine_faultOfPrimitive_124 4 rfl rfl ?_
  refine pm_iconst (v := 2) K d_Machine_faultOfPrimitive_125 (by decide) ?_
  refine pm_icmp_eq K d_Machine_faultOfPrimitive_126 132 (by decide) (fun c21 => ?_) (fun c21 => ?_)
  · have hf := pm_ift c21 hf
    refine pm_iload_n K d_Machine_faultOfPrimitive_132 1 rfl rfl ?_
    obtain ⟨o22, z22, hf⟩ := pm_bind hf
    refine pm_callS (As := [.int o2.1]) (rest := []) K (c_Value_isNumber K.2.2.2.2.2.2.2.2.2.2.2.2 o22.1 o22.2 o2.1 o5.2 z22) mi_Value_isNumber tw_560 tw_559 rfl ⟨rfl, rfl, Nat.le_of_ble_eq_true rfl, Nat.le_of_ble_eq_true rfl⟩ rfl (Nat.le_of_ble_eq_true rfl) d_Machine_faultOfPrimitive_133 ?_
    refine pm_if_eq K d_Machine_faultOfPrimitive_136 151 (by decide) (fun c23 => ?_) (fun c23 => ?_)
    · have hf := pm_ift c23 hf
      refine pm_bipush (v := -5) K d_Machine_faultOfPrimitive_151 (by decide) ?_
      cases hf
      exact pm_iret K d_Machine_faultOfPrimitive_153
    · have hf := pm_iff c23 hf
      refine pm_iload K d_Machine_faultOfPrimitive_139 0 rfl ?_
      obtain ⟨o24, z24, hf⟩ := pm_bind hf
      refine pm_callS (As := [.int o5.1]) (rest := []) K (c_Value_isNumber K.2.2.2.2.2.2.2.2.2.2.2.2 o24.1 o24.2 o5.1 o22.2 z24) mi_Value_isNumber tw_560 tw_559 rfl ⟨rfl, rfl, Nat.le_of_ble_eq_true rfl, Nat.le_of_ble_eq_true rfl⟩ rfl (Nat.le_of_ble_eq_true rfl) d_Machine_faultOfPrimitive_141 ?_
      refine pm_if_eq K d_Machine_faultOfPrimitive_144 151 (by decide) (fun c25 => ?_) (fun c25 => ?_)
      · have hf := pm_ift c25 hf
        refine pm_bipush (v := -5) K d_Machine_faultOfPrimitive_151 (by decide) ?_
        cases hf
        exact pm_iret K d_Machine_faultOfPrimitive_153
      · have hf := pm_iff c25 hf
        refine pm_iconst (v := 1) K d_Machine_faultOfPrimitive_147 (by decide) ?_
        refine pm_goto K d_Machine_faultOfPrimitive_148 153 (by decide) ?_
        cases hf
        exact pm_iret K d_Machine_faultOfPrimitive_153
  · have hf := pm_iff c21 hf
    refine pm_bipush (v := -4) K d_Machine_faultOfPrimitive_129 (by decide) ?_
    cases hf
    exact pm_iret K d_Machine_faultOfPrimitive_131
/-- CellLisp$Machine.faultOfPrimitive(II)I -/
theorem c_Machine_faultOfPrimitive {l : Launch} {D : va_G} {ca : Nat → ClassId} {ad : Nat → Nat} {E : (Nat → Prop) → State → Heap → Prop} {S : Nat} (hEc : pm_Ecl E) (r : Int32) (w' : pm_W) (x1 : Int32) (x2 : Int32) (w : pm_W) (hf : f_Machine_faultOfPrimitive  S x1 x2 w = some (r, w')) : pm_Met l pmTs D vwCl (tyl ca) (shC S) ca ad E y_Machine_faultOfPrimitive k_Machine_faultOfPrimitive 5 (some .int) { frames := 2, cells := 0, slots := 0, locals := 44 } [.ref (ad 6), .int x1, .int x2] w (some (.int r), w') :=
  pm_start pmTs_good hEc (by decide) (Nat.le_of_ble_eq_true rfl) (fun p e s m below meth c K => t_Machine_faultOfPrimitive K r w' x1 x2 w hf)
