def f_Text_isCharacter (S : Nat) (x0 : Int32) (w : pm_W) : Option (Int32 × pm_W) :=
  if x0 = (10 : Int32) then
    some ((1 : Int32), w)
  else
    if x0 < (32 : Int32) then
      some ((0 : Int32), w)
    else
      if (126 : Int32) < x0 then
        some ((0 : Int32), w)
      else
        some ((1 : Int32), w)
set_option maxHeartbeats 4000000 in
set_option maxRecDepth 100000 in
theorem t_Text_isCharacter {p : Program} {l : Launch} {e : Env} {s : State} {m : MethodId} {args : Array Value} {below : List Frame} {meth : Method} {c : Code} {D : va_G} {ca : Nat → ClassId} {ad : Nat → Nat} {E : (Nat → Prop) → State → Heap → Prop} {S : Nat} (K : pm_ok p s m args meth c k_Text_isCharacter 1 pmTs R_Text D vwCl (tyl ca) (shC S) ad E (some .boolean)) (r : Int32) (w' : pm_W) (x0 : Int32) (w : pm_W) (hf : f_Text_isCharacter  S x0 w = some (r, w')) : pm_wk p l e { frames := 0, cells := 0, slots := 0, locals := 0 } s m args below meth c D vwCl (shC S) ca ad 1 (some (.int r), w') 0 [(0, .int x0)] [] w := by
  unfold f_Text_isCharacter at hf
  refine pm_iload_n K d_Text_isCharacter_0 0 rfl rfl ?_
  refine pm_bipush (v := 10) K d_Text_isCharacter_1 (by decide) ?_
  refine pm_icmp_eq K d_Text_isCharacter_3 18 (by decide) (fun c1 => ?_) (fun c1 => ?_)
  · have hf := pm_ift c1 hf
    refine pm_iconst (v := 1) K d_Text_isCharacter_18 (by decide) ?_
    refine pm_goto K d_Text_isCharacter_19 23 (by decide) ?_
    cases hf
    exact pm_zret K (by decide) d_Text_isCharacter_23
  · have hf := pm_iff c1 hf
    refine pm_iload_n K d_Text_isCharacter_6 0 rfl rfl ?_
    refine pm_bipush (v := 32) K d_Text_isCharacter_7 (by decide) ?_
    refine pm_icmp_lt K d_Text_isCharacter_9 22 (by decide) (fun c2 => ?_) (fun c2 => ?_)
    · have hf := pm_ift c2 hf
      refine pm_iconst (v := 0) K d_Text_isCharacter_22 (by decide) ?_
      cases hf
      exact pm_zret K (by decide) d_Text_isCharacter_23
    · have hf := pm_iff c2 hf
      refine pm_iload_n K d_Text_isCharacter_12 0 rfl rfl ?_
      refine pm_bipush (v := 126) K d_Text_isCharacter_13 (by decide) ?_
      refine pm_icmp_gt K d_Text_isCharacter_15 22 (by decide) (fun c3 => ?_) (fun c3 => ?_)
      · have hf := pm_ift c3 hf
        refine pm_iconst (v := 0) K d_Text_isCharacter_22 (by decide) ?_
        cases hf
        exact pm_zret K (by decide) d_Text_isCharacter_23
      · have hf := pm_iff c3 hf
        refine pm_iconst (v := 1) K d_Text_isCharacter_18 (by decide) ?_
        refine pm_goto K d_Text_isCharacter_19 23 (by decide) ?_
        cases hf
        exact pm_zret K (by decide) d_Text_isCharacter_23
/-- CellLisp$Text.isCharacter(I)Z -/
theorem c_Text_isCharacter {l : Launch} {D : va_G} {ca : Nat → ClassId} {ad : Nat → Nat} {E : (Nat → Prop) → State → Heap → Prop} {S : Nat} (hEc : pm_Ecl E) (r : Int32) (w' : pm_W) (x0 : Int32) (w : pm_W) (hf : f_Text_isCharacter  S x0 w = some (r, w')) : pm_Met l pmTs D vwCl (tyl ca) (shC S) ca ad E y_Text_isCharacter k_Text_isCharacter 1 (some .boolean) { frames := 0, cells := 0, slots := 0, locals := 0 } [.int x0] w (some (.int r), w') :=
  pm_start pmTs_good hEc (by decide) (Nat.le_of_ble_eq_true rfl) (fun p e s m below meth c K => t_Text_isCharacter K r w' x0 w hf)
def b_Text_append_25 (S : Nat) (rec : Nat → Int32 → Int32 → Int32 → pm_W → Option (Int32 × pm_W)) (x1 : Int32) (x2 : Int32) (x3 : Int32) (w : pm_W) : Option (Int32 × pm_W) :=
  if x2 ≤ x3 then
    rec 1 x1 0 (x2 - (1 : Int32)) w
  else
    Option.bind (f_Text_isCharacter S (((x1.toUInt32 >>> (((8 : Int32) * x3).toUInt32 &&& Int32.toUInt32 31)).toInt32) &&& (255 : Int32)) w) fun o5 =>
    if o5.1 = 0 then
      some ((0 : Int32), o5.2)
    else
      rec 0 x1 x2 (x3 + (1 : Int32)) o5.2
def b_Text_append_58 (S : Nat) (rec : Nat → Int32 → Int32 → Int32 → pm_W → Option (Int32 × pm_W)) (x1 : Int32) (x3 : Int32) (w : pm_W) : Option (Int32 × pm_W) :=
  if x3 < 0 then
    some ((1 : Int32), w)
  else
    if (120 : Int32) ≤ (w.1 1 1) then
      some ((1 : Int32), w)
    else
      if (w.1 1 1) < 0 ∨ 120 ≤ (w.1 1 1).toNatClampNeg then none else
      rec 1 x1 0 (x3 + (-1 : Int32)) (pm_setI (pm_setI w 9 (w.1 1 1).toNatClampNeg (vp_nar .char (((((x1.toUInt32 >>> (((8 : Int32) * x3).toUInt32 &&& Int32.toUInt32 31)).toInt32) &&& (255 : Int32)).toUInt32 % 65536).toInt32))) 1 1 ((w.1 1 1) + (1 : Int32)))
def l_Text_append (S : Nat) : Nat → Nat → Int32 → Int32 → Int32 → pm_W → Option (Int32 × pm_W) := pm_it (fun _ _ _ _ _ => none) (fun rec k x1 x2 x3 w => match k with | 0 => b_Text_append_25  S rec x1 x2 x3 w | _ => b_Text_append_58  S rec x1 x3 w)
def f_Text_append (S : Nat) (x1 : Int32) (x2 : Int32) (w : pm_W) : Option (Int32 × pm_W) :=
  if x2 < (1 : Int32) then
    some ((0 : Int32), w)
  else
    if (4 : Int32) < x2 then
      some ((0 : Int32), w)
    else
      if ((w.1 1 1) + x2) ≤ (120 : Int32) then
        (l_Text_append  S pm_fuel) 0 x1 x2 (0 : Int32) w
      else
        some ((0 : Int32), w)
set_option maxHeartbeats 4000000 in
set_option maxRecDepth 100000 in
theorem t_Text_append_25 {p : Program} {l : Launch} {e : Env} {s : State} {m : MethodId} {args : Array Value} {below : List Frame} {meth : Method} {c : Code} {D : va_G} {ca : Nat → ClassId} {ad : Nat → Nat} {E : (Nat → Prop) → State → Heap → Prop} {S : Nat} (K : pm_ok p s m args meth c k_Text_append 4 pmTs R_Text D vwCl (tyl ca) (shC S) ad E (some .boolean)) (rec : Nat → Int32 → Int32 → Int32 → pm_W → Option (Int32 × pm_W)) (r : Int32) (w' : pm_W) (h25 : ∀ (x1 : Int32) (x2 : Int32) (x3 : Int32) (w : pm_W), rec 0 x1 x2 x3 w = some (r, w') → pm_wk p l e { frames := 1, cells := 0, slots := 0, locals := 20 } s m args below meth c D vwCl (shC S) ca ad 4 (some (.int r), w') 25 [(0, .ref (ad 1)), (1, .int x1), (2, .int x2), (3, .int x3)] [] w) (h58 : ∀ (x1 : Int32) (x3 : Int32) (w : pm_W), rec 1 x1 0 x3 w = some (r, w') → pm_wk p l e { frames := 1, cells := 0, slots := 0, locals := 20 } s m args below meth c D vwCl (shC S) ca ad 4 (some (.int r), w') 58 [(0, .ref (ad 1)), (1, .int x1), (3, .int x3)] [] w) (x1 : Int32) (x2 : Int32) (x3 : Int32) (w : pm_W) (hf : b_Text_append_25  S rec x1 x2 x3 w = some (r, w')) : pm_wk p l e { frames := 1, cells := 0, slots := 0, locals := 20 } s m args below meth c D vwCl (shC S) ca ad 4 (some (.int r), w') 25 [(0, .ref (ad 1)), (1, .int x1), (2, .int x2), (3, .int x3)] [] w := by
  unfold b_Text_append_25 at hf
  refine pm_iload_n K d_Text_append_25 3 rfl rfl ?_
  refine pm_iload_n K d_Text_append_26 2 rfl rfl ?_
  refine pm_icmp_ge K d_Text_append_27 54 (by decide) (fun c4 => ?_) (fun c4 => ?_)
  · have hf := pm_ift c4 hf
    refine pm_iload_n K d_Text_append_54 2 rfl rfl ?_
    refine pm_iconst (v := 1) K d_Text_append_55 (by decide) ?_
    refine pm_isub K d_Text_append_56 ?_
    refine pm_istore_n (lv' := [(3, .int (x2 - (1 : Int32))), (0, .ref (ad 1)), (1, .int x1), (2, .int x2)]) K d_Text_append_57 rfl (by decide) rfl ?_
    refine pm_sub (lv' := [(0, .ref (ad 1)), (1, .int x1), (3, .int (x2 - (1 : Int32)))]) [1, 2, 0] rfl ?_
    exact h58 x1 (x2 - (1 : Int32)) w hf
  · have hf := pm_iff c4 hf
    refine pm_iload_n K d_Text_append_30 1 rfl rfl ?_
    refine pm_bipush (v := 8) K d_Text_append_31 (by decide) ?_
    refine pm_iload_n K d_Text_append_33 3 rfl rfl ?_
    refine pm_imul K d_Text_append_34 ?_
    refine pm_iushr K d_Text_append_35 rfl ?_
    refine pm_sipush (v := 255) K d_Text_append_36 (by decide) ?_
    refine pm_iand K d_Text_append_39 ?_
    obtain ⟨o5, z5, hf⟩ := pm_bind hf
    refine pm_callS (As := [.int (((x1.toUInt32 >>> (((8 : Int32) * x3).toUInt32 &&& Int32.toUInt32 31)).toInt32) &&& (255 : Int32))]) (rest := []) K (c_Text_isCharacter K.2.2.2.2.2.2.2.2.2.2.2.2 o5.1 o5.2 (((x1.toUInt32 >>> (((8 : Int32) * x3).toUInt32 &&& Int32.toUInt32 31)).toInt32) &&& (255 : Int32)) w z5) mi_Text_isCharacter tw_303 tw_302 rfl ⟨rfl, rfl, Nat.le_of_ble_eq_true rfl, Nat.le_of_ble_eq_true rfl⟩ rfl (Nat.le_of_ble_eq_true rfl) d_Text_append_40 ?_
    refine pm_if_ne K d_Text_append_43 48 (by decide) (fun c6 => ?_) (fun c6 => ?_)
    · have hf := pm_iff c6 hf
      refine pm_iinc (v := x3 + (1 : Int32)) (lv' := [(3, .int (x3 + (1 : Int32))), (0, .ref (ad 1)), (1, .int x1), (2, .int x2)]) K d_Text_append_48 3 rfl rfl (by decide) rfl ?_
      refine pm_goto K d_Text_append_51 25 (by decide) ?_
      refine pm_sub (lv' := [(0, .ref (ad 1)), (1, .int x1), (2, .int x2), (3, .int (x3 + (1 : Int32)))]) [1, 2, 3, 0] rfl ?_
      exact h25 x1 x2 (x3 + (1 : Int32)) o5.2 hf
    · have hf := pm_ift c6 hf
      refine pm_iconst (v := 0) K d_Text_append_46 (by decide) ?_
      cases hf
      exact pm_zret K (by decide) d_Text_append_47
set_option maxHeartbeats 4000000 in
set_option maxRecDepth 100000 in
theorem t_Text_append_58 {p : Program} {l : Launch} {e : Env} {s : State} {m : MethodId} {args : Array Value} {below : List Frame} {meth : Method} {c : Code} {D : va_G} {ca : Nat → ClassId} {ad : Nat → Nat} {E : (Nat → Prop) → State → Heap → Prop} {S : Nat} (K : pm_ok p s m args meth c k_Text_append 4 pmTs R_Text D vwCl (tyl ca) (shC S) ad E (some .boolean)) (rec : Nat → Int32 → Int32 → Int32 → pm_W → Option (Int32 × pm_W)) (r : Int32) (w' : pm_W) (h25 : ∀ (x1 : Int32) (x2 : Int32) (x3 : Int32) (w : pm_W), rec 0 x1 x2 x3 w = some (r, w') → pm_wk p l e { frames := 1, cells := 0, slots := 0, locals := 20 } s m args below meth c D vwCl (shC S) ca ad 4 (some (.int r), w') 25 [(0, .ref (ad 1)), (1, .int x1), (2, .int x2), (3, .int x3)] [] w) (h58 : ∀ (x1 : Int32) (x3 : Int32) (w : pm_W), rec 1 x1 0 x3 w = some (r, w') → pm_wk p l e { frames := 1, cells := 0, slots := 0, locals := 20 } s m args below meth c D vwCl (shC S) ca ad 4 (some (.int r), w') 58 [(0, .ref (ad 1)), (1, .int x1), (3, .int x3)] [] w) (x1 : Int32) (x3 : Int32) (w : pm_W) (hf : b_Text_append_58  S rec x1 x3 w = some (r, w')) : pm_wk p l e { frames := 1, cells := 0, slots := 0, locals := 20 } s m args below meth c D vwCl (shC S) ca ad 4 (some (.int r), w') 58 [(0, .ref (ad 1)), (1, .int x1), (3, .int x3)] [] w := by
  unfold b_Text_append_58 at hf
  refine pm_iload_n K d_Text_append_58 2 rfl rfl ?_
  refine pm_if_lt K d_Text_append_59 107 (by decide) (fun c7 => ?_) (fun c7 => ?_)
  · have hf := pm_ift c7 hf
    refine pm_iconst (v := 1) K d_Text_append_107 (by decide) ?_
    cases hf
    exact pm_zret K (by decide) d_Text_append_108
  · have hf := pm_iff c7 hf
    refine pm_aload_n K d_Text_append_62 0 rfl rfl ?_
    refine pm_getI K fc_1 (o := 1) rfl 1 rfl (by decide) tw_120 d_Text_append_63 (v := w.1 1 1) rfl ?_
    refine pm_bipush (v := 120) K d_Text_append_66 (by decide) ?_
    refine pm_icmp_ge K d_Text_append_68 107 (by decide) (fun c8 => ?_) (fun c8 => ?_)
    · have hf := pm_ift c8 hf
      refine pm_iconst (v := 1) K d_Text_append_107 (by decide) ?_
      cases hf
      exact pm_zret K (by decide) d_Text_append_108
    · have hf := pm_iff c8 hf
      refine pm_aload_n K d_Text_append_71 0 rfl rfl ?_
      refine pm_getR K fc_1 (o := 1) rfl 0 rfl (by decide) tw_119 d_Text_append_72 ?_
      refine pm_aload_n K d_Text_append_75 0 rfl rfl ?_
      refine pm_getI K fc_1 (o := 1) rfl 1 rfl (by decide) tw_120 d_Text_append_76 (v := w.1 1 1) rfl ?_
      refine pm_iload_n K d_Text_append_79 1 rfl rfl ?_
      refine pm_bipush (v := 8) K d_Text_append_80 (by decide) ?_
      refine pm_iload_n K d_Text_append_82 2 rfl rfl ?_
      refine pm_imul K d_Text_append_83 ?_
      refine pm_iushr K d_Text_append_84 rfl ?_
      refine pm_sipush (v := 255) K d_Text_append_85 (by decide) ?_
      refine pm_iand K d_Text_append_88 ?_
      refine pm_i2c K d_Text_append_89 rfl ?_
      obtain ⟨q9, hf⟩ := pm_bnd hf
      refine pm_cast K (o := 9) rfl rfl q9 d_Text_append_90 ?_
      refine pm_aload_n K d_Text_append_91 0 rfl rfl ?_
      refine pm_dup K d_Text_append_92 rfl ?_
      refine pm_getI K fc_1 (o := 1) rfl 1 rfl (by decide) tw_120 d_Text_append_93 (v := w.1 1 1) rfl ?_
      refine pm_iconst (v := 1) K d_Text_append_96 (by decide) ?_
      refine pm_iadd K d_Text_append_97 ?_
      refine pm_putI K fc_1 (o := 1) (ty := .int) rfl 1 rfl (by decide) tw_120 rfl rfl rfl rfl d_Text_append_98 ?_
      refine pm_iinc (v := x3 + (-1 : Int32)) (lv' := [(3, .int (x3 + (-1 : Int32))), (0, .ref (ad 1)), (1, .int x1)]) K d_Text_append_101 2 rfl rfl (by decide) rfl ?_
      refine pm_goto K d_Text_append_104 58 (by decide) ?_
      refine pm_sub (lv' := [(0, .ref (ad 1)), (1, .int x1), (3, .int (x3 + (-1 : Int32)))]) [1, 2, 0] rfl ?_
      exact h58 x1 (x3 + (-1 : Int32)) (pm_setI (pm_setI w 9 (w.1 1 1).toNatClampNeg (vp_nar .char (((((x1.toUInt32 >>> (((8 : Int32) * x3).toUInt32 &&& Int32.toUInt32 31)).toInt32) &&& (255 : Int32)).toUInt32 % 65536).toInt32))) 1 1 ((w.1 1 1) + (1 : Int32))) hf
set_option maxHeartbeats 4000000 in
set_option maxRecDepth 100000 in
theorem a_Text_append {p : Program} {l : Launch} {e : Env} {s : State} {m : MethodId} {args : Array Value} {below : List Frame} {meth : Method} {c : Code} {D : va_G} {ca : Nat → ClassId} {ad : Nat → Nat} {E : (Nat → Prop) → State → Heap → Prop} {S : Nat} (K : pm_ok p s m args meth c k_Text_append 4 pmTs R_Text D vwCl (tyl ca) (shC S) ad E (some .boolean)) (r : Int32) (w' : pm_W) : ∀ n : Nat, (∀ (x1 : Int32) (x2 : Int32) (x3 : Int32) (w : pm_W), l_Text_append  S n 0 x1 x2 x3 w = some (r, w') → pm_wk p l e { frames := 1, cells := 0, slots := 0, locals := 20 } s m args below meth c D vwCl (shC S) ca ad 4 (some (.int r), w') 25 [(0, .ref (ad 1)), (1, .int x1), (2, .int x2), (3, .int x3)] [] w) ∧ (∀ (x1 : Int32) (x3 : Int32) (w : pm_W), l_Text_append  S n 1 x1 0 x3 w = some (r, w') → pm_wk p l e { frames := 1, cells := 0, slots := 0, locals := 20 } s m args below meth c D vwCl (shC S) ca ad 4 (some (.int r), w') 58 [(0, .ref (ad 1)), (1, .int x1), (3, .int x3)] [] w) := by
  intro n
  induction n with
  | zero => exact ⟨fun _ _ _ _ hf => (by cases hf), fun _ _ _ hf => (by cases hf)⟩
  | succ n ih => exact ⟨fun x1 x2 x3 w hf => t_Text_append_25 K (l_Text_append S n) r w' (ih.1) (ih.2) x1 x2 x3 w hf, fun x1 x3 w hf => t_Text_append_58 K (l_Text_append S n) r w' (ih.1) (ih.2) x1 x3 w hf⟩
set_option maxHeartbeats 4000000 in
set_option maxRecDepth 100000 in
theorem t_Text_append {p : Program} {l : Launch} {e : Env} {s : State} {m : MethodId} {args : Array Value} {below : List Frame} {meth : Method} {c : Code} {D : va_G} {ca : Nat → ClassId} {ad : Nat → Nat} {E : (Nat → Prop) → State → Heap → Prop} {S : Nat} (K : pm_ok p s m args meth c k_Text_append 4 pmTs R_Text D vwCl (tyl ca) (shC S) ad E (some .boolean)) (r : Int32) (w' : pm_W) (x1 : Int32) (x2 : Int32) (w : pm_W) (hf : f_Text_append  S x1 x2 w = some (r, w')) : pm_wk p l e { frames := 1, cells := 0, slots := 0, locals := 20 } s m args below meth c D vwCl (shC S) ca ad 4 (some (.int r), w') 0 [(0, .ref (ad 1)), (1, .int x1), (2, .int x2)] [] w := by
  unfold f_Text_append at hf
  have h25 := (a_Text_append (l := l) (e := e) (below := below) K  r w' pm_fuel).1
  have h58 := (a_Text_append (l := l) (e := e) (below := below) K  r w' pm_fuel).2
  refine pm_iload_n K d_Text_append_0 2 rfl rfl ?_
  refine pm_iconst (v := 1) K d_Text_append_1 (by decide) ?_
  refine pm_icmp_lt K d_Text_append_2 21 (by decide) (fun c1 => ?_) (fun c1 => ?_)
  · have hf := pm_ift c1 hf
    refine pm_iconst (v := 0) K d_Text_append_21 (by decide) ?_
    cases hf
    exact pm_zret K (by decide) d_Text_append_22
  · have hf := pm_iff c1 hf
    refine pm_iload_n K d_Text_append_5 2 rfl rfl ?_
    refine pm_iconst (v := 4) K d_Text_append_6 (by decide) ?_
    refine pm_icmp_gt K d_Text_append_7 21 (by decide) (fun c2 => ?_) (fun c2 => ?_)
    · have hf := pm_ift c2 hf
      refine pm_iconst (v := 0) K d_Text_append_21 (by decide) ?_
      cases hf
      exact pm_zret K (by decide) d_Text_append_22
    · have hf := pm_iff c2 hf
      refine pm_aload_n K d_Text_append_10 0 rfl rfl ?_
      refine pm_getI K fc_1 (o := 1) rfl 1 rfl (by decide) tw_120 d_Text_append_11 (v := w.1 1 1) rfl ?_
      refine pm_iload_n K d_Text_append_14 2 rfl rfl ?_
      refine pm_iadd K d_Text_append_15 ?_
      refine pm_bipush (v := 120) K d_Text_append_16 (by decide) ?_
      refine pm_icmp_le K d_Text_append_18 23 (by decide) (fun c3 => ?_) (fun c3 => ?_)
      · have hf := pm_ift c3 hf
        refine pm_iconst (v := 0) K d_Text_append_23 (by decide) ?_
        refine pm_istore_n (lv' := [(3, .int (0 : Int32)), (0, .ref (ad 1)), (1, .int x1), (2, .int x2)]) K d_Text_append_24 rfl (by decide) rfl ?_
        refine pm_sub (lv' := [(0, .ref (ad 1)), (1, .int x1), (2, .int x2), (3, .int (0 : Int32))]) [1, 2, 3, 0] rfl ?_
        exact h25 x1 x2 (0 : Int32) w hf
      · have hf := pm_iff c3 hf
        refine pm_iconst (v := 0) K d_Text_append_21 (by decide) ?_
        cases hf
        exact pm_zret K (by decide) d_Text_append_22
/-- CellLisp$Text.append(II)Z -/
theorem c_Text_append {l : Launch} {D : va_G} {ca : Nat → ClassId} {ad : Nat → Nat} {E : (Nat → Prop) → State → Heap → Prop} {S : Nat} (hEc : pm_Ecl E) (r : Int32) (w' : pm_W) (x1 : Int32) (x2 : Int32) (w : pm_W) (hf : f_Text_append  S x1 x2 w = some (r, w')) : pm_Met l pmTs D vwCl (tyl ca) (shC S) ca ad E y_Text_append k_Text_append 4 (some .boolean) { frames := 1, cells := 0, slots := 0, locals := 20 } [.ref (ad 1), .int x1, .int x2] w (some (.int r), w') :=
  pm_start pmTs_good hEc (by decide) (Nat.le_of_ble_eq_true rfl) (fun p e s m below meth c K => t_Text_append K r w' x1 x2 w hf)
def f_CL_feed (S : Nat) (x1 : Int32) (x2 : Int32) (w : pm_W) : Option (Int32 × pm_W) :=
  Option.bind (f_Text_append S x1 x2 w) fun o1 =>
  if o1.1 &&& 1 = o1.1 then
    some (o1.1, o1.2)
  else none
set_option maxHeartbeats 4000000 in
set_option maxRecDepth 100000 in
theorem t_CL_feed {p : Program} {l : Launch} {e : Env} {s : State} {m : MethodId} {args : Array Value} {below : List Frame} {meth : Method} {c : Code} {D : va_G} {ca : Nat → ClassId} {ad : Nat → Nat} {E : (Nat → Prop) → State → Heap → Prop} {S : Nat} (K : pm_ok p s m args meth c k_CL_feed 3 pmTs R_CL D vwCl (tyl ca) (shC S) ad E (some .boolean)) (r : Int32) (w' : pm_W) (x1 : Int32) (x2 : Int32) (w : pm_W) (hf : f_CL_feed  S x1 x2 w = some (r, w')) : pm_wk p l e { frames := 2, cells := 0, slots := 0, locals := 43 } s m args below meth c D vwCl (shC S) ca ad 3 (some (.int r), w') 0 [(0, .ref (ad 0)), (1, .int x1), (2, .int x2)] [] w := by
  unfold f_CL_feed at hf
  refine pm_aload_n K d_CL_feed_0 0 rfl rfl ?_
  refine pm_getR K fc_0 (o := 0) rfl 0 rfl (by decide) tw_288 d_CL_feed_1 ?_
  refine pm_iload_n K d_CL_feed_4 1 rfl rfl ?_
  refine pm_iload_n K d_CL_feed_5 2 rfl rfl ?_
  obtain ⟨o1, z1, hf⟩ := pm_bind hf
  refine pm_callV (As := [.int x1, .int x2]) (rest := []) (o := 1) K (c_Text_append K.2.2.2.2.2.2.2.2.2.2.2.2 o1.1 o1.2 x1 x2 w z1) mi_Text_append rfl rfl tw_299 tw_300 tw_298 rfl ⟨rfl, rfl, Nat.le_of_ble_eq_true rfl, Nat.le_of_ble_eq_true rfl⟩ rfl (Nat.le_of_ble_eq_true rfl) d_CL_feed_6 ?_
  obtain ⟨q2, hf⟩ := pm_chk hf
  cases hf
  exact pm_zret K (congrArg Value.int q2) d_CL_feed_9
/-- CellLisp.feed(II)Z -/
theorem c_CL_feed {l : Launch} {D : va_G} {ca : Nat → ClassId} {ad : Nat → Nat} {E : (Nat → Prop) → State → Heap → Prop} {S : Nat} (hEc : pm_Ecl E) (r : Int32) (w' : pm_W) (x1 : Int32) (x2 : Int32) (w : pm_W) (hf : f_CL_feed  S x1 x2 w = some (r, w')) : pm_Met l pmTs D vwCl (tyl ca) (shC S) ca ad E y_CL_feed k_CL_feed 3 (some .boolean) { frames := 2, cells := 0, slots := 0, locals := 43 } [.ref (ad 0), .int x1, .int x2] w (some (.int r), w') :=
  pm_start pmTs_good hEc (by decide) (Nat.le_of_ble_eq_true rfl) (fun p e s m below meth c K => t_CL_feed K r w' x1 x2 w hf)
def f_CL_outSize (S : Nat) (w : pm_W) : Option (Int32 × pm_W) :=
  some (w.1 2 1, w)
set_option maxHeartbeats 4000000 in
set_option maxRecDepth 100000 in
theorem t_CL_outSize {p : Program} {l : Launch} {e : Env} {s : State} {m : MethodId} {args : Array Value} {below : List Frame} {meth : Method} {c : Code} {D : va_G} {ca : Nat → ClassId} {ad : Nat → Nat} {E : (Nat → Prop) → State → Heap → Prop} {S : Nat} (K : pm_ok p s m args meth c k_CL_outSize 1 pmTs R_CL D vwCl (tyl ca) (shC S) ad E (some .int)) (r : Int32) (w' : pm_W) (w : pm_W) (hf : f_CL_outSize  S w = some (r, w')) : pm_wk p l e { frames := 0, cells := 0, slots := 0, locals := 0 } s m args below meth c D vwCl (shC S) ca ad 1 (some (.int r), w') 0 [(0, .ref (ad 0))] [] w := by
  unfold f_CL_outSize at hf
  refine pm_aload_n K d_CL_outSize_0 0 rfl rfl ?_
  refine pm_getR K fc_0 (o := 0) rfl 1 rfl (by decide) tw_289 d_CL_outSize_1 ?_
  refine pm_getIN K fc_2 (o := 2) rfl 1 rfl (by decide) tw_131 d_CL_outSize_4 (v := w.1 2 1) rfl ?_
  cases hf
  exact pm_iret K d_CL_outSize_7
/-- CellLisp.outSize()I -/
theorem c_CL_outSize {l : Launch} {D : va_G} {ca : Nat → ClassId} {ad : Nat → Nat} {E : (Nat → Prop) → State → Heap → Prop} {S : Nat} (hEc : pm_Ecl E) (r : Int32) (w' : pm_W) (w : pm_W) (hf : f_CL_outSize  S w = some (r, w')) : pm_Met l pmTs D vwCl (tyl ca) (shC S) ca ad E y_CL_outSize k_CL_outSize 1 (some .int) { frames := 0, cells := 0, slots := 0, locals := 0 } [.ref (ad 0)] w (some (.int r), w') :=
  pm_start pmTs_good hEc (by decide) (Nat.le_of_ble_eq_true rfl) (fun p e s m below meth c K => t_CL_outSize K r w'  w hf)
def f_Output_at (S : Nat) (x1 : Int32) (w : pm_W) : Option (Int32 × pm_W) :=
  if x1 < 0 then
    some ((-1 : Int32), w)
  else
    if (w.1 2 1) ≤ x1 then
      some ((-1 : Int32), w)
    else
      if (200 : Int32) ≤ x1 then
        some ((-1 : Int32), w)
      else
        if x1 < 0 ∨ 200 ≤ x1.toNatClampNeg then none else
        some (w.1 10 x1.toNatClampNeg, w)
set_option maxHeartbeats 4000000 in
set_option maxRecDepth 100000 in
theorem t_Output_at {p : Program} {l : Launch} {e : Env} {s : State} {m : MethodId} {args : Array Value} {below : List Frame} {meth : Method} {c : Code} {D : va_G} {ca : Nat → ClassId} {ad : Nat → Nat} {E : (Nat → Prop) → State → Heap → Prop} {S : Nat} (K : pm_ok p s m args meth c k_Output_at 2 pmTs R_Output D vwCl (tyl ca) (shC S) ad E (some .int)) (r : Int32) (w' : pm_W) (x1 : Int32) (w : pm_W) (hf : f_Output_at  S x1 w = some (r, w')) : pm_wk p l e { frames := 0, cells := 0, slots := 0, locals := 0 } s m args below meth c D vwCl (shC S) ca ad 2 (some (.int r), w') 0 [(0, .ref (ad 2)), (1, .int x1)] [] w := by
  unfold f_Output_at at hf
  refine pm_iload_n K d_Output_at_0 1 rfl rfl ?_
  refine pm_if_lt K d_Output_at_1 28 (by decide) (fun c1 => ?_) (fun c1 => ?_)
  · have hf := pm_ift c1 hf
    refine pm_iconst (v := -1) K d_Output_at_28 (by decide) ?_
    cases hf
    exact pm_iret K d_Output_at_29
  · have hf := pm_iff c1 hf
    refine pm_iload_n K d_Output_at_4 1 rfl rfl ?_
    refine pm_aload_n K d_Output_at_5 0 rfl rfl ?_
    refine pm_getI K fc_2 (o := 2) rfl 1 rfl (by decide) tw_130 d_Output_at_6 (v := w.1 2 1) rfl ?_
    refine pm_icmp_ge K d_Output_at_9 28 (by decide) (fun c2 => ?_) (fun c2 => ?_)
    · have hf := pm_ift c2 hf
      refine pm_iconst (v := -1) K d_Output_at_28 (by decide) ?_
      cases hf
      exact pm_iret K d_Output_at_29
    · have hf := pm_iff c2 hf
      refine pm_iload_n K d_Output_at_12 1 rfl rfl ?_
      refine pm_sipush (v := 200) K d_Output_at_13 (by decide) ?_
      refine pm_icmp_ge K d_Output_at_16 28 (by decide) (fun c3 => ?_) (fun c3 => ?_)
      · have hf := pm_ift c3 hf
        refine pm_iconst (v := -1) K d_Output_at_28 (by decide) ?_
        cases hf
        exact pm_iret K d_Output_at_29
      · have hf := pm_iff c3 hf
        refine pm_aload_n K d_Output_at_19 0 rfl rfl ?_
        refine pm_getR K fc_2 (o := 2) rfl 0 rfl (by decide) tw_129 d_Output_at_20 ?_
        refine pm_iload_n K d_Output_at_23 1 rfl rfl ?_
        obtain ⟨q4, hf⟩ := pm_bnd hf
        refine pm_cald K (o := 10) rfl rfl q4 d_Output_at_24 (v := w.1 10 x1.toNatClampNeg) rfl ?_
        refine pm_goto K d_Output_at_25 29 (by decide) ?_
        cases hf
        exact pm_iret K d_Output_at_29
/-- CellLisp$Output.at(I)I -/
theorem c_Output_at {l : Launch} {D : va_G} {ca : Nat → ClassId} {ad : Nat → Nat} {E : (Nat → Prop) → State → Heap → Prop} {S : Nat} (hEc : pm_Ecl E) (r : Int32) (w' : pm_W) (x1 : Int32) (w : pm_W) (hf : f_Output_at  S x1 w = some (r, w')) : pm_Met l pmTs D vwCl (tyl ca) (shC S) ca ad E y_Output_at k_Output_at 2 (some .int) { frames := 0, cells := 0, slots := 0, locals := 0 } [.ref (ad 2), .int x1] w (some (.int r), w') :=
  pm_start pmTs_good hEc (by decide) (Nat.le_of_ble_eq_true rfl) (fun p e s m below meth c K => t_Output_at K r w' x1 w hf)
def f_CL_out (S : Nat) (x1 : Int32) (w : pm_W) : Option (Int32 × pm_W) :=
  Option.bind (f_Output_at S x1 w) fun o1 =>
  some (o1.1, o1.2)
set_option maxHeartbeats 4000000 in
set_option maxRecDepth 100000 in
theorem t_CL_out {p : Program} {l : Launch} {e : Env} {s : State} {m : MethodId} {args : Array Value} {below : List Frame} {meth : Method} {c : Code} {D : va_G} {ca : Nat → ClassId} {ad : Nat → Nat} {E : (Nat → Prop) → State → Heap → Prop} {S : Nat} (K : pm_ok p s m args meth c k_CL_out 2 pmTs R_CL D vwCl (tyl ca) (shC S) ad E (some .int)) (r : Int32) (w' : pm_W) (x1 : Int32) (w : pm_W) (hf : f_CL_out  S x1 w = some (r, w')) : pm_wk p l e { frames := 1, cells := 0, slots := 0, locals := 21 } s m args below meth c D vwCl (shC S) ca ad 2 (some (.int r), w') 0 [(0, .ref (ad 0)), (1, .int x1)] [] w := by
  unfold f_CL_out at hf
  refine pm_aload_n K d_CL_out_0 0 rfl rfl ?_
  refine pm_getR K fc_0 (o := 0) rfl 1 rfl (by decide) tw_289 d_CL_out_1 ?_
  refine pm_iload_n K d_CL_out_4 1 rfl rfl ?_
  obtain ⟨o1, z1, hf⟩ := pm_bind hf
  refine pm_callV (As := [.int x1]) (rest := []) (o := 2) K (c_Output_at K.2.2.2.2.2.2.2.2.2.2.2.2 o1.1 o1.2 x1 w z1) mi_Output_at rfl rfl tw_637 tw_638 tw_636 rfl ⟨rfl, rfl, Nat.le_of_ble_eq_true rfl, Nat.le_of_ble_eq_true rfl⟩ rfl (Nat.le_of_ble_eq_true rfl) d_CL_out_5 ?_
  cases hf
  exact pm_iret K d_CL_out_8
/-- CellLisp.out(I)I -/
theorem c_CL_out {l : Launch} {D : va_G} {ca : Nat → ClassId} {ad : Nat → Nat} {E : (Nat → Prop) → State → Heap → Prop} {S : Nat} (hEc : pm_Ecl E) (r : Int32) (w' : pm_W) (x1 : Int32) (w : pm_W) (hf : f_CL_out  S x1 w = some (r, w')) : pm_Met l pmTs D vwCl (tyl ca) (shC S) ca ad E y_CL_out k_CL_out 2 (some .int) { frames := 1, cells := 0, slots := 0, locals := 21 } [.ref (ad 0), .int x1] w (some (.int r), w') :=
  pm_start pmTs_good hEc (by decide) (Nat.le_of_ble_eq_true rfl) (fun p e s m below meth c K => t_CL_out K r w' x1 w hf)
def f_CL_clearOut (S : Nat) (w : pm_W) : Option pm_W :=
  some (pm_setI w 2 1 (0 : Int32))
set_option maxHeartbeats 4000000 in
set_option maxRecDepth 100000 in
theorem t_CL_clearOut {p : Program} {l : Launch} {e : Env} {s : State} {m : MethodId} {args : Array Value} {below : List Frame} {meth : Method} {c : Code} {D : va_G} {ca : Nat → ClassId} {ad : Nat → Nat} {E : (Nat → Prop) → State → Heap → Prop} {S : Nat} (K : pm_ok p s m args meth c k_CL_clearOut 1 pmTs R_CL D vwCl (tyl ca) (shC S) ad E none) (w' : pm_W) (w : pm_W) (hf : f_CL_clearOut  S w = some w') : pm_wk p l e { frames := 0, cells := 0, slots := 0, locals := 0 } s m args below meth c D vwCl (shC S) ca ad 1 (none, w') 0 [(0, .ref (ad 0))] [] w := by
  unfold f_CL_clearOut at hf
  refine pm_aload_n K d_CL_clearOut_0 0 rfl rfl ?_
  refine pm_getR K fc_0 (o := 0) rfl 1 rfl (by decide) tw_289 d_CL_clearOut_1 ?_
  refine pm_iconst (v := 0) K d_CL_clearOut_4 (by decide) ?_
  refine pm_putIN K fc_2 (o := 2) (ty := .int) rfl 1 rfl (by decide) tw_131 rfl rfl rfl rfl d_CL_clearOut_5 ?_
  cases hf
  exact pm_vret K d_CL_clearOut_8
/-- CellLisp.clearOut()V -/
theorem c_CL_clearOut {l : Launch} {D : va_G} {ca : Nat → ClassId} {ad : Nat → Nat} {E : (Nat → Prop) → State → Heap → Prop} {S : Nat} (hEc : pm_Ecl E) (w' : pm_W) (w : pm_W) (hf : f_CL_clearOut  S w = some w') : pm_Met l pmTs D vwCl (tyl ca) (shC S) ca ad E y_CL_clearOut k_CL_clearOut 1 none { frames := 0, cells := 0, slots := 0, locals := 0 } [.ref (ad 0)] w (none, w') :=
  pm_start pmTs_good hEc (by decide) (Nat.le_of_ble_eq_true rfl) (fun p e s m below meth c K => t_CL_clearOut K w'  w hf)
def f_Value_kind (S : Nat) (x0 : Int32) (w : pm_W) : Option (Int32 × pm_W) :=
  some (x0 &&& (7 : Int32), w)
set_option maxHeartbeats 4000000 in
set_option maxRecDepth 100000 in
theorem t_Value_kind {p : Program} {l : Launch} {e : Env} {s : State} {m : MethodId} {args : Array Value} {below : List Frame} {meth : Method} {c : Code} {D : va_G} {ca : Nat → ClassId} {ad : Nat → Nat} {E : (Nat → Prop) → State → Heap → Prop} {S : Nat} (K : pm_ok p s m args meth c k_Value_kind 1 pmTs R_Value D vwCl (tyl ca) (shC S) ad E (some .int)) (r : Int32) (w' : pm_W) (x0 : Int32) (w : pm_W) (hf : f_Value_kind  S x0 w = some (r, w')) : pm_wk p l e { frames := 0, cells := 0, slots := 0, locals := 0 } s m args below meth c D vwCl (shC S) ca ad 1 (some (.int r), w') 0 [(0, .int x0)] [] w := by
  unfold f_Value_kind at hf
  refine pm_iload_n K d_Value_kind_0 0 rfl rfl ?_
  refine pm_bipush (v := 7) K d_Value_kind_1 (by decide) ?_
  refine pm_iand K d_Value_kind_3 ?_
  cases hf
  exact pm_iret K d_Value_kind_4
/-- CellLisp$Value.kind(I)I -/
theorem c_Value_kind {l : Launch} {D : va_G} {ca : Nat → ClassId} {ad : Nat → Nat} {E : (Nat → Prop) → State → Heap → Prop} {S : Nat} (hEc : pm_Ecl E) (r : Int32) (w' : pm_W) (x0 : Int32) (w : pm_W) (hf : f_Value_kind  S x0 w = some (r, w')) : pm_Met l pmTs D vwCl (tyl ca) (shC S) ca ad E y_Value_kind k_Value_kind 1 (some .int) { frames := 0, cells := 0, slots := 0, locals := 0 } [.int x0] w (some (.int r), w') :=
  pm_start pmTs_good hEc (by decide) (Nat.le_of_ble_eq_true rfl) (fun p e s m below meth c K => t_Value_kind K r w' x0 w hf)
def f_Value_content (S : Nat) (x0 : Int32) (w : pm_W) : Option (Int32 × pm_W) :=
  some (x0 >>> ((3 : Int32) &&& 31), w)
set_option maxHeartbeats 4000000 in
set_option maxRecDepth 100000 in
theorem t_Value_content {p : Program} {l : Launch} {e : Env} {s : State} {m : MethodId} {args : Array Value} {below : List Frame} {meth : Method} {c : Code} {D : va_G} {ca : Nat → ClassId} {ad : Nat → Nat} {E : (Nat → Prop) → State → Heap → Prop} {S : Nat} (K : pm_ok p s m args meth c k_Value_content 1 pmTs R_Value D vwCl (tyl ca) (shC S) ad E (some .int)) (r : Int32) (w' : pm_W) (x0 : Int32) (w : pm_W) (hf : f_Value_content  S x0 w = some (r, w')) : pm_wk p l e { frames := 0, cells := 0, slots := 0, locals := 0 } s m args below meth c D vwCl (shC S) ca ad 1 (some (.int r), w') 0 [(0, .int x0)] [] w := by
  unfold f_Value_content at hf
  refine pm_iload_n K d_Value_content_0 0 rfl rfl ?_
  refine pm_iconst (v := 3) K d_Value_content_1 (by decide) ?_
  refine pm_ishr K d_Value_content_2 ?_
  cases hf
  exact pm_iret K d_Value_content_3
/-- CellLisp$Value.content(I)I -/
theorem c_Value_content {l : Launch} {D : va_G} {ca : Nat → ClassId} {ad : Nat → Nat} {E : (Nat → Prop) → State → Heap → Prop} {S : Nat} (hEc : pm_Ecl E) (r : Int32) (w' : pm_W) (x0 : Int32) (w : pm_W) (hf : f_Value_content  S x0 w = some (r, w')) : pm_Met l pmTs D vwCl (tyl ca) (shC S) ca ad E y_Value_content k_Value_content 1 (some .int) { frames := 0, cells := 0, slots := 0, locals := 0 } [.int x0] w (some (.int r), w') :=
  pm_start pmTs_good hEc (by decide) (Nat.le_of_ble_eq_true rfl) (fun p e s m below meth c K => t_Value_content K r w' x0 w hf)
def b_Room_reach_25 (S : Nat) (x2 : Int32) (x3 : Int32) (s0 : Int32) (w : pm_W) : Option pm_W :=
  if s0 = 0 then
    some w
  else
    if x3 < 0 then
      some w
    else
      if (w.1 5 1) ≤ x3 then
        some w
      else
        if x3 < 0 ∨ S ≤ x3.toNatClampNeg then none else
        if (w.1 20 x3.toNatClampNeg) = 0 then
          if (w.1 5 8) < (w.1 5 1) then
            if x3 < 0 ∨ S ≤ x3.toNatClampNeg then none else
            if x2 = (4 : Int32) then
              if (w.1 5 8) < 0 ∨ S ≤ (w.1 5 8).toNatClampNeg then none else
              some (pm_setI (pm_setI (pm_setI (pm_setI w 20 x3.toNatClampNeg (vp_nar .boolean (1 : Int32))) 5 10 ((w.1 5 10) + (2 : Int32))) 21 (w.1 5 8).toNatClampNeg x3) 5 8 ((w.1 5 8) + (1 : Int32)))
            else
              if (w.1 5 8) < 0 ∨ S ≤ (w.1 5 8).toNatClampNeg then none else
              some (pm_setI (pm_setI (pm_setI (pm_setI w 20 x3.toNatClampNeg (vp_nar .boolean (1 : Int32))) 5 10 ((w.1 5 10) + (3 : Int32))) 21 (w.1 5 8).toNatClampNeg x3) 5 8 ((w.1 5 8) + (1 : Int32)))
          else
            some w
        else
          some w
def f_Room_reach (S : Nat) (x1 : Int32) (w : pm_W) : Option pm_W :=
  Option.bind (f_Value_kind S x1 w) fun o1 =>
  Option.bind (f_Value_content S x1 o1.2) fun o2 =>
  if o1.1 = (4 : Int32) then
    b_Room_reach_25  S  o1.1 o2.1 (1 : Int32) o2.2
  else
    if o1.1 = (5 : Int32) then
      b_Room_reach_25  S  o1.1 o2.1 (1 : Int32) o2.2
    else
      b_Room_reach_25  S  o1.1 o2.1 (0 : Int32) o2.2
set_option maxHeartbeats 4000000 in
set_option maxRecDepth 100000 in
theorem t_Room_reach_25 {p : Program} {l : Launch} {e : Env} {s : State} {m : MethodId} {args : Array Value} {below : List Frame} {meth : Method} {c : Code} {D : va_G} {ca : Nat → ClassId} {ad : Nat → Nat} {E : (Nat → Prop) → State → Heap → Prop} {S : Nat} (K : pm_ok p s m args meth c k_Room_reach 5 pmTs R_Room D vwCl (tyl ca) (shC S) ad E none) (w' : pm_W) (x2 : Int32) (x3 : Int32) (s0 : Int32) (w : pm_W) (hf : b_Room_reach_25  S x2 x3 s0 w = some w') : pm_wk p l e { frames := 1, cells := 0, slots := 0, locals := 20 } s m args below meth c D vwCl (shC S) ca ad 5 (none, w') 25 [(0, .ref (ad 5)), (2, .int x2), (3, .int x3)] [.int s0] w := by
  unfold b_Room_reach_25 at hf
  refine pm_istore (lv' := [(4, .int s0), (0, .ref (ad 5)), (2, .int x2), (3, .int x3)]) K d_Room_reach_25 (by decide) rfl ?_
  refine pm_iload K d_Room_reach_27 0 rfl ?_
  refine pm_if_eq K d_Room_reach_29 64 (by decide) (fun c5 => ?_) (fun c5 => ?_)
  · have hf := pm_ift c5 hf
    cases hf
    exact pm_vret K d_Room_reach_64
  · have hf := pm_iff c5 hf
    refine pm_iload_n K d_Room_reach_32 3 rfl rfl ?_
    refine pm_if_lt K d_Room_reach_33 64 (by decide) (fun c6 => ?_) (fun c6 => ?_)
    · have hf := pm_ift c6 hf
      cases hf
      exact pm_vret K d_Room_reach_64
    · have hf := pm_iff c6 hf
      refine pm_iload_n K d_Room_reach_36 3 rfl rfl ?_
      refine pm_aload_n K d_Room_reach_37 1 rfl rfl ?_
      refine pm_getI K fc_5 (o := 5) rfl 1 rfl (by decide) tw_236 d_Room_reach_38 (v := w.1 5 1) rfl ?_
      refine pm_icmp_ge K d_Room_reach_41 64 (by decide) (fun c7 => ?_) (fun c7 => ?_)
      · have hf := pm_ift c7 hf
        cases hf
        exact pm_vret K d_Room_reach_64
      · have hf := pm_iff c7 hf
        refine pm_aload_n K d_Room_reach_44 1 rfl rfl ?_
        refine pm_getR K fc_5 (o := 5) rfl 5 rfl (by decide) tw_240 d_Room_reach_45 ?_
        refine pm_iload_n K d_Room_reach_48 3 rfl rfl ?_
        obtain ⟨q8, hf⟩ := pm_bnd hf
        refine pm_zald K (o := 20) rfl rfl q8 d_Room_reach_49 (v := w.1 20 x3.toNatClampNeg) rfl ?_
        refine pm_if_ne K d_Room_reach_50 64 (by decide) (fun c9 => ?_) (fun c9 => ?_)
        · have hf := pm_iff c9 hf
          cases hf
          exact pm_vret K d_Room_reach_64
        · have hf := pm_ift c9 hf
          refine pm_aload_n K d_Room_reach_53 1 rfl rfl ?_
          refine pm_getI K fc_5 (o := 5) rfl 8 rfl (by decide) tw_243 d_Room_reach_54 (v := w.1 5 8) rfl ?_
          refine pm_aload_n K d_Room_reach_57 1 rfl rfl ?_
          refine pm_getI K fc_5 (o := 5) rfl 1 rfl (by decide) tw_236 d_Room_reach_58 (v := w.1 5 1) rfl ?_
          refine pm_icmp_lt K d_Room_reach_61 65 (by decide) (fun c10 => ?_) (fun c10 => ?_)
          · have hf := pm_ift c10 hf
            refine pm_aload_n K d_Room_reach_65 1 rfl rfl ?_
            refine pm_getR K fc_5 (o := 5) rfl 5 rfl (by decide) tw_240 d_Room_reach_66 ?_
            refine pm_iload_n K d_Room_reach_69 3 rfl rfl ?_
            refine pm_iconst (v := 1) K d_Room_reach_70 (by decide) ?_
            obtain ⟨q11, hf⟩ := pm_bnd hf
            refine pm_zast K (o := 20) rfl rfl q11 d_Room_reach_71 ?_
            refine pm_aload_n K d_Room_reach_72 1 rfl rfl ?_
            refine pm_dup K d_Room_reach_73 rfl ?_
            refine pm_getI K fc_5 (o := 5) rfl 10 rfl (by decide) tw_245 d_Room_reach_74 (v := w.1 5 10) rfl ?_
            refine pm_iload_n K d_Room_reach_77 2 rfl rfl ?_
            refine pm_iconst (v := 4) K d_Room_reach_78 (by decide) ?_
            refine pm_icmp_ne K d_Room_reach_79 86 (by decide) (fun c12 => ?_) (fun c12 => ?_)
            · have hf := pm_iff c12 hf
              refine pm_iconst (v := 3) K d_Room_reach_86 (by decide) ?_
              refine pm_iadd K d_Room_reach_87 ?_
              refine pm_putI K fc_5 (o := 5) (ty := .int) rfl 10 rfl (by decide) tw_245 rfl rfl rfl rfl d_Room_reach_88 ?_
              refine pm_aload_n K d_Room_reach_91 1 rfl rfl ?_
              refine pm_getR K fc_5 (o := 5) rfl 6 rfl (by decide) tw_241 d_Room_reach_92 ?_
              refine pm_aload_n K d_Room_reach_95 1 rfl rfl ?_
              refine pm_getI K fc_5 (o := 5) rfl 8 rfl (by decide) tw_243 d_Room_reach_96 (v := w.1 5 8) rfl ?_
              refine pm_iload_n K d_Room_reach_99 3 rfl rfl ?_
              obtain ⟨q13, hf⟩ := pm_bnd hf
              refine pm_iast K (o := 21) rfl rfl q13 d_Room_reach_100 ?_
              refine pm_aload_n K d_Room_reach_101 1 rfl rfl ?_
              refine pm_dup K d_Room_reach_102 rfl ?_
              refine pm_getI K fc_5 (o := 5) rfl 8 rfl (by decide) tw_243 d_Room_reach_103 (v := w.1 5 8) rfl ?_
              refine pm_iconst (v := 1) K d_Room_reach_106 (by decide) ?_
              refine pm_iadd K d_Room_reach_107 ?_
              refine pm_putI K fc_5 (o := 5) (ty := .int) rfl 8 rfl (by decide) tw_243 rfl rfl rfl rfl d_Room_reach_108 ?_
              cases hf
              exact pm_vret K d_Room_reach_111
            · have hf := pm_ift c12 hf
              refine pm_iconst (v := 2) K d_Room_reach_82 (by decide) ?_
              refine pm_goto K d_Room_reach_83 87 (by decide) ?_
              refine pm_iadd K d_Room_reach_87 ?_
              refine pm_putI K fc_5 (o := 5) (ty := .int) rfl 10 rfl (by decide) tw_245 rfl rfl rfl rfl d_Room_reach_88 ?_
              refine pm_aload_n K d_Room_reach_91 1 rfl rfl ?_
              refine pm_getR K fc_5 (o := 5) rfl 6 rfl (by decide) tw_241 d_Room_reach_92 ?_
              refine pm_aload_n K d_Room_reach_95 1 rfl rfl ?_
              refine pm_getI K fc_5 (o := 5) rfl 8 rfl (by decide) tw_243 d_Room_reach_96 (v := w.1 5 8) rfl ?_
              refine pm_iload_n K d_Room_reach_99 3 rfl rfl ?_
              obtain ⟨q14, hf⟩ := pm_bnd hf
              refine pm_iast K (o := 21) rfl rfl q14 d_Room_reach_100 ?_
              refine pm_aload_n K d_Room_reach_101 1 rfl rfl ?_
              refine pm_dup K d_Room_reach_102 rfl ?_
              refine pm_getI K fc_5 (o := 5) rfl 8 rfl (by decide) tw_243 d_Room_reach_103 (v := w.1 5 8) rfl ?_
              refine pm_iconst (v := 1) K d_Room_reach_106 (by decide) ?_
              refine pm_iadd K d_Room_reach_107 ?_
              refine pm_putI K fc_5 (o := 5) (ty := .int) rfl 8 rfl (by decide) tw_243 rfl rfl rfl rfl d_Room_reach_108 ?_
              cases hf
              exact pm_vret K d_Room_reach_111
          · have hf := pm_iff c10 hf
            cases hf
            exact pm_vret K d_Room_reach_64
set_option maxHeartbeats 4000000 in
set_option maxRecDepth 100000 in
theorem t_Room_reach {p : Program} {l : Launch} {e : Env} {s : State} {m : MethodId} {args : Array Value} {below : List Frame} {meth : Method} {c : Code} {D : va_G} {ca : Nat → ClassId} {ad : Nat → Nat} {E : (Nat → Prop) → State → Heap → Prop} {S : Nat} (K : pm_ok p s m args meth c k_Room_reach 5 pmTs R_Room D vwCl (tyl ca) (shC S) ad E none) (w' : pm_W) (x1 : Int32) (w : pm_W) (hf : f_Room_reach  S x1 w = some w') : pm_wk p l e { frames := 1, cells := 0, slots := 0, locals := 20 } s m args below meth c D vwCl (shC S) ca ad 5 (none, w') 0 [(0, .ref (ad 5)), (1, .int x1)] [] w := by
  unfold f_Room_reach at hf
  refine pm_iload_n K d_Room_reach_0 1 rfl rfl ?_
  obtain ⟨o1, z1, hf⟩ := pm_bind hf
  refine pm_callS (As := [.int x1]) (rest := []) K (c_Value_kind K.2.2.2.2.2.2.2.2.2.2.2.2 o1.1 o1.2 x1 w z1) mi_Value_kind tw_374 tw_373 rfl ⟨rfl, rfl, Nat.le_of_ble_eq_true rfl, Nat.le_of_ble_eq_true rfl⟩ rfl (Nat.le_of_ble_eq_true rfl) d_Room_reach_1 ?_
  refine pm_istore_n (lv' := [(2, .int o1.1), (0, .ref (ad 5)), (1, .int x1)]) K d_Room_reach_4 rfl (by decide) rfl ?_
  refine pm_iload_n K d_Room_reach_5 2 rfl rfl ?_
  obtain ⟨o2, z2, hf⟩ := pm_bind hf
  refine pm_callS (As := [.int x1]) (rest := []) K (c_Value_content K.2.2.2.2.2.2.2.2.2.2.2.2 o2.1 o2.2 x1 o1.2 z2) mi_Value_content tw_377 tw_376 rfl ⟨rfl, rfl, Nat.le_of_ble_eq_true rfl, Nat.le_of_ble_eq_true rfl⟩ rfl (Nat.le_of_ble_eq_true rfl) d_Room_reach_6 ?_
  refine pm_istore_n (lv' := [(3, .int o2.1), (2, .int o1.1), (0, .ref (ad 5)), (1, .int x1)]) K d_Room_reach_9 rfl (by decide) rfl ?_
  refine pm_iload_n K d_Room_reach_10 1 rfl rfl ?_
  refine pm_iconst (v := 4) K d_Room_reach_11 (by decide) ?_
  refine pm_icmp_eq K d_Room_reach_12 20 (by decide) (fun c3 => ?_) (fun c3 => ?_)
  · have hf := pm_ift c3 hf
    refine pm_iconst (v := 1) K d_Room_reach_20 (by decide) ?_
    refine pm_goto K d_Room_reach_21 25 (by decide) ?_
    refine pm_sub (lv' := [(0, .ref (ad 5)), (2, .int o1.1), (3, .int o2.1)]) [2, 1, 0] rfl ?_
    exact t_Room_reach_25 K  w'  o1.1 o2.1 (1 : Int32) o2.2 hf
  · have hf := pm_iff c3 hf
    refine pm_iload_n K d_Room_reach_15 1 rfl rfl ?_
    refine pm_iconst (v := 5) K d_Room_reach_16 (by decide) ?_
    refine pm_icmp_ne K d_Room_reach_17 24 (by decide) (fun c4 => ?_) (fun c4 => ?_)
    · have hf := pm_iff c4 hf
      refine pm_iconst (v := 0) K d_Room_reach_24 (by decide) ?_
      refine pm_sub (lv' := [(0, .ref (ad 5)), (2, .int o1.1), (3, .int o2.1)]) [2, 1, 0] rfl ?_
      exact t_Room_reach_25 K  w'  o1.1 o2.1 (0 : Int32) o2.2 hf
    · have hf := pm_ift c4 hf
      refine pm_iconst (v := 1) K d_Room_reach_20 (by decide) ?_
      refine pm_goto K d_Room_reach_21 25 (by decide) ?_
      refine pm_sub (lv' := [(0, .ref (ad 5)), (2, .int o1.1), (3, .int o2.1)]) [2, 1, 0] rfl ?_
      exact t_Room_reach_25 K  w'  o1.1 o2.1 (1 : Int32) o2.2 hf
/-- CellLisp$Room.reach(I)V -/
theorem c_Room_reach {l : Launch} {D : va_G} {ca : Nat → ClassId} {ad : Nat → Nat} {E : (Nat → Prop) → State → Heap → Prop} {S : Nat} (hEc : pm_Ecl E) (w' : pm_W) (x1 : Int32) (w : pm_W) (hf : f_Room_reach  S x1 w = some w') : pm_Met l pmTs D vwCl (tyl ca) (shC S) ca ad E y_Room_reach k_Room_reach 5 none { frames := 1, cells := 0, slots := 0, locals := 20 } [.ref (ad 5), .int x1] w (none, w') :=
  pm_start pmTs_good hEc (by decide) (Nat.le_of_ble_eq_true rfl) (fun p e s m below meth c K => t_Room_reach K w' x1 w hf)
def b_Room_freeUnreached_7 (S : Nat) (rec : Nat → Int32 → pm_W → Option pm_W) (x1 : Int32) (w : pm_W) : Option pm_W :=
  if (w.1 5 1) ≤ x1 then
    some w
  else
    if x1 < 0 ∨ S ≤ x1.toNatClampNeg then none else
    if (w.1 20 x1.toNatClampNeg) = 0 then
      if (w.1 5 1) ≤ (w.1 5 9) then
        if x1 < 0 ∨ S ≤ x1.toNatClampNeg then none else
        rec 0 (x1 + (1 : Int32)) (pm_setI w 20 x1.toNatClampNeg (vp_nar .boolean (0 : Int32)))
      else
        if (w.1 5 9) < 0 ∨ S ≤ (w.1 5 9).toNatClampNeg then none else
        if x1 < 0 ∨ S ≤ x1.toNatClampNeg then none else
        rec 0 (x1 + (1 : Int32)) (pm_setI (pm_setI (pm_setI w 22 (w.1 5 9).toNatClampNeg x1) 5 9 ((w.1 5 9) + (1 : Int32))) 20 x1.toNatClampNeg (vp_nar .boolean (0 : Int32)))
    else
      if x1 < 0 ∨ S ≤ x1.toNatClampNeg then none else
      rec 0 (x1 + (1 : Int32)) (pm_setI w 20 x1.toNatClampNeg (vp_nar .boolean (0 : Int32)))
def l_Room_freeUnreached (S : Nat) : Nat → Nat → Int32 → pm_W → Option pm_W := pm_it (fun _ _ _ => none) (fun rec k x1 w => b_Room_freeUnreached_7  S rec x1 w)
def f_Room_freeUnreached (S : Nat) (w : pm_W) : Option pm_W :=
  (l_Room_freeUnreached  S pm_fuel) 0 (0 : Int32) (pm_setI w 5 9 (0 : Int32))
set_option maxHeartbeats 4000000 in
set_option maxRecDepth 100000 in
theorem t_Room_freeUnreached_7 {p : Program} {l : Launch} {e : Env} {s : State} {m : MethodId} {args : Array Value} {below : List Frame} {meth : Method} {c : Code} {D : va_G} {ca : Nat → ClassId} {ad : Nat → Nat} {E : (Nat → Prop) → State → Heap → Prop} {S : Nat} (K : pm_ok p s m args meth c k_Room_freeUnreached 2 pmTs R_Room D vwCl (tyl ca) (shC S) ad E none) (rec : Nat → Int32 → pm_W → Option pm_W) (w' : pm_W) (h7 : ∀ (x1 : Int32) (w : pm_W), rec 0 x1 w = some w' → pm_wk p l e { frames := 0, cells := 0, slots := 0, locals := 0 } s m args below meth c D vwCl (shC S) ca ad 2 (none, w') 7 [(0, .ref (ad 5)), (1, .int x1)] [] w) (x1 : Int32) (w : pm_W) (hf : b_Room_freeUnreached_7  S rec x1 w = some w') : pm_wk p l e { frames := 0, cells := 0, slots := 0, locals := 0 } s m args below meth c D vwCl (shC S) ca ad 2 (none, w') 7 [(0, .ref (ad 5)), (1, .int x1)] [] w := by
  unfold b_Room_freeUnreached_7 at hf
  refine pm_iload_n K d_Room_freeUnreached_7 1 rfl rfl ?_
  refine pm_aload_n K d_Room_freeUnreached_8 0 rfl rfl ?_
  refine pm_getI K fc_5 (o := 5) rfl 1 rfl (by decide) tw_236 d_Room_freeUnreached_9 (v := w.1 5 1) rfl ?_
  refine pm_icmp_ge K d_Room_freeUnreached_12 68 (by decide) (fun c1 => ?_) (fun c1 => ?_)
  · have hf := pm_ift c1 hf
    cases hf
    exact pm_vret K d_Room_freeUnreached_68
  · have hf := pm_iff c1 hf
    refine pm_aload_n K d_Room_freeUnreached_15 0 rfl rfl ?_
    refine pm_getR K fc_5 (o := 5) rfl 5 rfl (by decide) tw_240 d_Room_freeUnreached_16 ?_
    refine pm_iload_n K d_Room_freeUnreached_19 1 rfl rfl ?_
    obtain ⟨q2, hf⟩ := pm_bnd hf
    refine pm_zald K (o := 20) rfl rfl q2 d_Room_freeUnreached_20 (v := w.1 20 x1.toNatClampNeg) rfl ?_
    refine pm_if_ne K d_Room_freeUnreached_21 55 (by decide) (fun c3 => ?_) (fun c3 => ?_)
    · have hf := pm_iff c3 hf
      refine pm_aload_n K d_Room_freeUnreached_55 0 rfl rfl ?_
      refine pm_getR K fc_5 (o := 5) rfl 5 rfl (by decide) tw_240 d_Room_freeUnreached_56 ?_
      refine pm_iload_n K d_Room_freeUnreached_59 1 rfl rfl ?_
      refine pm_iconst (v := 0) K d_Room_freeUnreached_60 (by decide) ?_
      obtain ⟨q4, hf⟩ := pm_bnd hf
      refine pm_zast K (o := 20) rfl rfl q4 d_Room_freeUnreached_61 ?_
      refine pm_iinc (v := x1 + (1 : Int32)) (lv' := [(1, .int (x1 + (1 : Int32))), (0, .ref (ad 5))]) K d_Room_freeUnreached_62 1 rfl rfl (by decide) rfl ?_
      refine pm_goto K d_Room_freeUnreached_65 7 (by decide) ?_
      refine pm_sub (lv' := [(0, .ref (ad 5)), (1, .int (x1 + (1 : Int32)))]) [1, 0] rfl ?_
      exact h7 (x1 + (1 : Int32)) (pm_setI w 20 x1.toNatClampNeg (vp_nar .boolean (0 : Int32))) hf
    · have hf := pm_ift c3 hf
      refine pm_aload_n K d_Room_freeUnreached_24 0 rfl rfl ?_
      refine pm_getI K fc_5 (o := 5) rfl 9 rfl (by decide) tw_244 d_Room_freeUnreached_25 (v := w.1 5 9) rfl ?_
      refine pm_aload_n K d_Room_freeUnreached_28 0 rfl rfl ?_
      refine pm_getI K fc_5 (o := 5) rfl 1 rfl (by decide) tw_236 d_Room_freeUnreached_29 (v := w.1 5 1) rfl ?_
      refine pm_icmp_ge K d_Room_freeUnreached_32 55 (by decide) (fun c5 => ?_) (fun c5 => ?_)
      · have hf := pm_ift c5 hf
        refine pm_aload_n K d_Room_freeUnreached_55 0 rfl rfl ?_
        refine pm_getR K fc_5 (o := 5) rfl 5 rfl (by decide) tw_240 d_Room_freeUnreached_56 ?_
        refine pm_iload_n K d_Room_freeUnreached_59 1 rfl rfl ?_
        refine pm_iconst (v := 0) K d_Room_freeUnreached_60 (by decide) ?_
        obtain ⟨q6, hf⟩ := pm_bnd hf
        refine pm_zast K (o := 20) rfl rfl q6 d_Room_freeUnreached_61 ?_
        refine pm_iinc (v := x1 + (1 : Int32)) (lv' := [(1, .int (x1 + (1 : Int32))), (0, .ref (ad 5))]) K d_Room_freeUnreached_62 1 rfl rfl (by decide) rfl ?_
        refine pm_goto K d_Room_freeUnreached_65 7 (by decide) ?_
        refine pm_sub (lv' := [(0, .ref (ad 5)), (1, .int (x1 + (1 : Int32)))]) [1, 0] rfl ?_
        exact h7 (x1 + (1 : Int32)) (pm_setI w 20 x1.toNatClampNeg (vp_nar .boolean (0 : Int32))) hf
      · have hf := pm_iff c5 hf
        refine pm_aload_n K d_Room_freeUnreached_35 0 rfl rfl ?_
        refine pm_getR K fc_5 (o := 5) rfl 7 rfl (by decide) tw_242 d_Room_freeUnreached_36 ?_
        refine pm_aload_n K d_Room_freeUnreached_39 0 rfl rfl ?_
        refine pm_getI K fc_5 (o := 5) rfl 9 rfl (by decide) tw_244 d_Room_freeUnreached_40 (v := w.1 5 9) rfl ?_
        refine pm_iload_n K d_Room_freeUnreached_43 1 rfl rfl ?_
        obtain ⟨q7, hf⟩ := pm_bnd hf
        refine pm_iast K (o := 22) rfl rfl q7 d_Room_freeUnreached_44 ?_
        refine pm_aload_n K d_Room_freeUnreached_45 0 rfl rfl ?_
        refine pm_dup K d_Room_freeUnreached_46 rfl ?_
        refine pm_getI K fc_5 (o := 5) rfl 9 rfl (by decide) tw_244 d_Room_freeUnreached_47 (v := w.1 5 9) rfl ?_
        refine pm_iconst (v := 1) K d_Room_freeUnreached_50 (by decide) ?_
        refine pm_iadd K d_Room_freeUnreached_51 ?_
        refine pm_putI K fc_5 (o := 5) (ty := .int) rfl 9 rfl (by decide) tw_244 rfl rfl rfl rfl d_Room_freeUnreached_52 ?_
        refine pm_aload_n K d_Room_freeUnreached_55 0 rfl rfl ?_
        refine pm_getR K fc_5 (o := 5) rfl 5 rfl (by decide) tw_240 d_Room_freeUnreached_56 ?_
        refine pm_iload_n K d_Room_freeUnreached_59 1 rfl rfl ?_
        refine pm_iconst (v := 0) K d_Room_freeUnreached_60 (by decide) ?_
        obtain ⟨q8, hf⟩ := pm_bnd hf
        refine pm_zast K (o := 20) rfl rfl q8 d_Room_freeUnreached_61 ?_
        refine pm_iinc (v := x1 + (1 : Int32)) (lv' := [(1, .int (x1 + (1 : Int32))), (0, .ref (ad 5))]) K d_Room_freeUnreached_62 1 rfl rfl (by decide) rfl ?_
        refine pm_goto K d_Room_freeUnreached_65 7 (by decide) ?_
        refine pm_sub (lv' := [(0, .ref (ad 5)), (1, .int (x1 + (1 : Int32)))]) [1, 0] rfl ?_
        exact h7 (x1 + (1 : Int32)) (pm_setI (pm_setI (pm_setI w 22 (w.1 5 9).toNatClampNeg x1) 5 9 ((w.1 5 9) + (1 : Int32))) 20 x1.toNatClampNeg (vp_nar .boolean (0 : Int32))) hf
set_option maxHeartbeats 4000000 in
set_option maxRecDepth 100000 in
theorem a_Room_freeUnreached {p : Program} {l : Launch} {e : Env} {s : State} {m : MethodId} {args : Array Value} {below : List Frame} {meth : Method} {c : Code} {D : va_G} {ca : Nat → ClassId} {ad : Nat → Nat} {E : (Nat → Prop) → State → Heap → Prop} {S : Nat} (K : pm_ok p s m args meth c k_Room_freeUnreached 2 pmTs R_Room D vwCl (tyl ca) (shC S) ad E none) (w' : pm_W) : ∀ n : Nat, (∀ (x1 : Int32) (w : pm_W), l_Room_freeUnreached  S n 0 x1 w = some w' → pm_wk p l e { frames := 0, cells := 0, slots := 0, locals := 0 } s m args below meth c D vwCl (shC S) ca ad 2 (none, w') 7 [(0, .ref (ad 5)), (1, .int x1)] [] w) := by
  intro n
  induction n with
  | zero => exact fun _ _ hf => (by cases hf)
  | succ n ih => exact fun x1 w hf => t_Room_freeUnreached_7 K (l_Room_freeUnreached S n) w' (ih) x1 w hf
set_option maxHeartbeats 4000000 in
set_option maxRecDepth 100000 in
theorem t_Room_freeUnreached {p : Program} {l : Launch} {e : Env} {s : State} {m : MethodId} {args : Array Value} {below : List Frame} {meth : Method} {c : Code} {D : va_G} {ca : Nat → ClassId} {ad : Nat → Nat} {E : (Nat → Prop) → State → Heap → Prop} {S : Nat} (K : pm_ok p s m args meth c k_Room_freeUnreached 2 pmTs R_Room D vwCl (tyl ca) (shC S) ad E none) (w' : pm_W) (w : pm_W) (hf : f_Room_freeUnreached  S w = some w') : pm_wk p l e { frames := 0, cells := 0, slots := 0, locals := 0 } s m args below meth c D vwCl (shC S) ca ad 2 (none, w') 0 [(0, .ref (ad 5))] [] w := by
  unfold f_Room_freeUnreached at hf
  have h7 := (a_Room_freeUnreached (l := l) (e := e) (below := below) K  w' pm_fuel)
  refine pm_aload_n K d_Room_freeUnreached_0 0 rfl rfl ?_
  refine pm_iconst (v := 0) K d_Room_freeUnreached_1 (by decide) ?_
  refine pm_putI K fc_5 (o := 5) (ty := .int) rfl 9 rfl (by decide) tw_244 rfl rfl rfl rfl d_Room_freeUnreached_2 ?_
  refine pm_iconst (v := 0) K d_Room_freeUnreached_5 (by decide) ?_
  refine pm_istore_n (lv' := [(1, .int (0 : Int32)), (0, .ref (ad 5))]) K d_Room_freeUnreached_6 rfl (by decide) rfl ?_
  refine pm_sub (lv' := [(0, .ref (ad 5)), (1, .int (0 : Int32))]) [1, 0] rfl ?_
  exact h7 (0 : Int32) (pm_setI w 5 9 (0 : Int32)) hf
/-- CellLisp$Room.freeUnreached()V -/
theorem c_Room_freeUnreached {l : Launch} {D : va_G} {ca : Nat → ClassId} {ad : Nat → Nat} {E : (Nat → Prop) → State → Heap → Prop} {S : Nat} (hEc : pm_Ecl E) (w' : pm_W) (w : pm_W) (hf : f_Room_freeUnreached  S w = some w') : pm_Met l pmTs D vwCl (tyl ca) (shC S) ca ad E y_Room_freeUnreached k_Room_freeUnreached 2 none { frames := 0, cells := 0, slots := 0, locals := 0 } [.ref (ad 5)] w (none, w') :=
  pm_start pmTs_good hEc (by decide) (Nat.le_of_ble_eq_true rfl) (fun p e s m below meth c K => t_Room_freeUnreached K w'  w hf)
def b_Room_collect_34 (S : Nat) (rec : Nat → Int32 → pm_W → Option pm_W) (x1 : Int32) (w : pm_W) : Option pm_W :=
  if (w.1 4 3) ≤ x1 then
    rec 1 (0 : Int32) w
  else
    if (30 : Int32) ≤ x1 then
      rec 1 (0 : Int32) w
    else
      if x1 < 0 ∨ 30 ≤ x1.toNatClampNeg then none else
      Option.bind (f_Room_reach S (w.1 14 x1.toNatClampNeg) w) fun o6 =>
      if x1 < 0 ∨ 30 ≤ x1.toNatClampNeg then none else
      Option.bind (f_Room_reach S (o6.1 15 x1.toNatClampNeg) o6) fun o8 =>
      if x1 < 0 ∨ 30 ≤ x1.toNatClampNeg then none else
      Option.bind (f_Room_reach S (o8.1 16 x1.toNatClampNeg) o8) fun o10 =>
      rec 0 (x1 + (1 : Int32)) o10
def b_Room_collect_98 (S : Nat) (rec : Nat → Int32 → pm_W → Option pm_W) (x1 : Int32) (w : pm_W) : Option pm_W :=
  if (w.1 3 2) ≤ x1 then
    rec 2 (0 : Int32) w
  else
    if (40 : Int32) ≤ x1 then
      rec 2 (0 : Int32) w
    else
      if x1 < 0 ∨ 40 ≤ x1.toNatClampNeg then none else
      Option.bind (f_Room_reach S (w.1 12 x1.toNatClampNeg) w) fun o14 =>
      rec 1 (x1 + (1 : Int32)) o14
def b_Room_collect_136 (S : Nat) (rec : Nat → Int32 → pm_W → Option pm_W) (x1 : Int32) (w : pm_W) : Option pm_W :=
  if (w.1 5 8) ≤ x1 then
    Option.bind (f_Room_freeUnreached S w) fun o16 =>
    some o16
  else
    if (w.1 5 1) ≤ x1 then
      Option.bind (f_Room_freeUnreached S w) fun o18 =>
      some o18
    else
      if x1 < 0 ∨ S ≤ x1.toNatClampNeg then none else
      if (w.1 21 x1.toNatClampNeg) < 0 then
        rec 2 (x1 + (1 : Int32)) w
      else
        if (w.1 5 1) ≤ (w.1 21 x1.toNatClampNeg) then
          rec 2 (x1 + (1 : Int32)) w
        else
          if (w.1 21 x1.toNatClampNeg) < 0 ∨ S ≤ (w.1 21 x1.toNatClampNeg).toNatClampNeg then none else
          Option.bind (f_Room_reach S (w.1 17 (w.1 21 x1.toNatClampNeg).toNatClampNeg) w) fun o23 =>
          if (w.1 21 x1.toNatClampNeg) < 0 ∨ S ≤ (w.1 21 x1.toNatClampNeg).toNatClampNeg then none else
          Option.bind (f_Room_reach S (o23.1 18 (w.1 21 x1.toNatClampNeg).toNatClampNeg) o23) fun o25 =>
          if (w.1 21 x1.toNatClampNeg) < 0 ∨ S ≤ (w.1 21 x1.toNatClampNeg).toNatClampNeg then none else
          Option.bind (f_Room_reach S (o25.1 19 (w.1 21 x1.toNatClampNeg).toNatClampNeg) o25) fun o27 =>
          rec 2 (x1 + (1 : Int32)) o27
def l_Room_collect (S : Nat) : Nat → Nat → Int32 → pm_W → Option pm_W := pm_it (fun _ _ _ => none) (fun rec k x1 w => match k with | 0 => b_Room_collect_34  S rec x1 w | 1 => b_Room_collect_98  S rec x1 w | _ => b_Room_collect_136  S rec x1 w)
def f_Room_collect (S : Nat) (w : pm_W) : Option pm_W :=
  Option.bind (f_Room_reach S (w.1 4 0) (pm_setI (pm_setI w 5 10 (0 : Int32)) 5 8 (0 : Int32))) fun o1 =>
  Option.bind (f_Room_reach S (o1.1 4 1) o1) fun o2 =>
  (l_Room_collect  S pm_fuel) 0 (0 : Int32) o2
set_option maxHeartbeats 4000000 in
set_option maxRecDepth 100000 in
theorem t_Room_collect_34 {p : Program} {l : Launch} {e : Env} {s : State} {m : MethodId} {args : Array Value} {below : List Frame} {meth : Method} {c : Code} {D : va_G} {ca : Nat → ClassId} {ad : Nat → Nat} {E : (Nat → Prop) → State → Heap → Prop} {S : Nat} (K : pm_ok p s m args meth c k_Room_collect 3 pmTs R_Room D vwCl (tyl ca) (shC S) ad E none) (rec : Nat → Int32 → pm_W → Option pm_W) (w' : pm_W) (h34 : ∀ (x1 : Int32) (w : pm_W), rec 0 x1 w = some w' → pm_wk p l e { frames := 2, cells := 0, slots := 0, locals := 44 } s m args below meth c D vwCl (shC S) ca ad 3 (none, w') 34 [(0, .ref (ad 5)), (1, .int x1)] [] w) (h98 : ∀ (x1 : Int32) (w : pm_W), rec 1 x1 w = some w' → pm_wk p l e { frames := 2, cells := 0, slots := 0, locals := 44 } s m args below meth c D vwCl (shC S) ca ad 3 (none, w') 98 [(0, .ref (ad 5)), (1, .int x1)] [] w) (h136 : ∀ (x1 : Int32) (w : pm_W), rec 2 x1 w = some w' → pm_wk p l e { frames := 2, cells := 0, slots := 0, locals := 44 } s m args below meth c D vwCl (shC S) ca ad 3 (none, w') 136 [(0, .ref (ad 5)), (1, .int x1)] [] w) (x1 : Int32) (w : pm_W) (hf : b_Room_collect_34  S rec x1 w = some w') : pm_wk p l e { frames := 2, cells := 0, slots := 0, locals := 44 } s m args below meth c D vwCl (shC S) ca ad 3 (none, w') 34 [(0, .ref (ad 5)), (1, .int x1)] [] w := by
  unfold b_Room_collect_34 at hf
  refine pm_iload_n K d_Room_collect_34 1 rfl rfl ?_
  refine pm_aload_n K d_Room_collect_35 0 rfl rfl ?_
  refine pm_getR K fc_5 (o := 5) rfl 11 rfl (by decide) tw_247 d_Room_collect_36 ?_
  refine pm_getIN K fc_4 (o := 4) rfl 3 rfl (by decide) tw_214 d_Room_collect_39 (v := w.1 4 3) rfl ?_
  refine pm_icmp_ge K d_Room_collect_42 96 (by decide) (fun c3 => ?_) (fun c3 => ?_)
  · have hf := pm_ift c3 hf
    refine pm_iconst (v := 0) K d_Room_collect_96 (by decide) ?_
    refine pm_istore_n (lv' := [(1, .int (0 : Int32)), (0, .ref (ad 5))]) K d_Room_collect_97 rfl (by decide) rfl ?_
    refine pm_sub (lv' := [(0, .ref (ad 5)), (1, .int (0 : Int32))]) [1, 0] rfl ?_
    exact h98 (0 : Int32) w hf
  · have hf := pm_iff c3 hf
    refine pm_iload_n K d_Room_collect_45 1 rfl rfl ?_
    refine pm_bipush (v := 30) K d_Room_collect_46 (by decide) ?_
    refine pm_icmp_ge K d_Room_collect_48 96 (by decide) (fun c4 => ?_) (fun c4 => ?_)
    · have hf := pm_ift c4 hf
      refine pm_iconst (v := 0) K d_Room_collect_96 (by decide) ?_
      refine pm_istore_n (lv' := [(1, .int (0 : Int32)), (0, .ref (ad 5))]) K d_Room_collect_97 rfl (by decide) rfl ?_
      refine pm_sub (lv' := [(0, .ref (ad 5)), (1, .int (0 : Int32))]) [1, 0] rfl ?_
      exact h98 (0 : Int32) w hf
    · have hf := pm_iff c4 hf
      refine pm_aload_n K d_Room_collect_51 0 rfl rfl ?_
      refine pm_aload_n K d_Room_collect_52 0 rfl rfl ?_
      refine pm_getR K fc_5 (o := 5) rfl 11 rfl (by decide) tw_247 d_Room_collect_53 ?_
      refine pm_getRN K fc_4 (o := 4) rfl 5 rfl (by decide) tw_217 d_Room_collect_56 ?_
      refine pm_iload_n K d_Room_collect_59 1 rfl rfl ?_
      obtain ⟨q5, hf⟩ := pm_bnd hf
      refine pm_iald K (o := 14) rfl rfl q5 d_Room_collect_60 (v := w.1 14 x1.toNatClampNeg) rfl ?_
      obtain ⟨o6, z6, hf⟩ := pm_bind hf
      refine pm_callV (As := [.int (w.1 14 x1.toNatClampNeg)]) (rest := []) (o := 5) K (c_Room_reach K.2.2.2.2.2.2.2.2.2.2.2.2 o6 (w.1 14 x1.toNatClampNeg) w z6) mi_Room_reach rfl rfl tw_371 tw_4 tw_370 rfl ⟨rfl, rfl, Nat.le_of_ble_eq_true rfl, Nat.le_of_ble_eq_true rfl⟩ rfl (Nat.le_of_ble_eq_true rfl) d_Room_collect_61 ?_
      refine pm_aload_n K d_Room_collect_64 0 rfl rfl ?_
      refine pm_aload_n K d_Room_collect_65 0 rfl rfl ?_
      refine pm_getR K fc_5 (o := 5) rfl 11 rfl (by decide) tw_247 d_Room_collect_66 ?_
      refine pm_getRN K fc_4 (o := 4) rfl 6 rfl (by decide) tw_219 d_Room_collect_69 ?_
      refine pm_iload_n K d_Room_collect_72 1 rfl rfl ?_
      obtain ⟨q7, hf⟩ := pm_bnd hf
      refine pm_iald K (o := 15) rfl rfl q7 d_Room_collect_73 (v := o6.1 15 x1.toNatClampNeg) rfl ?_
      obtain ⟨o8, z8, hf⟩ := pm_bind hf
      refine pm_callV (As := [.int (o6.1 15 x1.toNatClampNeg)]) (rest := []) (o := 5) K (c_Room_reach K.2.2.2.2.2.2.2.2.2.2.2.2 o8 (o6.1 15 x1.toNatClampNeg) o6 z8) mi_Room_reach rfl rfl tw_371 tw_4 tw_370 rfl ⟨rfl, rfl, Nat.le_of_ble_eq_true rfl, Nat.le_of_ble_eq_true rfl⟩ rfl (Nat.le_of_ble_eq_true rfl) d_Room_collect_74 ?_
      refine pm_aload_n K d_Room_collect_77 0 rfl rfl ?_
      refine pm_aload_n K d_Room_collect_78 0 rfl rfl ?_
      refine pm_getR K fc_5 (o := 5) rfl 11 rfl (by decide) tw_247 d_Room_collect_79 ?_
      refine pm_getRN K fc_4 (o := 4) rfl 7 rfl (by decide) tw_221 d_Room_collect_82 ?_
      refine pm_iload_n K d_Room_collect_85 1 rfl rfl ?_
      obtain ⟨q9, hf⟩ := pm_bnd hf
      refine pm_iald K (o := 16) rfl rfl q9 d_Room_collect_86 (v := o8.1 16 x1.toNatClampNeg) rfl ?_
      obtain ⟨o10, z10, hf⟩ := pm_bind hf
      refine pm_callV (As := [.int (o8.1 16 x1.toNatClampNeg)]) (rest := []) (o := 5) K (c_Room_reach K.2.2.2.2.2.2.2.2.2.2.2.2 o10 (o8.1 16 x1.toNatClampNeg) o8 z10) mi_Room_reach rfl rfl tw_371 tw_4 tw_370 rfl ⟨rfl, rfl, Nat.le_of_ble_eq_true rfl, Nat.le_of_ble_eq_true rfl⟩ rfl (Nat.le_of_ble_eq_true rfl) d_Room_collect_87 ?_
      refine pm_iinc (v := x1 + (1 : Int32)) (lv' := [(1, .int (x1 + (1 : Int32))), (0, .ref (ad 5))]) K d_Room_collect_90 1 rfl rfl (by decide) rfl ?_
      refine pm_goto K d_Room_collect_93 34 (by decide) ?_
      refine pm_sub (lv' := [(0, .ref (ad 5)), (1, .int (x1 + (1 : Int32)))]) [1, 0] rfl ?_
      exact h34 (x1 + (1 : Int32)) o10 hf
set_option maxHeartbeats 4000000 in
set_option maxRecDepth 100000 in
theorem t_Room_collect_98 {p : Program} {l : Launch} {e : Env} {s : State} {m : MethodId} {args : Array Value} {below : List Frame} {meth : Method} {c : Code} {D : va_G} {ca : Nat → ClassId} {ad : Nat → Nat} {E : (Nat → Prop) → State → Heap → Prop} {S : Nat} (K : pm_ok p s m args meth c k_Room_collect 3 pmTs R_Room D vwCl (tyl ca) (shC S) ad E none) (rec : Nat → Int32 → pm_W → Option pm_W) (w' : pm_W) (h34 : ∀ (x1 : Int32) (w : pm_W), rec 0 x1 w = some w' → pm_wk p l e { frames := 2, cells := 0, slots := 0, locals := 44 } s m args below meth c D vwCl (shC S) ca ad 3 (none, w') 34 [(0, .ref (ad 5)), (1, .int x1)] [] w) (h98 : ∀ (x1 : Int32) (w : pm_W), rec 1 x1 w = some w' → pm_wk p l e { frames := 2, cells := 0, slots := 0, locals := 44 } s m args below meth c D vwCl (shC S) ca ad 3 (none, w') 98 [(0, .ref (ad 5)), (1, .int x1)] [] w) (h136 : ∀ (x1 : Int32) (w : pm_W), rec 2 x1 w = some w' → pm_wk p l e { frames := 2, cells := 0, slots := 0, locals := 44 } s m args below meth c D vwCl (shC S) ca ad 3 (none, w') 136 [(0, .ref (ad 5)), (1, .int x1)] [] w) (x1 : Int32) (w : pm_W) (hf : b_Room_collect_98  S rec x1 w = some w') : pm_wk p l e { frames := 2, cells := 0, slots := 0, locals := 44 } s m args below meth c D vwCl (shC S) ca ad 3 (none, w') 98 [(0, .ref (ad 5)), (1, .int x1)] [] w := by
  unfold b_Room_collect_98 at hf
  refine pm_iload_n K d_Room_collect_98 1 rfl rfl ?_
  refine pm_aload_n K d_Room_collect_99 0 rfl rfl ?_
  refine pm_getR K fc_5 (o := 5) rfl 12 rfl (by decide) tw_248 d_Room_collect_100 ?_
  refine pm_getIN K fc_3 (o := 3) rfl 2 rfl (by decide) tw_197 d_Room_collect_103 (v := w.1 3 2) rfl ?_
  refine pm_icmp_ge K d_Room_collect_106 134 (by decide) (fun c11 => ?_) (fun c11 => ?_)
  · have hf := pm_ift c11 hf
    refine pm_iconst (v := 0) K d_Room_collect_134 (by decide) ?_
    refine pm_istore_n (lv' := [(1, .int (0 : Int32)), (0, .ref (ad 5))]) K d_Room_collect_135 rfl (by decide) rfl ?_
    refine pm_sub (lv' := [(0, .ref (ad 5)), (1, .int (0 : Int32))]) [1, 0] rfl ?_
    exact h136 (0 : Int32) w hf
  · have hf := pm_iff c11 hf
    refine pm_iload_n K d_Room_collect_109 1 rfl rfl ?_
    refine pm_bipush (v := 40) K d_Room_collect_110 (by decide) ?_
    refine pm_icmp_ge K d_Room_collect_112 134 (by decide) (fun c12 => ?_) (fun c12 => ?_)
    · have hf := pm_ift c12 hf
      refine pm_iconst (v := 0) K d_Room_collect_134 (by decide) ?_
      refine pm_istore_n (lv' := [(1, .int (0 : Int32)), (0, .ref (ad 5))]) K d_Room_collect_135 rfl (by decide) rfl ?_
      refine pm_sub (lv' := [(0, .ref (ad 5)), (1, .int (0 : Int32))]) [1, 0] rfl ?_
      exact h136 (0 : Int32) w hf
    · have hf := pm_iff c12 hf
      refine pm_aload_n K d_Room_collect_115 0 rfl rfl ?_
      refine pm_aload_n K d_Room_collect_116 0 rfl rfl ?_
      refine pm_getR K fc_5 (o := 5) rfl 12 rfl (by decide) tw_248 d_Room_collect_117 ?_
      refine pm_getRN K fc_3 (o := 3) rfl 1 rfl (by decide) tw_194 d_Room_collect_120 ?_
      refine pm_iload_n K d_Room_collect_123 1 rfl rfl ?_
      obtain ⟨q13, hf⟩ := pm_bnd hf
      refine pm_iald K (o := 12) rfl rfl q13 d_Room_collect_124 (v := w.1 12 x1.toNatClampNeg) rfl ?_
      obtain ⟨o14, z14, hf⟩ := pm_bind hf
      refine pm_callV (As := [.int (w.1 12 x1.toNatClampNeg)]) (rest := []) (o := 5) K (c_Room_reach K.2.2.2.2.2.2.2.2.2.2.2.2 o14 (w.1 12 x1.toNatClampNeg) w z14) mi_Room_reach rfl rfl tw_371 tw_4 tw_370 rfl ⟨rfl, rfl, Nat.le_of_ble_eq_true rfl, Nat.le_of_ble_eq_true rfl⟩ rfl (Nat.le_of_ble_eq_true rfl) d_Room_collect_125 ?_
      refine pm_iinc (v := x1 + (1 : Int32)) (lv' := [(1, .int (x1 + (1 : Int32))), (0, .ref (ad 5))]) K d_Room_collect_128 1 rfl rfl (by decide) rfl ?_
      refine pm_goto K d_Room_collect_131 98 (by decide) ?_
      refine pm_sub (lv' := [(0, .ref (ad 5)), (1, .int (x1 + (1 : Int32)))]) [1, 0] rfl ?_
      exact h98 (x1 + (1 : Int32)) o14 hf
set_option maxHeartbeats 4000000 in
set_option maxRecDepth 100000 in
theorem t_Room_collect_136 {p : Program} {l : Launch} {e : Env} {s : State} {m : MethodId} {args : Array Value} {below : List Frame} {meth : Method} {c : Code} {D : va_G} {ca : Nat → ClassId} {ad : Nat → Nat} {E : (Nat → Prop) → State → Heap → Prop} {S : Nat} (K : pm_ok p s m args meth c k_Room_collect 3 pmTs R_Room D vwCl (tyl ca) (shC S) ad E none) (rec : Nat → Int32 → pm_W → Option pm_W) (w' : pm_W) (h34 : ∀ (x1 : Int32) (w : pm_W), rec 0 x1 w = some w' → pm_wk p l e { frames := 2, cells := 0, slots := 0, locals := 44 } s m args below meth c D vwCl (shC S) ca ad 3 (none, w') 34 [(0, .ref (ad 5)), (1, .int x1)] [] w) (h98 : ∀ (x1 : Int32) (w : pm_W), rec 1 x1 w = some w' → pm_wk p l e { frames := 2, cells := 0, slots := 0, locals := 44 } s m args below meth c D vwCl (shC S) ca ad 3 (none, w') 98 [(0, .ref (ad 5)), (1, .int x1)] [] w) (h136 : ∀ (x1 : Int32) (w : pm_W), rec 2 x1 w = some w' → pm_wk p l e { frames := 2, cells := 0, slots := 0, locals := 44 } s m args below meth c D vwCl (shC S) ca ad 3 (none, w') 136 [(0, .ref (ad 5)), (1, .int x1)] [] w) (x1 : Int32) (w : pm_W) (hf : b_Room_collect_136  S rec x1 w = some w') : pm_wk p l e { frames := 2, cells := 0, slots := 0, locals := 44 } s m args below meth c D vwCl (shC S) ca ad 3 (none, w') 136 [(0, .ref (ad 5)), (1, .int x1)] [] w := by
  unfold b_Room_collect_136 at hf
  refine pm_iload_n K d_Room_collect_136 1 rfl rfl ?_
  refine pm_aload_n K d_Room_collect_137 0 rfl rfl ?_
  refine pm_getI K fc_5 (o := 5) rfl 8 rfl (by decide) tw_243 d_Room_collect_138 (v := w.1 5 8) rfl ?_
  refine pm_icmp_ge K d_Room_collect_141 207 (by decide) (fun c15 => ?_) (fun c15 => ?_)
  · have hf := pm_ift c15 hf
    refine pm_aload_n K d_Room_collect_207 0 rfl rfl ?_
    obtain ⟨o16, z16, hf⟩ := pm_bind hf
    refine pm_callV (As := []) (rest := []) (o := 5) K (c_Room_freeUnreached K.2.2.2.2.2.2.2.2.2.2.2.2 o16 w z16) mi_Room_freeUnreached rfl rfl tw_380 tw_5 tw_379 rfl ⟨rfl, rfl, Nat.le_of_ble_eq_true rfl, Nat.le_of_ble_eq_true rfl⟩ rfl (Nat.le_of_ble_eq_true rfl) d_Room_collect_208 ?_
    cases hf
    exact pm_vret K d_Room_collect_211
  · have hf := pm_iff c15 hf
    refine pm_iload_n K d_Room_collect_144 1 rfl rfl ?_
    refine pm_aload_n K d_Room_collect_145 0 rfl rfl ?_
    refine pm_getI K fc_5 (o := 5) rfl 1 rfl (by decide) tw_236 d_Room_collect_146 (v := w.1 5 1) rfl ?_
    refine pm_icmp_ge K d_Room_collect_149 207 (by decide) (fun c17 => ?_) (fun c17 => ?_)
    · have hf := pm_ift c17 hf
      refine pm_aload_n K d_Room_collect_207 0 rfl rfl ?_
      obtain ⟨o18, z18, hf⟩ := pm_bind hf
      refine pm_callV (As := []) (rest := []) (o := 5) K (c_Room_freeUnreached K.2.2.2.2.2.2.2.2.2.2.2.2 o18 w z18) mi_Room_freeUnreached rfl rfl tw_380 tw_5 tw_379 rfl ⟨rfl, rfl, Nat.le_of_ble_eq_true rfl, Nat.le_of_ble_eq_true rfl⟩ rfl (Nat.le_of_ble_eq_true rfl) d_Room_collect_208 ?_
      cases hf
      exact pm_vret K d_Room_collect_211
    · have hf := pm_iff c17 hf
      refine pm_aload_n K d_Room_collect_152 0 rfl rfl ?_
      refine pm_getR K fc_5 (o := 5) rfl 6 rfl (by decide) tw_241 d_Room_collect_153 ?_
      refine pm_iload_n K d_Room_collect_156 1 rfl rfl ?_
      obtain ⟨q19, hf⟩ := pm_bnd hf
      refine pm_iald K (o := 21) rfl rfl q19 d_Room_collect_157 (v := w.1 21 x1.toNatClampNeg) rfl ?_
      refine pm_istore_n (lv' := [(2, .int (w.1 21 x1.toNatClampNeg)), (0, .ref (ad 5)), (1, .int x1)]) K d_Room_collect_158 rfl (by decide) rfl ?_
      refine pm_iload_n K d_Room_collect_159 0 rfl rfl ?_
      refine pm_if_lt K d_Room_collect_160 201 (by decide) (fun c20 => ?_) (fun c20 => ?_)
      · have hf := pm_ift c20 hf
        refine pm_iinc (v := x1 + (1 : Int32)) (lv' := [(1, .int (x1 + (1 : Int32))), (2, .int (w.1 21 x1.toNatClampNeg)), (0, .ref (ad 5))]) K d_Room_collect_201 2 rfl rfl (by decide) rfl ?_
        refine pm_goto K d_Room_collect_204 136 (by decide) ?_
        refine pm_sub (lv' := [(0, .ref (ad 5)), (1, .int (x1 + (1 : Int32)))]) [2, 0] rfl ?_
        exact h136 (x1 + (1 : Int32)) w hf
      · have hf := pm_iff c20 hf
        refine pm_iload_n K d_Room_collect_163 0 rfl rfl ?_
        refine pm_aload_n K d_Room_collect_164 1 rfl rfl ?_
        refine pm_getI K fc_5 (o := 5) rfl 1 rfl (by decide) tw_236 d_Room_collect_165 (v := w.1 5 1) rfl ?_
        refine pm_icmp_ge K d_Room_collect_168 201 (by decide) (fun c21 => ?_) (fun c21 => ?_)
        · have hf := pm_ift c21 hf
          refine pm_iinc (v := x1 + (1 : Int32)) (lv' := [(1, .int (x1 + (1 : Int32))), (2, .int (w.1 21 x1.toNatClampNeg)), (0, .ref (ad 5))]) K d_Room_collect_201 2 rfl rfl (by decide) rfl ?_
          refine pm_goto K d_Room_collect_204 136 (by decide) ?_
          refine pm_sub (lv' := [(0, .ref (ad 5)), (1, .int (x1 + (1 : Int32)))]) [2, 0] rfl ?_
          exact h136 (x1 + (1 : Int32)) w hf
        · have hf := pm_iff c21 hf
          refine pm_aload_n K d_Room_collect_171 1 rfl rfl ?_
          refine pm_aload_n K d_Room_collect_172 1 rfl rfl ?_
          refine pm_getR K fc_5 (o := 5) rfl 2 rfl (by decide) tw_237 d_Room_collect_173 ?_
          refine pm_iload_n K d_Room_collect_176 0 rfl rfl ?_
          obtain ⟨q22, hf⟩ := pm_bnd hf
          refine pm_iald K (o := 17) rfl rfl q22 d_Room_collect_177 (v := w.1 17 (w.1 21 x1.toNatClampNeg).toNatClampNeg) rfl ?_
          obtain ⟨o23, z23, hf⟩ := pm_bind hf
          refine pm_callV (As := [.int (w.1 17 (w.1 21 x1.toNatClampNeg).toNatClampNeg)]) (rest := []) (o := 5) K (c_Room_reach K.2.2.2.2.2.2.2.2.2.2.2.2 o23 (w.1 17 (w.1 21 x1.toNatClampNeg).toNatClampNeg) w z23) mi_Room_reach rfl rfl tw_371 tw_4 tw_370 rfl ⟨rfl, rfl, Nat.le_of_ble_eq_true rfl, Nat.le_of_ble_eq_true rfl⟩ rfl (Nat.le_of_ble_eq_true rfl) d_Room_collect_178 ?_
          refine pm_aload_n K d_Room_collect_181 1 rfl rfl ?_
          refine pm_aload_n K d_Room_collect_182 1 rfl rfl ?_
          refine pm_getR K fc_5 (o := 5) rfl 3 rfl (by decide) tw_238 d_Room_collect_183 ?_
          refine pm_iload_n K d_Room_collect_186 0 rfl rfl ?_
          obtain ⟨q24, hf⟩ := pm_bnd hf
          refine pm_iald K (o := 18) rfl rfl q24 d_Room_collect_187 (v := o23.1 18 (w.1 21 x1.toNatClampNeg).toNatClampNeg) rfl ?_
          obtain ⟨o25, z25, hf⟩ := pm_bind hf
          refine pm_callV (As := [.int (o23.1 18 (w.1 21 x1.toNatClampNeg).toNatClampNeg)]) (rest := []) (o := 5) K (c_Room_reach K.2.2.2.2.2.2.2.2.2.2.2.2 o25 (o23.1 18 (w.1 21 x1.toNatClampNeg).toNatClampNeg) o23 z25) mi_Room_reach rfl rfl tw_371 tw_4 tw_370 rfl ⟨rfl, rfl, Nat.le_of_ble_eq_true rfl, Nat.le_of_ble_eq_true rfl⟩ rfl (Nat.le_of_ble_eq_true rfl) d_Room_collect_188 ?_
          refine pm_aload_n K d_Room_collect_191 1 rfl rfl ?_
          refine pm_aload_n K d_Room_collect_192 1 rfl rfl ?_
          refine pm_getR K fc_5 (o := 5) rfl 4 rfl (by decide) tw_239 d_Room_collect_193 ?_
          refine pm_iload_n K d_Room_collect_196 0 rfl rfl ?_
          obtain ⟨q26, hf⟩ := pm_bnd hf
          refine pm_iald K (o := 19) rfl rfl q26 d_Room_collect_197 (v := o25.1 19 (w.1 21 x1.toNatClampNeg).toNatClampNeg) rfl ?_
          obtain ⟨o27, z27, hf⟩ := pm_bind hf
          refine pm_callV (As := [.int (o25.1 19 (w.1 21 x1.toNatClampNeg).toNatClampNeg)]) (rest := []) (o := 5) K (c_Room_reach K.2.2.2.2.2.2.2.2.2.2.2.2 o27 (o25.1 19 (w.1 21 x1.toNatClampNeg).toNatClampNeg) o25 z27) mi_Room_reach rfl rfl tw_371 tw_4 tw_370 rfl ⟨rfl, rfl, Nat.le_of_ble_eq_true rfl, Nat.le_of_ble_eq_true rfl⟩ rfl (Nat.le_of_ble_eq_true rfl) d_Room_collect_198 ?_
          refine pm_iinc (v := x1 + (1 : Int32)) (lv' := [(1, .int (x1 + (1 : Int32))), (2, .int (w.1 21 x1.toNatClampNeg)), (0, .ref (ad 5))]) K d_Room_collect_201 2 rfl rfl (by decide) rfl ?_
          refine pm_goto K d_Room_collect_204 136 (by decide) ?_
          refine pm_sub (lv' := [(0, .ref (ad 5)), (1, .int (x1 + (1 : Int32)))]) [2, 0] rfl ?_
          exact h136 (x1 + (1 : Int32)) o27 hf
set_option maxHeartbeats 4000000 in
set_option maxRecDepth 100000 in
theorem a_Room_collect {p : Program} {l : Launch} {e : Env} {s : State} {m : MethodId} {args : Array Value} {below : List Frame} {meth : Method} {c : Code} {D : va_G} {ca : Nat → ClassId} {ad : Nat → Nat} {E : (Nat → Prop) → State → Heap → Prop} {S : Nat} (K : pm_ok p s m args meth c k_Room_collect 3 pmTs R_Room D vwCl (tyl ca) (shC S) ad E none) (w' : pm_W) : ∀ n : Nat, (∀ (x1 : Int32) (w : pm_W), l_Room_collect  S n 0 x1 w = some w' → pm_wk p l e { frames := 2, cells := 0, slots := 0, locals := 44 } s m args below meth c D vwCl (shC S) ca ad 3 (none, w') 34 [(0, .ref (ad 5)), (1, .int x1)] [] w) ∧ (∀ (x1 : Int32) (w : pm_W), l_Room_collect  S n 1 x1 w = some w' → pm_wk p l e { frames := 2, cells := 0, slots := 0, locals := 44 } s m args below meth c D vwCl (shC S) ca ad 3 (none, w') 98 [(0, .ref (ad 5)), (1, .int x1)] [] w) ∧ (∀ (x1 : Int32) (w : pm_W), l_Room_collect  S n 2 x1 w = some w' → pm_wk p l e { frames := 2, cells := 0, slots := 0, locals := 44 } s m args below meth c D vwCl (shC S) ca ad 3 (none, w') 136 [(0, .ref (ad 5)), (1, .int x1)] [] w) := by
  intro n
  induction n with
  | zero => exact ⟨fun _ _ hf => (by cases hf), fun _ _ hf => (by cases hf), fun _ _ hf => (by cases hf)⟩
  | succ n ih => exact ⟨fun x1 w hf => t_Room_collect_34 K (l_Room_collect S n) w' (ih.1) (ih.2.1) (ih.2.2) x1 w hf, fun x1 w hf => t_Room_collect_98 K (l_Room_collect S n) w' (ih.1) (ih.2.1) (ih.2.2) x1 w hf, fun x1 w hf => t_Room_collect_136 K (l_Room_collect S n) w' (ih.1) (ih.2.1) (ih.2.2) x1 w hf⟩
set_option maxHeartbeats 4000000 in
set_option maxRecDepth 100000 in
theorem t_Room_collect {p : Program} {l : Launch} {e : Env} {s : State} {m : MethodId} {args : Array Value} {below : List Frame} {meth : Method} {c : Code} {D : va_G} {ca : Nat → ClassId} {ad : Nat → Nat} {E : (Nat → Prop) → State → Heap → Prop} {S : Nat} (K : pm_ok p s m args meth c k_Room_collect 3 pmTs R_Room D vwCl (tyl ca) (shC S) ad E none) (w' : pm_W) (w : pm_W) (hf : f_Room_collect  S w = some w') : pm_wk p l e { frames := 2, cells := 0, slots := 0, locals := 44 } s m args below meth c D vwCl (shC S) ca ad 3 (none, w') 0 [(0, .ref (ad 5))] [] w := by
  unfold f_Room_collect at hf
  have h34 := (a_Room_collect (l := l) (e := e) (below := below) K  w' pm_fuel).1
  have h98 := (a_Room_collect (l := l) (e := e) (below := below) K  w' pm_fuel).2.1
  have h136 := (a_Room_collect (l := l) (e := e) (below := below) K  w' pm_fuel).2.2
  refine pm_aload_n K d_Room_collect_0 0 rfl rfl ?_
  refine pm_iconst (v := 0) K d_Room_collect_1 (by decide) ?_
  refine pm_putI K fc_5 (o := 5) (ty := .int) rfl 10 rfl (by decide) tw_245 rfl rfl rfl rfl d_Room_collect_2 ?_
  refine pm_aload_n K d_Room_collect_5 0 rfl rfl ?_
  refine pm_iconst (v := 0) K d_Room_collect_6 (by decide) ?_
  refine pm_putI K fc_5 (o := 5) (ty := .int) rfl 8 rfl (by decide) tw_243 rfl rfl rfl rfl d_Room_collect_7 ?_
  refine pm_aload_n K d_Room_collect_10 0 rfl rfl ?_
  refine pm_aload_n K d_Room_collect_11 0 rfl rfl ?_
  refine pm_getR K fc_5 (o := 5) rfl 11 rfl (by decide) tw_247 d_Room_collect_12 ?_
  refine pm_getIN K fc_4 (o := 4) rfl 0 rfl (by decide) tw_206 d_Room_collect_15 (v := w.1 4 0) rfl ?_
  obtain ⟨o1, z1, hf⟩ := pm_bind hf
  refine pm_callV (As := [.int (w.1 4 0)]) (rest := []) (o := 5) K (c_Room_reach K.2.2.2.2.2.2.2.2.2.2.2.2 o1 (w.1 4 0) (pm_setI (pm_setI w 5 10 (0 : Int32)) 5 8 (0 : Int32)) z1) mi_Room_reach rfl rfl tw_371 tw_4 tw_370 rfl ⟨rfl, rfl, Nat.le_of_ble_eq_true rfl, Nat.le_of_ble_eq_true rfl⟩ rfl (Nat.le_of_ble_eq_true rfl) d_Room_collect_18 ?_
  refine pm_aload_n K d_Room_collect_21 0 rfl rfl ?_
  refine pm_aload_n K d_Room_collect_22 0 rfl rfl ?_
  refine pm_getR K fc_5 (o := 5) rfl 11 rfl (by decide) tw_247 d_Room_collect_23 ?_
  refine pm_getIN K fc_4 (o := 4) rfl 1 rfl (by decide) tw_209 d_Room_collect_26 (v := o1.1 4 1) rfl ?_
  obtain ⟨o2, z2, hf⟩ := pm_bind hf
  refine pm_callV (As := [.int (o1.1 4 1)]) (rest := []) (o := 5) K (c_Room_reach K.2.2.2.2.2.2.2.2.2.2.2.2 o2 (o1.1 4 1) o1 z2) mi_Room_reach rfl rfl tw_371 tw_4 tw_370 rfl ⟨rfl, rfl, Nat.le_of_ble_eq_true rfl, Nat.le_of_ble_eq_true rfl⟩ rfl (Nat.le_of_ble_eq_true rfl) d_Room_collect_29 ?_
  refine pm_iconst (v := 0) K d_Room_collect_32 (by decide) ?_
  refine pm_istore_n (lv' := [(1, .int (0 : Int32)), (0, .ref (ad 5))]) K d_Room_collect_33 rfl (by decide) rfl ?_
  refine pm_sub (lv' := [(0, .ref (ad 5)), (1, .int (0 : Int32))]) [1, 0] rfl ?_
  exact h34 (0 : Int32) o2 hf
/-- CellLisp$Room.collect()V -/
theorem c_Room_collect {l : Launch} {D : va_G} {ca : Nat → ClassId} {ad : Nat → Nat} {E : (Nat → Prop) → State → Heap → Prop} {S : Nat} (hEc : pm_Ecl E) (w' : pm_W) (w : pm_W) (hf : f_Room_collect  S w = some w') : pm_Met l pmTs D vwCl (tyl ca) (shC S) ca ad E y_Room_collect k_Room_collect 3 none { frames := 2, cells := 0, slots := 0, locals := 44 } [.ref (ad 5)] w (none, w') :=
  pm_start pmTs_good hEc (by decide) (Nat.le_of_ble_eq_true rfl) (fun p e s m below meth c K => t_Room_collect K w'  w hf)
