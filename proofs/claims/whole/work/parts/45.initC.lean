def pm_0 : pm_W := (fun _ _ => 0, fun _ _ => 0)
theorem d_Text_init_0 : decode k_Text_init 0 = .ok (.aload_n 0, 1) := by decide +kernel
theorem d_Text_init_1 : decode k_Text_init 1 = .ok (.invokespecial 1, 3) := by decide +kernel
theorem d_Text_init_4 : decode k_Text_init 4 = .ok (.aload_n 0, 1) := by decide +kernel
theorem d_Text_init_5 : decode k_Text_init 5 = .ok (.bipush 120, 2) := by decide +kernel
theorem d_Text_init_7 : decode k_Text_init 7 = .ok (.newarray .char, 2) := by decide +kernel
theorem d_Text_init_9 : decode k_Text_init 9 = .ok (.putfield 9, 3) := by decide +kernel
theorem d_Text_init_12 : decode k_Text_init 12 = .ok (.return_, 1) := by decide +kernel
theorem mi_Text_init : pm_mi pmTs y_Text_init k_Text_init 1 none 0 := ⟨tw_117, tw_91, ⟨by decide, by decide⟩, by decide +kernel⟩
abbrev shT : List pm_E := [.inr (1, [.inl 1, .inr false]), .inl (1, .char, 120)]
set_option maxHeartbeats 4000000 in
set_option maxRecDepth 100000 in
theorem c_Text_init {l : Launch} {D : va_G} {ca : Nat → ClassId} {adK adV : Nat → Nat} (h0 : Nat) (sz : Nat) : Met l y_Text_init [Cond.code y_Text_init k_Text_init 1 none] { frames := 1, cells := 1, slots := 120, locals := 12 } (va_Pc (.ref h0 :: []) (pn_P D ca adK adV h0 1 [.null, .int 0] sz)) (pm_Qn D ca vwCl shT (fun ad : Nat → Nat => ∃ q0 : Nat, ad = fun o => [h0, q0].getD o 0) pm_0 (va_A [(h0, .inr (1, [.null, .int 0]))] sz)) 1 120 (va_A [(h0, .inr (1, [.null, .int 0]))] sz) := by
  refine pn_start (by decide) (Nat.le_of_ble_eq_true rfl) (fun p e s m below meth c hsz hin K => ?_)
  have hX := K.2.2.2.2.2.2.1
  refine pn_aload_n K d_Text_init_0 0 rfl rfl ?_
  refine pn_objInit K tw_118 tw_112 (Nat.le_of_ble_eq_true rfl) (Nat.le_of_ble_eq_true rfl) d_Text_init_1 ?_
  refine pn_aload_n K d_Text_init_4 0 rfl rfl ?_
  refine pn_bipush (v := 120) K d_Text_init_5 (by decide) ?_
  refine pn_newa (ty := .char) (t := 1) (N := 120) (a0 := (120, .inl (fun _ => 0))) K rfl hX.2.2.1 pn_uC rfl (fun _ => rfl) (by decide) (by decide) (by decide) (Nat.le_of_ble_eq_true rfl) (Nat.le_of_ble_eq_true rfl) d_Text_init_7 (fun q0 => ?_)
  refine pn_putF (ty := .array .char) (ws' := [(h0, .inr (1, [.ref q0, .int 0])), (q0, .inl (ca 1, 120, .inl (fun _ => 0)))]) K fc_1 0 rfl 0 (by decide) tw_119 rfl hin rfl (by decide +kernel) rfl rfl (Nat.le_of_ble_eq_true rfl) d_Text_init_9 rfl ?_
  exact pn_vret K (fun o => [h0, q0].getD o 0) ⟨q0, rfl⟩ rfl (Nat.le_of_ble_eq_true rfl) (Nat.le_of_ble_eq_true rfl) d_Text_init_12
theorem d_Output_init_0 : decode k_Output_init 0 = .ok (.aload_n 0, 1) := by decide +kernel
theorem d_Output_init_1 : decode k_Output_init 1 = .ok (.invokespecial 1, 3) := by decide +kernel
theorem d_Output_init_4 : decode k_Output_init 4 = .ok (.aload_n 0, 1) := by decide +kernel
theorem d_Output_init_5 : decode k_Output_init 5 = .ok (.sipush 200, 3) := by decide +kernel
theorem d_Output_init_8 : decode k_Output_init 8 = .ok (.newarray .char, 2) := by decide +kernel
theorem d_Output_init_10 : decode k_Output_init 10 = .ok (.putfield 9, 3) := by decide +kernel
theorem d_Output_init_13 : decode k_Output_init 13 = .ok (.return_, 1) := by decide +kernel
theorem mi_Output_init : pm_mi pmTs y_Output_init k_Output_init 1 none 0 := ⟨tw_127, tw_92, ⟨by decide, by decide⟩, by decide +kernel⟩
abbrev shO : List pm_E := [.inr (2, [.inl 1, .inr false]), .inl (1, .char, 200)]
set_option maxHeartbeats 4000000 in
set_option maxRecDepth 100000 in
theorem c_Output_init {l : Launch} {D : va_G} {ca : Nat → ClassId} {adK adV : Nat → Nat} (h0 : Nat) (sz : Nat) : Met l y_Output_init [Cond.code y_Output_init k_Output_init 1 none] { frames := 1, cells := 1, slots := 200, locals := 12 } (va_Pc (.ref h0 :: []) (pn_P D ca adK adV h0 2 [.null, .int 0] sz)) (pm_Qn D ca vwCl shO (fun ad : Nat → Nat => ∃ q0 : Nat, ad = fun o => [h0, q0].getD o 0) pm_0 (va_A [(h0, .inr (2, [.null, .int 0]))] sz)) 1 200 (va_A [(h0, .inr (2, [.null, .int 0]))] sz) := by
  refine pn_start (by decide) (Nat.le_of_ble_eq_true rfl) (fun p e s m below meth c hsz hin K => ?_)
  have hX := K.2.2.2.2.2.2.1
  refine pn_aload_n K d_Output_init_0 0 rfl rfl ?_
  refine pn_objInit K tw_128 tw_112 (Nat.le_of_ble_eq_true rfl) (Nat.le_of_ble_eq_true rfl) d_Output_init_1 ?_
  refine pn_aload_n K d_Output_init_4 0 rfl rfl ?_
  refine pn_sipush (v := 200) K d_Output_init_5 (by decide) ?_
  refine pn_newa (ty := .char) (t := 1) (N := 200) (a0 := (200, .inl (fun _ => 0))) K rfl hX.2.2.1 pn_uC rfl (fun _ => rfl) (by decide) (by decide) (by decide) (Nat.le_of_ble_eq_true rfl) (Nat.le_of_ble_eq_true rfl) d_Output_init_8 (fun q0 => ?_)
  refine pn_putF (ty := .array .char) (ws' := [(h0, .inr (2, [.ref q0, .int 0])), (q0, .inl (ca 1, 200, .inl (fun _ => 0)))]) K fc_2 0 rfl 0 (by decide) tw_129 rfl hin rfl (by decide +kernel) rfl rfl (Nat.le_of_ble_eq_true rfl) d_Output_init_10 rfl ?_
  exact pn_vret K (fun o => [h0, q0].getD o 0) ⟨q0, rfl⟩ rfl (Nat.le_of_ble_eq_true rfl) (Nat.le_of_ble_eq_true rfl) d_Output_init_13
theorem d_State_init_0 : decode k_State_init 0 = .ok (.aload_n 0, 1) := by decide +kernel
theorem d_State_init_1 : decode k_State_init 1 = .ok (.invokespecial 1, 3) := by decide +kernel
theorem d_State_init_4 : decode k_State_init 4 = .ok (.aload_n 0, 1) := by decide +kernel
theorem d_State_init_5 : decode k_State_init 5 = .ok (.iconst 2, 1) := by decide +kernel
theorem d_State_init_6 : decode k_State_init 6 = .ok (.putfield 9, 3) := by decide +kernel
theorem d_State_init_9 : decode k_State_init 9 = .ok (.aload_n 0, 1) := by decide +kernel
theorem d_State_init_10 : decode k_State_init 10 = .ok (.iconst 2, 1) := by decide +kernel
theorem d_State_init_11 : decode k_State_init 11 = .ok (.putfield 15, 3) := by decide +kernel
theorem d_State_init_14 : decode k_State_init 14 = .ok (.aload_n 0, 1) := by decide +kernel
theorem d_State_init_15 : decode k_State_init 15 = .ok (.bipush 30, 2) := by decide +kernel
theorem d_State_init_17 : decode k_State_init 17 = .ok (.newarray .int, 2) := by decide +kernel
theorem d_State_init_19 : decode k_State_init 19 = .ok (.putfield 18, 3) := by decide +kernel
theorem d_State_init_22 : decode k_State_init 22 = .ok (.aload_n 0, 1) := by decide +kernel
theorem d_State_init_23 : decode k_State_init 23 = .ok (.bipush 30, 2) := by decide +kernel
theorem d_State_init_25 : decode k_State_init 25 = .ok (.newarray .int, 2) := by decide +kernel
theorem d_State_init_27 : decode k_State_init 27 = .ok (.putfield 22, 3) := by decide +kernel
theorem d_State_init_30 : decode k_State_init 30 = .ok (.aload_n 0, 1) := by decide +kernel
theorem d_State_init_31 : decode k_State_init 31 = .ok (.bipush 30, 2) := by decide +kernel
theorem d_State_init_33 : decode k_State_init 33 = .ok (.newarray .int, 2) := by decide +kernel
theorem d_State_init_35 : decode k_State_init 35 = .ok (.putfield 25, 3) := by decide +kernel
theorem d_State_init_38 : decode k_State_init 38 = .ok (.aload_n 0, 1) := by decide +kernel
theorem d_State_init_39 : decode k_State_init 39 = .ok (.bipush 30, 2) := by decide +kernel
theorem d_State_init_41 : decode k_State_init 41 = .ok (.newarray .int, 2) := by decide +kernel
theorem d_State_init_43 : decode k_State_init 43 = .ok (.putfield 28, 3) := by decide +kernel
theorem d_State_init_46 : decode k_State_init 46 = .ok (.return_, 1) := by decide +kernel
theorem mi_State_init : pm_mi pmTs y_State_init k_State_init 1 none 0 := ⟨tw_202, tw_99, ⟨by decide, by decide⟩, by decide +kernel⟩
abbrev shS : List pm_E := [.inr (4, [.inr false, .inr false, .inr false, .inr false, .inl 1, .inl 2, .inl 3, .inl 4]), .inl (0, .int, 30), .inl (0, .int, 30), .inl (0, .int, 30), .inl (0, .int, 30)]
set_option maxHeartbeats 4000000 in
set_option maxRecDepth 100000 in
theorem c_State_init {l : Launch} {D : va_G} {ca : Nat → ClassId} {adK adV : Nat → Nat} (h0 : Nat) (sz : Nat) : Met l y_State_init [Cond.code y_State_init k_State_init 1 none] { frames := 1, cells := 4, slots := 120, locals := 12 } (va_Pc (.ref h0 :: []) (pn_P D ca adK adV h0 4 [.int 0, .int 0, .int 0, .int 0, .null, .null, .null, .null] sz)) (pm_Qn D ca vwCl shS (fun ad : Nat → Nat => ∃ q0 q1 q2 q3 : Nat, ad = fun o => [h0, q0, q1, q2, q3].getD o 0) (pm_setI (pm_setI pm_0 0 0 2) 0 1 2) (va_A [(h0, .inr (4, [.int 0, .int 0, .int 0, .int 0, .null, .null, .null, .null]))] sz)) 4 120 (va_A [(h0, .inr (4, [.int 0, .int 0, .int 0, .int 0, .null, .null, .null, .null]))] sz) := by
  refine pn_start (by decide) (Nat.le_of_ble_eq_true rfl) (fun p e s m below meth c hsz hin K => ?_)
  have hX := K.2.2.2.2.2.2.1
  refine pn_aload_n K d_State_init_0 0 rfl rfl ?_
  refine pn_objInit K tw_203 tw_112 (Nat.le_of_ble_eq_true rfl) (Nat.le_of_ble_eq_true rfl) d_State_init_1 ?_
  refine pn_aload_n K d_State_init_4 0 rfl rfl ?_
  refine pn_iconst (v := 2) K d_State_init_5 (by decide) ?_
  refine pn_put (ty := .int) (ws' := [(h0, .inr (4, [.int 2, .int 0, .int 0, .int 0, .null, .null, .null, .null]))]) K fc_4 0 rfl 0 (by decide) tw_204 rfl (by decide +kernel) rfl rfl (Nat.le_of_ble_eq_true rfl) d_State_init_6 rfl ?_
  refine pn_aload_n K d_State_init_9 0 rfl rfl ?_
  refine pn_iconst (v := 2) K d_State_init_10 (by decide) ?_
  refine pn_put (ty := .int) (ws' := [(h0, .inr (4, [.int 2, .int 2, .int 0, .int 0, .null, .null, .null, .null]))]) K fc_4 0 rfl 1 (by decide) tw_207 rfl (by decide +kernel) rfl rfl (Nat.le_of_ble_eq_true rfl) d_State_init_11 rfl ?_
  refine pn_aload_n K d_State_init_14 0 rfl rfl ?_
  refine pn_bipush (v := 30) K d_State_init_15 (by decide) ?_
  refine pn_newa (ty := .int) (t := 0) (N := 30) (a0 := (30, .inl (fun _ => 0))) K rfl hX.2.1 pn_uI rfl (fun _ => rfl) (by decide) (by decide) (by decide) (Nat.le_of_ble_eq_true rfl) (Nat.le_of_ble_eq_true rfl) d_State_init_17 (fun q0 => ?_)
  refine pn_putF (ty := .array .int) (ws' := [(h0, .inr (4, [.int 2, .int 2, .int 0, .int 0, .ref q0, .null, .null, .null])), (q0, .inl (ca 0, 30, .inl (fun _ => 0)))]) K fc_4 0 rfl 4 (by decide) tw_215 rfl hin rfl (by decide +kernel) rfl rfl (Nat.le_of_ble_eq_true rfl) d_State_init_19 rfl ?_
  refine pn_aload_n K d_State_init_22 0 rfl rfl ?_
  refine pn_bipush (v := 30) K d_State_init_23 (by decide) ?_
  refine pn_newa (ty := .int) (t := 0) (N := 30) (a0 := (30, .inl (fun _ => 0))) K rfl hX.2.1 pn_uI rfl (fun _ => rfl) (by decide) (by decide) (by decide) (Nat.le_of_ble_eq_true rfl) (Nat.le_of_ble_eq_true rfl) d_State_init_25 (fun q1 => ?_)
  refine pn_putF (ty := .array .int) (ws' := [(h0, .inr (4, [.int 2, .int 2, .int 0, .int 0, .ref q0, .ref q1, .null, .null])), (q0, .inl (ca 0, 30, .inl (fun _ => 0))), (q1, .inl (ca 0, 30, .inl (fun _ => 0)))]) K fc_4 0 rfl 5 (by decide) tw_216 rfl hin rfl (by decide +kernel) rfl rfl (Nat.le_of_ble_eq_true rfl) d_State_init_27 rfl ?_
  refine pn_aload_n K d_State_init_30 0 rfl rfl ?_
  refine pn_bipush (v := 30) K d_State_init_31 (by decide) ?_
  refine pn_newa (ty := .int) (t := 0) (N := 30) (a0 := (30, .inl (fun _ => 0))) K rfl hX.2.1 pn_uI rfl (fun _ => rfl) (by decide) (by decide) (by decide) (Nat.le_of_ble_eq_true rfl) (Nat.le_of_ble_eq_true rfl) d_State_init_33 (fun q2 => ?_)
  refine pn_putF (ty := .array .int) (ws' := [(h0, .inr (4, [.int 2, .int 2, .int 0, .int 0, .ref q0, .ref q1, .ref q2, .null])), (q0, .inl (ca 0, 30, .inl (fun _ => 0))), (q1, .inl (ca 0, 30, .inl (fun _ => 0))), (q2, .inl (ca 0, 30, .inl (fun _ => 0)))]) K fc_4 0 rfl 6 (by decide) tw_218 rfl hin rfl (by decide +kernel) rfl rfl (Nat.le_of_ble_eq_true rfl) d_State_init_35 rfl ?_
  refine pn_aload_n K d_State_init_38 0 rfl rfl ?_
  refine pn_bipush (v := 30) K d_State_init_39 (by decide) ?_
  refine pn_newa (ty := .int) (t := 0) (N := 30) (a0 := (30, .inl (fun _ => 0))) K rfl hX.2.1 pn_uI rfl (fun _ => rfl) (by decide) (by decide) (by decide) (Nat.le_of_ble_eq_true rfl) (Nat.le_of_ble_eq_true rfl) d_State_init_41 (fun q3 => ?_)
  refine pn_putF (ty := .array .int) (ws' := [(h0, .inr (4, [.int 2, .int 2, .int 0, .int 0, .ref q0, .ref q1, .ref q2, .ref q3])), (q0, .inl (ca 0, 30, .inl (fun _ => 0))), (q1, .inl (ca 0, 30, .inl (fun _ => 0))), (q2, .inl (ca 0, 30, .inl (fun _ => 0))), (q3, .inl (ca 0, 30, .inl (fun _ => 0)))]) K fc_4 0 rfl 7 (by decide) tw_220 rfl hin rfl (by decide +kernel) rfl rfl (Nat.le_of_ble_eq_true rfl) d_State_init_43 rfl ?_
  exact pn_vret K (fun o => [h0, q0, q1, q2, q3].getD o 0) ⟨q0, q1, q2, q3, rfl⟩ rfl (Nat.le_of_ble_eq_true rfl) (Nat.le_of_ble_eq_true rfl) d_State_init_46
theorem d_Reader_init_0 : decode k_Reader_init 0 = .ok (.aload_n 0, 1) := by decide +kernel
theorem d_Reader_init_1 : decode k_Reader_init 1 = .ok (.invokespecial 3, 3) := by decide +kernel
theorem d_Reader_init_4 : decode k_Reader_init 4 = .ok (.aload_n 0, 1) := by decide +kernel
theorem d_Reader_init_5 : decode k_Reader_init 5 = .ok (.iconst 2, 1) := by decide +kernel
theorem d_Reader_init_6 : decode k_Reader_init 6 = .ok (.putfield 11, 3) := by decide +kernel
theorem d_Reader_init_9 : decode k_Reader_init 9 = .ok (.aload_n 0, 1) := by decide +kernel
theorem d_Reader_init_10 : decode k_Reader_init 10 = .ok (.bipush 11, 2) := by decide +kernel
theorem d_Reader_init_12 : decode k_Reader_init 12 = .ok (.newarray .int, 2) := by decide +kernel
theorem d_Reader_init_14 : decode k_Reader_init 14 = .ok (.putfield 17, 3) := by decide +kernel
theorem d_Reader_init_17 : decode k_Reader_init 17 = .ok (.aload_n 0, 1) := by decide +kernel
theorem d_Reader_init_18 : decode k_Reader_init 18 = .ok (.bipush 11, 2) := by decide +kernel
theorem d_Reader_init_20 : decode k_Reader_init 20 = .ok (.newarray .int, 2) := by decide +kernel
theorem d_Reader_init_22 : decode k_Reader_init 22 = .ok (.putfield 21, 3) := by decide +kernel
theorem d_Reader_init_25 : decode k_Reader_init 25 = .ok (.aload_n 0, 1) := by decide +kernel
theorem d_Reader_init_26 : decode k_Reader_init 26 = .ok (.bipush 11, 2) := by decide +kernel
theorem d_Reader_init_28 : decode k_Reader_init 28 = .ok (.newarray .boolean, 2) := by decide +kernel
theorem d_Reader_init_30 : decode k_Reader_init 30 = .ok (.putfield 24, 3) := by decide +kernel
theorem d_Reader_init_33 : decode k_Reader_init 33 = .ok (.aload_n 0, 1) := by decide +kernel
theorem d_Reader_init_34 : decode k_Reader_init 34 = .ok (.aload_n 1, 1) := by decide +kernel
theorem d_Reader_init_35 : decode k_Reader_init 35 = .ok (.putfield 28, 3) := by decide +kernel
theorem d_Reader_init_38 : decode k_Reader_init 38 = .ok (.aload_n 0, 1) := by decide +kernel
theorem d_Reader_init_39 : decode k_Reader_init 39 = .ok (.aload_n 2, 1) := by decide +kernel
theorem d_Reader_init_40 : decode k_Reader_init 40 = .ok (.putfield 32, 3) := by decide +kernel
theorem d_Reader_init_43 : decode k_Reader_init 43 = .ok (.aload_n 0, 1) := by decide +kernel
theorem d_Reader_init_44 : decode k_Reader_init 44 = .ok (.aload_n 3, 1) := by decide +kernel
theorem d_Reader_init_45 : decode k_Reader_init 45 = .ok (.putfield 36, 3) := by decide +kernel
theorem d_Reader_init_48 : decode k_Reader_init 48 = .ok (.return_, 1) := by decide +kernel
theorem mi_Reader_init : pm_mi pmTs y_Reader_init k_Reader_init 4 none 3 := ⟨tw_255, tw_103, ⟨by decide, by decide⟩, by decide +kernel⟩
abbrev shD : List pm_E := [.inr (7, [.inl 4, .inl 5, .inl 6, .inr false, .inr false, .inr false, .inl 1, .inl 2, .inl 3]), .inl (0, .int, 11), .inl (0, .int, 11), .inl (2, .boolean, 11)]
set_option maxHeartbeats 4000000 in
set_option maxRecDepth 100000 in
theorem c_Reader_init {l : Launch} {D : va_G} {ca : Nat → ClassId} {adK adV : Nat → Nat} (h0 : Nat) (a1 : Nat) (a2 : Nat) (a3 : Nat) (sz : Nat) : Met l y_Reader_init [Cond.code y_Reader_init k_Reader_init 4 none] { frames := 1, cells := 3, slots := 33, locals := 12 } (va_Pc (.ref h0 :: [.ref a1, .ref a2, .ref a3]) (pn_P D ca adK adV h0 7 [.null, .null, .null, .int 0, .int 0, .int 0, .null, .null, .null] sz)) (pm_Qn D ca vwCl shD (fun ad : Nat → Nat => ∃ q0 q1 q2 : Nat, ad = fun o => [h0, q0, q1, q2, a1, a2, a3].getD o 0) (pm_setI pm_0 0 5 2) (va_A [(h0, .inr (7, [.null, .null, .null, .int 0, .int 0, .int 0, .null, .null, .null]))] sz)) 3 33 (va_A [(h0, .inr (7, [.null, .null, .null, .int 0, .int 0, .int 0, .null, .null, .null]))] sz) := by
  refine pn_start (by decide) (Nat.le_of_ble_eq_true rfl) (fun p e s m below meth c hsz hin K => ?_)
  have hX := K.2.2.2.2.2.2.1
  refine pn_aload_n K d_Reader_init_0 0 rfl rfl ?_
  refine pn_objInit K tw_256 tw_112 (Nat.le_of_ble_eq_true rfl) (Nat.le_of_ble_eq_true rfl) d_Reader_init_1 ?_
  refine pn_aload_n K d_Reader_init_4 0 rfl rfl ?_
  refine pn_iconst (v := 2) K d_Reader_init_5 (by decide) ?_
  refine pn_put (ty := .int) (ws' := [(h0, .inr (7, [.null, .null, .null, .int 0, .int 0, .int 2, .null, .null, .null]))]) K fc_7 0 rfl 5 (by decide) tw_262 rfl (by decide +kernel) rfl rfl (Nat.le_of_ble_eq_true rfl) d_Reader_init_6 rfl ?_
  refine pn_aload_n K d_Reader_init_9 0 rfl rfl ?_
  refine pn_bipush (v := 11) K d_Reader_init_10 (by decide) ?_
  refine pn_newa (ty := .int) (t := 0) (N := 11) (a0 := (11, .inl (fun _ => 0))) K rfl hX.2.1 pn_uI rfl (fun _ => rfl) (by decide) (by decide) (by decide) (Nat.le_of_ble_eq_true rfl) (Nat.le_of_ble_eq_true rfl) d_Reader_init_12 (fun q0 => ?_)
  refine pn_putF (ty := .array .int) (ws' := [(h0, .inr (7, [.null, .null, .null, .int 0, .int 0, .int 2, .ref q0, .null, .null])), (q0, .inl (ca 0, 11, .inl (fun _ => 0)))]) K fc_7 0 rfl 6 (by decide) tw_264 rfl hin rfl (by decide +kernel) rfl rfl (Nat.le_of_ble_eq_true rfl) d_Reader_init_14 rfl ?_
  refine pn_aload_n K d_Reader_init_17 0 rfl rfl ?_
  refine pn_bipush (v := 11) K d_Reader_init_18 (by decide) ?_
  refine pn_newa (ty := .int) (t := 0) (N := 11) (a0 := (11, .inl (fun _ => 0))) K rfl hX.2.1 pn_uI rfl (fun _ => rfl) (by decide) (by decide) (by decide) (Nat.le_of_ble_eq_true rfl) (Nat.le_of_ble_eq_true rfl) d_Reader_init_20 (fun q1 => ?_)
  refine pn_putF (ty := .array .int) (ws' := [(h0, .inr (7, [.null, .null, .null, .int 0, .int 0, .int 2, .ref q0, .ref q1, .null])), (q0, .inl (ca 0, 11, .inl (fun _ => 0))), (q1, .inl (ca 0, 11, .inl (fun _ => 0)))]) K fc_7 0 rfl 7 (by decide) tw_265 rfl hin rfl (by decide +kernel) rfl rfl (Nat.le_of_ble_eq_true rfl) d_Reader_init_22 rfl ?_
  refine pn_aload_n K d_Reader_init_25 0 rfl rfl ?_
  refine pn_bipush (v := 11) K d_Reader_init_26 (by decide) ?_
  refine pn_newa (ty := .boolean) (t := 2) (N := 11) (a0 := (11, .inl (fun _ => 0))) K rfl hX.2.2.2.1 pn_uZ rfl (fun _ => rfl) (by decide) (by decide) (by decide) (Nat.le_of_ble_eq_true rfl) (Nat.le_of_ble_eq_true rfl) d_Reader_init_28 (fun q2 => ?_)
  refine pn_putF (ty := .array .boolean) (ws' := [(h0, .inr (7, [.null, .null, .null, .int 0, .int 0, .int 2, .ref q0, .ref q1, .ref q2])), (q0, .inl (ca 0, 11, .inl (fun _ => 0))), (q1, .inl (ca 0, 11, .inl (fun _ => 0))), (q2, .inl (ca 2, 11, .inl (fun _ => 0)))]) K fc_7 0 rfl 8 (by decide) tw_266 rfl hin rfl (by decide +kernel) rfl rfl (Nat.le_of_ble_eq_true rfl) d_Reader_init_30 rfl ?_
  refine pn_aload_n K d_Reader_init_33 0 rfl rfl ?_
  refine pn_aload_n K d_Reader_init_34 1 rfl rfl ?_
  refine pn_putF (ty := .object "CellLisp$Text") (ws' := [(h0, .inr (7, [.ref a1, .null, .null, .int 0, .int 0, .int 2, .ref q0, .ref q1, .ref q2])), (q0, .inl (ca 0, 11, .inl (fun _ => 0))), (q1, .inl (ca 0, 11, .inl (fun _ => 0))), (q2, .inl (ca 2, 11, .inl (fun _ => 0)))]) K fc_7 0 rfl 0 (by decide) tw_257 rfl hin rfl (by decide +kernel) rfl rfl (Nat.le_of_ble_eq_true rfl) d_Reader_init_35 rfl ?_
  refine pn_aload_n K d_Reader_init_38 0 rfl rfl ?_
  refine pn_aload_n K d_Reader_init_39 2 rfl rfl ?_
  refine pn_putF (ty := .object "CellLisp$Symbols") (ws' := [(h0, .inr (7, [.ref a1, .ref a2, .null, .int 0, .int 0, .int 2, .ref q0, .ref q1, .ref q2])), (q0, .inl (ca 0, 11, .inl (fun _ => 0))), (q1, .inl (ca 0, 11, .inl (fun _ => 0))), (q2, .inl (ca 2, 11, .inl (fun _ => 0)))]) K fc_7 0 rfl 1 (by decide) tw_258 rfl hin rfl (by decide +kernel) rfl rfl (Nat.le_of_ble_eq_true rfl) d_Reader_init_40 rfl ?_
  refine pn_aload_n K d_Reader_init_43 0 rfl rfl ?_
  refine pn_aload_n K d_Reader_init_44 3 rfl rfl ?_
  refine pn_putF (ty := .object "CellLisp$Room") (ws' := [(h0, .inr (7, [.ref a1, .ref a2, .ref a3, .int 0, .int 0, .int 2, .ref q0, .ref q1, .ref q2])), (q0, .inl (ca 0, 11, .inl (fun _ => 0))), (q1, .inl (ca 0, 11, .inl (fun _ => 0))), (q2, .inl (ca 2, 11, .inl (fun _ => 0)))]) K fc_7 0 rfl 2 (by decide) tw_259 rfl hin rfl (by decide +kernel) rfl rfl (Nat.le_of_ble_eq_true rfl) d_Reader_init_45 rfl ?_
  exact pn_vret K (fun o => [h0, q0, q1, q2, a1, a2, a3].getD o 0) ⟨q0, q1, q2, rfl⟩ rfl (Nat.le_of_ble_eq_true rfl) (Nat.le_of_ble_eq_true rfl) d_Reader_init_48
theorem d_Printer_init_0 : decode k_Printer_init 0 = .ok (.aload_n 0, 1) := by decide +kernel
theorem d_Printer_init_1 : decode k_Printer_init 1 = .ok (.invokespecial 1, 3) := by decide +kernel
theorem d_Printer_init_4 : decode k_Printer_init 4 = .ok (.aload_n 0, 1) := by decide +kernel
theorem d_Printer_init_5 : decode k_Printer_init 5 = .ok (.aload_n 1, 1) := by decide +kernel
theorem d_Printer_init_6 : decode k_Printer_init 6 = .ok (.putfield 7, 3) := by decide +kernel
theorem d_Printer_init_9 : decode k_Printer_init 9 = .ok (.aload_n 0, 1) := by decide +kernel
theorem d_Printer_init_10 : decode k_Printer_init 10 = .ok (.aload_n 2, 1) := by decide +kernel
theorem d_Printer_init_11 : decode k_Printer_init 11 = .ok (.putfield 13, 3) := by decide +kernel
theorem d_Printer_init_14 : decode k_Printer_init 14 = .ok (.aload_n 0, 1) := by decide +kernel
theorem d_Printer_init_15 : decode k_Printer_init 15 = .ok (.aload_n 3, 1) := by decide +kernel
theorem d_Printer_init_16 : decode k_Printer_init 16 = .ok (.putfield 17, 3) := by decide +kernel
theorem d_Printer_init_19 : decode k_Printer_init 19 = .ok (.return_, 1) := by decide +kernel
theorem mi_Printer_init : pm_mi pmTs y_Printer_init k_Printer_init 4 none 3 := ⟨tw_271, tw_104, ⟨by decide, by decide⟩, by decide +kernel⟩
abbrev shP : List pm_E := [.inr (8, [.inl 1, .inl 2, .inl 3])]
set_option maxHeartbeats 4000000 in
set_option maxRecDepth 100000 in
theorem c_Printer_init {l : Launch} {D : va_G} {ca : Nat → ClassId} {adK adV : Nat → Nat} (h0 : Nat) (a1 : Nat) (a2 : Nat) (a3 : Nat) (sz : Nat) : Met l y_Printer_init [Cond.code y_Printer_init k_Printer_init 4 none] { frames := 1, cells := 0, slots := 0, locals := 12 } (va_Pc (.ref h0 :: [.ref a1, .ref a2, .ref a3]) (pn_P D ca adK adV h0 8 [.null, .null, .null] sz)) (pm_Qn D ca vwCl shP (fun ad : Nat → Nat => ad = fun o => [h0, a1, a2, a3].getD o 0) pm_0 (va_A [(h0, .inr (8, [.null, .null, .null]))] sz)) 0 0 (va_A [(h0, .inr (8, [.null, .null, .null]))] sz) := by
  refine pn_start (by decide) (Nat.le_of_ble_eq_true rfl) (fun p e s m below meth c hsz hin K => ?_)
  have hX := K.2.2.2.2.2.2.1
  refine pn_aload_n K d_Printer_init_0 0 rfl rfl ?_
  refine pn_objInit K tw_272 tw_112 (Nat.le_of_ble_eq_true rfl) (Nat.le_of_ble_eq_true rfl) d_Printer_init_1 ?_
  refine pn_aload_n K d_Printer_init_4 0 rfl rfl ?_
  refine pn_aload_n K d_Printer_init_5 1 rfl rfl ?_
  refine pn_putF (ty := .object "CellLisp$Output") (ws' := [(h0, .inr (8, [.ref a1, .null, .null]))]) K fc_8 0 rfl 0 (by decide) tw_273 rfl hin rfl (by decide +kernel) rfl rfl (Nat.le_of_ble_eq_true rfl) d_Printer_init_6 rfl ?_
  refine pn_aload_n K d_Printer_init_9 0 rfl rfl ?_
  refine pn_aload_n K d_Printer_init_10 2 rfl rfl ?_
  refine pn_putF (ty := .object "CellLisp$Symbols") (ws' := [(h0, .inr (8, [.ref a1, .ref a2, .null]))]) K fc_8 0 rfl 1 (by decide) tw_274 rfl hin rfl (by decide +kernel) rfl rfl (Nat.le_of_ble_eq_true rfl) d_Printer_init_11 rfl ?_
  refine pn_aload_n K d_Printer_init_14 0 rfl rfl ?_
  refine pn_aload_n K d_Printer_init_15 3 rfl rfl ?_
  refine pn_putF (ty := .object "CellLisp$Room") (ws' := [(h0, .inr (8, [.ref a1, .ref a2, .ref a3]))]) K fc_8 0 rfl 2 (by decide) tw_275 rfl hin rfl (by decide +kernel) rfl rfl (Nat.le_of_ble_eq_true rfl) d_Printer_init_16 rfl ?_
  exact pn_vret K (fun o => [h0, a1, a2, a3].getD o 0) rfl rfl (Nat.le_of_ble_eq_true rfl) (Nat.le_of_ble_eq_true rfl) d_Printer_init_19
theorem d_Machine_init_0 : decode k_Machine_init 0 = .ok (.aload_n 0, 1) := by decide +kernel
theorem d_Machine_init_1 : decode k_Machine_init 1 = .ok (.invokespecial 3, 3) := by decide +kernel
theorem d_Machine_init_4 : decode k_Machine_init 4 = .ok (.aload_n 0, 1) := by decide +kernel
theorem d_Machine_init_5 : decode k_Machine_init 5 = .ok (.aload_n 1, 1) := by decide +kernel
theorem d_Machine_init_6 : decode k_Machine_init 6 = .ok (.putfield 9, 3) := by decide +kernel
theorem d_Machine_init_9 : decode k_Machine_init 9 = .ok (.aload_n 0, 1) := by decide +kernel
theorem d_Machine_init_10 : decode k_Machine_init 10 = .ok (.aload_n 2, 1) := by decide +kernel
theorem d_Machine_init_11 : decode k_Machine_init 11 = .ok (.putfield 15, 3) := by decide +kernel
theorem d_Machine_init_14 : decode k_Machine_init 14 = .ok (.aload_n 0, 1) := by decide +kernel
theorem d_Machine_init_15 : decode k_Machine_init 15 = .ok (.aload_n 3, 1) := by decide +kernel
theorem d_Machine_init_16 : decode k_Machine_init 16 = .ok (.putfield 19, 3) := by decide +kernel
theorem d_Machine_init_19 : decode k_Machine_init 19 = .ok (.aload_n 0, 1) := by decide +kernel
theorem d_Machine_init_20 : decode k_Machine_init 20 = .ok (.aload 4, 2) := by decide +kernel
theorem d_Machine_init_22 : decode k_Machine_init 22 = .ok (.putfield 23, 3) := by decide +kernel
theorem d_Machine_init_25 : decode k_Machine_init 25 = .ok (.aload_n 0, 1) := by decide +kernel
theorem d_Machine_init_26 : decode k_Machine_init 26 = .ok (.aload 5, 2) := by decide +kernel
theorem d_Machine_init_28 : decode k_Machine_init 28 = .ok (.putfield 27, 3) := by decide +kernel
theorem d_Machine_init_31 : decode k_Machine_init 31 = .ok (.return_, 1) := by decide +kernel
theorem mi_Machine_init : pm_mi pmTs y_Machine_init k_Machine_init 6 none 5 := ⟨tw_278, tw_102, ⟨by decide, by decide⟩, by decide +kernel⟩
abbrev shN : List pm_E := [.inr (6, [.inl 1, .inl 2, .inl 3, .inl 4, .inl 5, .inr false, .inr false])]
set_option maxHeartbeats 4000000 in
set_option maxRecDepth 100000 in
theorem c_Machine_init {l : Launch} {D : va_G} {ca : Nat → ClassId} {adK adV : Nat → Nat} (h0 : Nat) (a1 : Nat) (a2 : Nat) (a3 : Nat) (a4 : Nat) (a5 : Nat) (sz : Nat) : Met l y_Machine_init [Cond.code y_Machine_init k_Machine_init 6 none] { frames := 1, cells := 0, slots := 0, locals := 12 } (va_Pc (.ref h0 :: [.ref a1, .ref a2, .ref a3, .ref a4, .ref a5]) (pn_P D ca adK adV h0 6 [.null, .null, .null, .null, .null, .int 0, .int 0] sz)) (pm_Qn D ca vwCl shN (fun ad : Nat → Nat => ad = fun o => [h0, a1, a2, a3, a4, a5].getD o 0) pm_0 (va_A [(h0, .inr (6, [.null, .null, .null, .null, .null, .int 0, .int 0]))] sz)) 0 0 (va_A [(h0, .inr (6, [.null, .null, .null, .null, .null, .int 0, .int 0]))] sz) := by
  refine pn_start (by decide) (Nat.le_of_ble_eq_true rfl) (fun p e s m below meth c hsz hin K => ?_)
  have hX := K.2.2.2.2.2.2.1
  refine pn_aload_n K d_Machine_init_0 0 rfl rfl ?_
  refine pn_objInit K tw_279 tw_112 (Nat.le_of_ble_eq_true rfl) (Nat.le_of_ble_eq_true rfl) d_Machine_init_1 ?_
  refine pn_aload_n K d_Machine_init_4 0 rfl rfl ?_
  refine pn_aload_n K d_Machine_init_5 1 rfl rfl ?_
  refine pn_putF (ty := .object "CellLisp$State") (ws' := [(h0, .inr (6, [.ref a1, .null, .null, .null, .null, .int 0, .int 0]))]) K fc_6 0 rfl 0 (by decide) tw_280 rfl hin rfl (by decide +kernel) rfl rfl (Nat.le_of_ble_eq_true rfl) d_Machine_init_6 rfl ?_
  refine pn_aload_n K d_Machine_init_9 0 rfl rfl ?_
  refine pn_aload_n K d_Machine_init_10 2 rfl rfl ?_
  refine pn_putF (ty := .object "CellLisp$Room") (ws' := [(h0, .inr (6, [.ref a1, .ref a2, .null, .null, .null, .int 0, .int 0]))]) K fc_6 0 rfl 1 (by decide) tw_281 rfl hin rfl (by decide +kernel) rfl rfl (Nat.le_of_ble_eq_true rfl) d_Machine_init_11 rfl ?_
  refine pn_aload_n K d_Machine_init_14 0 rfl rfl ?_
  refine pn_aload_n K d_Machine_init_15 3 rfl rfl ?_
  refine pn_putF (ty := .object "CellLisp$Symbols") (ws' := [(h0, .inr (6, [.ref a1, .ref a2, .ref a3, .null, .null, .int 0, .int 0]))]) K fc_6 0 rfl 2 (by decide) tw_282 rfl hin rfl (by decide +kernel) rfl rfl (Nat.le_of_ble_eq_true rfl) d_Machine_init_16 rfl ?_
  refine pn_aload_n K d_Machine_init_19 0 rfl rfl ?_
  refine pn_aload K d_Machine_init_20 4 rfl ?_
  refine pn_putF (ty := .object "CellLisp$Reader") (ws' := [(h0, .inr (6, [.ref a1, .ref a2, .ref a3, .ref a4, .null, .int 0, .int 0]))]) K fc_6 0 rfl 3 (by decide) tw_283 rfl hin rfl (by decide +kernel) rfl rfl (Nat.le_of_ble_eq_true rfl) d_Machine_init_22 rfl ?_
  refine pn_aload_n K d_Machine_init_25 0 rfl rfl ?_
  refine pn_aload K d_Machine_init_26 5 rfl ?_
  refine pn_putF (ty := .object "CellLisp$Printer") (ws' := [(h0, .inr (6, [.ref a1, .ref a2, .ref a3, .ref a4, .ref a5, .int 0, .int 0]))]) K fc_6 0 rfl 4 (by decide) tw_284 rfl hin rfl (by decide +kernel) rfl rfl (Nat.le_of_ble_eq_true rfl) d_Machine_init_28 rfl ?_
  exact pn_vret K (fun o => [h0, a1, a2, a3, a4, a5].getD o 0) rfl rfl (Nat.le_of_ble_eq_true rfl) (Nat.le_of_ble_eq_true rfl) d_Machine_init_31
