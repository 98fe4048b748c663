theorem d_Room_init_0 : decode k_Room_init 0 = .ok (.aload_n 0, 1) := by decide +kernel
theorem d_Room_init_1 : decode k_Room_init 1 = .ok (.invokespecial 1, 3) := by decide +kernel
theorem d_Room_init_4 : decode k_Room_init 4 = .ok (.aload_n 0, 1) := by decide +kernel
theorem d_Room_init_5 : decode k_Room_init 5 = .ok (.iload_n 1, 1) := by decide +kernel
theorem d_Room_init_6 : decode k_Room_init 6 = .ok (.putfield 7, 3) := by decide +kernel
theorem d_Room_init_9 : decode k_Room_init 9 = .ok (.aload_n 0, 1) := by decide +kernel
theorem d_Room_init_10 : decode k_Room_init 10 = .ok (.aload_n 2, 1) := by decide +kernel
theorem d_Room_init_11 : decode k_Room_init 11 = .ok (.putfield 13, 3) := by decide +kernel
theorem d_Room_init_14 : decode k_Room_init 14 = .ok (.aload_n 0, 1) := by decide +kernel
theorem d_Room_init_15 : decode k_Room_init 15 = .ok (.aload_n 3, 1) := by decide +kernel
theorem d_Room_init_16 : decode k_Room_init 16 = .ok (.putfield 17, 3) := by decide +kernel
theorem d_Room_init_19 : decode k_Room_init 19 = .ok (.aload_n 0, 1) := by decide +kernel
theorem d_Room_init_20 : decode k_Room_init 20 = .ok (.iconst 0, 1) := by decide +kernel
theorem d_Room_init_21 : decode k_Room_init 21 = .ok (.iload_n 1, 1) := by decide +kernel
theorem d_Room_init_22 : decode k_Room_init 22 = .ok (.iconst 2, 1) := by decide +kernel
theorem d_Room_init_23 : decode k_Room_init 23 = .ok (.idiv, 1) := by decide +kernel
theorem d_Room_init_24 : decode k_Room_init 24 = .ok (.invokestatic 21, 3) := by decide +kernel
theorem d_Room_init_27 : decode k_Room_init 27 = .ok (.putfield 27, 3) := by decide +kernel
theorem d_Room_init_30 : decode k_Room_init 30 = .ok (.aload_n 0, 1) := by decide +kernel
theorem d_Room_init_31 : decode k_Room_init 31 = .ok (.aload_n 0, 1) := by decide +kernel
theorem d_Room_init_32 : decode k_Room_init 32 = .ok (.getfield 27, 3) := by decide +kernel
theorem d_Room_init_35 : decode k_Room_init 35 = .ok (.newarray .int, 2) := by decide +kernel
theorem d_Room_init_37 : decode k_Room_init 37 = .ok (.putfield 30, 3) := by decide +kernel
theorem d_Room_init_40 : decode k_Room_init 40 = .ok (.aload_n 0, 1) := by decide +kernel
theorem d_Room_init_41 : decode k_Room_init 41 = .ok (.aload_n 0, 1) := by decide +kernel
theorem d_Room_init_42 : decode k_Room_init 42 = .ok (.getfield 27, 3) := by decide +kernel
theorem d_Room_init_45 : decode k_Room_init 45 = .ok (.newarray .int, 2) := by decide +kernel
theorem d_Room_init_47 : decode k_Room_init 47 = .ok (.putfield 34, 3) := by decide +kernel
theorem d_Room_init_50 : decode k_Room_init 50 = .ok (.aload_n 0, 1) := by decide +kernel
theorem d_Room_init_51 : decode k_Room_init 51 = .ok (.aload_n 0, 1) := by decide +kernel
theorem d_Room_init_52 : decode k_Room_init 52 = .ok (.getfield 27, 3) := by decide +kernel
theorem d_Room_init_55 : decode k_Room_init 55 = .ok (.newarray .int, 2) := by decide +kernel
theorem d_Room_init_57 : decode k_Room_init 57 = .ok (.putfield 37, 3) := by decide +kernel
theorem d_Room_init_60 : decode k_Room_init 60 = .ok (.aload_n 0, 1) := by decide +kernel
theorem d_Room_init_61 : decode k_Room_init 61 = .ok (.aload_n 0, 1) := by decide +kernel
theorem d_Room_init_62 : decode k_Room_init 62 = .ok (.getfield 27, 3) := by decide +kernel
theorem d_Room_init_65 : decode k_Room_init 65 = .ok (.newarray .boolean, 2) := by decide +kernel
theorem d_Room_init_67 : decode k_Room_init 67 = .ok (.putfield 40, 3) := by decide +kernel
theorem d_Room_init_70 : decode k_Room_init 70 = .ok (.aload_n 0, 1) := by decide +kernel
theorem d_Room_init_71 : decode k_Room_init 71 = .ok (.aload_n 0, 1) := by decide +kernel
theorem d_Room_init_72 : decode k_Room_init 72 = .ok (.getfield 27, 3) := by decide +kernel
theorem d_Room_init_75 : decode k_Room_init 75 = .ok (.newarray .int, 2) := by decide +kernel
theorem d_Room_init_77 : decode k_Room_init 77 = .ok (.putfield 44, 3) := by decide +kernel
theorem d_Room_init_80 : decode k_Room_init 80 = .ok (.aload_n 0, 1) := by decide +kernel
theorem d_Room_init_81 : decode k_Room_init 81 = .ok (.aload_n 0, 1) := by decide +kernel
theorem d_Room_init_82 : decode k_Room_init 82 = .ok (.getfield 27, 3) := by decide +kernel
theorem d_Room_init_85 : decode k_Room_init 85 = .ok (.newarray .int, 2) := by decide +kernel
theorem d_Room_init_87 : decode k_Room_init 87 = .ok (.putfield 47, 3) := by decide +kernel
theorem d_Room_init_90 : decode k_Room_init 90 = .ok (.iconst 0, 1) := by decide +kernel
theorem d_Room_init_91 : decode k_Room_init 91 = .ok (.istore 4, 2) := by decide +kernel
theorem d_Room_init_93 : decode k_Room_init 93 = .ok (.iload 4, 2) := by decide +kernel
theorem d_Room_init_95 : decode k_Room_init 95 = .ok (.aload_n 0, 1) := by decide +kernel
theorem d_Room_init_96 : decode k_Room_init 96 = .ok (.getfield 27, 3) := by decide +kernel
theorem d_Room_init_99 : decode k_Room_init 99 = .ok (.if_icmp .ge (18), 3) := by decide +kernel
theorem d_Room_init_102 : decode k_Room_init 102 = .ok (.aload_n 0, 1) := by decide +kernel
theorem d_Room_init_103 : decode k_Room_init 103 = .ok (.getfield 47, 3) := by decide +kernel
theorem d_Room_init_106 : decode k_Room_init 106 = .ok (.iload 4, 2) := by decide +kernel
theorem d_Room_init_108 : decode k_Room_init 108 = .ok (.iload 4, 2) := by decide +kernel
theorem d_Room_init_110 : decode k_Room_init 110 = .ok (.iastore, 1) := by decide +kernel
theorem d_Room_init_111 : decode k_Room_init 111 = .ok (.iinc 4 1, 3) := by decide +kernel
theorem d_Room_init_114 : decode k_Room_init 114 = .ok (.goto (-21), 3) := by decide +kernel
theorem d_Room_init_117 : decode k_Room_init 117 = .ok (.aload_n 0, 1) := by decide +kernel
theorem d_Room_init_118 : decode k_Room_init 118 = .ok (.aload_n 0, 1) := by decide +kernel
theorem d_Room_init_119 : decode k_Room_init 119 = .ok (.getfield 27, 3) := by decide +kernel
theorem d_Room_init_122 : decode k_Room_init 122 = .ok (.putfield 50, 3) := by decide +kernel
theorem d_Room_init_125 : decode k_Room_init 125 = .ok (.return_, 1) := by decide +kernel
theorem mi_Room_init : pm_mi pmTs y_Room_init k_Room_init 5 none 3 := ⟨tw_232, tw_100, ⟨by decide, by decide⟩, by decide +kernel⟩
abbrev shR (S : Nat) : List pm_E := [.inr (5, [.inr false, .inr false, .inl 1, .inl 2, .inl 3, .inl 4, .inl 5, .inl 6, .inr false, .inr false, .inr false, .inl 7, .inl 8]), .inl (0, .int, S), .inl (0, .int, S), .inl (0, .int, S), .inl (2, .boolean, S), .inl (0, .int, S), .inl (0, .int, S)]
def b_Room_init_93 (S : Nat) (rec : Nat → Int32 → pm_W → Option pm_W) (x4 : Int32) (w : pm_W) : Option pm_W :=
  if (w.1 0 1) ≤ x4 then
    some (pm_setI w 0 9 (w.1 0 1))
  else
    if x4 < 0 ∨ S ≤ x4.toNatClampNeg then none else
    rec 0 (x4 + (1 : Int32)) (pm_setI w 6 x4.toNatClampNeg x4)
def l_Room_init (S : Nat) : Nat → Nat → Int32 → pm_W → Option pm_W := pm_it (fun _ _ _ => none) (fun rec k x4 w => b_Room_init_93  S rec x4 w)
def f_Room_init (S : Nat) (w : pm_W) : Option pm_W :=
  (l_Room_init  S pm_fuel) 0 (0 : Int32) w
set_option maxHeartbeats 4000000 in
set_option maxRecDepth 100000 in
theorem t_Room_init_93 {p : Program} {l : Launch} {e : Env} {s : State} {m : MethodId} {args : Array Value} {below : List Frame} {meth : Method} {c : Code} {D : va_G} {ca : Nat → ClassId} {ad : Nat → Nat} {adK adV : Nat → Nat} {S : Nat} {kc ks : Nat} {A : Nat → Prop} (K : pg_ok p { frames := 1, cells := 6, slots := (6 * S), locals := 21 } s m args meth c k_Room_init 5 pmTs R_Room D vwCl (tyl ca) (shR S) ad (st_E adK adV) none kc ks A) {okad : (Nat → Nat) → Prop} (hok : okad ad) (hin : meth.name = "<init>") (rec : Nat → Int32 → pm_W → Option pm_W) (w' : pm_W) (h93 : ∀ (x4 : Int32) (w : pm_W), rec 0 x4 w = some w' → pg_wk p l e { frames := 1, cells := 6, slots := (6 * S), locals := 21 } s m args below meth c D vwCl (shR S) ca ad 5 kc ks A (MQ below (pm_Qn D ca vwCl (shR S) okad w' A) args s kc ks A) 93 [(0, .ref (ad 0)), (4, .int x4)] [] w) (x4 : Int32) (w : pm_W) (hf : b_Room_init_93  S rec x4 w = some w') : pg_wk p l e { frames := 1, cells := 6, slots := (6 * S), locals := 21 } s m args below meth c D vwCl (shR S) ca ad 5 kc ks A (MQ below (pm_Qn D ca vwCl (shR S) okad w' A) args s kc ks A) 93 [(0, .ref (ad 0)), (4, .int x4)] [] w := by
  unfold b_Room_init_93 at hf
  refine pg_iload K d_Room_init_93 1 rfl ?_
  refine pg_aload_n K d_Room_init_95 0 rfl rfl ?_
  refine pg_getI K fc_5 (o := 0) rfl 1 rfl (by decide) tw_236 d_Room_init_96 (v := w.1 0 1) rfl ?_
  refine pg_icmp_ge K d_Room_init_99 117 (by decide) (fun c1 => ?_) (fun c1 => ?_)
  · have hf := pm_ift c1 hf
    refine pg_aload_n K d_Room_init_117 0 rfl rfl ?_
    refine pg_aload_n K d_Room_init_118 0 rfl rfl ?_
    refine pg_getI K fc_5 (o := 0) rfl 1 rfl (by decide) tw_236 d_Room_init_119 (v := w.1 0 1) rfl ?_
    refine pg_putI K fc_5 (o := 0) (ty := .int) rfl 9 rfl (by decide) tw_244 rfl rfl rfl rfl d_Room_init_122 ?_
    cases hf
    exact pg_vret K hok d_Room_init_125
  · have hf := pm_iff c1 hf
    refine pg_aload_n K d_Room_init_102 0 rfl rfl ?_
    refine pg_getR K fc_5 (o := 0) rfl 7 rfl (by decide) tw_242 d_Room_init_103 ?_
    refine pg_iload K d_Room_init_106 1 rfl ?_
    refine pg_iload K d_Room_init_108 1 rfl ?_
    obtain ⟨q2, hf⟩ := pm_bnd hf
    refine pg_iast K (o := 6) rfl rfl q2 d_Room_init_110 ?_
    refine pg_iinc (v := x4 + (1 : Int32)) (lv' := [(4, .int (x4 + (1 : Int32))), (0, .ref (ad 0))]) K d_Room_init_111 1 rfl rfl (by decide) rfl ?_
    refine pg_goto K d_Room_init_114 93 (by decide) ?_
    refine pg_sub (lv' := [(0, .ref (ad 0)), (4, .int (x4 + (1 : Int32)))]) [1, 0] rfl ?_
    exact h93 (x4 + (1 : Int32)) (pm_setI w 6 x4.toNatClampNeg x4) hf
set_option maxHeartbeats 4000000 in
set_option maxRecDepth 100000 in
theorem a_Room_init {p : Program} {l : Launch} {e : Env} {s : State} {m : MethodId} {args : Array Value} {below : List Frame} {meth : Method} {c : Code} {D : va_G} {ca : Nat → ClassId} {ad : Nat → Nat} {adK adV : Nat → Nat} {S : Nat} {kc ks : Nat} {A : Nat → Prop} (K : pg_ok p { frames := 1, cells := 6, slots := (6 * S), locals := 21 } s m args meth c k_Room_init 5 pmTs R_Room D vwCl (tyl ca) (shR S) ad (st_E adK adV) none kc ks A) {okad : (Nat → Nat) → Prop} (hok : okad ad) (hin : meth.name = "<init>") (w' : pm_W) : ∀ n : Nat, (∀ (x4 : Int32) (w : pm_W), l_Room_init  S n 0 x4 w = some w' → pg_wk p l e { frames := 1, cells := 6, slots := (6 * S), locals := 21 } s m args below meth c D vwCl (shR S) ca ad 5 kc ks A (MQ below (pm_Qn D ca vwCl (shR S) okad w' A) args s kc ks A) 93 [(0, .ref (ad 0)), (4, .int x4)] [] w) := by
  intro n
  induction n with
  | zero => exact fun _ _ hf => (by cases hf)
  | succ n ih => exact fun x4 w hf => t_Room_init_93 K hok hin (l_Room_init S n) w' (ih) x4 w hf
set_option maxHeartbeats 4000000 in
set_option maxRecDepth 100000 in
theorem t_Room_init {p : Program} {l : Launch} {e : Env} {s : State} {m : MethodId} {args : Array Value} {below : List Frame} {meth : Method} {c : Code} {D : va_G} {ca : Nat → ClassId} {ad : Nat → Nat} {adK adV : Nat → Nat} {S : Nat} {kc ks : Nat} {A : Nat → Prop} (K : pg_ok p { frames := 1, cells := 6, slots := (6 * S), locals := 21 } s m args meth c k_Room_init 5 pmTs R_Room D vwCl (tyl ca) (shR S) ad (st_E adK adV) none kc ks A) {okad : (Nat → Nat) → Prop} (hok : okad ad) (hin : meth.name = "<init>") (w' : pm_W) (w : pm_W) (hf : f_Room_init  S w = some w') : pg_wk p l e { frames := 1, cells := 6, slots := (6 * S), locals := 21 } s m args below meth c D vwCl (shR S) ca ad 5 kc ks A (MQ below (pm_Qn D ca vwCl (shR S) okad w' A) args s kc ks A) 90 [(0, .ref (ad 0))] [] w := by
  unfold f_Room_init at hf
  have h93 := (a_Room_init (l := l) (e := e) (below := below) K hok hin w' pm_fuel)
  refine pg_iconst (v := 0) K d_Room_init_90 (by decide) ?_
  refine pg_istore (lv' := [(4, .int (0 : Int32)), (0, .ref (ad 0))]) K d_Room_init_91 (by decide) rfl ?_
  refine pg_sub (lv' := [(0, .ref (ad 0)), (4, .int (0 : Int32))]) [1, 0] rfl ?_
  exact h93 (0 : Int32) w hf

set_option maxHeartbeats 4000000 in
set_option maxRecDepth 100000 in
theorem c_Room_init {l : Launch} {D : va_G} {ca : Nat → ClassId} {adK adV : Nat → Nat} (S : Nat) (h0 : Nat) (x1 : Int32) (a2 : Nat) (a3 : Nat) (hS : (if (0 : Int32) < x1 / 2 then x1 / 2 else 0) = nI S) (hS2 : S ≤ 200) (w' : pm_W) (hf : f_Room_init S (pm_setI (pm_setI pm_0 0 0 x1) 0 1 (nI S)) = some w') (sz : Nat) : Met l y_Room_init [Cond.code y_Room_init k_Room_init 5 none] { frames := 1, cells := 6, slots := (6 * S), locals := 21 } (va_Pc (.ref h0 :: [.int x1, .ref a2, .ref a3]) (pn_P D ca adK adV h0 5 [.int 0, .int 0, .null, .null, .null, .null, .null, .null, .int 0, .int 0, .int 0, .null, .null] sz)) (pm_Qn D ca vwCl (shR S) (fun ad : Nat → Nat => ∃ q0 q1 q2 q3 q4 q5 : Nat, ad = fun o => [h0, q0, q1, q2, q3, q4, q5, a2, a3].getD o 0) w' (va_A [(h0, .inr (5, [.int 0, .int 0, .null, .null, .null, .null, .null, .null, .int 0, .int 0, .int 0, .null, .null]))] sz)) 6 (6 * S) (va_A [(h0, .inr (5, [.int 0, .int 0, .null, .null, .null, .null, .null, .null, .int 0, .int 0, .int 0, .null, .null]))] sz) := by
  refine pn_start (by decide) (Nat.le_of_ble_eq_true rfl) (fun p e s m below meth c hsz hin K => ?_)
  have hX := K.2.2.2.2.2.2.1
  refine pn_aload_n K d_Room_init_0 0 rfl rfl ?_
  refine pn_objInit K tw_233 tw_112 (Nat.le_of_ble_eq_true rfl) (Nat.le_of_ble_eq_true rfl) d_Room_init_1 ?_
  refine pn_aload_n K d_Room_init_4 0 rfl rfl ?_
  refine pn_iload_n K d_Room_init_5 1 rfl rfl ?_
  refine pn_putF (ty := .int) (ws' := [(h0, .inr (5, [.int x1, .int 0, .null, .null, .null, .null, .null, .null, .int 0, .int 0, .int 0, .null, .null]))]) K fc_5 0 rfl 0 (by decide) tw_235 rfl hin rfl (by decide +kernel) rfl rfl (Nat.le_of_ble_eq_true rfl) d_Room_init_6 rfl ?_
  refine pn_aload_n K d_Room_init_9 0 rfl rfl ?_
  refine pn_aload_n K d_Room_init_10 2 rfl rfl ?_
  refine pn_putF (ty := .object "CellLisp$State") (ws' := [(h0, .inr (5, [.int x1, .int 0, .null, .null, .null, .null, .null, .null, .int 0, .int 0, .int 0, .ref a2, .null]))]) K fc_5 0 rfl 11 (by decide) tw_247 rfl hin rfl (by decide +kernel) rfl rfl (Nat.le_of_ble_eq_true rfl) d_Room_init_11 rfl ?_
  refine pn_aload_n K d_Room_init_14 0 rfl rfl ?_
  refine pn_aload_n K d_Room_init_15 3 rfl rfl ?_
  refine pn_putF (ty := .object "CellLisp$Symbols") (ws' := [(h0, .inr (5, [.int x1, .int 0, .null, .null, .null, .null, .null, .null, .int 0, .int 0, .int 0, .ref a2, .ref a3]))]) K fc_5 0 rfl 12 (by decide) tw_248 rfl hin rfl (by decide +kernel) rfl rfl (Nat.le_of_ble_eq_true rfl) d_Room_init_16 rfl ?_
  refine pn_aload_n K d_Room_init_19 0 rfl rfl ?_
  refine pn_iconst (v := 0) K d_Room_init_20 (by decide) ?_
  refine pn_iload_n K d_Room_init_21 1 rfl rfl ?_
  refine pn_iconst (v := 2) K d_Room_init_22 (by decide) ?_
  refine pn_idiv K d_Room_init_23 (by decide) ?_
  refine pn_mmax K tw_234 tw_228 tw_101 tw_229 (Nat.le_of_ble_eq_true rfl) (Nat.le_of_ble_eq_true rfl) (Nat.zero_le _) (Nat.zero_le _) d_Room_init_24 ?_
  rw [hS]
  refine pn_putF (ty := .int) (ws' := [(h0, .inr (5, [.int x1, .int (nI S), .null, .null, .null, .null, .null, .null, .int 0, .int 0, .int 0, .ref a2, .ref a3]))]) K fc_5 0 rfl 1 (by decide) tw_236 rfl hin rfl (by decide +kernel) rfl rfl (Nat.le_of_ble_eq_true rfl) d_Room_init_27 rfl ?_
  refine pn_aload_n K d_Room_init_30 0 rfl rfl ?_
  refine pn_aload_n K d_Room_init_31 0 rfl rfl ?_
  refine pn_get (v := .int (nI S)) K fc_5 0 rfl 1 (by decide) rfl tw_236 d_Room_init_32 ?_
  refine pn_newa (ty := .int) (t := 0) (N := S) (a0 := (S, .inl (fun _ => 0))) K rfl hX.2.1 pn_uI rfl (fun _ => rfl) (nI_pos (by omega)) (nI_clamp (by omega)) (by show S * _ ≤ _; simp [componentBytes]; omega) (Nat.le_of_ble_eq_true rfl) (by show _ ≤ 6 * S; omega) d_Room_init_35 (fun q0 => ?_)
  refine pn_putF (ty := .array .int) (ws' := [(h0, .inr (5, [.int x1, .int (nI S), .ref q0, .null, .null, .null, .null, .null, .int 0, .int 0, .int 0, .ref a2, .ref a3])), (q0, .inl (ca 0, S, .inl (fun _ => 0)))]) K fc_5 0 rfl 2 (by decide) tw_237 rfl hin rfl (by decide +kernel) rfl rfl (Nat.le_of_ble_eq_true rfl) d_Room_init_37 rfl ?_
  refine pn_aload_n K d_Room_init_40 0 rfl rfl ?_
  refine pn_aload_n K d_Room_init_41 0 rfl rfl ?_
  refine pn_get (v := .int (nI S)) K fc_5 0 rfl 1 (by decide) rfl tw_236 d_Room_init_42 ?_
  refine pn_newa (ty := .int) (t := 0) (N := S) (a0 := (S, .inl (fun _ => 0))) K rfl hX.2.1 pn_uI rfl (fun _ => rfl) (nI_pos (by omega)) (nI_clamp (by omega)) (by show S * _ ≤ _; simp [componentBytes]; omega) (Nat.le_of_ble_eq_true rfl) (by show _ ≤ 6 * S; omega) d_Room_init_45 (fun q1 => ?_)
  refine pn_putF (ty := .array .int) (ws' := [(h0, .inr (5, [.int x1, .int (nI S), .ref q0, .ref q1, .null, .null, .null, .null, .int 0, .int 0, .int 0, .ref a2, .ref a3])), (q0, .inl (ca 0, S, .inl (fun _ => 0))), (q1, .inl (ca 0, S, .inl (fun _ => 0)))]) K fc_5 0 rfl 3 (by decide) tw_238 rfl hin rfl (by decide +kernel) rfl rfl (Nat.le_of_ble_eq_true rfl) d_Room_init_47 rfl ?_
  refine pn_aload_n K d_Room_init_50 0 rfl rfl ?_
  refine pn_aload_n K d_Room_init_51 0 rfl rfl ?_
  refine pn_get (v := .int (nI S)) K fc_5 0 rfl 1 (by decide) rfl tw_236 d_Room_init_52 ?_
  refine pn_newa (ty := .int) (t := 0) (N := S) (a0 := (S, .inl (fun _ => 0))) K rfl hX.2.1 pn_uI rfl (fun _ => rfl) (nI_pos (by omega)) (nI_clamp (by omega)) (by show S * _ ≤ _; simp [componentBytes]; omega) (Nat.le_of_ble_eq_true rfl) (by show _ ≤ 6 * S; omega) d_Room_init_55 (fun q2 => ?_)
  refine pn_putF (ty := .array .int) (ws' := [(h0, .inr (5, [.int x1, .int (nI S), .ref q0, .ref q1, .ref q2, .null, .null, .null, .int 0, .int 0, .int 0, .ref a2, .ref a3])), (q0, .inl (ca 0, S, .inl (fun _ => 0))), (q1, .inl (ca 0, S, .inl (fun _ => 0))), (q2, .inl (ca 0, S, .inl (fun _ => 0)))]) K fc_5 0 rfl 4 (by decide) tw_239 rfl hin rfl (by decide +kernel) rfl rfl (Nat.le_of_ble_eq_true rfl) d_Room_init_57 rfl ?_
  refine pn_aload_n K d_Room_init_60 0 rfl rfl ?_
  refine pn_aload_n K d_Room_init_61 0 rfl rfl ?_
  refine pn_get (v := .int (nI S)) K fc_5 0 rfl 1 (by decide) rfl tw_236 d_Room_init_62 ?_
  refine pn_newa (ty := .boolean) (t := 2) (N := S) (a0 := (S, .inl (fun _ => 0))) K rfl hX.2.2.2.1 pn_uZ rfl (fun _ => rfl) (nI_pos (by omega)) (nI_clamp (by omega)) (by show S * _ ≤ _; simp [componentBytes]; omega) (Nat.le_of_ble_eq_true rfl) (by show _ ≤ 6 * S; omega) d_Room_init_65 (fun q3 => ?_)
  refine pn_putF (ty := .array .boolean) (ws' := [(h0, .inr (5, [.int x1, .int (nI S), .ref q0, .ref q1, .ref q2, .ref q3, .null, .null, .int 0, .int 0, .int 0, .ref a2, .ref a3])), (q0, .inl (ca 0, S, .inl (fun _ => 0))), (q1, .inl (ca 0, S, .inl (fun _ => 0))), (q2, .inl (ca 0, S, .inl (fun _ => 0))), (q3, .inl (ca 2, S, .inl (fun _ => 0)))]) K fc_5 0 rfl 5 (by decide) tw_240 rfl hin rfl (by decide +kernel) rfl rfl (Nat.le_of_ble_eq_true rfl) d_Room_init_67 rfl ?_
  refine pn_aload_n K d_Room_init_70 0 rfl rfl ?_
  refine pn_aload_n K d_Room_init_71 0 rfl rfl ?_
  refine pn_get (v := .int (nI S)) K fc_5 0 rfl 1 (by decide) rfl tw_236 d_Room_init_72 ?_
  refine pn_newa (ty := .int) (t := 0) (N := S) (a0 := (S, .inl (fun _ => 0))) K rfl hX.2.1 pn_uI rfl (fun _ => rfl) (nI_pos (by omega)) (nI_clamp (by omega)) (by show S * _ ≤ _; simp [componentBytes]; omega) (Nat.le_of_ble_eq_true rfl) (by show _ ≤ 6 * S; omega) d_Room_init_75 (fun q4 => ?_)
  refine pn_putF (ty := .array .int) (ws' := [(h0, .inr (5, [.int x1, .int (nI S), .ref q0, .ref q1, .ref q2, .ref q3, .ref q4, .null, .int 0, .int 0, .int 0, .ref a2, .ref a3])), (q0, .inl (ca 0, S, .inl (fun _ => 0))), (q1, .inl (ca 0, S, .inl (fun _ => 0))), (q2, .inl (ca 0, S, .inl (fun _ => 0))), (q3, .inl (ca 2, S, .inl (fun _ => 0))), (q4, .inl (ca 0, S, .inl (fun _ => 0)))]) K fc_5 0 rfl 6 (by decide) tw_241 rfl hin rfl (by decide +kernel) rfl rfl (Nat.le_of_ble_eq_true rfl) d_Room_init_77 rfl ?_
  refine pn_aload_n K d_Room_init_80 0 rfl rfl ?_
  refine pn_aload_n K d_Room_init_81 0 rfl rfl ?_
  refine pn_get (v := .int (nI S)) K fc_5 0 rfl 1 (by decide) rfl tw_236 d_Room_init_82 ?_
  refine pn_newa (ty := .int) (t := 0) (N := S) (a0 := (S, .inl (fun _ => 0))) K rfl hX.2.1 pn_uI rfl (fun _ => rfl) (nI_pos (by omega)) (nI_clamp (by omega)) (by show S * _ ≤ _; simp [componentBytes]; omega) (Nat.le_of_ble_eq_true rfl) (by show _ ≤ 6 * S; omega) d_Room_init_85 (fun q5 => ?_)
  refine pn_putF (ty := .array .int) (ws' := [(h0, .inr (5, [.int x1, .int (nI S), .ref q0, .ref q1, .ref q2, .ref q3, .ref q4, .ref q5, .int 0, .int 0, .int 0, .ref a2, .ref a3])), (q0, .inl (ca 0, S, .inl (fun _ => 0))), (q1, .inl (ca 0, S, .inl (fun _ => 0))), (q2, .inl (ca 0, S, .inl (fun _ => 0))), (q3, .inl (ca 2, S, .inl (fun _ => 0))), (q4, .inl (ca 0, S, .inl (fun _ => 0))), (q5, .inl (ca 0, S, .inl (fun _ => 0)))]) K fc_5 0 rfl 7 (by decide) tw_242 rfl hin rfl (by decide +kernel) rfl rfl (Nat.le_of_ble_eq_true rfl) d_Room_init_87 rfl ?_
  refine pn_sub (lv' := [(0, .ref h0)]) [0] rfl ?_
  refine pn_pg (sh := (shR S)) (w := (pm_setI (pm_setI pm_0 0 0 x1) 0 1 (nI S))) (mc := 6) (ms := (6 * S)) (fun o => [h0, q0, q1, q2, q3, q4, q5, a2, a3].getD o 0) rfl (Nat.le_of_ble_eq_true rfl) (by omega) K.2.2.2.2.2.2.2.2.1 (fun hj hA => ?_)
  exact t_Room_init (ad := (fun o => [h0, q0, q1, q2, q3, q4, q5, a2, a3].getD o 0)) (kc := 6) (ks := (6 * S)) ⟨K.1, K.2.1, K.2.2.1, K.2.2.2.1, K.2.2.2.2.1, K.2.2.2.2.2.1, pmTs_good, K.2.2.2.2.2.2.2.1, ⟨hj, hA, Nat.le_refl _, Nat.le_refl _⟩, K.2.2.2.2.2.2.2.2.2.1, K.2.2.2.2.2.2.2.2.2.2.1, K.2.2.2.2.2.2.2.2.2.2.2, st_cl adK adV⟩ ⟨q0, q1, q2, q3, q4, q5, rfl⟩ hin w'  (pm_setI (pm_setI pm_0 0 0 x1) 0 1 (nI S)) hf
