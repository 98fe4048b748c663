section PGF
variable {p : Program} {l : Launch} {e : Env} {R : Room} {s : State} {m : MethodId} {args : Array Value} {below : List Frame} {meth : Method} {c : Code} {cc : ByteArray} {nL : Nat} {Ts : List Cond} {own : String}
variable {D : va_G} {cl : List vw_C} {tys : List (ClassId × FieldType)} {sh : List pm_E} {ca : Nat → ClassId} {ad : Nat → Nat} {E : (Nat → Prop) → State → Heap → Prop} {ret : Option FieldType} {kc ks : Nat} {A : Nat → Prop} {Q : State → Prop} {pc : Nat} {lv : List (Nat × Value)} {st : List Value} {w : pm_W}
theorem pg_putIF (K : pg_ok p R s m args meth c cc nL Ts own D cl tys sh ad E ret kc ks A) {C : String} {T : u_T} {N : Nat} {ty0 : Nat → FieldType} {ci o ix : Nat} {fk : List pm_F} (F : pm_cls Ts cl ci C T N ty0) {ty : FieldType} {v : Int32} (hs : sh[o]? = some (.inr (ci, fk))) (k : Nat) (hf : fk[k]? = some (.inr false)) (hk : k < N) (hw : Cond.fieldLink own ix (T k).1 (T k).2.1 (T k).2.2.1 ∈ Ts) (hfin : (T k).2.2.2 = true) (hin2 : meth.name = "<init>") (hdecl : (T k).1 = own) (hty : parseFieldDescriptor (T k).2.2.1 = some ty) (hn : narrow ty (.int v) = .int v) (hfit : fits ty (.int v) = true) (hd : decode cc pc = .ok (.putfield ix, 3))
    (kk : pg_wk p l e R s m args below meth c D cl sh ca ad nL kc ks A Q (pc + 3) lv st (pm_setI w o k v)) : pg_wk p l e R s m args below meth c D cl sh ca ad nL kc ks A Q pc lv (.int v :: .ref (ad o) :: st) w := fun H locs ls hl hP hS =>
  va_putF (D := D) (tys := tys) (ws := pm_cells sh ca ad w) (fs := fk.mapIdx (fun k f => pm_val ad w o k f)) K.1 K.2.1 K.2.2.2.2.1 F.2.1 ty0 F.2.2.1 F.2.2.2 K.2.2.2.1 K.2.2.2.2.2.2.2.1 hP (pg_D K) hS o (pm_get hs) F.1 k hk (K.2.2.2.2.1 _ hw) (fun _ h => h) hfin hin2 hdecl hty hn hfit (by rw [List.length_mapIdx]; exact (List.getElem?_eq_some_iff.mp hf).1) hd
    (fun H1 locs1 hP1 _ hS1 => kk H1 locs1 ls hl ((pm_setFI (ca := ca) (ad := ad) (w := w) (v := v) hs hf) ▸ hP1) hS1)
end PGF
theorem d_Symbols_init_0 : decode k_Symbols_init 0 = .ok (.aload_n 0, 1) := by decide +kernel
theorem d_Symbols_init_1 : decode k_Symbols_init 1 = .ok (.invokespecial 1, 3) := by decide +kernel
theorem d_Symbols_init_4 : decode k_Symbols_init 4 = .ok (.aload_n 0, 1) := by decide +kernel
theorem d_Symbols_init_5 : decode k_Symbols_init 5 = .ok (.bipush 40, 2) := by decide +kernel
theorem d_Symbols_init_7 : decode k_Symbols_init 7 = .ok (.newarray .long, 2) := by decide +kernel
theorem d_Symbols_init_9 : decode k_Symbols_init 9 = .ok (.putfield 9, 3) := by decide +kernel
theorem d_Symbols_init_12 : decode k_Symbols_init 12 = .ok (.aload_n 0, 1) := by decide +kernel
theorem d_Symbols_init_13 : decode k_Symbols_init 13 = .ok (.bipush 40, 2) := by decide +kernel
theorem d_Symbols_init_15 : decode k_Symbols_init 15 = .ok (.newarray .int, 2) := by decide +kernel
theorem d_Symbols_init_17 : decode k_Symbols_init 17 = .ok (.putfield 13, 3) := by decide +kernel
theorem d_Symbols_init_20 : decode k_Symbols_init 20 = .ok (.lconst 0, 1) := by decide +kernel
theorem d_Symbols_init_21 : decode k_Symbols_init 21 = .ok (.lstore_n 1, 1) := by decide +kernel
theorem d_Symbols_init_22 : decode k_Symbols_init 22 = .ok (.iconst 0, 1) := by decide +kernel
theorem d_Symbols_init_23 : decode k_Symbols_init 23 = .ok (.istore_n 3, 1) := by decide +kernel
theorem d_Symbols_init_24 : decode k_Symbols_init 24 = .ok (.iload_n 3, 1) := by decide +kernel
theorem d_Symbols_init_25 : decode k_Symbols_init 25 = .ok (.ldc 17, 2) := by decide +kernel
theorem d_Symbols_init_27 : decode k_Symbols_init 27 = .ok (.invokevirtual 19, 3) := by decide +kernel
theorem d_Symbols_init_30 : decode k_Symbols_init 30 = .ok (.if_icmp .ge (44), 3) := by decide +kernel
theorem d_Symbols_init_33 : decode k_Symbols_init 33 = .ok (.ldc 17, 2) := by decide +kernel
theorem d_Symbols_init_35 : decode k_Symbols_init 35 = .ok (.iload_n 3, 1) := by decide +kernel
theorem d_Symbols_init_36 : decode k_Symbols_init 36 = .ok (.invokevirtual 25, 3) := by decide +kernel
theorem d_Symbols_init_39 : decode k_Symbols_init 39 = .ok (.istore 4, 2) := by decide +kernel
theorem d_Symbols_init_41 : decode k_Symbols_init 41 = .ok (.iload 4, 2) := by decide +kernel
theorem d_Symbols_init_43 : decode k_Symbols_init 43 = .ok (.bipush 32, 2) := by decide +kernel
theorem d_Symbols_init_45 : decode k_Symbols_init 45 = .ok (.if_icmp .ne (14), 3) := by decide +kernel
theorem d_Symbols_init_48 : decode k_Symbols_init 48 = .ok (.aload_n 0, 1) := by decide +kernel
theorem d_Symbols_init_49 : decode k_Symbols_init 49 = .ok (.lload_n 1, 1) := by decide +kernel
theorem d_Symbols_init_50 : decode k_Symbols_init 50 = .ok (.invokevirtual 29, 3) := by decide +kernel
theorem d_Symbols_init_53 : decode k_Symbols_init 53 = .ok (.pop, 1) := by decide +kernel
theorem d_Symbols_init_54 : decode k_Symbols_init 54 = .ok (.lconst 0, 1) := by decide +kernel
theorem d_Symbols_init_55 : decode k_Symbols_init 55 = .ok (.lstore_n 1, 1) := by decide +kernel
theorem d_Symbols_init_56 : decode k_Symbols_init 56 = .ok (.goto (12), 3) := by decide +kernel
theorem d_Symbols_init_59 : decode k_Symbols_init 59 = .ok (.lload_n 1, 1) := by decide +kernel
theorem d_Symbols_init_60 : decode k_Symbols_init 60 = .ok (.bipush 8, 2) := by decide +kernel
theorem d_Symbols_init_62 : decode k_Symbols_init 62 = .ok (.lshl, 1) := by decide +kernel
theorem d_Symbols_init_63 : decode k_Symbols_init 63 = .ok (.iload 4, 2) := by decide +kernel
theorem d_Symbols_init_65 : decode k_Symbols_init 65 = .ok (.i2l, 1) := by decide +kernel
theorem d_Symbols_init_66 : decode k_Symbols_init 66 = .ok (.lor, 1) := by decide +kernel
theorem d_Symbols_init_67 : decode k_Symbols_init 67 = .ok (.lstore_n 1, 1) := by decide +kernel
theorem d_Symbols_init_68 : decode k_Symbols_init 68 = .ok (.iinc 3 1, 3) := by decide +kernel
theorem d_Symbols_init_71 : decode k_Symbols_init 71 = .ok (.goto (-47), 3) := by decide +kernel
theorem d_Symbols_init_74 : decode k_Symbols_init 74 = .ok (.iconst 0, 1) := by decide +kernel
theorem d_Symbols_init_75 : decode k_Symbols_init 75 = .ok (.istore_n 3, 1) := by decide +kernel
theorem d_Symbols_init_76 : decode k_Symbols_init 76 = .ok (.iload_n 3, 1) := by decide +kernel
theorem d_Symbols_init_77 : decode k_Symbols_init 77 = .ok (.bipush 9, 2) := by decide +kernel
theorem d_Symbols_init_79 : decode k_Symbols_init 79 = .ok (.if_icmp .gt (20), 3) := by decide +kernel
theorem d_Symbols_init_82 : decode k_Symbols_init 82 = .ok (.aload_n 0, 1) := by decide +kernel
theorem d_Symbols_init_83 : decode k_Symbols_init 83 = .ok (.getfield 13, 3) := by decide +kernel
theorem d_Symbols_init_86 : decode k_Symbols_init 86 = .ok (.iload_n 3, 1) := by decide +kernel
theorem d_Symbols_init_87 : decode k_Symbols_init 87 = .ok (.iconst 3, 1) := by decide +kernel
theorem d_Symbols_init_88 : decode k_Symbols_init 88 = .ok (.iload_n 3, 1) := by decide +kernel
theorem d_Symbols_init_89 : decode k_Symbols_init 89 = .ok (.invokestatic 35, 3) := by decide +kernel
theorem d_Symbols_init_92 : decode k_Symbols_init 92 = .ok (.iastore, 1) := by decide +kernel
theorem d_Symbols_init_93 : decode k_Symbols_init 93 = .ok (.iinc 3 1, 3) := by decide +kernel
theorem d_Symbols_init_96 : decode k_Symbols_init 96 = .ok (.goto (-20), 3) := by decide +kernel
theorem d_Symbols_init_99 : decode k_Symbols_init 99 = .ok (.aload_n 0, 1) := by decide +kernel
theorem d_Symbols_init_100 : decode k_Symbols_init 100 = .ok (.getfield 13, 3) := by decide +kernel
theorem d_Symbols_init_103 : decode k_Symbols_init 103 = .ok (.bipush 15, 2) := by decide +kernel
theorem d_Symbols_init_105 : decode k_Symbols_init 105 = .ok (.iconst 1, 1) := by decide +kernel
theorem d_Symbols_init_106 : decode k_Symbols_init 106 = .ok (.bipush 15, 2) := by decide +kernel
theorem d_Symbols_init_108 : decode k_Symbols_init 108 = .ok (.invokestatic 35, 3) := by decide +kernel
theorem d_Symbols_init_111 : decode k_Symbols_init 111 = .ok (.iastore, 1) := by decide +kernel
theorem d_Symbols_init_112 : decode k_Symbols_init 112 = .ok (.return_, 1) := by decide +kernel
theorem mi_Symbols_init : pm_mi pmTs y_Symbols_init k_Symbols_init 5 none 0 := ⟨tw_136, tw_93, ⟨by decide, by decide⟩, by decide +kernel⟩
abbrev shY : List pm_E := [.inr (3, [.inl 1, .inl 2, .inr false]), .inl (3, .long, 40), .inl (0, .int, 40)]
def b_Symbols_findY_2 (rec : Nat → Int64 → Int32 → pm_W → Option (Int32 × pm_W)) (y1 : Int64) (x3 : Int32) (w : pm_W) : Option (Int32 × pm_W) :=
  if (w.1 0 2) ≤ x3 then
    some ((-1 : Int32), w)
  else
    if (40 : Int32) ≤ x3 then
      some ((-1 : Int32), w)
    else
      if x3 < 0 ∨ 40 ≤ x3.toNatClampNeg then none else
      if (lg_cmp (w.2 1 x3.toNatClampNeg) y1) = 0 then
        some (x3, w)
      else
        rec 0 y1 (x3 + (1 : Int32)) w
def l_Symbols_findY : Nat → Nat → Int64 → Int32 → pm_W → Option (Int32 × pm_W) := pm_it (fun _ _ _ _ => none) (fun rec k y1 x3 w => b_Symbols_findY_2  rec y1 x3 w)
def f_Symbols_findY (y1 : Int64) (w : pm_W) : Option (Int32 × pm_W) :=
  (l_Symbols_findY  pm_fuel) 0 y1 (0 : Int32) w
set_option maxHeartbeats 4000000 in
set_option maxRecDepth 100000 in
theorem t_Symbols_findY_2 {p : Program} {l : Launch} {e : Env} {s : State} {m : MethodId} {args : Array Value} {below : List Frame} {meth : Method} {c : Code} {D : va_G} {ca : Nat → ClassId} {ad : Nat → Nat} {E : (Nat → Prop) → State → Heap → Prop} (K : pm_ok p s m args meth c k_Symbols_find 4 pmTs R_Symbols D vwCl (tyl ca) shY ad E (some .int)) (rec : Nat → Int64 → Int32 → pm_W → Option (Int32 × pm_W)) (r : Int32) (w' : pm_W) (h2 : ∀ (y1 : Int64) (x3 : Int32) (w : pm_W), rec 0 y1 x3 w = some (r, w') → pm_wk p l e { frames := 0, cells := 0, slots := 0, locals := 0 } s m args below meth c D vwCl shY ca ad 4 (some (.int r), w') 2 [(0, .ref (ad 0)), (1, .long y1), (3, .int x3)] [] w) (y1 : Int64) (x3 : Int32) (w : pm_W) (hf : b_Symbols_findY_2  rec y1 x3 w = some (r, w')) : pm_wk p l e { frames := 0, cells := 0, slots := 0, locals := 0 } s m args below meth c D vwCl shY ca ad 4 (some (.int r), w') 2 [(0, .ref (ad 0)), (1, .long y1), (3, .int x3)] [] w := by
  unfold b_Symbols_findY_2 at hf
  refine pm_iload_n K d_Symbols_find_2 2 rfl rfl ?_
  refine pm_aload_n K d_Symbols_find_3 0 rfl rfl ?_
  refine pm_getI K fc_3 (o := 0) rfl 2 rfl (by decide) tw_195 d_Symbols_find_4 (v := w.1 0 2) rfl ?_
  refine pm_icmp_ge K d_Symbols_find_7 35 (by decide) (fun c1 => ?_) (fun c1 => ?_)
  · have hf := pm_ift c1 hf
    refine pm_iconst (v := -1) K d_Symbols_find_35 (by decide) ?_
    cases hf
    exact pm_iret K d_Symbols_find_36
  · have hf := pm_iff c1 hf
    refine pm_iload_n K d_Symbols_find_10 2 rfl rfl ?_
    refine pm_bipush (v := 40) K d_Symbols_find_11 (by decide) ?_
    refine pm_icmp_ge K d_Symbols_find_13 35 (by decide) (fun c2 => ?_) (fun c2 => ?_)
    · have hf := pm_ift c2 hf
      refine pm_iconst (v := -1) K d_Symbols_find_35 (by decide) ?_
      cases hf
      exact pm_iret K d_Symbols_find_36
    · have hf := pm_iff c2 hf
      refine pm_aload_n K d_Symbols_find_16 0 rfl rfl ?_
      refine pm_getR K fc_3 (o := 0) rfl 0 rfl (by decide) tw_192 d_Symbols_find_17 ?_
      refine pm_iload_n K d_Symbols_find_20 2 rfl rfl ?_
      obtain ⟨q3, hf⟩ := pm_bnd hf
      refine pm_lald K (o := 1) rfl rfl q3 d_Symbols_find_21 (v := w.2 1 x3.toNatClampNeg) rfl ?_
      refine pm_lload_n K d_Symbols_find_22 1 rfl rfl ?_
      refine pm_lcmp K d_Symbols_find_23 ?_
      refine pm_if_ne K d_Symbols_find_24 29 (by decide) (fun c4 => ?_) (fun c4 => ?_)
      · have hf := pm_iff c4 hf
        refine pm_iinc (v := x3 + (1 : Int32)) (lv' := [(3, .int (x3 + (1 : Int32))), (0, .ref (ad 0)), (1, .long y1)]) K d_Symbols_find_29 2 rfl rfl (by decide) rfl ?_
        refine pm_goto K d_Symbols_find_32 2 (by decide) ?_
        refine pm_sub (lv' := [(0, .ref (ad 0)), (1, .long y1), (3, .int (x3 + (1 : Int32)))]) [1, 2, 0] rfl ?_
        exact h2 y1 (x3 + (1 : Int32)) w hf
      · have hf := pm_ift c4 hf
        refine pm_iload_n K d_Symbols_find_27 2 rfl rfl ?_
        cases hf
        exact pm_iret K d_Symbols_find_28
set_option maxHeartbeats 4000000 in
set_option maxRecDepth 100000 in
theorem a_Symbols_findY {p : Program} {l : Launch} {e : Env} {s : State} {m : MethodId} {args : Array Value} {below : List Frame} {meth : Method} {c : Code} {D : va_G} {ca : Nat → ClassId} {ad : Nat → Nat} {E : (Nat → Prop) → State → Heap → Prop} (K : pm_ok p s m args meth c k_Symbols_find 4 pmTs R_Symbols D vwCl (tyl ca) shY ad E (some .int)) (r : Int32) (w' : pm_W) : ∀ n : Nat, (∀ (y1 : Int64) (x3 : Int32) (w : pm_W), l_Symbols_findY  n 0 y1 x3 w = some (r, w') → pm_wk p l e { frames := 0, cells := 0, slots := 0, locals := 0 } s m args below meth c D vwCl shY ca ad 4 (some (.int r), w') 2 [(0, .ref (ad 0)), (1, .long y1), (3, .int x3)] [] w) := by
  intro n
  induction n with
  | zero => exact fun _ _ _ hf => (by cases hf)
  | succ n ih => exact fun y1 x3 w hf => t_Symbols_findY_2 K (l_Symbols_findY n) r w' (ih) y1 x3 w hf
set_option maxHeartbeats 4000000 in
set_option maxRecDepth 100000 in
theorem t_Symbols_findY {p : Program} {l : Launch} {e : Env} {s : State} {m : MethodId} {args : Array Value} {below : List Frame} {meth : Method} {c : Code} {D : va_G} {ca : Nat → ClassId} {ad : Nat → Nat} {E : (Nat → Prop) → State → Heap → Prop} (K : pm_ok p s m args meth c k_Symbols_find 4 pmTs R_Symbols D vwCl (tyl ca) shY ad E (some .int)) (r : Int32) (w' : pm_W) (y1 : Int64) (w : pm_W) (hf : f_Symbols_findY  y1 w = some (r, w')) : pm_wk p l e { frames := 0, cells := 0, slots := 0, locals := 0 } s m args below meth c D vwCl shY ca ad 4 (some (.int r), w') 0 [(0, .ref (ad 0)), (1, .long y1)] [] w := by
  unfold f_Symbols_findY at hf
  have h2 := (a_Symbols_findY (l := l) (e := e) (below := below) K  r w' pm_fuel)
  refine pm_iconst (v := 0) K d_Symbols_find_0 (by decide) ?_
  refine pm_istore_n (lv' := [(3, .int (0 : Int32)), (0, .ref (ad 0)), (1, .long y1)]) K d_Symbols_find_1 rfl (by decide) rfl ?_
  refine pm_sub (lv' := [(0, .ref (ad 0)), (1, .long y1), (3, .int (0 : Int32))]) [1, 2, 0] rfl ?_
  exact h2 y1 (0 : Int32) w hf
/-- CellLisp$Symbols.find(J)I -/
theorem c_Symbols_findY {l : Launch} {D : va_G} {ca : Nat → ClassId} {ad : Nat → Nat} {E : (Nat → Prop) → State → Heap → Prop} (hEc : pm_Ecl E) (r : Int32) (w' : pm_W) (y1 : Int64) (w : pm_W) (hf : f_Symbols_findY  y1 w = some (r, w')) : pm_Met l pmTs D vwCl (tyl ca) shY ca ad E y_Symbols_find k_Symbols_find 4 (some .int) { frames := 0, cells := 0, slots := 0, locals := 0 } [.ref (ad 0), .long y1] w (some (.int r), w') :=
  pm_start pmTs_good hEc (by decide) (Nat.le_of_ble_eq_true rfl) (fun p e s m below meth c K => t_Symbols_findY K r w' y1 w hf)

def f_Symbols_learnY (y1 : Int64) (w : pm_W) : Option (Int32 × pm_W) :=
  Option.bind (f_Symbols_findY y1 w) fun o1 =>
  if o1.1 < 0 then
    if (o1.2.1 0 2) < (40 : Int32) then
      if (o1.2.1 0 2) < 0 ∨ 40 ≤ (o1.2.1 0 2).toNatClampNeg then none else
      if (o1.2.1 0 2) < 0 ∨ 40 ≤ (o1.2.1 0 2).toNatClampNeg then none else
      some ((1 : Int32), pm_setI (pm_setI (pm_setJ o1.2 1 (o1.2.1 0 2).toNatClampNeg y1) 2 (o1.2.1 0 2).toNatClampNeg (6 : Int32)) 0 2 ((o1.2.1 0 2) + (1 : Int32)))
    else
      some ((0 : Int32), o1.2)
  else
    some ((1 : Int32), o1.2)
set_option maxHeartbeats 4000000 in
set_option maxRecDepth 100000 in
theorem t_Symbols_learnY {p : Program} {l : Launch} {e : Env} {s : State} {m : MethodId} {args : Array Value} {below : List Frame} {meth : Method} {c : Code} {D : va_G} {ca : Nat → ClassId} {ad : Nat → Nat} {E : (Nat → Prop) → State → Heap → Prop} (K : pm_ok p s m args meth c k_Symbols_learn 3 pmTs R_Symbols D vwCl (tyl ca) shY ad E (some .boolean)) (r : Int32) (w' : pm_W) (y1 : Int64) (w : pm_W) (hf : f_Symbols_learnY  y1 w = some (r, w')) : pm_wk p l e { frames := 1, cells := 0, slots := 0, locals := 23 } s m args below meth c D vwCl shY ca ad 3 (some (.int r), w') 0 [(0, .ref (ad 0)), (1, .long y1)] [] w := by
  unfold f_Symbols_learnY at hf
  refine pm_aload_n K d_Symbols_learn_0 0 rfl rfl ?_
  refine pm_lload_n K d_Symbols_learn_1 1 rfl rfl ?_
  obtain ⟨o1, z1, hf⟩ := pm_bind hf
  refine pm_callV (As := [.long y1]) (rest := []) (o := 0) K (c_Symbols_findY K.2.2.2.2.2.2.2.2.2.2.2.2 o1.1 o1.2 y1 w z1) mi_Symbols_find rfl rfl tw_186 tw_187 tw_185 rfl ⟨rfl, rfl, Nat.le_of_ble_eq_true rfl, Nat.le_of_ble_eq_true rfl⟩ rfl (Nat.le_of_ble_eq_true rfl) d_Symbols_learn_2 ?_
  refine pm_if_lt K d_Symbols_learn_5 10 (by decide) (fun c2 => ?_) (fun c2 => ?_)
  · have hf := pm_ift c2 hf
    refine pm_aload_n K d_Symbols_learn_10 0 rfl rfl ?_
    refine pm_getI K fc_3 (o := 0) rfl 2 rfl (by decide) tw_195 d_Symbols_learn_11 (v := o1.2.1 0 2) rfl ?_
    refine pm_bipush (v := 40) K d_Symbols_learn_14 (by decide) ?_
    refine pm_icmp_lt K d_Symbols_learn_16 21 (by decide) (fun c3 => ?_) (fun c3 => ?_)
    · have hf := pm_ift c3 hf
      refine pm_aload_n K d_Symbols_learn_21 0 rfl rfl ?_
      refine pm_getR K fc_3 (o := 0) rfl 0 rfl (by decide) tw_192 d_Symbols_learn_22 ?_
      refine pm_aload_n K d_Symbols_learn_25 0 rfl rfl ?_
      refine pm_getI K fc_3 (o := 0) rfl 2 rfl (by decide) tw_195 d_Symbols_learn_26 (v := o1.2.1 0 2) rfl ?_
      refine pm_lload_n K d_Symbols_learn_29 1 rfl rfl ?_
      obtain ⟨q4, hf⟩ := pm_bnd hf
      refine pm_last K (o := 1) rfl rfl q4 d_Symbols_learn_30 ?_
      refine pm_aload_n K d_Symbols_learn_31 0 rfl rfl ?_
      refine pm_getR K fc_3 (o := 0) rfl 1 rfl (by decide) tw_193 d_Symbols_learn_32 ?_
      refine pm_aload_n K d_Symbols_learn_35 0 rfl rfl ?_
      refine pm_getI K fc_3 (o := 0) rfl 2 rfl (by decide) tw_195 d_Symbols_learn_36 (v := o1.2.1 0 2) rfl ?_
      refine pm_bipush (v := 6) K d_Symbols_learn_39 (by decide) ?_
      obtain ⟨q5, hf⟩ := pm_bnd hf
      refine pm_iast K (o := 2) rfl rfl q5 d_Symbols_learn_41 ?_
      refine pm_aload_n K d_Symbols_learn_42 0 rfl rfl ?_
      refine pm_dup K d_Symbols_learn_43 rfl ?_
      refine pm_getI K fc_3 (o := 0) rfl 2 rfl (by decide) tw_195 d_Symbols_learn_44 (v := o1.2.1 0 2) rfl ?_
      refine pm_iconst (v := 1) K d_Symbols_learn_47 (by decide) ?_
      refine pm_iadd K d_Symbols_learn_48 ?_
      refine pm_putI K fc_3 (o := 0) (ty := .int) rfl 2 rfl (by decide) tw_195 rfl rfl rfl rfl d_Symbols_learn_49 ?_
      refine pm_iconst (v := 1) K d_Symbols_learn_52 (by decide) ?_
      cases hf
      exact pm_zret K (by decide) d_Symbols_learn_53
    · have hf := pm_iff c3 hf
      refine pm_iconst (v := 0) K d_Symbols_learn_19 (by decide) ?_
      cases hf
      exact pm_zret K (by decide) d_Symbols_learn_20
  · have hf := pm_iff c2 hf
    refine pm_iconst (v := 1) K d_Symbols_learn_8 (by decide) ?_
    cases hf
    exact pm_zret K (by decide) d_Symbols_learn_9
/-- CellLisp$Symbols.learn(J)Z -/
theorem c_Symbols_learnY {l : Launch} {D : va_G} {ca : Nat → ClassId} {ad : Nat → Nat} {E : (Nat → Prop) → State → Heap → Prop} (hEc : pm_Ecl E) (r : Int32) (w' : pm_W) (y1 : Int64) (w : pm_W) (hf : f_Symbols_learnY  y1 w = some (r, w')) : pm_Met l pmTs D vwCl (tyl ca) shY ca ad E y_Symbols_learn k_Symbols_learn 3 (some .boolean) { frames := 1, cells := 0, slots := 0, locals := 23 } [.ref (ad 0), .long y1] w (some (.int r), w') :=
  pm_start pmTs_good hEc (by decide) (Nat.le_of_ble_eq_true rfl) (fun p e s m below meth c K => t_Symbols_learnY K r w' y1 w hf)

def f_Value_ofY (x0 : Int32) (x1 : Int32) (w : pm_W) : Option (Int32 × pm_W) :=
  some ((x1 <<< ((3 : Int32) &&& 31)) ||| x0, w)
set_option maxHeartbeats 4000000 in
set_option maxRecDepth 100000 in
theorem t_Value_ofY {p : Program} {l : Launch} {e : Env} {s : State} {m : MethodId} {args : Array Value} {below : List Frame} {meth : Method} {c : Code} {D : va_G} {ca : Nat → ClassId} {ad : Nat → Nat} {E : (Nat → Prop) → State → Heap → Prop} (K : pm_ok p s m args meth c k_Value_of 2 pmTs R_Value D vwCl (tyl ca) shY ad E (some .int)) (r : Int32) (w' : pm_W) (x0 : Int32) (x1 : Int32) (w : pm_W) (hf : f_Value_ofY  x0 x1 w = some (r, w')) : pm_wk p l e { frames := 0, cells := 0, slots := 0, locals := 0 } s m args below meth c D vwCl shY ca ad 2 (some (.int r), w') 0 [(0, .int x0), (1, .int x1)] [] w := by
  unfold f_Value_ofY at hf
  refine pm_iload_n K d_Value_of_0 1 rfl rfl ?_
  refine pm_iconst (v := 3) K d_Value_of_1 (by decide) ?_
  refine pm_ishl K d_Value_of_2 ?_
  refine pm_iload_n K d_Value_of_3 0 rfl rfl ?_
  refine pm_ior K d_Value_of_4 ?_
  cases hf
  exact pm_iret K d_Value_of_5
/-- CellLisp$Value.of(II)I -/
theorem c_Value_ofY {l : Launch} {D : va_G} {ca : Nat → ClassId} {ad : Nat → Nat} {E : (Nat → Prop) → State → Heap → Prop} (hEc : pm_Ecl E) (r : Int32) (w' : pm_W) (x0 : Int32) (x1 : Int32) (w : pm_W) (hf : f_Value_ofY  x0 x1 w = some (r, w')) : pm_Met l pmTs D vwCl (tyl ca) shY ca ad E y_Value_of k_Value_of 2 (some .int) { frames := 0, cells := 0, slots := 0, locals := 0 } [.int x0, .int x1] w (some (.int r), w') :=
  pm_start pmTs_good hEc (by decide) (Nat.le_of_ble_eq_true rfl) (fun p e s m below meth c K => t_Value_ofY K r w' x0 x1 w hf)

def b_Symbols_initY_24 (rec : Nat → Int64 → Int32 → pm_W → Option pm_W) (y1 : Int64) (x3 : Int32) (w : pm_W) : Option pm_W :=
  if 0 < 6 then
    if (nI (st_len.getD 0 0)) ≤ x3 then
      rec 1 0 (0 : Int32) w
    else
      if 0 < 6 then
        if x3 < 0 ∨ st_len.getD 0 0 ≤ x3.toNatClampNeg then none else
        if x3 < nI (st_len.getD 0 0) then
          if (st_ch 0 x3) = (32 : Int32) then
            Option.bind (f_Symbols_learnY y1 w) fun o7 =>
            rec 0 (0 : Int64) (x3 + (1 : Int32)) o7.2
          else
            rec 0 ((y1 <<< ((8 : Int32).toInt64 &&& 63)) ||| ((st_ch 0 x3).toInt64)) (x3 + (1 : Int32)) w
        else none
      else none
  else none
def b_Symbols_initY_76 (rec : Nat → Int64 → Int32 → pm_W → Option pm_W) (x3 : Int32) (w : pm_W) : Option pm_W :=
  if (9 : Int32) < x3 then
    Option.bind (f_Value_ofY (1 : Int32) (15 : Int32) w) fun o9 =>
    if (15 : Int32) < 0 ∨ 40 ≤ (15 : Int32).toNatClampNeg then none else
    some (pm_setI o9.2 2 (15 : Int32).toNatClampNeg o9.1)
  else
    Option.bind (f_Value_ofY (3 : Int32) x3 w) fun o11 =>
    if x3 < 0 ∨ 40 ≤ x3.toNatClampNeg then none else
    rec 1 0 (x3 + (1 : Int32)) (pm_setI o11.2 2 x3.toNatClampNeg o11.1)
def l_Symbols_initY : Nat → Nat → Int64 → Int32 → pm_W → Option pm_W := pm_it (fun _ _ _ _ => none) (fun rec k y1 x3 w => match k with | 0 => b_Symbols_initY_24  rec y1 x3 w | _ => b_Symbols_initY_76  rec x3 w)
def f_Symbols_initY (w : pm_W) : Option pm_W :=
  (l_Symbols_initY  pm_fuel) 0 (0 : Int64) (0 : Int32) w
set_option maxHeartbeats 4000000 in
set_option maxRecDepth 100000 in
theorem t_Symbols_initY_24 {p : Program} {l : Launch} {e : Env} {s : State} {m : MethodId} {args : Array Value} {below : List Frame} {meth : Method} {c : Code} {D : va_G} {ca : Nat → ClassId} {ad : Nat → Nat} {adK adV : Nat → Nat} {kc ks : Nat} {A : Nat → Prop} (K : pg_ok p { frames := 4, cells := 2, slots := 80, locals := 87 } s m args meth c k_Symbols_init 5 pmTs R_Symbols D vwCl (tyl ca) shY ad (st_E adK adV) none kc ks A) {okad : (Nat → Nat) → Prop} (hok : okad ad) (hin : meth.name = "<init>") (rec : Nat → Int64 → Int32 → pm_W → Option pm_W) (w' : pm_W) (h24 : ∀ (y1 : Int64) (x3 : Int32) (w : pm_W), rec 0 y1 x3 w = some w' → pg_wk p l e { frames := 4, cells := 2, slots := 80, locals := 87 } s m args below meth c D vwCl shY ca ad 5 kc ks A (MQ below (pm_Qn D ca vwCl shY okad w' A) args s kc ks A) 24 [(0, .ref (ad 0)), (1, .long y1), (3, .int x3)] [] w) (h76 : ∀ (x3 : Int32) (w : pm_W), rec 1 0 x3 w = some w' → pg_wk p l e { frames := 4, cells := 2, slots := 80, locals := 87 } s m args below meth c D vwCl shY ca ad 5 kc ks A (MQ below (pm_Qn D ca vwCl shY okad w' A) args s kc ks A) 76 [(0, .ref (ad 0)), (3, .int x3)] [] w) (y1 : Int64) (x3 : Int32) (w : pm_W) (hf : b_Symbols_initY_24  rec y1 x3 w = some w') : pg_wk p l e { frames := 4, cells := 2, slots := 80, locals := 87 } s m args below meth c D vwCl shY ca ad 5 kc ks A (MQ below (pm_Qn D ca vwCl shY okad w' A) args s kc ks A) 24 [(0, .ref (ad 0)), (1, .long y1), (3, .int x3)] [] w := by
  unfold b_Symbols_initY_24 at hf
  refine pg_iload_n K d_Symbols_init_24 2 rfl rfl ?_
  refine pg_ldcS K K.2.2.2.2.2.2.2.2.2.2.2.1.2.2.2.1 d_Symbols_init_25 ?_
  obtain ⟨q1, hf⟩ := pm_chk hf
  refine pg_callX (As := []) (rest := [.int x3]) (b := adK 0) K (cs_length 0 q1 w) mis_length (fun H locs hS => vk_recv K.2.2.2.2.2.2.2.2.2.2.2.1.1 q1 hS) tw_139 tw_140 tw_138 rfl ⟨rfl, rfl, Nat.le_of_ble_eq_true rfl, Nat.le_of_ble_eq_true rfl⟩ rfl (Nat.le_of_ble_eq_true rfl) d_Symbols_init_27 ?_
  refine pg_icmp_ge K d_Symbols_init_30 74 (by decide) (fun c2 => ?_) (fun c2 => ?_)
  · have hf := pm_ift c2 hf
    refine pg_iconst (v := 0) K d_Symbols_init_74 (by decide) ?_
    refine pg_istore_n (lv' := [(3, .int (0 : Int32)), (0, .ref (ad 0)), (1, .long y1)]) K d_Symbols_init_75 rfl (by decide) rfl ?_
    refine pg_sub (lv' := [(0, .ref (ad 0)), (3, .int (0 : Int32))]) [1, 0] rfl ?_
    exact h76 (0 : Int32) w hf
  · have hf := pm_iff c2 hf
    refine pg_ldcS K K.2.2.2.2.2.2.2.2.2.2.2.1.2.2.2.1 d_Symbols_init_33 ?_
    refine pg_iload_n K d_Symbols_init_35 2 rfl rfl ?_
    obtain ⟨q3, hf⟩ := pm_chk hf
    obtain ⟨q4, hf⟩ := pm_bnd hf
    obtain ⟨q5, hf⟩ := pm_chk hf
    refine pg_callX (As := [.int x3]) (rest := []) (b := adK 0) K (cs_charAt 0 q3 x3 q4 q5 w) mis_charAt (fun H locs hS => vk_recv K.2.2.2.2.2.2.2.2.2.2.2.1.1 q3 hS) tw_148 tw_149 tw_147 rfl ⟨rfl, rfl, Nat.le_of_ble_eq_true rfl, Nat.le_of_ble_eq_true rfl⟩ rfl (Nat.le_of_ble_eq_true rfl) d_Symbols_init_36 ?_
    refine pg_istore (lv' := [(4, .int (st_ch 0 x3)), (0, .ref (ad 0)), (1, .long y1), (3, .int x3)]) K d_Symbols_init_39 (by decide) rfl ?_
    refine pg_iload K d_Symbols_init_41 0 rfl ?_
    refine pg_bipush (v := 32) K d_Symbols_init_43 (by decide) ?_
    refine pg_icmp_ne K d_Symbols_init_45 59 (by decide) (fun c6 => ?_) (fun c6 => ?_)
    · have hf := pm_iff c6 hf
      refine pg_lload_n K d_Symbols_init_59 2 rfl rfl ?_
      refine pg_bipush (v := 8) K d_Symbols_init_60 (by decide) ?_
      refine pg_lshl K d_Symbols_init_62 rfl ?_
      refine pg_iload K d_Symbols_init_63 0 rfl ?_
      refine pg_i2l K d_Symbols_init_65 rfl ?_
      refine pg_lor K d_Symbols_init_66 ?_
      refine pg_lstore_n (lv' := [(1, .long ((y1 <<< ((8 : Int32).toInt64 &&& 63)) ||| ((st_ch 0 x3).toInt64))), (4, .int (st_ch 0 x3)), (0, .ref (ad 0)), (3, .int x3)]) K d_Symbols_init_67 rfl (by decide) rfl ?_
      refine pg_iinc (v := x3 + (1 : Int32)) (lv' := [(3, .int (x3 + (1 : Int32))), (1, .long ((y1 <<< ((8 : Int32).toInt64 &&& 63)) ||| ((st_ch 0 x3).toInt64))), (4, .int (st_ch 0 x3)), (0, .ref (ad 0))]) K d_Symbols_init_68 3 rfl rfl (by decide) rfl ?_
      refine pg_goto K d_Symbols_init_71 24 (by decide) ?_
      refine pg_sub (lv' := [(0, .ref (ad 0)), (1, .long ((y1 <<< ((8 : Int32).toInt64 &&& 63)) ||| ((st_ch 0 x3).toInt64))), (3, .int (x3 + (1 : Int32)))]) [3, 1, 0] rfl ?_
      exact h24 ((y1 <<< ((8 : Int32).toInt64 &&& 63)) ||| ((st_ch 0 x3).toInt64)) (x3 + (1 : Int32)) w hf
    · have hf := pm_ift c6 hf
      refine pg_aload_n K d_Symbols_init_48 1 rfl rfl ?_
      refine pg_lload_n K d_Symbols_init_49 2 rfl rfl ?_
      obtain ⟨o7, z7, hf⟩ := pm_bind hf
      refine pg_callV (As := [.long y1]) (rest := []) (o := 0) K (c_Symbols_learnY K.2.2.2.2.2.2.2.2.2.2.2.2 o7.1 o7.2 y1 w z7) mi_Symbols_learn rfl rfl tw_182 tw_183 tw_181 rfl ⟨rfl, rfl, Nat.le_of_ble_eq_true rfl, Nat.le_of_ble_eq_true rfl⟩ rfl (Nat.le_of_ble_eq_true rfl) d_Symbols_init_50 ?_
      refine pg_pop K d_Symbols_init_53 rfl ?_
      refine pg_lconst (v := 0) K d_Symbols_init_54 (by decide) ?_
      refine pg_lstore_n (lv' := [(1, .long (0 : Int64)), (4, .int (st_ch 0 x3)), (0, .ref (ad 0)), (3, .int x3)]) K d_Symbols_init_55 rfl (by decide) rfl ?_
      refine pg_goto K d_Symbols_init_56 68 (by decide) ?_
      refine pg_iinc (v := x3 + (1 : Int32)) (lv' := [(3, .int (x3 + (1 : Int32))), (1, .long (0 : Int64)), (4, .int (st_ch 0 x3)), (0, .ref (ad 0))]) K d_Symbols_init_68 3 rfl rfl (by decide) rfl ?_
      refine pg_goto K d_Symbols_init_71 24 (by decide) ?_
      refine pg_sub (lv' := [(0, .ref (ad 0)), (1, .long (0 : Int64)), (3, .int (x3 + (1 : Int32)))]) [3, 1, 0] rfl ?_
      exact h24 (0 : Int64) (x3 + (1 : Int32)) o7.2 hf
set_option maxHeartbeats 4000000 in
set_option maxRecDepth 100000 in
theorem t_Symbols_initY_76 {p : Program} {l : Launch} {e : Env} {s : State} {m : MethodId} {args : Array Value} {below : List Frame} {meth : Method} {c : Code} {D : va_G} {ca : Nat → ClassId} {ad : Nat → Nat} {adK adV : Nat → Nat} {kc ks : Nat} {A : Nat → Prop} (K : pg_ok p { frames := 4, cells := 2, slots := 80, locals := 87 } s m args meth c k_Symbols_init 5 pmTs R_Symbols D vwCl (tyl ca) shY ad (st_E adK adV) none kc ks A) {okad : (Nat → Nat) → Prop} (hok : okad ad) (hin : meth.name = "<init>") (rec : Nat → Int64 → Int32 → pm_W → Option pm_W) (w' : pm_W) (h24 : ∀ (y1 : Int64) (x3 : Int32) (w : pm_W), rec 0 y1 x3 w = some w' → pg_wk p l e { frames := 4, cells := 2, slots := 80, locals := 87 } s m args below meth c D vwCl shY ca ad 5 kc ks A (MQ below (pm_Qn D ca vwCl shY okad w' A) args s kc ks A) 24 [(0, .ref (ad 0)), (1, .long y1), (3, .int x3)] [] w) (h76 : ∀ (x3 : Int32) (w : pm_W), rec 1 0 x3 w = some w' → pg_wk p l e { frames := 4, cells := 2, slots := 80, locals := 87 } s m args below meth c D vwCl shY ca ad 5 kc ks A (MQ below (pm_Qn D ca vwCl shY okad w' A) args s kc ks A) 76 [(0, .ref (ad 0)), (3, .int x3)] [] w) (x3 : Int32) (w : pm_W) (hf : b_Symbols_initY_76  rec x3 w = some w') : pg_wk p l e { frames := 4, cells := 2, slots := 80, locals := 87 } s m args below meth c D vwCl shY ca ad 5 kc ks A (MQ below (pm_Qn D ca vwCl shY okad w' A) args s kc ks A) 76 [(0, .ref (ad 0)), (3, .int x3)] [] w := by
  unfold b_Symbols_initY_76 at hf
  refine pg_iload_n K d_Symbols_init_76 1 rfl rfl ?_
  refine pg_bipush (v := 9) K d_Symbols_init_77 (by decide) ?_
  refine pg_icmp_gt K d_Symbols_init_79 99 (by decide) (fun c8 => ?_) (fun c8 => ?_)
  · have hf := pm_ift c8 hf
    refine pg_aload_n K d_Symbols_init_99 0 rfl rfl ?_
    refine pg_getR K fc_3 (o := 0) rfl 1 rfl (by decide) tw_193 d_Symbols_init_100 ?_
    refine pg_bipush (v := 15) K d_Symbols_init_103 (by decide) ?_
    refine pg_iconst (v := 1) K d_Symbols_init_105 (by decide) ?_
    refine pg_bipush (v := 15) K d_Symbols_init_106 (by decide) ?_
    obtain ⟨o9, z9, hf⟩ := pm_bind hf
    refine pg_callS (As := [.int (1 : Int32), .int (15 : Int32)]) (rest := [.int (15 : Int32), .ref (ad 2)]) K (c_Value_ofY K.2.2.2.2.2.2.2.2.2.2.2.2 o9.1 o9.2 (1 : Int32) (15 : Int32) w z9) mi_Value_of tw_190 tw_189 rfl ⟨rfl, rfl, Nat.le_of_ble_eq_true rfl, Nat.le_of_ble_eq_true rfl⟩ rfl (Nat.le_of_ble_eq_true rfl) d_Symbols_init_108 ?_
    obtain ⟨q10, hf⟩ := pm_bnd hf
    refine pg_iast K (o := 2) rfl rfl q10 d_Symbols_init_111 ?_
    cases hf
    exact pg_vret K hok d_Symbols_init_112
  · have hf := pm_iff c8 hf
    refine pg_aload_n K d_Symbols_init_82 0 rfl rfl ?_
    refine pg_getR K fc_3 (o := 0) rfl 1 rfl (by decide) tw_193 d_Symbols_init_83 ?_
    refine pg_iload_n K d_Symbols_init_86 1 rfl rfl ?_
    refine pg_iconst (v := 3) K d_Symbols_init_87 (by decide) ?_
    refine pg_iload_n K d_Symbols_init_88 1 rfl rfl ?_
    obtain ⟨o11, z11, hf⟩ := pm_bind hf
    refine pg_callS (As := [.int (3 : Int32), .int x3]) (rest := [.int x3, .ref (ad 2)]) K (c_Value_ofY K.2.2.2.2.2.2.2.2.2.2.2.2 o11.1 o11.2 (3 : Int32) x3 w z11) mi_Value_of tw_190 tw_189 rfl ⟨rfl, rfl, Nat.le_of_ble_eq_true rfl, Nat.le_of_ble_eq_true rfl⟩ rfl (Nat.le_of_ble_eq_true rfl) d_Symbols_init_89 ?_
    obtain ⟨q12, hf⟩ := pm_bnd hf
    refine pg_iast K (o := 2) rfl rfl q12 d_Symbols_init_92 ?_
    refine pg_iinc (v := x3 + (1 : Int32)) (lv' := [(3, .int (x3 + (1 : Int32))), (0, .ref (ad 0))]) K d_Symbols_init_93 1 rfl rfl (by decide) rfl ?_
    refine pg_goto K d_Symbols_init_96 76 (by decide) ?_
    refine pg_sub (lv' := [(0, .ref (ad 0)), (3, .int (x3 + (1 : Int32)))]) [1, 0] rfl ?_
    exact h76 (x3 + (1 : Int32)) (pm_setI o11.2 2 x3.toNatClampNeg o11.1) hf
set_option maxHeartbeats 4000000 in
set_option maxRecDepth 100000 in
theorem a_Symbols_initY {p : Program} {l : Launch} {e : Env} {s : State} {m : MethodId} {args : Array Value} {below : List Frame} {meth : Method} {c : Code} {D : va_G} {ca : Nat → ClassId} {ad : Nat → Nat} {adK adV : Nat → Nat} {kc ks : Nat} {A : Nat → Prop} (K : pg_ok p { frames := 4, cells := 2, slots := 80, locals := 87 } s m args meth c k_Symbols_init 5 pmTs R_Symbols D vwCl (tyl ca) shY ad (st_E adK adV) none kc ks A) {okad : (Nat → Nat) → Prop} (hok : okad ad) (hin : meth.name = "<init>") (w' : pm_W) : ∀ n : Nat, (∀ (y1 : Int64) (x3 : Int32) (w : pm_W), l_Symbols_initY  n 0 y1 x3 w = some w' → pg_wk p l e { frames := 4, cells := 2, slots := 80, locals := 87 } s m args below meth c D vwCl shY ca ad 5 kc ks A (MQ below (pm_Qn D ca vwCl shY okad w' A) args s kc ks A) 24 [(0, .ref (ad 0)), (1, .long y1), (3, .int x3)] [] w) ∧ (∀ (x3 : Int32) (w : pm_W), l_Symbols_initY  n 1 0 x3 w = some w' → pg_wk p l e { frames := 4, cells := 2, slots := 80, locals := 87 } s m args below meth c D vwCl shY ca ad 5 kc ks A (MQ below (pm_Qn D ca vwCl shY okad w' A) args s kc ks A) 76 [(0, .ref (ad 0)), (3, .int x3)] [] w) := by
  intro n
  induction n with
  | zero => exact ⟨fun _ _ _ hf => (by cases hf), fun _ _ hf => (by cases hf)⟩
  | succ n ih => exact ⟨fun y1 x3 w hf => t_Symbols_initY_24 K hok hin (l_Symbols_initY n) w' (ih.1) (ih.2) y1 x3 w hf, fun x3 w hf => t_Symbols_initY_76 K hok hin (l_Symbols_initY n) w' (ih.1) (ih.2) x3 w hf⟩
set_option maxHeartbeats 4000000 in
set_option maxRecDepth 100000 in
theorem t_Symbols_initY {p : Program} {l : Launch} {e : Env} {s : State} {m : MethodId} {args : Array Value} {below : List Frame} {meth : Method} {c : Code} {D : va_G} {ca : Nat → ClassId} {ad : Nat → Nat} {adK adV : Nat → Nat} {kc ks : Nat} {A : Nat → Prop} (K : pg_ok p { frames := 4, cells := 2, slots := 80, locals := 87 } s m args meth c k_Symbols_init 5 pmTs R_Symbols D vwCl (tyl ca) shY ad (st_E adK adV) none kc ks A) {okad : (Nat → Nat) → Prop} (hok : okad ad) (hin : meth.name = "<init>") (w' : pm_W) (w : pm_W) (hf : f_Symbols_initY  w = some w') : pg_wk p l e { frames := 4, cells := 2, slots := 80, locals := 87 } s m args below meth c D vwCl shY ca ad 5 kc ks A (MQ below (pm_Qn D ca vwCl shY okad w' A) args s kc ks A) 20 [(0, .ref (ad 0))] [] w := by
  unfold f_Symbols_initY at hf
  have h24 := (a_Symbols_initY (l := l) (e := e) (below := below) K hok hin w' pm_fuel).1
  have h76 := (a_Symbols_initY (l := l) (e := e) (below := below) K hok hin w' pm_fuel).2
  refine pg_lconst (v := 0) K d_Symbols_init_20 (by decide) ?_
  refine pg_lstore_n (lv' := [(1, .long (0 : Int64)), (0, .ref (ad 0))]) K d_Symbols_init_21 rfl (by decide) rfl ?_
  refine pg_iconst (v := 0) K d_Symbols_init_22 (by decide) ?_
  refine pg_istore_n (lv' := [(3, .int (0 : Int32)), (1, .long (0 : Int64)), (0, .ref (ad 0))]) K d_Symbols_init_23 rfl (by decide) rfl ?_
  refine pg_sub (lv' := [(0, .ref (ad 0)), (1, .long (0 : Int64)), (3, .int (0 : Int32))]) [2, 1, 0] rfl ?_
  exact h24 (0 : Int64) (0 : Int32) w hf

set_option maxHeartbeats 4000000 in
set_option maxRecDepth 100000 in
theorem c_Symbols_init {l : Launch} {D : va_G} {ca : Nat → ClassId} {adK adV : Nat → Nat} (h0 : Nat) (w' : pm_W) (hf : f_Symbols_initY pm_0 = some w') (sz : Nat) : Met l y_Symbols_init [Cond.code y_Symbols_init k_Symbols_init 5 none] { frames := 4, cells := 2, slots := 80, locals := 87 } (va_Pc (.ref h0 :: []) (pn_P D ca adK adV h0 3 [.null, .null, .int 0] sz)) (pm_Qn D ca vwCl shY (fun ad : Nat → Nat => ∃ q0 q1 : Nat, ad = fun o => [h0, q0, q1].getD o 0) w' (va_A [(h0, .inr (3, [.null, .null, .int 0]))] sz)) 2 80 (va_A [(h0, .inr (3, [.null, .null, .int 0]))] sz) := by
  refine pn_start (by decide) (Nat.le_of_ble_eq_true rfl) (fun p e s m below meth c hsz hin K => ?_)
  have hX := K.2.2.2.2.2.2.1
  refine pn_aload_n K d_Symbols_init_0 0 rfl rfl ?_
  refine pn_objInit K tw_137 tw_112 (Nat.le_of_ble_eq_true rfl) (Nat.le_of_ble_eq_true rfl) d_Symbols_init_1 ?_
  refine pn_aload_n K d_Symbols_init_4 0 rfl rfl ?_
  refine pn_bipush (v := 40) K d_Symbols_init_5 (by decide) ?_
  refine pn_newa (ty := .long) (t := 3) (N := 40) (a0 := (40, .inr (.inl (fun _ => 0)))) K rfl hX.2.2.2.2 pn_uJ rfl (fun _ => rfl) (by decide) (by decide) (by decide) (Nat.le_of_ble_eq_true rfl) (Nat.le_of_ble_eq_true rfl) d_Symbols_init_7 (fun q0 => ?_)
  refine pn_putF (ty := .array .long) (ws' := [(h0, .inr (3, [.ref q0, .null, .int 0])), (q0, .inl (ca 3, 40, .inr (.inl (fun _ => 0))))]) K fc_3 0 rfl 0 (by decide) tw_192 rfl hin rfl (by decide +kernel) rfl rfl (Nat.le_of_ble_eq_true rfl) d_Symbols_init_9 rfl ?_
  refine pn_aload_n K d_Symbols_init_12 0 rfl rfl ?_
  refine pn_bipush (v := 40) K d_Symbols_init_13 (by decide) ?_
  refine pn_newa (ty := .int) (t := 0) (N := 40) (a0 := (40, .inl (fun _ => 0))) K rfl hX.2.1 pn_uI rfl (fun _ => rfl) (by decide) (by decide) (by decide) (Nat.le_of_ble_eq_true rfl) (Nat.le_of_ble_eq_true rfl) d_Symbols_init_15 (fun q1 => ?_)
  refine pn_putF (ty := .array .int) (ws' := [(h0, .inr (3, [.ref q0, .ref q1, .int 0])), (q0, .inl (ca 3, 40, .inr (.inl (fun _ => 0)))), (q1, .inl (ca 0, 40, .inl (fun _ => 0)))]) K fc_3 0 rfl 1 (by decide) tw_193 rfl hin rfl (by decide +kernel) rfl rfl (Nat.le_of_ble_eq_true rfl) d_Symbols_init_17 rfl ?_
  refine pn_sub (lv' := [(0, .ref h0)]) [0] rfl ?_
  refine pn_pg (sh := shY) (w := pm_0) (mc := 2) (ms := 80) (fun o => [h0, q0, q1].getD o 0) rfl (Nat.le_of_ble_eq_true rfl) (Nat.le_of_ble_eq_true rfl) K.2.2.2.2.2.2.2.2.1 (fun hj hA => ?_)
  exact t_Symbols_initY (ad := (fun o => [h0, q0, q1].getD o 0)) (kc := 2) (ks := 80) ⟨K.1, K.2.1, K.2.2.1, K.2.2.2.1, K.2.2.2.2.1, K.2.2.2.2.2.1, pmTs_good, K.2.2.2.2.2.2.2.1, ⟨hj, hA, Nat.le_refl _, Nat.le_refl _⟩, K.2.2.2.2.2.2.2.2.2.1, K.2.2.2.2.2.2.2.2.2.2.1, K.2.2.2.2.2.2.2.2.2.2.2, st_cl adK adV⟩ ⟨q0, q1, rfl⟩ hin w'  pm_0 hf
