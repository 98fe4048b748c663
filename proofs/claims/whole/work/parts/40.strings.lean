/-! STRING CONSTANTS: what holds of them, and String.length, String.charAt by contract, over a world of any shape -/
def st_len : List Nat := [66, 3, 4, 3, 4, 2]
def st_byt : List (List Int32) := [[43, 32, 45, 32, 42, 32, 60, 32, 101, 113, 63, 32, 97, 116, 111, 109, 63, 32, 99, 111, 110, 115, 32, 99, 97, 114, 32, 99, 100, 114, 32, 108, 105, 115, 116, 32, 113, 117, 111, 116, 101, 32, 105, 102, 32, 108, 97, 109, 98, 100, 97, 32, 100, 101, 102, 105, 110, 101, 32, 115, 101, 116, 33, 32, 116, 32], [46, 46, 46], [32, 46, 46, 46], [32, 46, 32], [60, 102, 110, 62], [40, 41]]
def st_ch (k : Nat) (i : Int32) : Int32 := ((((st_byt.getD k []).getD i.toNatClampNeg 0) &&& 255).toUInt32 % 65536).toInt32
def st_E (adK adV : Nat → Nat) : (Nat → Prop) → State → Heap → Prop := fun A U H => vk_S 6 st_len st_byt adK adV A U H ∧ va_Z "java/lang/String" "COMPACT_STRINGS" "Z" (.int 1) A U H ∧ va_Zq "jdk/internal/util/Preconditions" "SIOOBE_FORMATTER" "Ljava/util/function/BiFunction;" A U H ∧ vk_R R_Symbols 17 "+ - * < eq? atom? cons car cdr list quote if lambda define set! t " (adK 0) U ∧ vk_R R_Printer 54 "..." (adK 1) U ∧ vk_R R_Printer 83 " ..." (adK 2) U ∧ vk_R R_Printer 85 " . " (adK 3) U ∧ vk_R R_Printer 63 "<fn>" (adK 4) U ∧ vk_R R_Printer 65 "()" (adK 5) U
theorem st_cl (adK adV : Nat → Nat) : pm_Ecl (st_E adK adV) := by
  intro A B s U H h hk hAB hal hW hU
  obtain ⟨h1, h2, h3, r0, r1, r2, r3, r4, r5⟩ := h
  rw [hU]
  exact ⟨((h1.kept hk).narrow hAB).moved hal, ((h2.kept hk).narrow hAB).moved hal, ((h3.kept hk).narrow hAB).moved hal, r0.warm hW, r1.warm hW, r2.warm hW, r3.warm hW, r4.warm hW, r5.warm hW⟩
section STR
variable {p : Program} {l : Launch} {e : Env} {R : Room} {s : State} {m : MethodId} {args : Array Value} {below : List Frame} {meth : Method} {c : Code} {cc : ByteArray} {nL : Nat} {Ts : List Cond} {own : String}
variable {D : va_G} {cl : List vw_C} {tys : List (ClassId × FieldType)} {sh : List pm_E} {ca : Nat → ClassId} {ad : Nat → Nat} {E : (Nat → Prop) → State → Heap → Prop} {ret : Option FieldType} {fin : Option Value × pm_W} {pc : Nat} {lv : List (Nat × Value)} {st : List Value} {w : pm_W}
theorem pm_gets (K : pm_ok p s m args meth c cc nL Ts own D cl tys sh ad E ret) {C n d : String} {v : Value} {ix : Nat} (hZ : va_Z C n d v (pm_A sh ad s.heap.size) s s.heap) (hw : Cond.fieldLink own ix C n d ∈ Ts) (hd : decode cc pc = .ok (.getstatic ix, 3))
    (kk : pm_wk p l e R s m args below meth c D cl sh ca ad nL fin (pc + 3) lv (v :: st) w) : pm_wk p l e R s m args below meth c D cl sh ca ad nL fin pc lv st w := fun H locs ls hl hP hS => va_gets K.1 K.2.1 hZ hS K.2.2.2.1 (K.2.2.2.2.1 _ hw) (fun _ h => h) hd (kk H locs ls hl hP hS)
theorem pm_sget (K : pm_ok p s m args meth c cc nL Ts own D cl tys sh ad E ret) {C n d : String} {v : Value} {ix q : Nat} (hZ : va_OF C n d v q (pm_A sh ad s.heap.size) s s.heap) (hw : Cond.fieldLink own ix C n d ∈ Ts) (hd : decode cc pc = .ok (.getfield ix, 3))
    (kk : pm_wk p l e R s m args below meth c D cl sh ca ad nL fin (pc + 3) lv (v :: st) w) : pm_wk p l e R s m args below meth c D cl sh ca ad nL fin pc lv (.ref q :: st) w := fun H locs ls hl hP hS => vk_getf K.1 K.2.1 hZ hS K.2.2.2.1 (K.2.2.2.2.1 _ hw) (fun _ h => h) hd (kk H locs ls hl hP hS)
theorem pm_tlen (K : pm_ok p s m args meth c cc nL Ts own D cl tys sh ad E ret) {ty : FieldType} {t N : Nat} {f : Nat → Value} (hT : va_T ty t N f (pm_A sh ad s.heap.size) s s.heap) {v : Int32} (hv : Int32.ofNat N = v) (hd : decode cc pc = .ok (.arraylength, 1))
    (kk : pm_wk p l e R s m args below meth c D cl sh ca ad nL fin (pc + 1) lv (.int v :: st) w) : pm_wk p l e R s m args below meth c D cl sh ca ad nL fin pc lv (.ref t :: st) w := fun H locs ls hl hP hS => va_tlen K.1 K.2.1 hT hS hv hd (kk H locs ls hl hP hS)
theorem pm_tb (K : pm_ok p s m args meth c cc nL Ts own D cl tys sh ad E ret) {t N : Nat} {f : Nat → Value} {i : Int32} {v : Value} (hT : va_T .byte t N f (pm_A sh ad s.heap.size) s s.heap) (hin : ¬ (i < 0 ∨ N ≤ i.toNatClampNeg)) (hv : f i.toNatClampNeg = v) (hd : decode cc pc = .ok (.baload, 1))
    (kk : pm_wk p l e R s m args below meth c D cl sh ca ad nL fin (pc + 1) lv (v :: st) w) : pm_wk p l e R s m args below meth c D cl sh ca ad nL fin pc lv (.int i :: .ref t :: st) w := fun H locs ls hl hP hS => va_tb K.1 K.2.1 hT hS hin hv hd (kk H locs ls hl hP hS)
theorem pm_ldcS (K : pm_ok p s m args meth c cc nL Ts own D cl tys sh ad E ret) {tx : String} {ix q : Nat} (hZ : vk_R own ix tx q s) (hd : decode cc pc = .ok (.ldc ix, 2))
    (kk : pm_wk p l e R s m args below meth c D cl sh ca ad nL fin (pc + 2) lv (.ref q :: st) w) : pm_wk p l e R s m args below meth c D cl sh ca ad nL fin pc lv st w := fun H locs ls hl hP hS => va_ldcS K.1 K.2.1 K.2.2.2.1 hZ hd (kk H locs ls hl hP hS)
/-- a call on an object that isn't of the world -/
theorem pm_callX (K : pm_ok p s m args meth c cc nL Ts own D cl tys sh ad E ret) {y : MethodName} {bytes : ByteArray} {maxL n ix b : Nat} {rt : Option FieldType} {rm : Room} {As rest st0 : List Value} {r : Option Value} {w' : pm_W} (hM : pm_Met l Ts D cl tys sh ca ad E y bytes maxL rt rm (.ref b :: As) w (r, w')) (hi : pm_mi Ts y bytes maxL rt n) (hrec : ∀ (H : Heap) (locs : List Loc), va_S (pm_A sh ad s.heap.size) s.heap H locs → ∃ cell : Cell, H[b]? = some cell ∧ cell.vm.isStatics = false ∧ s.vm.findClass y.cls = some cell.cls) (hin : Cond.instanceMethod y ∈ Ts) (hse : Cond.selects y.cls y y ∈ Ts) (hw : Cond.methodLink own ix y ∈ Ts) (hn : As.length = n) (hr : pm_rm rm R maxL) (hst : st0 = As.reverse ++ .ref b :: rest) (hrest : (rest.map fun v => v.category).sum ≤ 8) (hd : decode cc pc = .ok (.invokevirtual ix, 3))
    (kk : pm_wk p l e R s m args below meth c D cl sh ca ad nL fin (pc + 3) lv (r.toList ++ rest) w') : pm_wk p l e R s m args below meth c D cl sh ca ad nL fin pc lv st0 w := fun H locs ls hl hP hS => by
  have cw := pm_cw K hi
  exact pm_run K hl hS (va_runV (As := As) (rest := rest) (nL := nL) (cc := cc) (Ts := Ts) (own := own) ⟨K.1, K.2.1, K.2.2.1, K.2.2.2.1, K.2.2.2.2.1⟩ (hM H.size) ⟨⟨hr.1, hr.2.1, hr.2.2.1, hr.2.2.2, cw.1, List.mem_singleton.mpr rfl, cw.2.1, cw.2.2.1, hi.2.2.1, cw.2.2.2, K.2.2.2.2.1 _ hw⟩, K.2.2.2.2.1 _ hin, K.2.2.2.2.1 _ hse⟩ ⟨pm_blind K.2.2.2.2.2.2.1 K.2.2.2.2.2.2.2.2.2.2.2.2, hrec H locs hS, fun U hU hW => pm_pre K hP hS U hU hW⟩ rfl hn hl.1 hst (lv_room hrest) hd ⟨Nat.zero_le _, Nat.zero_le _⟩) kk
end STR
theorem ds_length_0 : decode prog_14_method_54_code 0 = .ok (.aload_n 0, 1) := by decide +kernel
theorem ds_length_1 : decode prog_14_method_54_code 1 = .ok (.getfield 9, 3) := by decide +kernel
theorem ds_length_4 : decode prog_14_method_54_code 4 = .ok (.arraylength, 1) := by decide +kernel
theorem ds_length_5 : decode prog_14_method_54_code 5 = .ok (.aload_n 0, 1) := by decide +kernel
theorem ds_length_6 : decode prog_14_method_54_code 6 = .ok (.invokevirtual 335, 3) := by decide +kernel
theorem ds_length_9 : decode prog_14_method_54_code 9 = .ok (.ishr, 1) := by decide +kernel
theorem ds_length_10 : decode prog_14_method_54_code 10 = .ok (.ireturn, 1) := by decide +kernel
theorem mis_length : pm_mi pmTs (⟨"java/lang/String", "length", "()I"⟩ : MethodName) prog_14_method_54_code 1 (some .int) 0 := ⟨tw_141, tw_94, ⟨by decide, by decide⟩, by decide +kernel⟩
theorem ds_coder_0 : decode prog_14_method_152_code 0 = .ok (.getstatic 38, 3) := by decide +kernel
theorem ds_coder_3 : decode prog_14_method_152_code 3 = .ok (.ifCond .eq 10, 3) := by decide +kernel
theorem ds_coder_6 : decode prog_14_method_152_code 6 = .ok (.aload_n 0, 1) := by decide +kernel
theorem ds_coder_7 : decode prog_14_method_152_code 7 = .ok (.getfield 15, 3) := by decide +kernel
theorem ds_coder_10 : decode prog_14_method_152_code 10 = .ok (.goto 4, 3) := by decide +kernel
theorem ds_coder_14 : decode prog_14_method_152_code 14 = .ok (.ireturn, 1) := by decide +kernel
theorem mis_coder : pm_mi pmTs (⟨"java/lang/String", "coder", "()B"⟩ : MethodName) prog_14_method_152_code 1 (some .byte) 0 := ⟨tw_145, tw_94, ⟨by decide, by decide⟩, by decide +kernel⟩
theorem ds_isLatin1_0 : decode prog_14_method_154_code 0 = .ok (.getstatic 38, 3) := by decide +kernel
theorem ds_isLatin1_3 : decode prog_14_method_154_code 3 = .ok (.ifCond .eq 14, 3) := by decide +kernel
theorem ds_isLatin1_6 : decode prog_14_method_154_code 6 = .ok (.aload_n 0, 1) := by decide +kernel
theorem ds_isLatin1_7 : decode prog_14_method_154_code 7 = .ok (.getfield 15, 3) := by decide +kernel
theorem ds_isLatin1_10 : decode prog_14_method_154_code 10 = .ok (.ifCond .ne 7, 3) := by decide +kernel
theorem ds_isLatin1_13 : decode prog_14_method_154_code 13 = .ok (.iconst 1, 1) := by decide +kernel
theorem ds_isLatin1_14 : decode prog_14_method_154_code 14 = .ok (.goto 4, 3) := by decide +kernel
theorem ds_isLatin1_18 : decode prog_14_method_154_code 18 = .ok (.ireturn, 1) := by decide +kernel
theorem mis_isLatin1 : pm_mi pmTs (⟨"java/lang/String", "isLatin1", "()Z"⟩ : MethodName) prog_14_method_154_code 1 (some .boolean) 0 := ⟨tw_154, tw_94, ⟨by decide, by decide⟩, by decide +kernel⟩
theorem ds_charAt_0 : decode prog_14_method_56_code 0 = .ok (.aload_n 0, 1) := by decide +kernel
theorem ds_charAt_1 : decode prog_14_method_56_code 1 = .ok (.invokevirtual 492, 3) := by decide +kernel
theorem ds_charAt_4 : decode prog_14_method_56_code 4 = .ok (.ifCond .eq 12, 3) := by decide +kernel
theorem ds_charAt_7 : decode prog_14_method_56_code 7 = .ok (.aload_n 0, 1) := by decide +kernel
theorem ds_charAt_8 : decode prog_14_method_56_code 8 = .ok (.getfield 9, 3) := by decide +kernel
theorem ds_charAt_11 : decode prog_14_method_56_code 11 = .ok (.iload_n 1, 1) := by decide +kernel
theorem ds_charAt_12 : decode prog_14_method_56_code 12 = .ok (.invokestatic 495, 3) := by decide +kernel
theorem ds_charAt_15 : decode prog_14_method_56_code 15 = .ok (.ireturn, 1) := by decide +kernel
theorem mis_charAt : pm_mi pmTs (⟨"java/lang/String", "charAt", "(I)C"⟩ : MethodName) prog_14_method_56_code 2 (some .char) 1 := ⟨tw_150, tw_94, ⟨by decide, by decide⟩, by decide +kernel⟩
theorem ds_lcharAt_0 : decode prog_15_method_2_code 0 = .ok (.iload_n 1, 1) := by decide +kernel
theorem ds_lcharAt_1 : decode prog_15_method_2_code 1 = .ok (.aload_n 0, 1) := by decide +kernel
theorem ds_lcharAt_2 : decode prog_15_method_2_code 2 = .ok (.arraylength, 1) := by decide +kernel
theorem ds_lcharAt_3 : decode prog_15_method_2_code 3 = .ok (.invokestatic 9, 3) := by decide +kernel
theorem ds_lcharAt_6 : decode prog_15_method_2_code 6 = .ok (.aload_n 0, 1) := by decide +kernel
theorem ds_lcharAt_7 : decode prog_15_method_2_code 7 = .ok (.iload_n 1, 1) := by decide +kernel
theorem ds_lcharAt_8 : decode prog_15_method_2_code 8 = .ok (.baload, 1) := by decide +kernel
theorem ds_lcharAt_9 : decode prog_15_method_2_code 9 = .ok (.sipush 255, 3) := by decide +kernel
theorem ds_lcharAt_12 : decode prog_15_method_2_code 12 = .ok (.iand, 1) := by decide +kernel
theorem ds_lcharAt_13 : decode prog_15_method_2_code 13 = .ok (.i2c, 1) := by decide +kernel
theorem ds_lcharAt_14 : decode prog_15_method_2_code 14 = .ok (.ireturn, 1) := by decide +kernel
theorem mis_lcharAt : pm_mi pmTs (⟨"java/lang/StringLatin1", "charAt", "([BI)C"⟩ : MethodName) prog_15_method_2_code 2 (some .char) 2 := ⟨tw_157, tw_95, ⟨by decide, by decide⟩, by decide +kernel⟩
theorem ds_checkIndex_0 : decode prog_14_method_155_code 0 = .ok (.iload_n 0, 1) := by decide +kernel
theorem ds_checkIndex_1 : decode prog_14_method_155_code 1 = .ok (.iload_n 1, 1) := by decide +kernel
theorem ds_checkIndex_2 : decode prog_14_method_155_code 2 = .ok (.getstatic 1053, 3) := by decide +kernel
theorem ds_checkIndex_5 : decode prog_14_method_155_code 5 = .ok (.invokestatic 1059, 3) := by decide +kernel
theorem ds_checkIndex_8 : decode prog_14_method_155_code 8 = .ok (.pop, 1) := by decide +kernel
theorem ds_checkIndex_9 : decode prog_14_method_155_code 9 = .ok (.return_, 1) := by decide +kernel
theorem mis_checkIndex : pm_mi pmTs (⟨"java/lang/String", "checkIndex", "(II)V"⟩ : MethodName) prog_14_method_155_code 2 none 2 := ⟨tw_160, tw_94, ⟨by decide, by decide⟩, by decide +kernel⟩
theorem ds_pcheck_0 : decode prog_17_method_11_code 0 = .ok (.iload_n 0, 1) := by decide +kernel
theorem ds_pcheck_1 : decode prog_17_method_11_code 1 = .ok (.ifCond .lt 8, 3) := by decide +kernel
theorem ds_pcheck_4 : decode prog_17_method_11_code 4 = .ok (.iload_n 0, 1) := by decide +kernel
theorem ds_pcheck_5 : decode prog_17_method_11_code 5 = .ok (.iload_n 1, 1) := by decide +kernel
theorem ds_pcheck_6 : decode prog_17_method_11_code 6 = .ok (.if_icmp .lt 10, 3) := by decide +kernel
theorem ds_pcheck_16 : decode prog_17_method_11_code 16 = .ok (.iload_n 0, 1) := by decide +kernel
theorem ds_pcheck_17 : decode prog_17_method_11_code 17 = .ok (.ireturn, 1) := by decide +kernel
theorem mis_pcheck : pm_mi pmTs (⟨"jdk/internal/util/Preconditions", "checkIndex", "(IILjava/util/function/BiFunction;)I"⟩ : MethodName) prog_17_method_11_code 3 (some .int) 3 := ⟨tw_164, tw_96, ⟨by decide, by decide⟩, by decide +kernel⟩
set_option maxHeartbeats 4000000 in
set_option maxRecDepth 100000 in
theorem cs_coder {l : Launch} {D : va_G} {cl : List vw_C} {tys : List (ClassId × FieldType)} {sh : List pm_E} {ca : Nat → ClassId} {ad adK adV : Nat → Nat} (k : Nat) (hk : k < 6) (w : pm_W) : pm_Met l pmTs D cl tys sh ca ad (st_E adK adV) (⟨"java/lang/String", "coder", "()B"⟩ : MethodName) prog_14_method_152_code 1 (some .byte) { frames := 0, cells := 0, slots := 0, locals := 0 } [.ref (adK k)] w (some (.int 0), w) := by
  refine pm_start pmTs_good (st_cl adK adV) (by decide) (Nat.le_of_ble_eq_true rfl) (fun p e s m below meth c K => ?_)
  have hE := K.2.2.2.2.2.2.2.2.2.2.2.1
  refine pm_gets K hE.2.1 tw_146 ds_coder_0 ?_
  refine pm_if_eq K ds_coder_3 13 (by decide) (fun c1 => absurd c1 (by decide)) (fun _ => ?_)
  refine pm_aload_n K ds_coder_6 0 rfl rfl ?_
  refine pm_sget K (hE.1.1 k hk).2.1 tw_891 ds_coder_7 ?_
  refine pm_goto K ds_coder_10 14 (by decide) ?_
  exact pm_zret K (by decide) ds_coder_14
set_option maxHeartbeats 4000000 in
set_option maxRecDepth 100000 in
theorem cs_isLatin1 {l : Launch} {D : va_G} {cl : List vw_C} {tys : List (ClassId × FieldType)} {sh : List pm_E} {ca : Nat → ClassId} {ad adK adV : Nat → Nat} (k : Nat) (hk : k < 6) (w : pm_W) : pm_Met l pmTs D cl tys sh ca ad (st_E adK adV) (⟨"java/lang/String", "isLatin1", "()Z"⟩ : MethodName) prog_14_method_154_code 1 (some .boolean) { frames := 0, cells := 0, slots := 0, locals := 0 } [.ref (adK k)] w (some (.int 1), w) := by
  refine pm_start pmTs_good (st_cl adK adV) (by decide) (Nat.le_of_ble_eq_true rfl) (fun p e s m below meth c K => ?_)
  have hE := K.2.2.2.2.2.2.2.2.2.2.2.1
  refine pm_gets K hE.2.1 tw_146 ds_isLatin1_0 ?_
  refine pm_if_eq K ds_isLatin1_3 17 (by decide) (fun c1 => absurd c1 (by decide)) (fun _ => ?_)
  refine pm_aload_n K ds_isLatin1_6 0 rfl rfl ?_
  refine pm_sget K (hE.1.1 k hk).2.1 tw_891 ds_isLatin1_7 ?_
  refine pm_if_ne K ds_isLatin1_10 17 (by decide) (fun c1 => absurd rfl c1) (fun _ => ?_)
  refine pm_iconst (v := 1) K ds_isLatin1_13 (by decide) ?_
  refine pm_goto K ds_isLatin1_14 18 (by decide) ?_
  exact pm_zret K (by decide) ds_isLatin1_18
set_option maxHeartbeats 4000000 in
set_option maxRecDepth 100000 in
theorem cs_pcheck {l : Launch} {D : va_G} {cl : List vw_C} {tys : List (ClassId × FieldType)} {sh : List pm_E} {ca : Nat → ClassId} {ad adK adV : Nat → Nat} (i n : Int32) (v : Value) (h1 : ¬ i < 0) (h2 : i < n) (hv : v.category = 1) (w : pm_W) : pm_Met l pmTs D cl tys sh ca ad (st_E adK adV) (⟨"jdk/internal/util/Preconditions", "checkIndex", "(IILjava/util/function/BiFunction;)I"⟩ : MethodName) prog_17_method_11_code 3 (some .int) { frames := 0, cells := 0, slots := 0, locals := 0 } [.int i, .int n, v] w (some (.int i), w) := by
  refine pm_start pmTs_good (st_cl adK adV) (by decide) (by cases v <;> first | (simp [lg_sl, Value.category]; done) | (simp [Value.category] at hv)) (fun p e s m below meth c K => ?_)
  refine pm_iload_n K ds_pcheck_0 0 rfl rfl ?_
  refine pm_if_lt K ds_pcheck_1 9 (by decide) (fun c1 => absurd c1 h1) (fun _ => ?_)
  refine pm_iload_n K ds_pcheck_4 0 rfl rfl ?_
  refine pm_iload_n K ds_pcheck_5 1 rfl rfl ?_
  refine pm_icmp_lt K ds_pcheck_6 16 (by decide) (fun _ => ?_) (fun c1 => absurd h2 c1)
  refine pm_iload_n K ds_pcheck_16 0 rfl rfl ?_
  exact pm_iret K ds_pcheck_17
set_option maxHeartbeats 4000000 in
set_option maxRecDepth 100000 in
theorem cs_checkIndex {l : Launch} {D : va_G} {cl : List vw_C} {tys : List (ClassId × FieldType)} {sh : List pm_E} {ca : Nat → ClassId} {ad adK adV : Nat → Nat} (i n : Int32) (h1 : ¬ i < 0) (h2 : i < n) (w : pm_W) : pm_Met l pmTs D cl tys sh ca ad (st_E adK adV) (⟨"java/lang/String", "checkIndex", "(II)V"⟩ : MethodName) prog_14_method_155_code 2 none { frames := 1, cells := 0, slots := 0, locals := 24 } [.int i, .int n] w (none, w) := by
  refine pm_start pmTs_good (st_cl adK adV) (by decide) (Nat.le_of_ble_eq_true rfl) (fun p e s m below meth c K => ?_)
  have hE := K.2.2.2.2.2.2.2.2.2.2.2.1
  refine pm_iload_n K ds_checkIndex_0 0 rfl rfl ?_
  refine pm_iload_n K ds_checkIndex_1 1 rfl rfl ?_
  have key : ∀ v : Value, v.category = 1 → va_Z "jdk/internal/util/Preconditions" "SIOOBE_FORMATTER" "Ljava/util/function/BiFunction;" v (pm_A sh ad s.heap.size) s s.heap → pm_wk p l e { frames := 1, cells := 0, slots := 0, locals := 24 } s m [Value.int i, Value.int n].toArray below meth c D cl sh ca ad 2 (none, w) (0 + 1 + 1) (lv_args 0 [.int i, .int n]) [.int n, .int i] w := by
    intro v hv hZ
    refine pm_gets K hZ tw_161 ds_checkIndex_2 ?_
    refine pm_callS (As := [.int i, .int n, v]) (rest := []) K (cs_pcheck i n v h1 h2 hv w) mis_pcheck tw_163 tw_162 rfl ⟨rfl, rfl, Nat.le_of_ble_eq_true rfl, Nat.le_of_ble_eq_true rfl⟩ rfl (Nat.le_of_ble_eq_true rfl) ds_checkIndex_5 ?_
    refine pm_pop K ds_checkIndex_8 rfl ?_
    exact pm_vret K ds_checkIndex_9
  rcases hE.2.2.1 with h | ⟨t, h⟩
  · exact key .null rfl h
  · exact key (.ref t) rfl h
set_option maxHeartbeats 4000000 in
set_option maxRecDepth 100000 in
theorem cs_lcharAt {l : Launch} {D : va_G} {cl : List vw_C} {tys : List (ClassId × FieldType)} {sh : List pm_E} {ca : Nat → ClassId} {ad adK adV : Nat → Nat} (k : Nat) (hk : k < 6) (i : Int32) (h : ¬ (i < 0 ∨ st_len.getD k 0 ≤ i.toNatClampNeg)) (hn : i < nI (st_len.getD k 0)) (w : pm_W) : pm_Met l pmTs D cl tys sh ca ad (st_E adK adV) (⟨"java/lang/StringLatin1", "charAt", "([BI)C"⟩ : MethodName) prog_15_method_2_code 2 (some .char) { frames := 2, cells := 0, slots := 0, locals := 45 } [.ref (adV k), .int i] w (some (.int (st_ch k i)), w) := by
  refine pm_start pmTs_good (st_cl adK adV) (by decide) (Nat.le_of_ble_eq_true rfl) (fun p e s m below meth c K => ?_)
  have hE := K.2.2.2.2.2.2.2.2.2.2.2.1
  refine pm_iload_n K ds_lcharAt_0 1 rfl rfl ?_
  refine pm_aload_n K ds_lcharAt_1 0 rfl rfl ?_
  refine pm_tlen K (hE.1.1 k hk).2.2.2 rfl ds_lcharAt_2 ?_
  refine pm_callS (As := [.int i, .int (Int32.ofNat (st_len.getD k 0))]) (rest := []) K (cs_checkIndex i _ (fun q => h (Or.inl q)) hn w) mis_checkIndex tw_159 tw_158 rfl ⟨rfl, rfl, Nat.le_of_ble_eq_true rfl, Nat.le_of_ble_eq_true rfl⟩ rfl (Nat.le_of_ble_eq_true rfl) ds_lcharAt_3 ?_
  refine pm_aload_n K ds_lcharAt_6 0 rfl rfl ?_
  refine pm_iload_n K ds_lcharAt_7 1 rfl rfl ?_
  refine pm_tb K (hE.1.1 k hk).2.2.2 h rfl ds_lcharAt_8 ?_
  refine pm_sipush (v := 255) K ds_lcharAt_9 (by decide) ?_
  refine pm_iand K ds_lcharAt_12 ?_
  refine pm_i2c K ds_lcharAt_13 rfl ?_
  exact pm_zret K (pk_nc _) ds_lcharAt_14
set_option maxHeartbeats 4000000 in
set_option maxRecDepth 100000 in
theorem cs_charAt {l : Launch} {D : va_G} {cl : List vw_C} {tys : List (ClassId × FieldType)} {sh : List pm_E} {ca : Nat → ClassId} {ad adK adV : Nat → Nat} (k : Nat) (hk : k < 6) (i : Int32) (h : ¬ (i < 0 ∨ st_len.getD k 0 ≤ i.toNatClampNeg)) (hn : i < nI (st_len.getD k 0)) (w : pm_W) : pm_Met l pmTs D cl tys sh ca ad (st_E adK adV) (⟨"java/lang/String", "charAt", "(I)C"⟩ : MethodName) prog_14_method_56_code 2 (some .char) { frames := 3, cells := 0, slots := 0, locals := 66 } [.ref (adK k), .int i] w (some (.int (st_ch k i)), w) := by
  refine pm_start pmTs_good (st_cl adK adV) (by decide) (Nat.le_of_ble_eq_true rfl) (fun p e s m below meth c K => ?_)
  have hE := K.2.2.2.2.2.2.2.2.2.2.2.1
  refine pm_aload_n K ds_charAt_0 0 rfl rfl ?_
  refine pm_callX (As := []) (rest := []) (b := adK k) K (cs_isLatin1 k hk w) mis_isLatin1 (fun H locs hS => vk_recv hE.1 hk hS) tw_152 tw_153 tw_151 rfl ⟨rfl, rfl, Nat.le_of_ble_eq_true rfl, Nat.le_of_ble_eq_true rfl⟩ rfl (Nat.le_of_ble_eq_true rfl) ds_charAt_1 ?_
  refine pm_if_eq K ds_charAt_4 16 (by decide) (fun c1 => absurd c1 (by decide)) (fun _ => ?_)
  refine pm_aload_n K ds_charAt_7 0 rfl rfl ?_
  refine pm_sget K (hE.1.1 k hk).2.2.1 tw_890 ds_charAt_8 ?_
  refine pm_iload_n K ds_charAt_11 1 rfl rfl ?_
  refine pm_callS (As := [.ref (adV k), .int i]) (rest := []) K (cs_lcharAt k hk i h hn w) mis_lcharAt tw_156 tw_155 rfl ⟨rfl, rfl, Nat.le_of_ble_eq_true rfl, Nat.le_of_ble_eq_true rfl⟩ rfl (Nat.le_of_ble_eq_true rfl) ds_charAt_12 ?_
  exact pm_zret K (pk_nc _) ds_charAt_15
set_option maxHeartbeats 4000000 in
set_option maxRecDepth 100000 in
theorem cs_length {l : Launch} {D : va_G} {cl : List vw_C} {tys : List (ClassId × FieldType)} {sh : List pm_E} {ca : Nat → ClassId} {ad adK adV : Nat → Nat} (k : Nat) (hk : k < 6) (w : pm_W) : pm_Met l pmTs D cl tys sh ca ad (st_E adK adV) (⟨"java/lang/String", "length", "()I"⟩ : MethodName) prog_14_method_54_code 1 (some .int) { frames := 1, cells := 0, slots := 0, locals := 20 } [.ref (adK k)] w (some (.int (nI (st_len.getD k 0))), w) := by
  refine pm_start pmTs_good (st_cl adK adV) (by decide) (Nat.le_of_ble_eq_true rfl) (fun p e s m below meth c K => ?_)
  have hE := K.2.2.2.2.2.2.2.2.2.2.2.1
  refine pm_aload_n K ds_length_0 0 rfl rfl ?_
  refine pm_sget K (hE.1.1 k hk).2.2.1 tw_890 ds_length_1 ?_
  refine pm_tlen K (hE.1.1 k hk).2.2.2 rfl ds_length_4 ?_
  refine pm_aload_n K ds_length_5 0 rfl rfl ?_
  refine pm_callX (As := []) (rest := [.int (Int32.ofNat (st_len.getD k 0))]) (b := adK k) K (cs_coder k hk w) mis_coder (fun H locs hS => vk_recv hE.1 hk hS) tw_143 tw_144 tw_142 rfl ⟨rfl, rfl, Nat.le_of_ble_eq_true rfl, Nat.le_of_ble_eq_true rfl⟩ rfl (Nat.le_of_ble_eq_true rfl) ds_length_6 ?_
  refine pm_ishr K ds_length_9 ?_
  rw [sb_shr0]
  exact pm_iret K ds_length_10
