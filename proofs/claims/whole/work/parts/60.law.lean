/-! THE CLAIM OUT OF ONE WALK OF THE LAW'S BODY. Your part is whole_start (and what it stands on); all else here is the same for every law, but numbers. -/
def R_law : String := "CellLispLaw"
def lw_P (b : Addr) (xs : List Int32) (args : Array Value) (s : State) : Prop := args = #[.ref b] ∧ s.IntsAt b xs ∧ xs.length ≤ 1537 ∧ (Jvm.Cond.and given_1 narrow_1).before args s = true
def lw_Q (_ : Array Value) (s : State) (o : Outcome) (t : State) : Prop := o = .returned (some (.int 1)) ∧ Framed s o t [] 600000 7302250
def lw_Z (below : List Frame) (a : Array Value) (s : State) : State → Prop := fun t => ∃ o, t.status = .running ∧ Ended t below o ∧ lw_Q a s o t
/-- the law's own end, with 1 on the stack, nothing written that was there before, its room as the claim has it -/
theorem lw_ret {p : Program} {l : Launch} {e : Env} {s : State} {m : MethodId} {below : List Frame} {meth : Method} {c : Code} {b : Nat} (hx : p.tables.exec = Jvm.exec) (hb : c.code = code) (hr : meth.sig.returnType = ret) (hlocks : meth.locks = false) {pc : Nat} {H : Heap} {ls : Array Slot} (hdg : decode code pc = .ok (.ireturn, 1)) : W p l e room_1 s m #[Value.ref b] below meth c H [] 600000 7302250 (lw_Z below #[Value.ref b] s) (F0 m pc ls [.int 1]) := by
  intro T hT X
  obtain ⟨fs, hret, hrun, hended, hW, hframe⟩ := X.leave (v := some (.int 1)) (hlocks := hlocks) (fun h => by rw [hr] at h; cases h)
  have hmeth' : T.vm.method? m = some meth := X.method'
  refine ⟨T.setFrames fs, ?_, .returned (some (.int 1)), hrun, hended, rfl, ⟨_, rfl⟩, hW, hframe⟩
  jvm_step X.here [X.here.top, hx, hb, hdg, hmeth', hr, ret, narrow_b1]
  (try refine ⟨rfl, ?_⟩); (try refine ⟨rfl, ?_⟩)
  first | (intro acts; rw [hret _ acts rfl rfl rfl]) | rw [hret _ _ rfl rfl rfl]
  exact Steps.refl _
/-- what holds at the law's entry: the machine, the code, the tables' words (any of lw_tbl by 'hts w (by decide +kernel)'), the script of L ints xs at the cell b, what the Statement gives of the start (any of its parts by flat_of_before) -/
def lw_At (p : Program) (s : State) (m : MethodId) (meth : Method) (c : Code) (b L : Nat) (xs : Nat → Int32) : Prop :=
  p.tables.exec = Jvm.exec ∧ c.code = code ∧ meth.sig.returnType = ret ∧ c.maxLocals = 4 ∧ s.vm.findClass R_law = some m.cls ∧ (∀ w ∈ lw_tbl, w.before #[Value.ref b] s = true) ∧ va_X b L xs s s.heap ∧ b < s.heap.size ∧ meth.locks = false ∧ (Jvm.Cond.and given_1 narrow_1).before #[Value.ref b] s = true
def st_tm (i : Nat) : Term := match i with
  | 0 => .string R_Symbols 17
  | 1 => .string R_Printer 54
  | 2 => .string R_Printer 83
  | 3 => .string R_Printer 85
  | 4 => .string R_Printer 63
  | _ => .string R_Printer 65
def lw_F : List Cond := flatC (Jvm.Cond.and given_1 narrow_1)
theorem st_f1 : ∀ i, i < 6 → Cond.exactly (st_tm i) "java/lang/String" ∈ lw_F := by decide +kernel
theorem st_f2 : ∀ i, i < 6 → Cond.eq (.field (st_tm i) "java/lang/String" "coder" "B") (.int 0) ∈ lw_F := by decide +kernel
theorem st_f3 : ∀ i, i < 6 → Cond.arrayOf (.field (st_tm i) "java/lang/String" "value" "[B") .byte ∈ lw_F := by decide +kernel
theorem st_f4 : ∀ i, i < 6 → Cond.eq (.length (.field (st_tm i) "java/lang/String" "value" "[B")) (.int (Int32.ofNat (st_len.getD i 0))) ∈ lw_F := by decide +kernel
theorem st_f5 : ∀ i, i < 6 → ∀ j, j < st_len.getD i 0 → Cond.eq (.elem (.field (st_tm i) "java/lang/String" "value" "[B") (.int (Int32.ofNat j))) (.int ((st_byt.getD i []).getD j 0)) ∈ lw_F := by decide +kernel
theorem st_f6 : ∀ i, i < 6 → ∀ j, j < 6 → i ≠ j → Cond.not (Cond.eq (st_tm i) (st_tm j)) ∈ lw_F ∨ Cond.not (Cond.eq (st_tm j) (st_tm i)) ∈ lw_F := by decide +kernel
theorem st_f7 : Cond.eq (.static "java/lang/String" "COMPACT_STRINGS" "Z") (.int 1) ∈ lw_F := by decide +kernel
theorem st_f8 : Cond.isRef (.static "jdk/internal/util/Preconditions" "SIOOBE_FORMATTER" "Ljava/util/function/BiFunction;") ∈ lw_F := by decide +kernel
theorem st_f9 : ∀ i, i < 6 → st_len.getD i 0 < 2 ^ 31 := by decide +kernel
abbrev lw_A (s : State) : Nat → Prop := fun q => s.heap.size ≤ q
theorem st_r0 : Cond.stringRef R_Symbols 17 "+ - * < eq? atom? cons car cdr list quote if lambda define set! t " ∈ lw_tbl := List.mem_of_getElem? (i := 150) (by decide +kernel)
theorem st_r1 : Cond.stringRef R_Printer 54 "..." ∈ lw_tbl := List.mem_of_getElem? (i := 775) (by decide +kernel)
theorem st_r2 : Cond.stringRef R_Printer 83 " ..." ∈ lw_tbl := List.mem_of_getElem? (i := 793) (by decide +kernel)
theorem st_r3 : Cond.stringRef R_Printer 85 " . " ∈ lw_tbl := List.mem_of_getElem? (i := 794) (by decide +kernel)
theorem st_r4 : Cond.stringRef R_Printer 63 "<fn>" ∈ lw_tbl := List.mem_of_getElem? (i := 795) (by decide +kernel)
theorem st_r5 : Cond.stringRef R_Printer 65 "()" ∈ lw_tbl := List.mem_of_getElem? (i := 796) (by decide +kernel)
theorem st_s1 : Cond.laysStatic "java/lang/String" "COMPACT_STRINGS" "Z" ∈ lw_tbl := List.mem_of_getElem? (i := 160) (by decide +kernel)
theorem st_s2 : Cond.laysStatic "jdk/internal/util/Preconditions" "SIOOBE_FORMATTER" "Ljava/util/function/BiFunction;" ∈ lw_tbl := List.mem_of_getElem? (i := 176) (by decide +kernel)
theorem lw_str {s : State} {b : Nat} (hts : ∀ w ∈ lw_tbl, w.before #[Value.ref b] s = true) (hgv : (Jvm.Cond.and given_1 narrow_1).before #[Value.ref b] s = true) : ∃ adK adV : Nat → Nat, st_E adK adV (lw_A s) s s.heap := by
  have hs := flat_of_before _ hgv
  have hA : ∀ a : Nat, a < s.heap.size → ¬ lw_A s a := fun a h1 h2 => absurd h1 (Nat.not_lt.mpr h2)
  obtain ⟨adK, adV, hS, hev⟩ := vk_Sof (args := #[Value.ref b]) (s := s) (N := 6) (tm := st_tm) (len := st_len) (byt := st_byt) (A := lw_A s) st_f9 (fun i hi => hs _ (st_f1 i hi)) (fun i hi => hs _ (st_f2 i hi)) (fun i hi => hs _ (st_f3 i hi)) (fun i hi => hs _ (st_f4 i hi)) (fun i hi j hj => hs _ (st_f5 i hi j hj)) (fun i j hi hj hij => (st_f6 i hi j hj hij).imp (fun h => hs _ h) (fun h => hs _ h)) hA
  exact ⟨adK, adV, hS, va_Zof (hts _ st_s1) (hts _ (pmTs_in _ tw_94)) (va_eqi (hs _ st_f7)) hA, va_Zqof (hts _ st_s2) (hts _ (pmTs_in _ tw_96)) (hs _ st_f8) hA, vk_R.of (hts _ st_r0) (hev 0 (by decide)), vk_R.of (hts _ st_r1) (hev 1 (by decide)), vk_R.of (hts _ st_r2) (hev 2 (by decide)), vk_R.of (hts _ st_r3) (hev 3 (by decide)), vk_R.of (hts _ st_r4) (hev 4 (by decide)), vk_R.of (hts _ st_r5) (hev 5 (by decide))⟩
theorem lw_K {s : State} {args : Array Value} (hp : ∀ w ∈ pmTs, w.before args s = true) (ha : (Cond.arrayClass .int).before args s = true ∧ (Cond.arrayClass .char).before args s = true ∧ (Cond.arrayClass .boolean).before args s = true ∧ (Cond.arrayClass .long).before args s = true) : ∃ (D : va_G) (ca : Nat → ClassId), va_K D vwCl (tyl ca) s := by
  have h : ∀ k : Nat, ∃ x : ClassId × (Nat → Nat), ∀ q : vw_C, vwCl[k]? = some q → u_Kn s q.1 q.2.1 q.2.2 x.1 x.2 := by
    intro k
    match k with
    | 0 => obtain ⟨cC, iS, h⟩ := u_known (C := R_CL) (T := T_CL) (N := 6) (n := 6) hp fc_0.2.1 (hp _ tw_107); exact ⟨(cC, iS), fun q hq => by cases hq; exact h⟩
    | 1 => obtain ⟨cC, iS, h⟩ := u_known (C := R_Text) (T := T_Text) (N := 2) (n := 2) hp fc_1.2.1 (hp _ tw_114); exact ⟨(cC, iS), fun q hq => by cases hq; exact h⟩
    | 2 => obtain ⟨cC, iS, h⟩ := u_known (C := R_Output) (T := T_Output) (N := 2) (n := 2) hp fc_2.2.1 (hp _ tw_124); exact ⟨(cC, iS), fun q hq => by cases hq; exact h⟩
    | 3 => obtain ⟨cC, iS, h⟩ := u_known (C := R_Symbols) (T := T_Symbols) (N := 3) (n := 3) hp fc_3.2.1 (hp _ tw_133); exact ⟨(cC, iS), fun q hq => by cases hq; exact h⟩
    | 4 => obtain ⟨cC, iS, h⟩ := u_known (C := R_State) (T := T_State) (N := 8) (n := 8) hp fc_4.2.1 (hp _ tw_199); exact ⟨(cC, iS), fun q hq => by cases hq; exact h⟩
    | 5 => obtain ⟨cC, iS, h⟩ := u_known (C := R_Room) (T := T_Room) (N := 13) (n := 13) hp fc_5.2.1 (hp _ tw_223); exact ⟨(cC, iS), fun q hq => by cases hq; exact h⟩
    | 6 => obtain ⟨cC, iS, h⟩ := u_known (C := R_Machine) (T := T_Machine) (N := 7) (n := 7) hp fc_6.2.1 (hp _ tw_250); exact ⟨(cC, iS), fun q hq => by cases hq; exact h⟩
    | 7 => obtain ⟨cC, iS, h⟩ := u_known (C := R_Reader) (T := T_Reader) (N := 9) (n := 9) hp fc_7.2.1 (hp _ tw_252); exact ⟨(cC, iS), fun q hq => by cases hq; exact h⟩
    | 8 => obtain ⟨cC, iS, h⟩ := u_known (C := R_Printer) (T := T_Printer) (N := 3) (n := 3) hp fc_8.2.1 (hp _ tw_268); exact ⟨(cC, iS), fun q hq => by cases hq; exact h⟩
    | 9 => obtain ⟨cC, iS, h⟩ := u_known (C := R_Md) (T := T_Md) (N := 31) (n := 31) hp fc_9.2.1 (hp _ tw_657); exact ⟨(cC, iS), fun q hq => by cases hq; exact h⟩
    | k + 10 => exact ⟨(0, fun _ => 0), fun q hq => by simp [vwCl] at hq⟩
  obtain ⟨f, hf⟩ := Classical.axiomOfChoice h
  obtain ⟨c0, k0, p0, a0, b0, d0⟩ := Cond.arrayClass_spec ha.1
  obtain ⟨c1, k1, p1, a1, b1, d1⟩ := Cond.arrayClass_spec ha.2.1
  obtain ⟨c2, k2, p2, a2, b2, d2⟩ := Cond.arrayClass_spec ha.2.2.1
  obtain ⟨c3, k3, p3, a3, b3, d3⟩ := Cond.arrayClass_spec ha.2.2.2
  refine ⟨(fun k => (f k).1, fun k => (f k).2), fun t => [c0, c1, c2, c3].getD t 0, fun k q hq => hf k q hq, fun k q hq => ?_⟩
  match k, hq with
  | 0, hq => cases hq; exact ⟨fun n z => ⟨fun k h => (by cases h), k0, b0, p0, d0⟩, a0⟩
  | 1, hq => cases hq; exact ⟨fun n z => ⟨fun k h => (by cases h), k1, b1, p1, d1⟩, a1⟩
  | 2, hq => cases hq; exact ⟨fun n z => ⟨fun k h => (by cases h), k2, b2, p2, d2⟩, a2⟩
  | 3, hq => cases hq; exact ⟨fun n z => ⟨fun k h => (by cases h), k3, b3, p3, d3⟩, a3⟩
  | k + 4, hq => simp [tyl] at hq
theorem lw_x0 : Cond.code objectInit ⟨#[0xb1]⟩ 1 none ∈ lw_tbl := List.mem_of_getElem? (i := 113) (by decide +kernel)
theorem lw_a_int : Cond.arrayClass .int ∈ lw_tbl := List.mem_of_getElem? (i := 224) (by decide +kernel)
theorem lw_a_char : Cond.arrayClass .char ∈ lw_tbl := List.mem_of_getElem? (i := 129) (by decide +kernel)
theorem lw_a_boolean : Cond.arrayClass .boolean ∈ lw_tbl := List.mem_of_getElem? (i := 321) (by decide +kernel)
theorem lw_a_long : Cond.arrayClass .long ∈ lw_tbl := List.mem_of_getElem? (i := 223) (by decide +kernel)
theorem lw_X {s : State} {args : Array Value} (hts : ∀ w ∈ lw_tbl, w.before args s = true) : pn_X s :=
  ⟨va_tabs rfl rfl (hts _ lw_x0), word_at (State.WarmedH.refl s) (Or.inr ⟨_, rfl⟩) (hts _ lw_a_int), word_at (State.WarmedH.refl s) (Or.inr ⟨_, rfl⟩) (hts _ lw_a_char), word_at (State.WarmedH.refl s) (Or.inr ⟨_, rfl⟩) (hts _ lw_a_boolean), word_at (State.WarmedH.refl s) (Or.inr ⟨_, rfl⟩) (hts _ lw_a_long)⟩
theorem lw_T {s : State} {args : Array Value} (hts : ∀ w ∈ lw_tbl, w.before args s = true) : pm_T pmTs s := fun w hw => va_tabs (pm_good_on (pmTs_good w hw)) rfl (hts w (pmTs_in w hw))
theorem d_law_0 : decode code 0 = .ok (.new 7, 3) := by decide +kernel
theorem d_law_3 : decode code 3 = .ok (.dup, 1) := by decide +kernel
theorem d_law_4 : decode code 4 = .ok (.aload_n 0, 1) := by decide +kernel
theorem d_law_5 : decode code 5 = .ok (.iconst 0, 1) := by decide +kernel
theorem d_law_6 : decode code 6 = .ok (.invokestatic 9, 3) := by decide +kernel
theorem d_law_9 : decode code 9 = .ok (.invokespecial 15, 3) := by decide +kernel
theorem d_law_12 : decode code 12 = .ok (.astore_n 1, 1) := by decide +kernel
theorem d_law_13 : decode code 13 = .ok (.new 18, 3) := by decide +kernel
theorem d_law_16 : decode code 16 = .ok (.dup, 1) := by decide +kernel
theorem d_law_17 : decode code 17 = .ok (.aload_n 0, 1) := by decide +kernel
theorem d_law_18 : decode code 18 = .ok (.iconst 0, 1) := by decide +kernel
theorem d_law_19 : decode code 19 = .ok (.invokestatic 9, 3) := by decide +kernel
theorem d_law_22 : decode code 22 = .ok (.invokespecial 20, 3) := by decide +kernel
theorem d_law_25 : decode code 25 = .ok (.astore_n 2, 1) := by decide +kernel
theorem d_law_26 : decode code 26 = .ok (.iconst 1, 1) := by decide +kernel
theorem d_law_27 : decode code 27 = .ok (.istore_n 3, 1) := by decide +kernel
theorem d_law_28 : decode code 28 = .ok (.iload_n 3, 1) := by decide +kernel
theorem d_law_29 : decode code 29 = .ok (.aload_n 0, 1) := by decide +kernel
theorem d_law_30 : decode code 30 = .ok (.arraylength, 1) := by decide +kernel
theorem d_law_31 : decode code 31 = .ok (.iconst 3, 1) := by decide +kernel
theorem d_law_32 : decode code 32 = .ok (.isub, 1) := by decide +kernel
theorem d_law_33 : decode code 33 = .ok (.if_icmp .gt (196), 3) := by decide +kernel
theorem d_law_36 : decode code 36 = .ok (.aload_n 0, 1) := by decide +kernel
theorem d_law_37 : decode code 37 = .ok (.iload_n 3, 1) := by decide +kernel
theorem d_law_38 : decode code 38 = .ok (.iaload, 1) := by decide +kernel
theorem d_law_39 : decode code 39 = .ok (.bipush 7, 2) := by decide +kernel
theorem d_law_41 : decode code 41 = .ok (.iand, 1) := by decide +kernel
theorem d_law_42 : decode code 42 = .ok (.tableswitch (181) (0) (6) #[42, 75, 98, 111, 134, 145, 158], 42) := by decide +kernel
theorem d_law_84 : decode code 84 = .ok (.aload_n 1, 1) := by decide +kernel
theorem d_law_85 : decode code 85 = .ok (.aload_n 0, 1) := by decide +kernel
theorem d_law_86 : decode code 86 = .ok (.iload_n 3, 1) := by decide +kernel
theorem d_law_87 : decode code 87 = .ok (.iconst 1, 1) := by decide +kernel
theorem d_law_88 : decode code 88 = .ok (.iadd, 1) := by decide +kernel
theorem d_law_89 : decode code 89 = .ok (.iaload, 1) := by decide +kernel
theorem d_law_90 : decode code 90 = .ok (.aload_n 0, 1) := by decide +kernel
theorem d_law_91 : decode code 91 = .ok (.iload_n 3, 1) := by decide +kernel
theorem d_law_92 : decode code 92 = .ok (.iconst 2, 1) := by decide +kernel
theorem d_law_93 : decode code 93 = .ok (.iadd, 1) := by decide +kernel
theorem d_law_94 : decode code 94 = .ok (.iaload, 1) := by decide +kernel
theorem d_law_95 : decode code 95 = .ok (.invokevirtual 21, 3) := by decide +kernel
theorem d_law_98 : decode code 98 = .ok (.aload_n 2, 1) := by decide +kernel
theorem d_law_99 : decode code 99 = .ok (.aload_n 0, 1) := by decide +kernel
theorem d_law_100 : decode code 100 = .ok (.iload_n 3, 1) := by decide +kernel
theorem d_law_101 : decode code 101 = .ok (.iconst 1, 1) := by decide +kernel
theorem d_law_102 : decode code 102 = .ok (.iadd, 1) := by decide +kernel
theorem d_law_103 : decode code 103 = .ok (.iaload, 1) := by decide +kernel
theorem d_law_104 : decode code 104 = .ok (.aload_n 0, 1) := by decide +kernel
theorem d_law_105 : decode code 105 = .ok (.iload_n 3, 1) := by decide +kernel
theorem d_law_106 : decode code 106 = .ok (.iconst 2, 1) := by decide +kernel
theorem d_law_107 : decode code 107 = .ok (.iadd, 1) := by decide +kernel
theorem d_law_108 : decode code 108 = .ok (.iaload, 1) := by decide +kernel
theorem d_law_109 : decode code 109 = .ok (.invokevirtual 25, 3) := by decide +kernel
theorem d_law_112 : decode code 112 = .ok (.if_icmp .eq (111), 3) := by decide +kernel
theorem d_law_115 : decode code 115 = .ok (.iconst 0, 1) := by decide +kernel
theorem d_law_116 : decode code 116 = .ok (.ireturn, 1) := by decide +kernel
theorem d_law_117 : decode code 117 = .ok (.aload_n 1, 1) := by decide +kernel
theorem d_law_118 : decode code 118 = .ok (.aload_n 0, 1) := by decide +kernel
theorem d_law_119 : decode code 119 = .ok (.iload_n 3, 1) := by decide +kernel
theorem d_law_120 : decode code 120 = .ok (.iconst 1, 1) := by decide +kernel
theorem d_law_121 : decode code 121 = .ok (.iadd, 1) := by decide +kernel
theorem d_law_122 : decode code 122 = .ok (.iaload, 1) := by decide +kernel
theorem d_law_123 : decode code 123 = .ok (.invokevirtual 26, 3) := by decide +kernel
theorem d_law_126 : decode code 126 = .ok (.aload_n 2, 1) := by decide +kernel
theorem d_law_127 : decode code 127 = .ok (.aload_n 0, 1) := by decide +kernel
theorem d_law_128 : decode code 128 = .ok (.iload_n 3, 1) := by decide +kernel
theorem d_law_129 : decode code 129 = .ok (.iconst 1, 1) := by decide +kernel
theorem d_law_130 : decode code 130 = .ok (.iadd, 1) := by decide +kernel
theorem d_law_131 : decode code 131 = .ok (.iaload, 1) := by decide +kernel
theorem d_law_132 : decode code 132 = .ok (.invokevirtual 30, 3) := by decide +kernel
theorem d_law_135 : decode code 135 = .ok (.if_icmp .eq (88), 3) := by decide +kernel
theorem d_law_138 : decode code 138 = .ok (.iconst 0, 1) := by decide +kernel
theorem d_law_139 : decode code 139 = .ok (.ireturn, 1) := by decide +kernel
theorem d_law_140 : decode code 140 = .ok (.aload_n 1, 1) := by decide +kernel
theorem d_law_141 : decode code 141 = .ok (.invokevirtual 31, 3) := by decide +kernel
theorem d_law_144 : decode code 144 = .ok (.aload_n 2, 1) := by decide +kernel
theorem d_law_145 : decode code 145 = .ok (.invokevirtual 35, 3) := by decide +kernel
theorem d_law_148 : decode code 148 = .ok (.if_icmp .eq (75), 3) := by decide +kernel
theorem d_law_151 : decode code 151 = .ok (.iconst 0, 1) := by decide +kernel
theorem d_law_152 : decode code 152 = .ok (.ireturn, 1) := by decide +kernel
theorem d_law_153 : decode code 153 = .ok (.aload_n 1, 1) := by decide +kernel
theorem d_law_154 : decode code 154 = .ok (.aload_n 0, 1) := by decide +kernel
theorem d_law_155 : decode code 155 = .ok (.iload_n 3, 1) := by decide +kernel
theorem d_law_156 : decode code 156 = .ok (.iconst 1, 1) := by decide +kernel
theorem d_law_157 : decode code 157 = .ok (.iadd, 1) := by decide +kernel
theorem d_law_158 : decode code 158 = .ok (.iaload, 1) := by decide +kernel
theorem d_law_159 : decode code 159 = .ok (.invokevirtual 36, 3) := by decide +kernel
theorem d_law_162 : decode code 162 = .ok (.aload_n 2, 1) := by decide +kernel
theorem d_law_163 : decode code 163 = .ok (.aload_n 0, 1) := by decide +kernel
theorem d_law_164 : decode code 164 = .ok (.iload_n 3, 1) := by decide +kernel
theorem d_law_165 : decode code 165 = .ok (.iconst 1, 1) := by decide +kernel
theorem d_law_166 : decode code 166 = .ok (.iadd, 1) := by decide +kernel
theorem d_law_167 : decode code 167 = .ok (.iaload, 1) := by decide +kernel
theorem d_law_168 : decode code 168 = .ok (.invokevirtual 39, 3) := by decide +kernel
theorem d_law_171 : decode code 171 = .ok (.if_icmp .eq (52), 3) := by decide +kernel
theorem d_law_174 : decode code 174 = .ok (.iconst 0, 1) := by decide +kernel
theorem d_law_175 : decode code 175 = .ok (.ireturn, 1) := by decide +kernel
theorem d_law_176 : decode code 176 = .ok (.aload_n 1, 1) := by decide +kernel
theorem d_law_177 : decode code 177 = .ok (.invokevirtual 40, 3) := by decide +kernel
theorem d_law_180 : decode code 180 = .ok (.aload_n 2, 1) := by decide +kernel
theorem d_law_181 : decode code 181 = .ok (.invokevirtual 43, 3) := by decide +kernel
theorem d_law_184 : decode code 184 = .ok (.goto (39), 3) := by decide +kernel
theorem d_law_187 : decode code 187 = .ok (.aload_n 1, 1) := by decide +kernel
theorem d_law_188 : decode code 188 = .ok (.invokevirtual 44, 3) := by decide +kernel
theorem d_law_191 : decode code 191 = .ok (.aload_n 2, 1) := by decide +kernel
theorem d_law_192 : decode code 192 = .ok (.invokevirtual 47, 3) := by decide +kernel
theorem d_law_195 : decode code 195 = .ok (.if_icmp .eq (28), 3) := by decide +kernel
theorem d_law_198 : decode code 198 = .ok (.iconst 0, 1) := by decide +kernel
theorem d_law_199 : decode code 199 = .ok (.ireturn, 1) := by decide +kernel
theorem d_law_200 : decode code 200 = .ok (.aload_n 1, 1) := by decide +kernel
theorem d_law_201 : decode code 201 = .ok (.aload_n 0, 1) := by decide +kernel
theorem d_law_202 : decode code 202 = .ok (.iload_n 3, 1) := by decide +kernel
theorem d_law_203 : decode code 203 = .ok (.iconst 1, 1) := by decide +kernel
theorem d_law_204 : decode code 204 = .ok (.iadd, 1) := by decide +kernel
theorem d_law_205 : decode code 205 = .ok (.iaload, 1) := by decide +kernel
theorem d_law_206 : decode code 206 = .ok (.invokevirtual 48, 3) := by decide +kernel
theorem d_law_209 : decode code 209 = .ok (.aload_n 2, 1) := by decide +kernel
theorem d_law_210 : decode code 210 = .ok (.aload_n 0, 1) := by decide +kernel
theorem d_law_211 : decode code 211 = .ok (.iload_n 3, 1) := by decide +kernel
theorem d_law_212 : decode code 212 = .ok (.iconst 1, 1) := by decide +kernel
theorem d_law_213 : decode code 213 = .ok (.iadd, 1) := by decide +kernel
theorem d_law_214 : decode code 214 = .ok (.iaload, 1) := by decide +kernel
theorem d_law_215 : decode code 215 = .ok (.invokevirtual 51, 3) := by decide +kernel
theorem d_law_218 : decode code 218 = .ok (.if_icmp .eq (5), 3) := by decide +kernel
theorem d_law_221 : decode code 221 = .ok (.iconst 0, 1) := by decide +kernel
theorem d_law_222 : decode code 222 = .ok (.ireturn, 1) := by decide +kernel
theorem d_law_223 : decode code 223 = .ok (.iinc 3 3, 3) := by decide +kernel
theorem d_law_226 : decode code 226 = .ok (.goto (-198), 3) := by decide +kernel
theorem d_law_229 : decode code 229 = .ok (.iconst 1, 1) := by decide +kernel
theorem d_law_230 : decode code 230 = .ok (.ireturn, 1) := by decide +kernel
theorem d_Law_cell_0 : decode k_Law_cell 0 = .ok (.iload_n 1, 1) := by decide +kernel
theorem d_Law_cell_1 : decode k_Law_cell 1 = .ok (.aload_n 0, 1) := by decide +kernel
theorem d_Law_cell_2 : decode k_Law_cell 2 = .ok (.arraylength, 1) := by decide +kernel
theorem d_Law_cell_3 : decode k_Law_cell 3 = .ok (.if_icmp .ge (9), 3) := by decide +kernel
theorem d_Law_cell_6 : decode k_Law_cell 6 = .ok (.aload_n 0, 1) := by decide +kernel
theorem d_Law_cell_7 : decode k_Law_cell 7 = .ok (.iload_n 1, 1) := by decide +kernel
theorem d_Law_cell_8 : decode k_Law_cell 8 = .ok (.iaload, 1) := by decide +kernel
theorem d_Law_cell_9 : decode k_Law_cell 9 = .ok (.goto (4), 3) := by decide +kernel
theorem d_Law_cell_12 : decode k_Law_cell 12 = .ok (.iconst 0, 1) := by decide +kernel
theorem d_Law_cell_13 : decode k_Law_cell 13 = .ok (.ireturn, 1) := by decide +kernel
theorem mi_Law_cell : pm_mi pmTs y_Law_cell k_Law_cell 2 (some .int) 2 := ⟨tw_655, tw_89, ⟨by decide, by decide⟩, by decide +kernel⟩
/-- the script stays -/
def lw_E (b L : Nat) (xs : Nat → Int32) : (Nat → Prop) → State → Heap → Prop := fun A U H => va_X b L xs U H ∧ b < H.size ∧ ¬ A b
theorem lw_Ecl (b L : Nat) (xs : Nat → Int32) : pm_Ecl (lw_E b L xs) := by
  intro A B s U H h hk hAB hal hW hU
  obtain ⟨h1, h2, h3⟩ := h
  have e := hk b h2 h3
  rw [hU]
  refine ⟨va_X.moved hal (h1.kept e), ?_, fun q => h3 (hAB b q)⟩
  obtain ⟨scr, hc, -⟩ := h1
  rw [hc] at e
  exact (Array.getElem?_eq_some_iff.mp e).1
/-- cell(script, 0) -/
def lw_c0 (L : Nat) (xs : Nat → Int32) : Int32 := if nI L ≤ 0 then 0 else xs 0
set_option maxHeartbeats 4000000 in
theorem c_Law_cell {l : Launch} {D : va_G} {ca : Nat → ClassId} {ad : Nat → Nat} {b L : Nat} {xs : Nat → Int32} (hL : L ≤ 1537) (w : pm_W) : pm_Met l pmTs D vwCl (tyl ca) [] ca ad (lw_E b L xs) y_Law_cell k_Law_cell 2 (some .int) { frames := 0, cells := 0, slots := 0, locals := 0 } [.ref b, .int 0] w (some (.int (lw_c0 L xs)), w) := by
  refine pm_start pmTs_good (lw_Ecl b L xs) (by decide) (Nat.le_of_ble_eq_true rfl) (fun p e s m below meth c K => ?_)
  have hE := K.2.2.2.2.2.2.2.2.2.2.2.1
  refine pm_iload_n K d_Law_cell_0 1 rfl rfl ?_
  refine pm_aload_n K d_Law_cell_1 0 rfl rfl ?_
  intro H locs ls hl hP hS
  refine va_slen K.1 K.2.1 hE.1 hE.2.1 hE.2.2 hS d_Law_cell_2 ?_
  refine lv_icmp_ge K.1 K.2.1 (tgt := 12) d_Law_cell_3 (by decide) (fun c1 => ?_) (fun c1 => ?_)
  · have e1 : lw_c0 L xs = 0 := if_pos c1
    rw [e1]
    refine lv_iconst (v := 0) K.1 K.2.1 d_Law_cell_12 (by decide) ?_
    exact pm_iret K d_Law_cell_13 H locs ls hl hP hS
  · have e1 : lw_c0 L xs = xs 0 := if_neg c1
    rw [e1]
    have h0 : 0 < L := by
      rcases Nat.eq_zero_or_pos L with h | h
      · subst h
        exact absurd (by decide) c1
      · exact h
    refine lv_aload_n K.1 K.2.1 d_Law_cell_6 rfl (lv_at hl 0 rfl) ?_
    refine lv_iload_n K.1 K.2.1 d_Law_cell_7 rfl (lv_at hl 1 rfl) ?_
    refine va_sld K.1 K.2.1 hE.1 hE.2.1 hE.2.2 hS (i := 0) (vp_in_nI (n := 0) h0 (by omega)) d_Law_cell_8 ?_
    refine lv_goto K.1 K.2.1 (tgt := 13) d_Law_cell_9 (by decide) ?_
    exact pm_iret K d_Law_cell_13 H locs ls hl hP hS
