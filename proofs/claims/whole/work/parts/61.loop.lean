theorem pn_call0 {p : Program} {l : Launch} {e : Env} {R : Room} {s : State} {m : MethodId} {args : Array Value} {below : List Frame} {meth : Method} {c : Code} {cc : ByteArray} {nL : Nat} {own : String} {D : va_G} {ca : Nat → ClassId} {adK adV : Nat → Nat} {ret : Option FieldType} {kc ks : Nat} {A : Nat → Prop} {Q : State → Prop} {pc : Nat} {lv : List (Nat × Value)} {ws : va_W}
    (K : pn_ok p s m args meth c cc nL own D ca adK adV A ret) {y : MethodName} {bytes : ByteArray} {maxL n ix : Nat} {rt : Option FieldType} {E : (Nat → Prop) → State → Heap → Prop} {ad0 : Nat → Nat} {w0 : pm_W} {As rest st0 : List Value} {v : Value} {rm : Room} (hM : pm_Met l pmTs D vwCl (tyl ca) [] ca ad0 E y bytes maxL rt rm As w0 (some v, w0)) (hEc : pm_Ecl E) (hE : ∀ (H : Heap) (locs : List Loc), va_S A s.heap H locs → ∀ U : State, U.heap = H → s.WarmedH U.vm → E (pm_A [] ad0 H.size) U U.heap) (hi : pm_mi pmTs y bytes maxL rt n) (hin : Cond.static y ∈ pmTs) (hw : Cond.methodLink own ix y ∈ pmTs) (hn : As.length = n) (hr : pm_rm rm R maxL) (hcs : kc ≤ R.cells ∧ ks ≤ R.slots) (hst : st0 = As.reverse ++ rest) (hrest : (rest.map fun v => v.category).sum ≤ 8) (hd : decode cc pc = .ok (.invokestatic ix, 3))
    (kk : pn_wk p l e R s m args below meth c D nL kc ks A Q (pc + 3) lv (v :: rest) ws) : pn_wk p l e R s m args below meth c D nL kc ks A Q pc lv st0 ws := fun H locs ls hl hP hD hS => by
  have cw := pn_cw K hi
  have hrun := va_runS (p := p) (l := l) (e := e) (R := R) (s := s) (m := m) (args := args) (below := below) (meth := meth) (c := c) (H := H) (locs := locs) (cells := kc) (slots := ks) (g := F0 m pc ls st0) (As := As) (rest := rest) (nL := nL) (cc := cc) (Ts := pmTs) (own := own) ⟨K.1, K.2.1, K.2.2.1, K.2.2.2.1, K.2.2.2.2.1⟩ (hM H.size) ⟨⟨hr.1, hr.2.1, hr.2.2.1, hr.2.2.2, cw.1, List.mem_singleton.mpr rfl, cw.2.1, cw.2.2.1, hi.2.2.1, cw.2.2.2, K.2.2.2.2.1 _ hw⟩, K.2.2.2.2.1 _ hin⟩ ⟨pm_blind pmTs_good hEc, fun U hU hW => ⟨rfl, by rw [hU], pm_T_warm pmTs_good hW K.2.2.2.2.2.1, va_K.moved hW.alike K.2.2.2.2.2.2.2.1, fun i j h => absurd h (Nat.not_lt_zero _), fun k q h => by simp [pm_cells] at h, hE H locs hS U hU hW⟩⟩ rfl hn hl.1 hst (lv_room hrest) hd hcs
  intro T hT X
  obtain ⟨v', st₀, t, T', L, h0, X', hL, e1, e2, ⟨hv, _, hz, hk⟩, sg⟩ := hrun T hT X
  have hv : v' = some v := Outcome.returned.inj hv
  subst hv
  rw [h0] at hz hk
  have hno : ∀ q, q < H.size → ¬ pm_A [] ad0 H.size q := fun q h z => by
    rcases z with ⟨o, ho, _⟩ | z
    · exact absurd ho (Nat.not_lt_zero _)
    · exact absurd h (Nat.not_lt.mpr z)
  have hk2 : ∀ q, q < H.size → T'.heap[q]? = H[q]? := fun q h => by rw [e1]; exact hk q h (hno q h)
  obtain ⟨t2, a1, b1⟩ := kk T'.heap (locs ++ L) ls hl (hP.kept (fun k q hq => hk2 q.1 ((hP k q hq).lt))) hD
    ⟨Nat.le_trans hS.1 (by rw [e1]; exact hz), fun q h1 h2 => by rw [hk2 q (Nat.lt_of_lt_of_le h1 hS.1)]; exact hS.2.1 q h1 h2, fun q hq => by
      rcases List.mem_append.mp hq with h | h
      · exact hS.2.2 q h
      · rcases hL q h with ⟨o, ho, _⟩ | z
        · exact absurd ho (Nat.not_lt_zero _)
        · exact K.2.2.2.2.2.2.2.2.1 _ (Nat.le_trans hS.1 z)⟩ T' rfl X'
  exact ⟨t2, sg t2 a1, b1⟩
theorem pn_astore_n {p : Program} {l : Launch} {e : Env} {R : Room} {s : State} {m : MethodId} {args : Array Value} {below : List Frame} {meth : Method} {c : Code} {cc : ByteArray} {nL : Nat} {own : String} {D : va_G} {ca : Nat → ClassId} {adK adV : Nat → Nat} {ret : Option FieldType} {kc ks : Nat} {A : Nat → Prop} {Q : State → Prop} {pc : Nat} {lv : List (Nat × Value)} {st : List Value} {ws : va_W}
    (K : pn_ok p s m args meth c cc nL own D ca adK adV A ret) {n : Fin 4} {i x : Nat} {lv' : List (Nat × Value)} (hd : decode cc pc = .ok (.astore_n n, 1)) (hi : (n : Nat) = i) (hn : i < nL) (hl' : (i, Value.ref x) :: lv.filter (fun q => !(q.1 == i) && !(q.1 + 1 == i && q.2.category == 2)) = lv')
    (k : pn_wk p l e R s m args below meth c D nL kc ks A Q (pc + 1) lv' st ws) : pn_wk p l e R s m args below meth c D nL kc ks A Q pc lv (.ref x :: st) ws := fun H locs ls hl hP hD hS => lv_astore_n K.1 K.2.1 hd hi hl hn hl' (fun ls' h' => k H locs ls' h' hP hD hS)
theorem pn_pos1 (X : va_W) (x : Nat × va_E) : [X.length].map (fun i => (X ++ [x])[i]?) = [x].map some := by simp
theorem pn_pos2 (X : va_W) (x : Nat × va_E) : (List.range X.length).map (fun i => (X ++ [x])[i]?) = X.map some := by
  apply List.ext_getElem?
  intro i
  by_cases h : i < X.length
  · rw [List.getElem?_map, List.getElem?_map, List.getElem?_range h]
    simp [List.getElem?_append_left h, List.getElem?_eq_getElem h]
  · have h' : X.length ≤ i := Nat.not_lt.mp h
    rw [List.getElem?_eq_none (by simpa using h'), List.getElem?_eq_none (by simpa using h')]
theorem pn_ndr : ∀ n : Nat, va_nd (List.range n) = true := by
  have key : ∀ l : List Nat, l.Nodup → va_nd l = true := by
    intro l
    induction l with
    | nil => intro _; rfl
    | cons a l ih =>
      intro h
      rw [List.nodup_cons] at h
      simp [va_nd, h.1, ih h.2]
  exact fun n => key _ List.nodup_range
theorem lw_Pl {D : va_G} {cl : List vw_C} {X Y : va_W} {H : Heap} (h : va_P D cl (X ++ Y) H) : va_P D cl X H := fun k q hq => h k q (by rw [List.getElem?_append_left (List.getElem?_eq_some_iff.mp hq).1]; exact hq)
theorem lw_Pr {D : va_G} {cl : List vw_C} {X Y : va_W} {H : Heap} (h : va_P D cl (X ++ Y) H) : va_P D cl Y H := fun k q hq => h (X.length + k) q (by rw [List.getElem?_append_right (by omega), Nat.add_sub_cancel_left]; exact hq)
/-- two worlds side by side: their addresses -/
theorem lw_Dxy {A : Nat → Prop} {sh1 sh2 : List pm_E} {ca : Nat → ClassId} {ad1 ad2 : Nat → Nat} {w1 w2 : pm_W} (h : va_D A (pm_cells sh1 ca ad1 w1 ++ pm_cells sh2 ca ad2 w2)) : pm_inj sh1 ad1 ∧ pm_inj sh2 ad2 ∧ (∀ i j, i < sh1.length → j < sh2.length → ad1 i ≠ ad2 j) ∧ (∀ o, o < sh1.length → A (ad1 o)) ∧ ∀ o, o < sh2.length → A (ad2 o) := by
  have g1 : ∀ i (hi : i < sh1.length), (pm_cells sh1 ca ad1 w1 ++ pm_cells sh2 ca ad2 w2)[i]? = some (pm_cell ca ad1 w1 i sh1[i]) := fun i hi => by
    rw [List.getElem?_append_left (by rw [pm_len]; exact hi)]
    exact pm_get (List.getElem?_eq_getElem hi)
  have g2 : ∀ i (hi : i < sh2.length), (pm_cells sh1 ca ad1 w1 ++ pm_cells sh2 ca ad2 w2)[sh1.length + i]? = some (pm_cell ca ad2 w2 i sh2[i]) := fun i hi => by
    rw [List.getElem?_append_right (by rw [pm_len]; omega), pm_len, Nat.add_sub_cancel_left]
    exact pm_get (List.getElem?_eq_getElem hi)
  refine ⟨fun i j hi hj e => h.1 i j _ _ (g1 i hi) (g1 j hj) e, fun i j hi hj e => ?_, fun i j hi hj e => ?_, fun o ho => h.2 o _ (g1 o ho), fun o ho => h.2 _ _ (g2 o ho)⟩
  · have := h.1 _ _ _ _ (g2 i hi) (g2 j hj) e
    omega
  · have := h.1 _ _ _ _ (g1 i hi) (g2 j hj) e
    omega
def lk_ok (p : Program) (s : State) (m : MethodId) (args : Array Value) (c : Code) (cc : ByteArray) (nL : Nat) (own : String) (D : va_G) (ca : Nat → ClassId) (adK adV : Nat → Nat) : Prop :=
  p.tables.exec = Jvm.exec ∧ c.code = cc ∧ c.maxLocals = nL ∧ s.vm.findClass own = some m.cls ∧ (∀ w ∈ pmTs, w.before args s = true) ∧ pm_T pmTs s ∧ va_K D vwCl (tyl ca) s ∧ st_E adK adV (lw_A s) s s.heap
/-- a call on the first object of a world, another world beside it -/
theorem lk_call {p : Program} {l : Launch} {e : Env} {R : Room} {s : State} {m : MethodId} {args : Array Value} {below : List Frame} {meth : Method} {c : Code} {cc : ByteArray} {nL : Nat} {own : String} {D : va_G} {ca : Nat → ClassId} {adK adV : Nat → Nat} {kc ks : Nat} {Q : State → Prop} {pc : Nat} {sh1 sh2 : List pm_E} {ad1 ad2 : Nat → Nat} {w1 w1' w2 : pm_W}
    (K : lk_ok p s m args c cc nL own D ca adK adV) (hj1 : pm_inj sh1 ad1) (hd12 : ∀ i j, i < sh1.length → j < sh2.length → ad1 i ≠ ad2 j) (hlo : ∀ o, o < sh1.length → lw_A s (ad1 o))
    {y : MethodName} {bytes : ByteArray} {maxL n ix ci : Nat} {fk : List pm_F} {T0 : u_T} {N : Nat} {rt : Option FieldType} {rm : Room} {As rest st0 : List Value} {r : Option Value} (hM : pm_Met l pmTs D vwCl (tyl ca) sh1 ca ad1 (st_E adK adV) y bytes maxL rt rm (.ref (ad1 0) :: As) w1 (r, w1')) (hi : pm_mi pmTs y bytes maxL rt n) (hs : sh1[0]? = some (.inr (ci, fk))) (hc : vwCl[ci]? = some (y.cls, T0, N)) (hin : Cond.instanceMethod y ∈ pmTs) (hse : Cond.selects y.cls y y ∈ pmTs) (hw : Cond.methodLink own ix y ∈ pmTs) (hn : As.length = n) (hr : pm_rm rm R maxL) (hcs : kc ≤ R.cells ∧ ks ≤ R.slots) (hst : st0 = As.reverse ++ .ref (ad1 0) :: rest) (hrest : (rest.map fun v => v.category).sum ≤ 8) (hd : decode cc pc = .ok (.invokevirtual ix, 3))
    {H : Heap} {locs : List Loc} {ls : Array Slot} (hl : ls.size = nL) (hP1 : va_P D vwCl (pm_cells sh1 ca ad1 w1) H) (hP2 : va_P D vwCl (pm_cells sh2 ca ad2 w2) H) (hS : va_S (lw_A s) s.heap H locs)
    (kk : ∀ (H1 : Heap) (locs1 : List Loc), va_P D vwCl (pm_cells sh1 ca ad1 w1') H1 → va_P D vwCl (pm_cells sh2 ca ad2 w2) H1 → va_S (lw_A s) s.heap H1 locs1 → W p l e R s m args below meth c H1 locs1 kc ks Q (F0 m (pc + 3) ls (r.toList ++ rest))) : W p l e R s m args below meth c H locs kc ks Q (F0 m pc ls st0) := by
  have hm : ∀ q, pm_A sh1 ad1 H.size q → lw_A s q := fun q h => by
    rcases h with ⟨o, ho, rfl⟩ | h
    · exact hlo o ho
    · exact Nat.le_trans hS.1 h
  have hcw : ∀ x ∈ [Cond.code y bytes maxL rt], ∀ (a' : Array Value) (U : State), s.WarmedH U.vm → x.before a' U = true := fun x hx a' U hW => by
    rw [List.mem_singleton] at hx
    subst hx
    exact pm_T_use pmTs_good (pm_T_warm pmTs_good hW K.2.2.2.2.2.1) a' _ hi.1
  have hsg : ∀ sig, parseMethodDescriptor y.desc = some sig → n = sig.parameters.length := fun sig h => by
    have h2 := hi.2.2.2
    rw [h] at h2
    exact (Option.some.inj h2).symm
  have hrun := va_runV (p := p) (l := l) (e := e) (R := R) (s := s) (m := m) (args := args) (below := below) (meth := meth) (c := c) (H := H) (locs := locs) (cells := kc) (slots := ks) (g := F0 m pc ls st0) (As := As) (rest := rest) (nL := nL) (cc := cc) (Ts := pmTs) (own := own) ⟨K.1, K.2.1, K.2.2.1, K.2.2.2.1, K.2.2.2.2.1⟩ (hM H.size) ⟨⟨hr.1, hr.2.1, hr.2.2.1, hr.2.2.2, hcw, List.mem_singleton.mpr rfl, K.2.2.2.2.1 _ hi.1, K.2.2.2.2.1 _ hi.2.1, hi.2.2.1, hsg, K.2.2.2.2.1 _ hw⟩, K.2.2.2.2.1 _ hin, K.2.2.2.2.1 _ hse⟩
    ⟨pm_blind pmTs_good (st_cl adK adV), va_recv K.2.2.2.2.2.2.1 hP1 hc (q0 := 0) (pm_get hs), fun U hU hW => ⟨rfl, by rw [hU], pm_T_warm pmTs_good hW K.2.2.2.2.2.1, va_K.moved hW.alike K.2.2.2.2.2.2.1, hj1, by rw [hU]; exact hP1, st_cl adK adV _ _ s U H K.2.2.2.2.2.2.2 hS.2.1 hm hW.alike hW hU⟩⟩ rfl hn hl hst (lv_room hrest) hd hcs
  intro T hT X
  obtain ⟨v, st₀, t, T', L, h0, X', hL, e1, e2, ⟨hv, hP', hz, hk⟩, sg⟩ := hrun T hT X
  have hv : v = r := Outcome.returned.inj hv
  subst hv
  rw [h0] at hz hk
  have hP2' : va_P D vwCl (pm_cells sh2 ca ad2 w2) T'.heap := by
    refine hP2.kept (fun k q hq => ?_)
    have hlt := (hP2 k q hq).lt
    rw [e1]
    refine hk q.1 hlt (fun z => ?_)
    have hkl : k < sh2.length := by rw [← pm_len (ca := ca) (ad := ad2) (w := w2)]; exact (List.getElem?_eq_some_iff.mp hq).1
    have hq' := pm_get (ca := ca) (ad := ad2) (w := w2) (List.getElem?_eq_getElem hkl)
    rw [hq] at hq'
    have e3 : q.1 = ad2 k := congrArg Prod.fst (Option.some.inj hq')
    rcases z with ⟨o, ho, z⟩ | z
    · exact hd12 o k ho hkl (by rw [← z, e3])
    · exact absurd hlt (Nat.not_lt.mpr z)
  obtain ⟨t2, a1, b1⟩ := kk T'.heap (locs ++ L) (by rw [e1]; exact hP') hP2'
    ⟨Nat.le_trans hS.1 (by rw [e1]; exact hz), fun q h1 h2 => by rw [e1, hk q (Nat.lt_of_lt_of_le h1 hS.1) (fun z => h2 (hm q z))]; exact hS.2.1 q h1 h2, fun q hq => by
      rcases List.mem_append.mp hq with h | h
      · exact hS.2.2 q h
      · exact hm _ (hL q h)⟩ T' rfl X'
  exact ⟨t2, sg t2 a1, b1⟩
/-- every call answers alike on both sides, and keeps the relation -/
def Sim (S : Nat) (Rel : pm_W → pm_W → Prop) : Prop := ∀ w v, Rel w v →
  (∀ a b : Int32, ∃ r w1 v1, f_CL_feed S a b w = some (r, w1) ∧ f_Md_feed a b v = some (r, v1) ∧ Rel w1 v1) ∧
  (∀ a : Int32, ∃ r w1 v1, f_CL_run S a w = some (r, w1) ∧ f_Md_run a v = some (r, v1) ∧ Rel w1 v1) ∧
  (∃ r w1 v1, f_CL_outSize S w = some (r, w1) ∧ f_Md_outSize v = some (r, v1) ∧ Rel w1 v1) ∧
  (∀ a : Int32, ∃ r w1 v1, f_CL_out S a w = some (r, w1) ∧ f_Md_out a v = some (r, v1) ∧ Rel w1 v1) ∧
  (∃ w1 v1, f_CL_clearOut S w = some w1 ∧ f_Md_clearOut v = some v1 ∧ Rel w1 v1) ∧
  (∃ r w1 v1, f_CL_liveCells S w = some (r, w1) ∧ f_Md_liveCells v = some (r, v1) ∧ Rel w1 v1) ∧
  (∀ a : Int32, ∃ r w1 v1, f_CL_count S a w = some (r, w1) ∧ f_Md_count a v = some (r, v1) ∧ Rel w1 v1)
theorem lw_gt {i L : Nat} (hi : i < 4096) (hL : L < 4096) : nI L - 3 < nI i ↔ L < i + 3 := by
  rw [Int32.lt_iff_toInt_lt, show (3 : Int32) = nI 3 from rfl, pk_sub_toInt (by omega) (by omega), nI_toInt (by omega)]
  omega
set_option maxHeartbeats 4000000 in
set_option maxRecDepth 100000 in
/-- THE LAW'S LOOP -/
theorem law_loop {p : Program} {l : Launch} {e : Env} {s : State} {m : MethodId} {below : List Frame} {meth : Method} {c : Code} {D : va_G} {ca : Nat → ClassId} {adK adV adC adM : Nat → Nat} {b L : Nat} {xs : Nat → Int32} {S : Nat} {Rel : pm_W → pm_W → Prop} (hL : L ≤ 1537) (C0 : lw_At p s m meth c b L xs) (K : lk_ok p s m #[Value.ref b] c code 4 R_Law D ca adK adV) (hJ : pm_inj (shC S) adC ∧ pm_inj shM adM ∧ (∀ i j, i < (shC S).length → j < shM.length → adC i ≠ adM j) ∧ (∀ o, o < (shC S).length → lw_A s (adC o)) ∧ ∀ o, o < shM.length → lw_A s (adM o)) (hSim : Sim S Rel) :
    ∀ (n i : Nat), i ≤ L + 3 → L + 3 < i + n → ∀ (w v : pm_W), Rel w v → ∀ (H : Heap) (locs : List Loc), va_P D vwCl (pm_cells (shC S) ca adC w) H → va_P D vwCl (pm_cells shM ca adM v) H → va_S (lw_A s) s.heap H locs → ∀ ls : Array Slot, lv_has ls 4 [(0, .ref b), (1, .ref (adC 0)), (2, .ref (adM 0)), (3, .int (nI i))] → W p l e room_1 s m #[Value.ref b] below meth c H locs 600000 7302250 (lw_Z below #[Value.ref b] s) (F0 m 28 ls []) := by
  obtain ⟨hx, hb, hr, hml, hown, hts, hX, hbl, hlocks, hgv⟩ := id C0
  have hbA : ¬ lw_A s b := Nat.not_le.mpr hbl
  intro n
  induction n with
  | zero =>
    intro i h1 h2
    exact absurd h2 (by omega)
  | succ n ih =>
    intro i hi hin w v hRel H locs hP1 hP2 hS ls hl
    have hsim := hSim w v hRel
    refine lv_iload_n hx hb d_law_28 rfl (lv_at hl 3 rfl) ?_
    refine lv_aload_n hx hb d_law_29 rfl (lv_at hl 0 rfl) ?_
    refine va_slen hx hb hX hbl hbA hS d_law_30 ?_
    refine lv_iconst (v := 3) hx hb d_law_31 (by decide) ?_
    refine lv_isub hx hb d_law_32 ?_
    refine lv_icmp_gt (tgt := 229) hx hb d_law_33 (by decide) (fun _ => ?_) (fun c1 => ?_)
    · refine lv_iconst (v := 1) hx hb d_law_229 (by decide) ?_
      refine va_forget (fun q hq => hS.2.2 q hq) ?_
      exact lw_ret hx hb hr hlocks d_law_230
    have hlt : i + 3 ≤ L := by
      have := mt (lw_gt (i := i) (L := L) (by omega) (by omega)).mpr c1
      omega
    have e1 : nI i + 1 = nI (i + 1) := nI_add i 1
    have e2 : nI i + 2 = nI (i + 2) := nI_add i 2
    have hnext : ∀ (w v : pm_W), Rel w v → ∀ (H : Heap) (locs : List Loc), va_P D vwCl (pm_cells (shC S) ca adC w) H → va_P D vwCl (pm_cells shM ca adM v) H → va_S (lw_A s) s.heap H locs → W p l e room_1 s m #[Value.ref b] below meth c H locs 600000 7302250 (lw_Z below #[Value.ref b] s) (F0 m 223 ls []) := by
      intro w v hRel H locs hP1 hP2 hS
      refine lv_iinc (v := nI (i + 3)) (lv' := [(3, .int (nI (i + 3))), (0, .ref b), (1, .ref (adC 0)), (2, .ref (adM 0))]) hx hb d_law_223 hl (k := 3) rfl (nI_add i 3) (by decide) rfl (fun ls hl => ?_)
      refine lv_goto (tgt := 28) hx hb d_law_226 (by decide) ?_
      exact ih (i + 3) (by omega) (by omega) w v hRel H locs hP1 hP2 hS ls (lv_sub hl [1, 2, 3, 0] rfl)
    refine lv_aload_n hx hb d_law_36 rfl (lv_at hl 0 rfl) ?_
    refine lv_iload_n hx hb d_law_37 rfl (lv_at hl 3 rfl) ?_
    refine va_sld hx hb hX hbl hbA hS (vp_in_nI (n := i) (by omega) (by omega)) d_law_38 ?_
    rw [nI_clamp (show i < 2 ^ 31 by omega)]
    refine lv_bipush (v := 7) hx hb d_law_39 (by decide) ?_
    refine lv_iand hx hb d_law_41 ?_
    by_cases t0 : xs i &&& 7 = (0 : Int32)
    · refine lv_tableIn hx hb d_law_42 (by rw [t0]; decide) (by rw [t0]; decide) (by rw [t0]; rfl) (tgt := 84) (by decide) ?_
      obtain ⟨r, w1, v1, hf1, hf2, hRel⟩ := hsim.1 (xs (i + 1)) (xs (i + 2))
      refine lv_aload_n hx hb d_law_84 rfl (lv_at hl 1 rfl) ?_
      refine lv_aload_n hx hb d_law_85 rfl (lv_at hl 0 rfl) ?_
      refine lv_iload_n hx hb d_law_86 rfl (lv_at hl 3 rfl) ?_
      refine lv_iconst (v := 1) hx hb d_law_87 (by decide) ?_
      refine lv_iadd hx hb d_law_88 ?_
      rw [e1]
      refine va_sld hx hb hX hbl hbA hS (vp_in_nI (n := i + 1) (by omega) (by omega)) d_law_89 ?_
      rw [nI_clamp (show i + 1 < 2 ^ 31 by omega)]
      refine lv_aload_n hx hb d_law_90 rfl (lv_at hl 0 rfl) ?_
      refine lv_iload_n hx hb d_law_91 rfl (lv_at hl 3 rfl) ?_
      refine lv_iconst (v := 2) hx hb d_law_92 (by decide) ?_
      refine lv_iadd hx hb d_law_93 ?_
      rw [e2]
      refine va_sld hx hb hX hbl hbA hS (vp_in_nI (n := i + 2) (by omega) (by omega)) d_law_94 ?_
      rw [nI_clamp (show i + 2 < 2 ^ 31 by omega)]
      refine lk_call (As := [.int (xs (i + 1)), .int (xs (i + 2))]) (rest := []) K hJ.1 hJ.2.2.1 hJ.2.2.2.1 (c_CL_feed (st_cl adK adV) r w1 (xs (i + 1)) (xs (i + 2)) w hf1) mi_CL_feed rfl rfl tw_295 tw_296 tw_294 rfl ⟨rfl, rfl, Nat.le_of_ble_eq_true rfl, Nat.le_of_ble_eq_true rfl⟩ ⟨Nat.le_refl _, Nat.le_refl _⟩ rfl (Nat.le_of_ble_eq_true rfl) d_law_95 hl.1 hP1 hP2 hS (fun H locs hP1 hP2 hS => ?_)
      refine lv_aload_n hx hb d_law_98 rfl (lv_at hl 2 rfl) ?_
      refine lv_aload_n hx hb d_law_99 rfl (lv_at hl 0 rfl) ?_
      refine lv_iload_n hx hb d_law_100 rfl (lv_at hl 3 rfl) ?_
      refine lv_iconst (v := 1) hx hb d_law_101 (by decide) ?_
      refine lv_iadd hx hb d_law_102 ?_
      rw [e1]
      refine va_sld hx hb hX hbl hbA hS (vp_in_nI (n := i + 1) (by omega) (by omega)) d_law_103 ?_
      rw [nI_clamp (show i + 1 < 2 ^ 31 by omega)]
      refine lv_aload_n hx hb d_law_104 rfl (lv_at hl 0 rfl) ?_
      refine lv_iload_n hx hb d_law_105 rfl (lv_at hl 3 rfl) ?_
      refine lv_iconst (v := 2) hx hb d_law_106 (by decide) ?_
      refine lv_iadd hx hb d_law_107 ?_
      rw [e2]
      refine va_sld hx hb hX hbl hbA hS (vp_in_nI (n := i + 2) (by omega) (by omega)) d_law_108 ?_
      rw [nI_clamp (show i + 2 < 2 ^ 31 by omega)]
      refine lk_call (As := [.int (xs (i + 1)), .int (xs (i + 2))]) (rest := [.int r]) K hJ.2.1 (fun i j hi hj e => hJ.2.2.1 j i hj hi e.symm) hJ.2.2.2.2 (c_Md_feed (st_cl adK adV) r v1 (xs (i + 1)) (xs (i + 2)) v hf2) mi_Md_feed rfl rfl tw_701 tw_702 tw_700 rfl ⟨rfl, rfl, Nat.le_of_ble_eq_true rfl, Nat.le_of_ble_eq_true rfl⟩ ⟨Nat.le_refl _, Nat.le_refl _⟩ rfl (Nat.le_of_ble_eq_true rfl) d_law_109 hl.1 hP2 hP1 hS (fun H locs hP2 hP1 hS => ?_)
      refine lv_icmp_eq (tgt := 223) hx hb d_law_112 (by decide) (fun _ => ?_) (fun c9 => absurd rfl c9)
      exact hnext w1 v1 hRel H locs hP1 hP2 hS
    by_cases t1 : xs i &&& 7 = (1 : Int32)
    · refine lv_tableIn hx hb d_law_42 (by rw [t1]; decide) (by rw [t1]; decide) (by rw [t1]; rfl) (tgt := 117) (by decide) ?_
      obtain ⟨r, w1, v1, hf1, hf2, hRel⟩ := hsim.2.1 (xs (i + 1))
      refine lv_aload_n hx hb d_law_117 rfl (lv_at hl 1 rfl) ?_
      refine lv_aload_n hx hb d_law_118 rfl (lv_at hl 0 rfl) ?_
      refine lv_iload_n hx hb d_law_119 rfl (lv_at hl 3 rfl) ?_
      refine lv_iconst (v := 1) hx hb d_law_120 (by decide) ?_
      refine lv_iadd hx hb d_law_121 ?_
      rw [e1]
      refine va_sld hx hb hX hbl hbA hS (vp_in_nI (n := i + 1) (by omega) (by omega)) d_law_122 ?_
      rw [nI_clamp (show i + 1 < 2 ^ 31 by omega)]
      refine lk_call (As := [.int (xs (i + 1))]) (rest := []) K hJ.1 hJ.2.2.1 hJ.2.2.2.1 (c_CL_run r w1 (xs (i + 1)) w hf1) mi_CL_run rfl rfl tw_306 tw_307 tw_305 rfl ⟨rfl, rfl, Nat.le_of_ble_eq_true rfl, Nat.le_of_ble_eq_true rfl⟩ ⟨Nat.le_refl _, Nat.le_refl _⟩ rfl (Nat.le_of_ble_eq_true rfl) d_law_123 hl.1 hP1 hP2 hS (fun H locs hP1 hP2 hS => ?_)
      refine lv_aload_n hx hb d_law_126 rfl (lv_at hl 2 rfl) ?_
      refine lv_aload_n hx hb d_law_127 rfl (lv_at hl 0 rfl) ?_
      refine lv_iload_n hx hb d_law_128 rfl (lv_at hl 3 rfl) ?_
      refine lv_iconst (v := 1) hx hb d_law_129 (by decide) ?_
      refine lv_iadd hx hb d_law_130 ?_
      rw [e1]
      refine va_sld hx hb hX hbl hbA hS (vp_in_nI (n := i + 1) (by omega) (by omega)) d_law_131 ?_
      rw [nI_clamp (show i + 1 < 2 ^ 31 by omega)]
      refine lk_call (As := [.int (xs (i + 1))]) (rest := [.int r]) K hJ.2.1 (fun i j hi hj e => hJ.2.2.1 j i hj hi e.symm) hJ.2.2.2.2 (c_Md_run (st_cl adK adV) r v1 (xs (i + 1)) v hf2) mi_Md_run rfl rfl tw_705 tw_706 tw_704 rfl ⟨rfl, rfl, Nat.le_of_ble_eq_true rfl, Nat.le_of_ble_eq_true rfl⟩ ⟨Nat.le_refl _, Nat.le_refl _⟩ rfl (Nat.le_of_ble_eq_true rfl) d_law_132 hl.1 hP2 hP1 hS (fun H locs hP2 hP1 hS => ?_)
      refine lv_icmp_eq (tgt := 223) hx hb d_law_135 (by decide) (fun _ => ?_) (fun c9 => absurd rfl c9)
      exact hnext w1 v1 hRel H locs hP1 hP2 hS
    by_cases t2 : xs i &&& 7 = (2 : Int32)
    · refine lv_tableIn hx hb d_law_42 (by rw [t2]; decide) (by rw [t2]; decide) (by rw [t2]; rfl) (tgt := 140) (by decide) ?_
      obtain ⟨r, w1, v1, hf1, hf2, hRel⟩ := hsim.2.2.1
      refine lv_aload_n hx hb d_law_140 rfl (lv_at hl 1 rfl) ?_
      refine lk_call (As := []) (rest := []) K hJ.1 hJ.2.2.1 hJ.2.2.2.1 (c_CL_outSize (st_cl adK adV) r w1 w hf1) mi_CL_outSize rfl rfl tw_629 tw_630 tw_628 rfl ⟨rfl, rfl, Nat.le_of_ble_eq_true rfl, Nat.le_of_ble_eq_true rfl⟩ ⟨Nat.le_refl _, Nat.le_refl _⟩ rfl (Nat.le_of_ble_eq_true rfl) d_law_141 hl.1 hP1 hP2 hS (fun H locs hP1 hP2 hS => ?_)
      refine lv_aload_n hx hb d_law_144 rfl (lv_at hl 2 rfl) ?_
      refine lk_call (As := []) (rest := [.int r]) K hJ.2.1 (fun i j hi hj e => hJ.2.2.1 j i hj hi e.symm) hJ.2.2.2.2 (c_Md_outSize (st_cl adK adV) r v1 v hf2) mi_Md_outSize rfl rfl tw_871 tw_872 tw_870 rfl ⟨rfl, rfl, Nat.le_of_ble_eq_true rfl, Nat.le_of_ble_eq_true rfl⟩ ⟨Nat.le_refl _, Nat.le_refl _⟩ rfl (Nat.le_of_ble_eq_true rfl) d_law_145 hl.1 hP2 hP1 hS (fun H locs hP2 hP1 hS => ?_)
      refine lv_icmp_eq (tgt := 223) hx hb d_law_148 (by decide) (fun _ => ?_) (fun c9 => absurd rfl c9)
      exact hnext w1 v1 hRel H locs hP1 hP2 hS
    by_cases t3 : xs i &&& 7 = (3 : Int32)
    · refine lv_tableIn hx hb d_law_42 (by rw [t3]; decide) (by rw [t3]; decide) (by rw [t3]; rfl) (tgt := 153) (by decide) ?_
      obtain ⟨r, w1, v1, hf1, hf2, hRel⟩ := hsim.2.2.2.1 (xs (i + 1))
      refine lv_aload_n hx hb d_law_153 rfl (lv_at hl 1 rfl) ?_
      refine lv_aload_n hx hb d_law_154 rfl (lv_at hl 0 rfl) ?_
      refine lv_iload_n hx hb d_law_155 rfl (lv_at hl 3 rfl) ?_
      refine lv_iconst (v := 1) hx hb d_law_156 (by decide) ?_
      refine lv_iadd hx hb d_law_157 ?_
      rw [e1]
      refine va_sld hx hb hX hbl hbA hS (vp_in_nI (n := i + 1) (by omega) (by omega)) d_law_158 ?_
      rw [nI_clamp (show i + 1 < 2 ^ 31 by omega)]
      refine lk_call (As := [.int (xs (i + 1))]) (rest := []) K hJ.1 hJ.2.2.1 hJ.2.2.2.1 (c_CL_out (st_cl adK adV) r w1 (xs (i + 1)) w hf1) mi_CL_out rfl rfl tw_633 tw_634 tw_632 rfl ⟨rfl, rfl, Nat.le_of_ble_eq_true rfl, Nat.le_of_ble_eq_true rfl⟩ ⟨Nat.le_refl _, Nat.le_refl _⟩ rfl (Nat.le_of_ble_eq_true rfl) d_law_159 hl.1 hP1 hP2 hS (fun H locs hP1 hP2 hS => ?_)
      refine lv_aload_n hx hb d_law_162 rfl (lv_at hl 2 rfl) ?_
      refine lv_aload_n hx hb d_law_163 rfl (lv_at hl 0 rfl) ?_
      refine lv_iload_n hx hb d_law_164 rfl (lv_at hl 3 rfl) ?_
      refine lv_iconst (v := 1) hx hb d_law_165 (by decide) ?_
      refine lv_iadd hx hb d_law_166 ?_
      rw [e1]
      refine va_sld hx hb hX hbl hbA hS (vp_in_nI (n := i + 1) (by omega) (by omega)) d_law_167 ?_
      rw [nI_clamp (show i + 1 < 2 ^ 31 by omega)]
      refine lk_call (As := [.int (xs (i + 1))]) (rest := [.int r]) K hJ.2.1 (fun i j hi hj e => hJ.2.2.1 j i hj hi e.symm) hJ.2.2.2.2 (c_Md_out (st_cl adK adV) r v1 (xs (i + 1)) v hf2) mi_Md_out rfl rfl tw_875 tw_876 tw_874 rfl ⟨rfl, rfl, Nat.le_of_ble_eq_true rfl, Nat.le_of_ble_eq_true rfl⟩ ⟨Nat.le_refl _, Nat.le_refl _⟩ rfl (Nat.le_of_ble_eq_true rfl) d_law_168 hl.1 hP2 hP1 hS (fun H locs hP2 hP1 hS => ?_)
      refine lv_icmp_eq (tgt := 223) hx hb d_law_171 (by decide) (fun _ => ?_) (fun c9 => absurd rfl c9)
      exact hnext w1 v1 hRel H locs hP1 hP2 hS
    by_cases t4 : xs i &&& 7 = (4 : Int32)
    · refine lv_tableIn hx hb d_law_42 (by rw [t4]; decide) (by rw [t4]; decide) (by rw [t4]; rfl) (tgt := 176) (by decide) ?_
      obtain ⟨w1, v1, hf1, hf2, hRel⟩ := hsim.2.2.2.2.1
      refine lv_aload_n hx hb d_law_176 rfl (lv_at hl 1 rfl) ?_
      refine lk_call (As := []) (rest := []) K hJ.1 hJ.2.2.1 hJ.2.2.2.1 (c_CL_clearOut (st_cl adK adV) w1 w hf1) mi_CL_clearOut rfl rfl tw_641 tw_642 tw_640 rfl ⟨rfl, rfl, Nat.le_of_ble_eq_true rfl, Nat.le_of_ble_eq_true rfl⟩ ⟨Nat.le_refl _, Nat.le_refl _⟩ rfl (Nat.le_of_ble_eq_true rfl) d_law_177 hl.1 hP1 hP2 hS (fun H locs hP1 hP2 hS => ?_)
      refine lv_aload_n hx hb d_law_180 rfl (lv_at hl 2 rfl) ?_
      refine lk_call (As := []) (rest := []) K hJ.2.1 (fun i j hi hj e => hJ.2.2.1 j i hj hi e.symm) hJ.2.2.2.2 (c_Md_clearOut (st_cl adK adV) v1 v hf2) mi_Md_clearOut rfl rfl tw_879 tw_880 tw_878 rfl ⟨rfl, rfl, Nat.le_of_ble_eq_true rfl, Nat.le_of_ble_eq_true rfl⟩ ⟨Nat.le_refl _, Nat.le_refl _⟩ rfl (Nat.le_of_ble_eq_true rfl) d_law_181 hl.1 hP2 hP1 hS (fun H locs hP2 hP1 hS => ?_)
      refine lv_goto (tgt := 223) hx hb d_law_184 (by decide) ?_
      exact hnext w1 v1 hRel H locs hP1 hP2 hS
    by_cases t5 : xs i &&& 7 = (5 : Int32)
    · refine lv_tableIn hx hb d_law_42 (by rw [t5]; decide) (by rw [t5]; decide) (by rw [t5]; rfl) (tgt := 187) (by decide) ?_
      obtain ⟨r, w1, v1, hf1, hf2, hRel⟩ := hsim.2.2.2.2.2.1
      refine lv_aload_n hx hb d_law_187 rfl (lv_at hl 1 rfl) ?_
      refine lk_call (As := []) (rest := []) K hJ.1 hJ.2.2.1 hJ.2.2.2.1 (c_CL_liveCells (st_cl adK adV) r w1 w hf1) mi_CL_liveCells rfl rfl tw_645 tw_646 tw_644 rfl ⟨rfl, rfl, Nat.le_of_ble_eq_true rfl, Nat.le_of_ble_eq_true rfl⟩ ⟨Nat.le_refl _, Nat.le_refl _⟩ rfl (Nat.le_of_ble_eq_true rfl) d_law_188 hl.1 hP1 hP2 hS (fun H locs hP1 hP2 hS => ?_)
      refine lv_aload_n hx hb d_law_191 rfl (lv_at hl 2 rfl) ?_
      refine lk_call (As := []) (rest := [.int r]) K hJ.2.1 (fun i j hi hj e => hJ.2.2.1 j i hj hi e.symm) hJ.2.2.2.2 (c_Md_liveCells (st_cl adK adV) r v1 v hf2) mi_Md_liveCells rfl rfl tw_883 tw_884 tw_882 rfl ⟨rfl, rfl, Nat.le_of_ble_eq_true rfl, Nat.le_of_ble_eq_true rfl⟩ ⟨Nat.le_refl _, Nat.le_refl _⟩ rfl (Nat.le_of_ble_eq_true rfl) d_law_192 hl.1 hP2 hP1 hS (fun H locs hP2 hP1 hS => ?_)
      refine lv_icmp_eq (tgt := 223) hx hb d_law_195 (by decide) (fun _ => ?_) (fun c9 => absurd rfl c9)
      exact hnext w1 v1 hRel H locs hP1 hP2 hS
    by_cases t6 : xs i &&& 7 = (6 : Int32)
    · refine lv_tableIn hx hb d_law_42 (by rw [t6]; decide) (by rw [t6]; decide) (by rw [t6]; rfl) (tgt := 200) (by decide) ?_
      obtain ⟨r, w1, v1, hf1, hf2, hRel⟩ := hsim.2.2.2.2.2.2 (xs (i + 1))
      refine lv_aload_n hx hb d_law_200 rfl (lv_at hl 1 rfl) ?_
      refine lv_aload_n hx hb d_law_201 rfl (lv_at hl 0 rfl) ?_
      refine lv_iload_n hx hb d_law_202 rfl (lv_at hl 3 rfl) ?_
      refine lv_iconst (v := 1) hx hb d_law_203 (by decide) ?_
      refine lv_iadd hx hb d_law_204 ?_
      rw [e1]
      refine va_sld hx hb hX hbl hbA hS (vp_in_nI (n := i + 1) (by omega) (by omega)) d_law_205 ?_
      rw [nI_clamp (show i + 1 < 2 ^ 31 by omega)]
      refine lk_call (As := [.int (xs (i + 1))]) (rest := []) K hJ.1 hJ.2.2.1 hJ.2.2.2.1 (c_CL_count (st_cl adK adV) r w1 (xs (i + 1)) w hf1) mi_CL_count rfl rfl tw_650 tw_651 tw_649 rfl ⟨rfl, rfl, Nat.le_of_ble_eq_true rfl, Nat.le_of_ble_eq_true rfl⟩ ⟨Nat.le_refl _, Nat.le_refl _⟩ rfl (Nat.le_of_ble_eq_true rfl) d_law_206 hl.1 hP1 hP2 hS (fun H locs hP1 hP2 hS => ?_)
      refine lv_aload_n hx hb d_law_209 rfl (lv_at hl 2 rfl) ?_
      refine lv_aload_n hx hb d_law_210 rfl (lv_at hl 0 rfl) ?_
      refine lv_iload_n hx hb d_law_211 rfl (lv_at hl 3 rfl) ?_
      refine lv_iconst (v := 1) hx hb d_law_212 (by decide) ?_
      refine lv_iadd hx hb d_law_213 ?_
      rw [e1]
      refine va_sld hx hb hX hbl hbA hS (vp_in_nI (n := i + 1) (by omega) (by omega)) d_law_214 ?_
      rw [nI_clamp (show i + 1 < 2 ^ 31 by omega)]
      refine lk_call (As := [.int (xs (i + 1))]) (rest := [.int r]) K hJ.2.1 (fun i j hi hj e => hJ.2.2.1 j i hj hi e.symm) hJ.2.2.2.2 (c_Md_count (st_cl adK adV) r v1 (xs (i + 1)) v hf2) mi_Md_count rfl rfl tw_887 tw_888 tw_886 rfl ⟨rfl, rfl, Nat.le_of_ble_eq_true rfl, Nat.le_of_ble_eq_true rfl⟩ ⟨Nat.le_refl _, Nat.le_refl _⟩ rfl (Nat.le_of_ble_eq_true rfl) d_law_215 hl.1 hP2 hP1 hS (fun H locs hP2 hP1 hS => ?_)
      refine lv_icmp_eq (tgt := 223) hx hb d_law_218 (by decide) (fun _ => ?_) (fun c9 => absurd rfl c9)
      exact hnext w1 v1 hRel H locs hP1 hP2 hS
    have hne : ¬ (xs i &&& 7).toInt = 0 ∧ ¬ (xs i &&& 7).toInt = 1 ∧ ¬ (xs i &&& 7).toInt = 2 ∧ ¬ (xs i &&& 7).toInt = 3 ∧ ¬ (xs i &&& 7).toInt = 4 ∧ ¬ (xs i &&& 7).toInt = 5 ∧ ¬ (xs i &&& 7).toInt = 6 := ⟨lv_neT t0 (by decide), lv_neT t1 (by decide), lv_neT t2 (by decide), lv_neT t3 (by decide), lv_neT t4 (by decide), lv_neT t5 (by decide), lv_neT t6 (by decide)⟩
    refine lv_tableOut hx hb d_law_42 (by omega) (tgt := 223) (by decide) ?_
    exact hnext w v hRel H locs hP1 hP2 hS
