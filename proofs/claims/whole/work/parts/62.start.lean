/-- WHAT IS LEFT, in pure Lean: for every first number of a script a relation between the two worlds that holds at the start and that every call keeps -/
def Pure_1 : Prop := ∀ x1 : Int32, ∃ (S : Nat) (xz : Int32) (wY wR vM : pm_W) (Rel : pm_W → pm_W → Prop),
  (if (20 : Int32) < (if (400 : Int32) < x1 then 400 else x1) then (if (400 : Int32) < x1 then 400 else x1) else 20) = xz ∧ (if (0 : Int32) < xz / 2 then xz / 2 else 0) = nI S ∧ S ≤ 200 ∧ f_Symbols_initY pm_0 = some wY ∧ f_Room_init S (pm_setI (pm_setI pm_0 0 0 xz) 0 1 (nI S)) = some wR ∧ f_Md_init x1 (pm_setI (pm_setI pm_0 0 15 536870912) 0 16 536870912) = some vM ∧ Rel (w0C wY wR) vM ∧ Sim S Rel
theorem lw_cellE {s : State} {b L : Nat} {xs : Nat → Int32} (hX : va_X b L xs s s.heap) (hbl : b < s.heap.size) (H : Heap) (locs : List Loc) (hS : va_S (lw_A s) s.heap H locs) (U : State) (hU : U.heap = H) (hW : s.WarmedH U.vm) : lw_E b L xs (pm_A [] (fun _ => 0) H.size) U U.heap := by
  have hbA : ¬ lw_A s b := Nat.not_le.mpr hbl
  rw [hU]
  refine ⟨va_X.moved hW.alike (hX.kept (hS.2.1 b hbl hbA)), Nat.lt_of_lt_of_le hbl hS.1, fun z => ?_⟩
  rcases z with ⟨o, ho, _⟩ | z
  · exact absurd ho (Nat.not_lt_zero _)
  · exact absurd (Nat.lt_of_lt_of_le hbl hS.1) (Nat.not_lt.mpr z)
set_option maxHeartbeats 4000000 in
set_option maxRecDepth 100000 in
/-- THE LAW, from its entry, out of Pure_1 -/
theorem whole_start_open (hp : Pure_1) {p : Program} {e : Env} {s : State} {m : MethodId} {below : List Frame} {meth : Method} {c : Code} (l : Launch) {b L : Nat} {xs : Nat → Int32} (hL : L ≤ 1537) (C0 : lw_At p s m meth c b L xs) : W p l e room_1 s m #[Value.ref b] below meth c s.heap [] 0 0 (lw_Z below #[Value.ref b] s) (entryFrame m ([Value.ref b] : List Value).toArray 4) := by
  obtain ⟨hx, hb, hr, hml, hown, hts, hX, hbl, hlocks, hgv⟩ := id C0
  have hT := lw_T hts
  have hpm : ∀ w ∈ pmTs, w.before #[Value.ref b] s = true := pm_T_use pmTs_good hT _
  obtain ⟨D, ca, hK⟩ := lw_K hpm ⟨hts _ lw_a_int, hts _ lw_a_char, hts _ lw_a_boolean, hts _ lw_a_long⟩
  obtain ⟨adK, adV, hE⟩ := lw_str hts hgv
  have K : pn_ok p s m #[Value.ref b] meth c code 4 R_Law D ca adK adV (lw_A s) ret := ⟨hx, hb, hml, hown, hpm, hT, lw_X hts, hK, fun q h => h, hlocks, hr, hE⟩
  have K2 : lk_ok p s m #[Value.ref b] c code 4 R_Law D ca adK adV := ⟨hx, hb, hml, hown, hpm, hT, hK, hE⟩
  obtain ⟨S, xz, wY, wR, vM, Rel, hz, hS, hS2, hY, hR, hM, hRel, hSim⟩ := hp (lw_c0 L xs)
  have main : pn_wk p l e room_1 s m #[Value.ref b] below meth c D 4 0 0 (lw_A s) (lw_Z below #[Value.ref b] s) 0 [(0, .ref b)] [] [] := by
    refine pn_new (fs := [.null, .null, .null, .null, .null, .null]) K fc_0 tw_106 tw_107 tw_90 (by decide) (by show _ ≤ 600000; omega) (by show _ ≤ 7302250; omega) d_law_0 (fun q0 => ?_)
    refine pn_dup K d_law_3 rfl ?_
    refine pn_aload_n K d_law_4 0 rfl rfl ?_
    refine pn_iconst (v := 0) K d_law_5 (by decide) ?_
    refine pn_call0 (As := [.ref b, .int 0]) (rest := [.ref q0, .ref q0]) K (c_Law_cell (ad := fun _ => 0) (xs := xs) hL pm_0) (lw_Ecl b L xs) (fun H locs hS U hU hW => lw_cellE hX hbl H locs hS U hU hW) mi_Law_cell tw_654 tw_653 rfl ⟨rfl, rfl, Nat.le_of_ble_eq_true rfl, Nat.le_of_ble_eq_true rfl⟩ ⟨by show _ ≤ 600000; omega, by show _ ≤ 7302250; omega⟩ rfl (Nat.le_of_ble_eq_true rfl) d_law_6 ?_
    refine pn_callI (As := [.int (lw_c0 L xs)]) (rest := [.ref q0]) (wr := []) K 0 [] rfl rfl rfl (fun i h => by cases h) (fun sz => c_CL_init S q0 (lw_c0 L xs) xz hz hS hS2 wY hY wR hR sz) mi_CL_init rfl tw_109 tw_108 rfl ⟨rfl, rfl, Nat.le_of_ble_eq_true rfl, Nat.le_of_ble_eq_true rfl⟩ ⟨by show _ ≤ 600000; omega, by show _ ≤ 7302250; omega⟩ rfl (Nat.le_of_ble_eq_true rfl) d_law_9 (fun adC hC => ?_)
    subst hC
    refine pn_eq (List.nil_append _) ?_
    refine pn_astore_n (lv' := [(1, .ref (adC 0)), (0, .ref b)]) K d_law_12 rfl (by decide) rfl ?_
    refine pn_new (fs := [.int 0, .int 0, .null, .null, .null, .null, .null, .null, .null, .null, .null, .int 0, .int 0, .null, .null, .int 0, .int 0, .int 0, .int 0, .int 0, .int 0, .null, .int 0, .null, .null, .null, .null, .null, .null, .int 0, .int 0]) K fc_9 tw_656 tw_657 tw_105 (by decide) (by show _ ≤ 600000; omega) (by show _ ≤ 7302250; omega) d_law_13 (fun q1 => ?_)
    refine pn_dup K d_law_16 rfl ?_
    refine pn_aload_n K d_law_17 1 rfl rfl ?_
    refine pn_iconst (v := 0) K d_law_18 (by decide) ?_
    refine pn_call0 (As := [.ref b, .int 0]) (rest := [.ref q1, .ref q1]) K (c_Law_cell (ad := fun _ => 0) (xs := xs) hL pm_0) (lw_Ecl b L xs) (fun H locs hS U hU hW => lw_cellE hX hbl H locs hS U hU hW) mi_Law_cell tw_654 tw_653 rfl ⟨rfl, rfl, Nat.le_of_ble_eq_true rfl, Nat.le_of_ble_eq_true rfl⟩ ⟨by show _ ≤ 600000; omega, by show _ ≤ 7302250; omega⟩ rfl (Nat.le_of_ble_eq_true rfl) d_law_19 ?_
    refine pn_callI (As := [.int (lw_c0 L xs)]) (rest := [.ref q1]) K _ _ (pn_pos1 _ _) (pn_pos2 _ _) (pn_ndr _) (fun i h1 h2 => by rw [List.mem_range] at h1; rw [List.mem_singleton] at h2; omega) (fun sz => c_Md_init q1 (lw_c0 L xs) vM hM sz) mi_Md_init rfl tw_659 tw_658 rfl ⟨rfl, rfl, Nat.le_of_ble_eq_true rfl, Nat.le_of_ble_eq_true rfl⟩ ⟨by show _ ≤ 600000; omega, by show _ ≤ 7302250; omega⟩ rfl (Nat.le_of_ble_eq_true rfl) d_law_22 (fun adM hM0 => ?_)
    have hM0 : adM 0 = q1 := by
      obtain ⟨_, _, _, _, _, _, _, _, _, _, _, _, _, _, _, _, _, _, rfl⟩ := hM0
      rfl
    subst hM0
    refine pn_astore_n (lv' := [(2, .ref (adM 0)), (1, .ref (adC 0)), (0, .ref b)]) K d_law_25 rfl (by decide) rfl ?_
    intro H locs ls hl hP hD hS
    refine lv_iconst (v := 1) hx hb d_law_26 (by decide) ?_
    refine lv_istore_n (lv' := [(3, .int 1), (2, .ref (adM 0)), (1, .ref (adC 0)), (0, .ref b)]) hx hb d_law_27 rfl hl (by decide) rfl (fun ls hl => ?_)
    refine W.widen (k := 600000) (n := 7302250) (by omega) (by omega) ?_
    exact law_loop hL C0 K2 (lw_Dxy hD) hSim (L + 3) 1 (by omega) (by omega) _ _ hRel H locs (lw_Pl hP) (lw_Pr hP) hS ls (lv_sub hl [3, 2, 1, 0] rfl)
  have h := main s.heap [] _ (lv_entry [.ref b] (n := 4) (Nat.le_of_ble_eq_true rfl)) (fun k q h => by simp at h) ⟨fun i j p q h => by simp at h, fun k q h => by simp at h⟩ va_S.rf
  rw [lg_entry_eq]
  exact h
set_option maxHeartbeats 4000000 in
theorem lw_walk (hp : Pure_1) (l : Launch) (b : Addr) (xs : List Int32) : MetFree l x (headSpec (Jvm.Cond.code x code maxLocals ret :: tables_1) room_1) (lw_P b xs) (fun _ _ _ _ _ => True) lw_Q := by
  refine MetFree.of_bodyS (code := code) (maxLocals := maxLocals) (ret := ret) (by decide) ?_ ?_
  · intro args s m h hn
    obtain ⟨meth, c, h1, h2, h3, h4, h5, h6, -, -⟩ := Cond.code_spec hn (atoms_spec (ws := Jvm.Cond.code x code maxLocals ret :: tables_1) h _ List.mem_cons_self)
    exact ⟨meth, c, h1, h2, h3, h4, h5, h6⟩
  · intro p e s m args below meth c s₁ B hml0 hP _
    obtain ⟨rfl, hx, hbd, hgv⟩ := hP
    obtain ⟨scr, harrAt, hlist, hof, hsmall⟩ := hx
    obtain ⟨hcb, hkn, -, -⟩ := State.arrayAt?_spec harrAt
    have hown : s.vm.findClass R_law = some m.cls := findClass_of_methodNamed B.named
    have hts0 : ∀ c ∈ (Jvm.Cond.code x code maxLocals ret :: tables_1), c.before #[Value.ref b] s = true := atoms_spec (ws := Jvm.Cond.code x code maxLocals ret :: tables_1) B.pre
    have hts : ∀ w ∈ lw_tbl, w.before #[Value.ref b] s = true := k2_hts_sels lw_privs (fun w hw => hts0 w (List.mem_cons_of_mem _ hw)) lw_privs_ok
    have hml : c.maxLocals = 4 := B.maxLocals_eq (hts0 _ List.mem_cons_self)
    have X₀ : Stand p l e room_1 s m #[Value.ref b] below meth c s₁ [] 0 0 := Stand.of_body B
    have hh0 : s₁.heap = s.heap := by rw [B.state]; rfl
    have hsz : scr.slots.size = xs.length := by rw [← Array.length_toList, hlist, List.length_map]
    have hval : ∀ j : Nat, j < xs.length → scr.slots[j]? = some (.int (xs.getD j 0)) := fun j hj => by
      rw [← Array.getElem?_toList, hlist]
      simp [hj]
    have hbl : b < s.heap.size := (Array.getElem?_eq_some_iff.mp hcb).1
    have hX : va_X b xs.length (fun j => xs.getD j 0) s s.heap := ⟨scr, hcb, hof, hkn, hsz, hval⟩
    have K : W p l e room_1 s m #[Value.ref b] below meth c s₁.heap [] 0 0 (lw_Z below #[Value.ref b] s) (entryFrame m ([Value.ref b] : List Value).toArray 4) := by
      rw [hh0]
      exact whole_start_open hp l hbd ⟨B.exec, B.bytes, B.returns, hml, hown, hts, hX, hbl, B.notSynchronized, hgv⟩
    obtain ⟨t, a1, o, b1, b2, b3⟩ := K s₁ rfl X₀
    exact ⟨t, o, a1, b1, b2, b3⟩
theorem lw_pre_spec {args : Array Value} {s : State} (h : (Jvm.Cond.and given_1 narrow_1).before args s = true) (hr : rest_1_c.before args s = true) : ∃ (b : Addr) (xs : List Int32), lw_P b xs args s := by
  have hs := flat_of_before _ h
  have hq := flat_of_before _ hr
  have hc : (Cond.count 1).before args s = true := hs _ (by decide +kernel)
  have harr : (Cond.arrayOf (.arg 0) .int).before args s = true := hs _ (by decide +kernel)
  have hle : (Cond.le (.length (.arg 0)) (.int 1537)).before args s = true := hs _ (by decide +kernel)
  have hlen : (Cond.isInt (.length (.arg 0))).before args s = true := hq _ (by decide +kernel)
  have hall : (Cond.all (.arg 0) (.isInt (.elem (.arg 0) (.index 0)))).before args s = true := hq _ (by decide +kernel)
  obtain ⟨b, xs, hb, hx⟩ := State.ints_of_pre rfl harr hlen hall
  have hsm : xs.length < 2 ^ 31 := hx.choose_spec.2.2.2
  have hev : (Term.length (.arg 0)).eval args s none [] s = some (.int xs.length.toInt32) := hx.length_eval hb
  have hv := Cond.le_ints hev (show (Term.int 1537).eval args s none [] s = some (.int 1537) from rfl)
  have hd : xs.length.toInt32 ≤ 1537 := by
    simpa [Cond.before, Cond.holds, hv] using hle
  have hN : xs.length ≤ 1537 := (Int32.ofNat_le_ofNat hsm (by decide)).mp (show Int32.ofNat xs.length ≤ Int32.ofNat 1537 from hd)
  exact ⟨b, xs, Cond.one_arg hc (show args[0]? = some (.ref b) from hb), hx, hN, h⟩
theorem lw_comes (hp : Pure_1) (l : Launch) : Comes l x (Jvm.Cond.code x code maxLocals ret :: tables_1) room_1 (fun tb e args s => Calls_1 tb e args s ∧ rest_1 tb e args s ∧ Pre_1 tb e args s)
    (fun _ _ args s o t => lw_Q args s o t) := by
  intro p e ha hc hk s m args below hf hfit hheap happ hpre
  obtain ⟨b, xs, hP⟩ := lw_pre_spec hpre.2.2 hpre.2.1
  obtain ⟨k, o, h1, h2, h3, hQ⟩ := lw_walk hp l b xs p e ha hc hk s m args below hf ((Spec.applies_iff_loose hf).mp happ).1 hP trivial
  exact ⟨k, o, h1, h2, h3, hQ⟩
theorem lw_frame {s t : State} {o : Outcome} {args : Array Value} (h : Framed s o t [] 600000 7302250) :
    Framed s o t (fieldLocs frame_1_writes args s ++ arrayLocs frame_1_arrays args s ++ staticLocs frame_1_statics s) 600000 7302250 := h
theorem lw_limb (hp : Pure_1) (L : Cond) (hL : ∀ (args : Array Value) (s t : State), L.after args s (.returned (some (.int 1))) t = true) :
    ArmFor flags0 classFile x code maxLocals ret World_1 tables_1 room_1 Calls_1 rest_1 Pre_1
      (fun tb e a s o t => postC L tb e a s o t ∧ Framed s o t (fieldLocs frame_1_writes a s ++ arrayLocs frame_1_arrays a s ++ staticLocs frame_1_statics s) 600000 7302250) := by
  intro l _ _ _ p e ha hc hk s m args below hf hfit hheap happ hpre
  obtain ⟨k, o, h1, h2, h3, rfl, hF⟩ := lw_comes hp l p e ha hc hk s m args below hf hfit hheap happ hpre
  exact ⟨k, _, h1, h2, h3, hL args s _, lw_frame hF⟩
theorem i_vc_open (hp : Pure_1) : Claimed_1_1 ∧ Claimed_1_2 := ⟨lw_limb hp limb_1_1 (fun args s t => by simp [limb_1_1, Cond.after, Cond.holds, Cond.value]), lw_limb hp limb_1_2 (fun args s t => Cond.after_iff.mpr (by
  first | (rw [show limb_1_2 = Cond.eq .result (.int 1) from rfl, Cond.eq_ints (x := 1) (y := 1) rfl rfl]; simp; done) | (simp [limb_1_2, Cond.value, Term.eval]; done)))⟩

