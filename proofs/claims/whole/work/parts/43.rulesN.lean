/-! THE WALK of a constructor's first part: its world is a list of cells that grows -/
/-- further words: Object's constructor, the array classes -/
def pn_X (U : State) : Prop := (Cond.code objectInit ⟨#[0xb1]⟩ 1 none).before #[] U = true ∧ (Cond.arrayClass .int).before #[] U = true ∧ (Cond.arrayClass .char).before #[] U = true ∧ (Cond.arrayClass .boolean).before #[] U = true ∧ (Cond.arrayClass .long).before #[] U = true
theorem pn_X_warm {s U : State} (hW : s.WarmedH U.vm) (h : pn_X s) : pn_X U :=
  ⟨word_at hW (Or.inl (by rfl)) h.1, word_at hW (Or.inr ⟨_, rfl⟩) h.2.1, word_at hW (Or.inr ⟨_, rfl⟩) h.2.2.1, word_at hW (Or.inr ⟨_, rfl⟩) h.2.2.2.1, word_at hW (Or.inr ⟨_, rfl⟩) h.2.2.2.2⟩
/-- a constructor's start: the object alone -/
def pn_P (D : va_G) (ca : Nat → ClassId) (adK adV : Nat → Nat) (h0 ci : Nat) (fs : List Value) (sz : Nat) (U : State) : Prop :=
  U.heap.size = sz ∧ pm_T pmTs U ∧ pn_X U ∧ va_K D vwCl (tyl ca) U ∧ va_P D vwCl [(h0, .inr (ci, fs))] U.heap ∧ st_E adK adV (va_A [(h0, .inr (ci, fs))] sz) U U.heap
def pn_wk (p : Program) (l : Launch) (e : Env) (R : Room) (s : State) (m : MethodId) (args : Array Value) (below : List Frame) (meth : Method) (c : Code) (D : va_G) (nL kc ks : Nat) (A : Nat → Prop) (Q : State → Prop) (pc : Nat) (lv : List (Nat × Value)) (st : List Value) (ws : va_W) : Prop :=
  ∀ (H : Heap) (locs : List Loc) (ls : Array Slot), lv_has ls nL lv → va_P D vwCl ws H → va_D A ws → va_S A s.heap H locs → W p l e R s m args below meth c H locs kc ks Q (F0 m pc ls st)
def pn_ok (p : Program) (s : State) (m : MethodId) (args : Array Value) (meth : Method) (c : Code) (cc : ByteArray) (nL : Nat) (own : String) (D : va_G) (ca : Nat → ClassId) (adK adV : Nat → Nat) (A : Nat → Prop) (ret : Option FieldType) : Prop :=
  p.tables.exec = Jvm.exec ∧ c.code = cc ∧ c.maxLocals = nL ∧ s.vm.findClass own = some m.cls ∧ (∀ w ∈ pmTs, w.before args s = true) ∧ pm_T pmTs s ∧ pn_X s ∧ va_K D vwCl (tyl ca) s ∧ (∀ q, s.heap.size ≤ q → A q) ∧ meth.locks = false ∧ meth.sig.returnType = ret ∧ st_E adK adV A s s.heap
section PNW
variable {p : Program} {l : Launch} {e : Env} {R : Room} {s : State} {m : MethodId} {args : Array Value} {below : List Frame} {meth : Method} {c : Code} {cc : ByteArray} {nL : Nat} {own : String}
variable {D : va_G} {ca : Nat → ClassId} {adK adV : Nat → Nat} {ret : Option FieldType} {kc ks : Nat} {A : Nat → Prop} {Q : State → Prop} {pc : Nat} {lv : List (Nat × Value)} {st : List Value} {ws ws' : va_W}
theorem pn_D1 {A : Nat → Prop} {q : Nat × va_E} (h : A q.1) : va_D A [q] := by
  refine ⟨fun i j x y hi hj _ => ?_, fun k x hk => ?_⟩
  · have h1 : i < 1 := (List.getElem?_eq_some_iff.mp hi).1
    have h2 : j < 1 := (List.getElem?_eq_some_iff.mp hj).1
    omega
  · have h1 : k < 1 := (List.getElem?_eq_some_iff.mp hk).1
    have h2 : k = 0 := by omega
    subst h2
    cases hk
    exact h
theorem pn_start {y : MethodName} {rm : Room} {h0 ci mc ms : Nat} {fs : List Value} {As : List Value} {Qc : Array Value → State → Outcome → State → Prop} {sz : Nat} (hy : plainName y.cls = true) (hL : (lg_sl (.ref h0 :: As)).length ≤ nL)
    (body : ∀ (p : Program) (e : Env) (s : State) (m : MethodId) (below : List Frame) (meth : Method) (c : Code), s.heap.size = sz → meth.name = y.name → pn_ok p s m (Value.ref h0 :: As).toArray meth c cc nL y.cls D ca adK adV (va_A [(h0, .inr (ci, fs))] sz) ret → pn_wk p l e rm s m (Value.ref h0 :: As).toArray below meth c D nL 0 0 (va_A [(h0, .inr (ci, fs))] sz) (MQ below Qc (Value.ref h0 :: As).toArray s mc ms (va_A [(h0, .inr (ci, fs))] sz)) 0 (lv_args 0 (.ref h0 :: As)) [] [(h0, .inr (ci, fs))]) :
    Met l y [Cond.code y cc nL ret] rm (va_Pc (.ref h0 :: As) (pn_P D ca adK adV h0 ci fs sz)) Qc mc ms (va_A [(h0, .inr (ci, fs))] sz) := by
  refine Met.ofW (cc := cc) (maxL := nL) (ret := ret) hy rfl ?_
  intro p e s m args below meth c s₁ B hml hv
  obtain ⟨rfl, hsz, hT, hX, hK, hP, hE⟩ := hv
  have h := body p e s m below meth c hsz (name_of_methodNamed B.named B.method).1 ⟨B.exec, B.bytes, hml, findClass_of_methodNamed B.named, pm_T_use pmTs_good hT _, hT, hX, hK, fun q hq => Or.inr (by rw [← hsz]; exact hq), B.notSynchronized, B.returns, hE⟩ s.heap [] _ (lv_entry (.ref h0 :: As) hL) hP (pn_D1 (va_A.in (k := 0) rfl)) va_S.rf
  rw [lg_entry_eq]
  exact h
theorem pn_sub (kz : List Nat) {lv' : List (Nat × Value)} (h : lv_pick lv kz = lv') (k : pn_wk p l e R s m args below meth c D nL kc ks A Q pc lv' st ws) : pn_wk p l e R s m args below meth c D nL kc ks A Q pc lv st ws := fun H locs ls hl hP hD hS => k H locs ls (lv_sub hl kz h) hP hD hS
theorem pn_perm (is : List Nat) (h1 : va_nd is = true) (h2 : is.map (fun i => ws[i]?) = ws'.map some) (h3 : is.filterMap (fun i => ws[i]?) = ws') (k : pn_wk p l e R s m args below meth c D nL kc ks A Q pc lv st ws') : pn_wk p l e R s m args below meth c D nL kc ks A Q pc lv st ws := fun H locs ls hl hP hD hS => k H locs ls hl (hP.sub is h3) (hD.sub is h1 h2) hS
theorem pn_widen {k n : Nat} (h1 : kc ≤ k) (h2 : ks ≤ n) (kk : pn_wk p l e R s m args below meth c D nL k n A Q pc lv st ws) : pn_wk p l e R s m args below meth c D nL kc ks A Q pc lv st ws := fun H locs ls hl hP hD hS => W.widen h1 h2 (kk H locs ls hl hP hD hS)
theorem pn_aload_n (K : pn_ok p s m args meth c cc nL own D ca adK adV A ret) {n : Fin 4} {i x : Nat} (hd : decode cc pc = .ok (.aload_n n, 1)) (j : Nat) (hi : (n : Nat) = i) (hj : lv[j]? = some (i, .ref x)) (k : pn_wk p l e R s m args below meth c D nL kc ks A Q (pc + 1) lv (.ref x :: st) ws) : pn_wk p l e R s m args below meth c D nL kc ks A Q pc lv st ws := fun H locs ls hl hP hD hS => lv_aload_n K.1 K.2.1 hd hi (lv_at hl j hj) (k H locs ls hl hP hD hS)
theorem pn_aload (K : pn_ok p s m args meth c cc nL own D ca adK adV A ret) {i x : Nat} (hd : decode cc pc = .ok (.aload i, 2)) (j : Nat) (hj : lv[j]? = some (i, .ref x)) (k : pn_wk p l e R s m args below meth c D nL kc ks A Q (pc + 2) lv (.ref x :: st) ws) : pn_wk p l e R s m args below meth c D nL kc ks A Q pc lv st ws := fun H locs ls hl hP hD hS => lv_aload K.1 K.2.1 hd (lv_at hl j hj) (k H locs ls hl hP hD hS)
theorem pn_iload_n (K : pn_ok p s m args meth c cc nL own D ca adK adV A ret) {n : Fin 4} {i : Nat} {x : Int32} (hd : decode cc pc = .ok (.iload_n n, 1)) (j : Nat) (hi : (n : Nat) = i) (hj : lv[j]? = some (i, .int x)) (k : pn_wk p l e R s m args below meth c D nL kc ks A Q (pc + 1) lv (.int x :: st) ws) : pn_wk p l e R s m args below meth c D nL kc ks A Q pc lv st ws := fun H locs ls hl hP hD hS => lv_iload_n K.1 K.2.1 hd hi (lv_at hl j hj) (k H locs ls hl hP hD hS)
theorem pn_iconst (K : pn_ok p s m args meth c cc nL own D ca adK adV A ret) {n : Int} {v : Int32} (hd : decode cc pc = .ok (.iconst n, 1)) (hv : Int32.ofInt n = v) (k : pn_wk p l e R s m args below meth c D nL kc ks A Q (pc + 1) lv (.int v :: st) ws) : pn_wk p l e R s m args below meth c D nL kc ks A Q pc lv st ws := fun H locs ls hl hP hD hS => lv_iconst K.1 K.2.1 hd hv (k H locs ls hl hP hD hS)
theorem pn_bipush (K : pn_ok p s m args meth c cc nL own D ca adK adV A ret) {n : Int} {v : Int32} (hd : decode cc pc = .ok (.bipush n, 2)) (hv : (Int8.ofInt n).toInt32 = v) (k : pn_wk p l e R s m args below meth c D nL kc ks A Q (pc + 2) lv (.int v :: st) ws) : pn_wk p l e R s m args below meth c D nL kc ks A Q pc lv st ws := fun H locs ls hl hP hD hS => lv_bipush K.1 K.2.1 hd hv (k H locs ls hl hP hD hS)
theorem pn_sipush (K : pn_ok p s m args meth c cc nL own D ca adK adV A ret) {n : Int} {v : Int32} (hd : decode cc pc = .ok (.sipush n, 3)) (hv : (Int16.ofInt n).toInt32 = v) (k : pn_wk p l e R s m args below meth c D nL kc ks A Q (pc + 3) lv (.int v :: st) ws) : pn_wk p l e R s m args below meth c D nL kc ks A Q pc lv st ws := fun H locs ls hl hP hD hS => lv_sipush K.1 K.2.1 hd hv (k H locs ls hl hP hD hS)
theorem pn_ldc (K : pn_ok p s m args meth c cc nL own D ca adK adV A ret) {ix : Nat} {v : Int32} (hw : Cond.constant own ix v ∈ pmTs) (hd : decode cc pc = .ok (.ldc ix, 2)) (k : pn_wk p l e R s m args below meth c D nL kc ks A Q (pc + 2) lv (.int v :: st) ws) : pn_wk p l e R s m args below meth c D nL kc ks A Q pc lv st ws := fun H locs ls hl hP hD hS => lv_ldc K.1 K.2.1 K.2.2.2.1 (K.2.2.2.2.1 _ hw) hd (k H locs ls hl hP hD hS)
theorem pn_dup (K : pn_ok p s m args meth c cc nL own D ca adK adV A ret) {va : Value} (hd : decode cc pc = .ok (.dup, 1)) (ha : va.category = 1) (k : pn_wk p l e R s m args below meth c D nL kc ks A Q (pc + 1) lv (va :: va :: st) ws) : pn_wk p l e R s m args below meth c D nL kc ks A Q pc lv (va :: st) ws := fun H locs ls hl hP hD hS => lv_dup K.1 K.2.1 hd ha (k H locs ls hl hP hD hS)
theorem pn_idiv (K : pn_ok p s m args meth c cc nL own D ca adK adV A ret) {x y : Int32} (hd : decode cc pc = .ok (.idiv, 1)) (hne : ¬ y = 0) (k : pn_wk p l e R s m args below meth c D nL kc ks A Q (pc + 1) lv (.int (x / y) :: st) ws) : pn_wk p l e R s m args below meth c D nL kc ks A Q pc lv (.int y :: .int x :: st) ws := fun H locs ls hl hP hD hS => lv_idiv K.1 K.2.1 hd hne (k H locs ls hl hP hD hS)
theorem pn_mmax (K : pn_ok p s m args meth c cc nL own D ca adK adV A ret) {x y : Int32} {ix : Nat} (h1 : Cond.methodLink own ix Lib.Math.max.name ∈ pmTs) (h2 : Cond.static Lib.Math.max.name ∈ pmTs) (h3 : Cond.initialized "java/lang/Math" ∈ pmTs) (h4 : Cond.code Lib.Math.max.name Lib.Math.max.code 2 (some .int) ∈ pmTs) (hf : 1 ≤ R.frames) (hlo : (st.map fun v => v.category).sum + 13 ≤ R.locals) (hc : kc ≤ R.cells) (hs : ks ≤ R.slots) (hd : decode cc pc = .ok (.invokestatic ix, 3))
    (k : pn_wk p l e R s m args below meth c D nL kc ks A Q (pc + 3) lv (.int (if x < y then y else x) :: st) ws) : pn_wk p l e R s m args below meth c D nL kc ks A Q pc lv (.int y :: .int x :: st) ws := fun H locs ls hl hP hD hS =>
  va_mmax K.1 K.2.1 (by rw [K.2.2.1, hl.1]) K.2.2.2.1 (K.2.2.2.2.1 _ h1) (K.2.2.2.2.1 _ h2) (K.2.2.2.2.1 _ h3) (K.2.2.2.2.1 _ h4) hf hlo hc hs hd (k H locs ls hl hP hD hS)
theorem pn_mmin (K : pn_ok p s m args meth c cc nL own D ca adK adV A ret) {x y : Int32} {ix : Nat} (h1 : Cond.methodLink own ix Lib.Math.min.name ∈ pmTs) (h2 : Cond.static Lib.Math.min.name ∈ pmTs) (h3 : Cond.initialized "java/lang/Math" ∈ pmTs) (h4 : Cond.code Lib.Math.min.name Lib.Math.min.code 2 (some .int) ∈ pmTs) (hf : 1 ≤ R.frames) (hlo : (st.map fun v => v.category).sum + 13 ≤ R.locals) (hc : kc ≤ R.cells) (hs : ks ≤ R.slots) (hd : decode cc pc = .ok (.invokestatic ix, 3))
    (k : pn_wk p l e R s m args below meth c D nL kc ks A Q (pc + 3) lv (.int (if y < x then y else x) :: st) ws) : pn_wk p l e R s m args below meth c D nL kc ks A Q pc lv (.int y :: .int x :: st) ws := fun H locs ls hl hP hD hS =>
  va_mmin K.1 K.2.1 (by rw [K.2.2.1, hl.1]) K.2.2.2.1 (K.2.2.2.2.1 _ h1) (K.2.2.2.2.1 _ h2) (K.2.2.2.2.1 _ h3) (K.2.2.2.2.1 _ h4) hf hlo hc hs hd (k H locs ls hl hP hD hS)
theorem pn_objInit (K : pn_ok p s m args meth c cc nL own D ca adK adV A ret) {ix a : Nat} (h1 : Cond.methodLink own ix objectInit ∈ pmTs) (h2 : Cond.instanceMethod objectInit ∈ pmTs) (hf : 1 ≤ R.frames) (hlo : (st.map fun v => v.category).sum + 12 ≤ R.locals) (hd : decode cc pc = .ok (.invokespecial ix, 3))
    (k : pn_wk p l e R s m args below meth c D nL kc ks A Q (pc + 3) lv st ws) : pn_wk p l e R s m args below meth c D nL kc ks A Q pc lv (.ref a :: st) ws := fun H locs ls hl hP hD hS =>
  W.objInit K.1 K.2.1 K.2.2.2.1 (K.2.2.2.2.1 _ h1) (K.2.2.2.2.1 _ h2) (va_tabs rfl rfl K.2.2.2.2.2.2.1.1) rfl (by rw [K.2.2.1]; exact hl.1) rfl hd hf (by show 2 * 0 + _ + 12 ≤ _; omega) (k H locs ls hl hP hD hS)
theorem pn_get (K : pn_ok p s m args meth c cc nL own D ca adK adV A ret) {C : String} {T : u_T} {N : Nat} {ty0 : Nat → FieldType} {ci a ix : Nat} {fs : List Value} {v : Value} (F : pm_cls pmTs vwCl ci C T N ty0) (q0 : Nat) (he : ws[q0]? = some (a, .inr (ci, fs))) (k : Nat) (hk : k < N) (hv : fs[k]? = some v) (hw : Cond.fieldLink own ix (T k).1 (T k).2.1 (T k).2.2.1 ∈ pmTs) (hd : decode cc pc = .ok (.getfield ix, 3))
    (kk : pn_wk p l e R s m args below meth c D nL kc ks A Q (pc + 3) lv (v :: st) ws) : pn_wk p l e R s m args below meth c D nL kc ks A Q pc lv (.ref a :: st) ws := fun H locs ls hl hP hD hS =>
  va_get (D := D) K.1 K.2.1 K.2.2.2.2.1 F.2.1 K.2.2.2.1 K.2.2.2.2.2.2.2.1 hP q0 he F.1 k hk (K.2.2.2.2.1 _ hw) (fun _ h => h) hv hd (kk H locs ls hl hP hD hS)
theorem pn_put (K : pn_ok p s m args meth c cc nL own D ca adK adV A ret) {C : String} {T : u_T} {N : Nat} {ty0 : Nat → FieldType} {ci a ix : Nat} {fs : List Value} {v : Value} {ty : FieldType} (F : pm_cls pmTs vwCl ci C T N ty0) (q0 : Nat) (he : ws[q0]? = some (a, .inr (ci, fs))) (k : Nat) (hk : k < N) (hw : Cond.fieldLink own ix (T k).1 (T k).2.1 (T k).2.2.1 ∈ pmTs) (hfin : (T k).2.2.2 = false) (hty : parseFieldDescriptor (T k).2.2.1 = some ty) (hn : narrow ty v = v) (hfit : fits ty v = true) (hl0 : k < fs.length) (hd : decode cc pc = .ok (.putfield ix, 3)) (hws : ws.set q0 (a, .inr (ci, fs.set k v)) = ws')
    (kk : pn_wk p l e R s m args below meth c D nL kc ks A Q (pc + 3) lv st ws') : pn_wk p l e R s m args below meth c D nL kc ks A Q pc lv (v :: .ref a :: st) ws := fun H locs ls hl hP hD hS =>
  va_put (D := D) K.1 K.2.1 K.2.2.2.2.1 F.2.1 ty0 F.2.2.1 F.2.2.2 K.2.2.2.1 K.2.2.2.2.2.2.2.1 hP hD hS q0 he F.1 k hk (K.2.2.2.2.1 _ hw) (fun _ h => h) hfin hty hn hfit hl0 hd (fun H1 locs1 hP1 hD1 hS1 => kk H1 locs1 ls hl (hws ▸ hP1) (hws ▸ hD1) hS1)
theorem pn_putF (K : pn_ok p s m args meth c cc nL own D ca adK adV A ret) {C : String} {T : u_T} {N : Nat} {ty0 : Nat → FieldType} {ci a ix : Nat} {fs : List Value} {v : Value} {ty : FieldType} (F : pm_cls pmTs vwCl ci C T N ty0) (q0 : Nat) (he : ws[q0]? = some (a, .inr (ci, fs))) (k : Nat) (hk : k < N) (hw : Cond.fieldLink own ix (T k).1 (T k).2.1 (T k).2.2.1 ∈ pmTs) (hfin : (T k).2.2.2 = true) (hin2 : meth.name = "<init>") (hdecl : (T k).1 = own) (hty : parseFieldDescriptor (T k).2.2.1 = some ty) (hn : narrow ty v = v) (hfit : fits ty v = true) (hl0 : k < fs.length) (hd : decode cc pc = .ok (.putfield ix, 3)) (hws : ws.set q0 (a, .inr (ci, fs.set k v)) = ws')
    (kk : pn_wk p l e R s m args below meth c D nL kc ks A Q (pc + 3) lv st ws') : pn_wk p l e R s m args below meth c D nL kc ks A Q pc lv (v :: .ref a :: st) ws := fun H locs ls hl hP hD hS =>
  va_putF (D := D) K.1 K.2.1 K.2.2.2.2.1 F.2.1 ty0 F.2.2.1 F.2.2.2 K.2.2.2.1 K.2.2.2.2.2.2.2.1 hP hD hS q0 he F.1 k hk (K.2.2.2.2.1 _ hw) (fun _ h => h) hfin hin2 hdecl hty hn hfit hl0 hd (fun H1 locs1 hP1 hD1 hS1 => kk H1 locs1 ls hl (hws ▸ hP1) (hws ▸ hD1) hS1)
theorem pn_newa (K : pn_ok p s m args meth c cc nL own D ca adK adV A ret) {atype : ArrayType} {ty : FieldType} {n : Int32} {N t : Nat} {a0 : vp_A} (hty : newarray.typeOf atype = ty) (harr : (Cond.arrayClass ty).before #[] s = true) (hu : ∀ c1 c2 : ClassId, va_RA s c1 ty → va_RA s c2 ty → c1 = c2) (ht : (tyl ca)[t]? = some (ca t, ty)) (ha : ∀ cA : ClassId, vp_cell cA a0 = arrV cA N (fun _ => defaultValue ty)) (hn : ¬ n < 0) (hN : n.toNatClampNeg = N) (hb : N * componentBytes ty ≤ 536870912) (hc : kc + 1 ≤ R.cells) (hs : ks + N ≤ R.slots) (hd : decode cc pc = .ok (.newarray atype, 2))
    (kk : ∀ q : Nat, pn_wk p l e R s m args below meth c D nL (kc + 1) (ks + N) A Q (pc + 2) lv (.ref q :: st) (ws ++ [(q, .inl (ca t, a0))])) : pn_wk p l e R s m args below meth c D nL kc ks A Q pc lv (.int n :: st) ws := fun H locs ls hl hP hD hS => by
  have hK := K.2.2.2.2.2.2.2.1
  have harr' : (Cond.arrayClass (newarray.typeOf atype)).before args s = true := by
    rw [hty]
    exact word_at (State.WarmedH.refl s) (Or.inr ⟨_, rfl⟩) harr
  refine va_newa (tys := tyl ca) (ws := ws) K.1 K.2.1 harr' hty hK hP hD hS K.2.2.2.2.2.2.2.2.1 ha hn hN hb hc hs hd (fun q cA H1 hK1 hP1 hD1 hS1 => ?_)
  have e : cA = ca t := hu _ _ (hK1.2 4 (cA, ty) rfl).2 (hK.2 t _ ht).2
  subst e
  exact kk q H1 locs ls hl hP1 hD1 hS1
theorem pn_new (K : pn_ok p s m args meth c cc nL own D ca adK adV A ret) {C : String} {T : u_T} {N : Nat} {ty0 : Nat → FieldType} {ci ix : Nat} {fs : List Value} (F : pm_cls pmTs vwCl ci C T N ty0) (h1 : Cond.classLink own ix C ∈ pmTs) (h2 : Cond.instantiable C N ∈ pmTs) (h3 : Cond.initialized C ∈ pmTs) (hfs : ∀ j, j < N → defaultValue (ty0 j) = vp_V fs j) (hc : kc + 1 ≤ R.cells) (hs : ks + N ≤ R.slots) (hd : decode cc pc = .ok (.new ix, 3))
    (kk : ∀ q : Nat, pn_wk p l e R s m args below meth c D nL (kc + 1) (ks + N) A Q (pc + 3) lv (.ref q :: st) (ws ++ [(q, .inr (ci, fs))])) : pn_wk p l e R s m args below meth c D nL kc ks A Q pc lv st ws := fun H locs ls hl hP hD hS =>
  va_new K.1 K.2.1 K.2.2.2.2.1 F.2.1 ty0 F.2.2.1 K.2.2.2.1 (K.2.2.2.2.1 _ h1) (K.2.2.2.2.1 _ h2) (K.2.2.2.2.1 _ h3) K.2.2.2.2.2.2.2.1 hP hD hS K.2.2.2.2.2.2.2.2.1 F.1 hfs hc hs hd (fun q H1 hP1 hD1 hS1 => kk q H1 locs ls hl hP1 hD1 hS1)
theorem pn_vret (K : pn_ok p s m args meth c cc nL own D ca adK adV A none) {sh : List pm_E} {okad : (Nat → Nat) → Prop} {w : pm_W} {mc ms : Nat} (ad : Nat → Nat) (hok : okad ad) (hws : ws = pm_cells sh ca ad w) (h1 : kc ≤ mc) (h2 : ks ≤ ms) (hd : decode cc pc = .ok (.return_, 1)) : pn_wk p l e R s m args below meth c D nL kc ks A (MQ below (pm_Qn D ca vwCl sh okad w A) args s mc ms A) pc lv [] ws := fun H locs ls hl hP hD hS => by
  subst hws
  refine W.widen h1 h2 ?_
  refine W.vret K.1 K.2.1 K.2.2.2.2.2.2.2.2.2.2.1 (fun t ht _ => ⟨rfl, ⟨ad, hok, fun i j hi hj h => ?_, fun o ho => ?_, by rw [ht]; exact hP⟩, hS.F ht⟩) hS.2.2 hd (hlocks := K.2.2.2.2.2.2.2.2.2.1)
  · exact hD.1 i j _ _ (pm_get (List.getElem?_eq_getElem hi)) (pm_get (List.getElem?_eq_getElem hj)) h
  · exact hD.2 o _ (pm_get (List.getElem?_eq_getElem ho))
/-- from here on the world has a fixed shape -/
theorem pn_pg {sh : List pm_E} {w : pm_W} (ad : Nat → Nat) (hws : ws = pm_cells sh ca ad w) {mc ms : Nat} (h1 : kc ≤ mc) (h2 : ks ≤ ms) (hA : ∀ q, s.heap.size ≤ q → A q) (kk : pm_inj sh ad → (∀ q, pm_A sh ad s.heap.size q → A q) → pg_wk p l e R s m args below meth c D vwCl sh ca ad nL mc ms A Q pc lv st w) : pn_wk p l e R s m args below meth c D nL kc ks A Q pc lv st ws := fun H locs ls hl hP hD hS => by
  subst hws
  refine W.widen h1 h2 (kk (fun i j hi hj h => ?_) (fun q h => ?_) H locs ls hl hP hS)
  · exact hD.1 i j _ _ (pm_get (List.getElem?_eq_getElem hi)) (pm_get (List.getElem?_eq_getElem hj)) h
  · rcases h with ⟨o, ho, rfl⟩ | h
    · exact hD.2 o _ (pm_get (List.getElem?_eq_getElem ho))
    · exact hA q h
theorem pn_cw (K : pn_ok p s m args meth c cc nL own D ca adK adV A ret) {y : MethodName} {bytes : ByteArray} {maxL n : Nat} {rt : Option FieldType} (hi : pm_mi pmTs y bytes maxL rt n) : (∀ x ∈ [Cond.code y bytes maxL rt], ∀ (a' : Array Value) (U : State), s.WarmedH U.vm → x.before a' U = true) ∧ (Cond.code y bytes maxL rt).before args s = true ∧ (Cond.initialized y.cls).before args s = true ∧ ∀ sig, parseMethodDescriptor y.desc = some sig → n = sig.parameters.length := by
  refine ⟨fun x hx a' U hW => ?_, K.2.2.2.2.1 _ hi.1, K.2.2.2.2.1 _ hi.2.1, fun sig h => ?_⟩
  · rw [List.mem_singleton] at hx
    subst hx
    exact pm_T_use pmTs_good (pm_T_warm pmTs_good hW K.2.2.2.2.2.1) a' _ hi.1
  · have h2 := hi.2.2.2
    rw [h] at h2
    exact (Option.some.inj h2).symm
theorem pn_blind {h0 ci sz : Nat} {fs avs : List Value} : FrameBlind (va_Pc avs (pn_P D ca adK adV h0 ci fs sz)) := by
  intro a U g mk h
  obtain ⟨h0, h1, h2, h3, h4, h5, h6⟩ := h
  exact ⟨h0, h1, pm_T_same (s := U) (U := U.calling g mk a) pmTs_good rfl h2, pn_X_warm (U := U.calling g mk a) (State.WarmedH.refl U) h3, va_K.moved (u := U) (U := U.calling g mk a) (Vm.Alike.refl U.vm) h4, h5, st_cl adK adV _ _ U (U.calling g mk a) U.heap h6 (fun _ _ _ => rfl) (fun _ h => h) (Vm.Alike.refl U.vm) (State.WarmedH.refl U) rfl⟩
/-- a constructor is called on an object of the list (place q0); the others (places isR) stay -/
theorem pn_callR (K : pn_ok p s m args meth c cc nL own D ca adK adV A ret) {H : Heap} {locs : List Loc} {ls : Array Slot} {st0 rest : List Value} {av : Array Value} {sh : List pm_E} {okad : (Nat → Nat) → Prop} {w' : pm_W} {wr : va_W} {b ci mc ms : Nat} {fs : List Value} (q0 : Nat) (isR : List Nat) (he : [q0].map (fun i => ws[i]?) = [(b, Sum.inr (ci, fs))].map some) (hR : isR.map (fun i => ws[i]?) = wr.map some) (hnd : va_nd isR = true) (hdis : ∀ i ∈ isR, i ∉ [q0]) (hl : lv_has ls nL lv) (hP : va_P D vwCl ws H) (hD : va_D A ws) (hS : va_S A s.heap H locs)
    (hr : va_Run p l e R s m args below meth c H locs kc ks mc ms (F0 m pc ls st0) rest (pm_Qn D ca vwCl sh okad w' (va_A [(b, .inr (ci, fs))] H.size) av) (va_A [(b, .inr (ci, fs))] H.size))
    (kk : ∀ ad : Nat → Nat, okad ad → pn_wk p l e R s m args below meth c D nL (kc + mc) (ks + ms) A Q (pc + 3) lv rest (wr ++ pm_cells sh ca ad w')) : W p l e R s m args below meth c H locs kc ks Q (F0 m pc ls st0) := by
  have hF := va_free (wc := [(b, .inr (ci, fs))]) hD hS K.2.2.2.2.2.2.2.2.1 [q0] he
  intro T hT X
  obtain ⟨v, st₀, t, T', L, h0, X', hL, e1, e2, ⟨hv, ⟨ad, hok, hin, hAd, hP'⟩, hz, hk⟩, sg⟩ := hr T hT X
  have hv : v = none := Outcome.returned.inj hv
  subst hv
  rw [h0] at hz hk
  have hD' : va_D (va_A [(b, .inr (ci, fs))] H.size) (pm_cells sh ca ad w') := by
    refine ⟨fun i j x y hi hj hxy => ?_, fun k x hk => ?_⟩
    · exact (pm_D (sz := 0) (w := w') (ca := ca) hin).1 i j x y hi hj hxy
    · rcases (pm_D (sz := T'.heap.size + 1 + x.1) (w := w') (ca := ca) hin).2 k x hk with ⟨o, ho, e⟩ | h
      · rw [e]; exact hAd o ho
      · omega
  rw [← e1] at hP'
  obtain ⟨hP2, hD2⟩ := va_join (wr := wr) (w1 := pm_cells sh ca ad w') hP hD [q0] isR he hR hnd hdis (fun q h1 h2 => by rw [e1]; exact hk q h1 h2) hF hP' hD'
  obtain ⟨t2, a1, b1⟩ := kk ad hok T'.heap (locs ++ L) ls hl hP2 hD2
    ⟨Nat.le_trans hS.1 (by rw [e1]; exact hz), fun q h1 h2 => by rw [e1, hk q (Nat.lt_of_lt_of_le h1 hS.1) (fun z => h2 (hF q z))]; exact hS.2.1 q h1 h2, fun q hq => by
      rcases List.mem_append.mp hq with h | h
      · exact hS.2.2 q h
      · exact hF _ (hL q h)⟩ T' rfl X'
  exact ⟨t2, sg t2 a1, b1⟩
theorem pn_pre (K : pn_ok p s m args meth c cc nL own D ca adK adV A ret) {H : Heap} {locs : List Loc} {avs : List Value} {b ci : Nat} {fs : List Value} (q0 : Nat) (he : [q0].map (fun i => ws[i]?) = [(b, Sum.inr (ci, fs))].map some) (hP : va_P D vwCl ws H) (hD : va_D A ws) (hS : va_S A s.heap H locs) (U : State) (hU : U.heap = H) (hW : s.WarmedH U.vm) : va_Pc avs (pn_P D ca adK adV b ci fs H.size) avs.toArray U := by
  have hF := va_free (wc := [(b, .inr (ci, fs))]) hD hS K.2.2.2.2.2.2.2.2.1 [q0] he
  have he' : [q0].filterMap (fun i => ws[i]?) = [(b, Sum.inr (ci, fs))] := by
    have h1 : ws[q0]? = some (b, Sum.inr (ci, fs)) := by simpa using he
    simp [h1]
  exact ⟨rfl, by rw [hU], pm_T_warm pmTs_good hW K.2.2.2.2.2.1, pn_X_warm hW K.2.2.2.2.2.2.1, va_K.moved hW.alike K.2.2.2.2.2.2.2.1, by rw [hU]; exact hP.sub [q0] he', st_cl adK adV _ _ s U H K.2.2.2.2.2.2.2.2.2.2.2 hS.2.1 hF hW.alike hW hU⟩
theorem pn_callI (K : pn_ok p s m args meth c cc nL own D ca adK adV A ret) {y : MethodName} {bytes : ByteArray} {maxL n ix b ci mc ms : Nat} {fs : List Value} {rm : Room} {As rest st0 : List Value} {sh : List pm_E} {okad : (Nat → Nat) → Prop} {w' : pm_W} {wr : va_W} (q0 : Nat) (isR : List Nat) (he : [q0].map (fun i => ws[i]?) = [(b, Sum.inr (ci, fs))].map some) (hR : isR.map (fun i => ws[i]?) = wr.map some) (hnd : va_nd isR = true) (hdis : ∀ i ∈ isR, i ∉ [q0])
    (hM : ∀ sz, Met l y [Cond.code y bytes maxL none] rm (va_Pc (.ref b :: As) (pn_P D ca adK adV b ci fs sz)) (pm_Qn D ca vwCl sh okad w' (va_A [(b, .inr (ci, fs))] sz)) mc ms (va_A [(b, .inr (ci, fs))] sz)) (hi : pm_mi pmTs y bytes maxL none n) (hy1 : y.name = "<init>") (hin : Cond.instanceMethod y ∈ pmTs) (hw : Cond.methodLink own ix y ∈ pmTs) (hn : As.length = n) (hr : rm.cells = mc ∧ rm.slots = ms ∧ rm.frames + 1 ≤ R.frames ∧ 8 + (maxL + 11) + rm.locals ≤ R.locals) (hcs : kc + mc ≤ R.cells ∧ ks + ms ≤ R.slots) (hst : st0 = As.reverse ++ .ref b :: rest) (hrest : (rest.map fun v => v.category).sum ≤ 8) (hd : decode cc pc = .ok (.invokespecial ix, 3))
    (kk : ∀ ad : Nat → Nat, okad ad → pn_wk p l e R s m args below meth c D nL (kc + mc) (ks + ms) A Q (pc + 3) lv rest (wr ++ pm_cells sh ca ad w')) : pn_wk p l e R s m args below meth c D nL kc ks A Q pc lv st0 ws := fun H locs ls hl hP hD hS => by
  have cw := pn_cw K hi
  exact pn_callR K q0 isR he hR hnd hdis hl hP hD hS (va_runI (As := As) (rest := rest) (nL := nL) (cc := cc) (Ts := pmTs) (own := own) ⟨K.1, K.2.1, K.2.2.1, K.2.2.2.1, K.2.2.2.2.1⟩ (hM H.size) ⟨⟨hr.1, hr.2.1, hr.2.2.1, hr.2.2.2, cw.1, List.mem_singleton.mpr rfl, cw.2.1, cw.2.2.1, hi.2.2.1, cw.2.2.2, K.2.2.2.2.1 _ hw⟩, hy1, K.2.2.2.2.1 _ hin⟩ ⟨pn_blind, fun U hU hW => pn_pre K q0 he hP hD hS U hU hW⟩ rfl hn hl.1 hst (lv_room hrest) hd hcs) kk
theorem pn_callIN (K : pn_ok p s m args meth c cc nL own D ca adK adV A ret) {y : MethodName} {bytes : ByteArray} {maxL n ix b ci mc ms : Nat} {host : String} {fs : List Value} {rm : Room} {As rest st0 : List Value} {sh : List pm_E} {okad : (Nat → Nat) → Prop} {w' : pm_W} {wr : va_W} (q0 : Nat) (isR : List Nat) (he : [q0].map (fun i => ws[i]?) = [(b, Sum.inr (ci, fs))].map some) (hR : isR.map (fun i => ws[i]?) = wr.map some) (hnd : va_nd isR = true) (hdis : ∀ i ∈ isR, i ∉ [q0])
    (hM : ∀ sz, Met l y [Cond.code y bytes maxL none] rm (va_Pc (.ref b :: As) (pn_P D ca adK adV b ci fs sz)) (pm_Qn D ca vwCl sh okad w' (va_A [(b, .inr (ci, fs))] sz)) mc ms (va_A [(b, .inr (ci, fs))] sz)) (hi : pm_mi pmTs y bytes maxL none n) (hy1 : y.name = "<init>") (hin : Cond.instanceMethod y ∈ pmTs) (hw : Cond.methodLinkNest own ix y host ∈ pmTs) (hn : As.length = n) (hr : rm.cells = mc ∧ rm.slots = ms ∧ rm.frames + 1 ≤ R.frames ∧ 8 + (maxL + 11) + rm.locals ≤ R.locals) (hcs : kc + mc ≤ R.cells ∧ ks + ms ≤ R.slots) (hst : st0 = As.reverse ++ .ref b :: rest) (hrest : (rest.map fun v => v.category).sum ≤ 8) (hd : decode cc pc = .ok (.invokespecial ix, 3))
    (kk : ∀ ad : Nat → Nat, okad ad → pn_wk p l e R s m args below meth c D nL (kc + mc) (ks + ms) A Q (pc + 3) lv rest (wr ++ pm_cells sh ca ad w')) : pn_wk p l e R s m args below meth c D nL kc ks A Q pc lv st0 ws := fun H locs ls hl hP hD hS => by
  have cw := pn_cw K hi
  exact pn_callR K q0 isR he hR hnd hdis hl hP hD hS (va_runIN (As := As) (rest := rest) (nL := nL) (cc := cc) (Ts := pmTs) (own := own) ⟨K.1, K.2.1, K.2.2.1, K.2.2.2.1, K.2.2.2.2.1⟩ (hM H.size) ⟨⟨⟨hr.1, hr.2.1, hr.2.2.1, hr.2.2.2, cw.1, List.mem_singleton.mpr rfl⟩, cw.2.1, cw.2.2.1, hi.2.2.1, cw.2.2.2, K.2.2.2.2.1 _ hw⟩, hy1, K.2.2.2.2.1 _ hin⟩ ⟨pn_blind, fun U hU hW => pn_pre K q0 he hP hD hS U hU hW⟩ rfl hn hl.1 hst (lv_room hrest) hd hcs) kk
end PNW
theorem pn_uI {s : State} : ∀ c1 c2 : ClassId, va_RA s c1 .int → va_RA s c2 .int → c1 = c2 := fun _ _ h1 h2 => Option.some.inj (h1.symm.trans h2)
theorem pn_uC {s : State} : ∀ c1 c2 : ClassId, va_RA s c1 .char → va_RA s c2 .char → c1 = c2 := fun _ _ h1 h2 => Option.some.inj (h1.symm.trans h2)
theorem pn_uZ {s : State} : ∀ c1 c2 : ClassId, va_RA s c1 .boolean → va_RA s c2 .boolean → c1 = c2 := fun _ _ h1 h2 => Option.some.inj (h1.symm.trans h2)
theorem pn_uJ {s : State} : ∀ c1 c2 : ClassId, va_RA s c1 .long → va_RA s c2 .long → c1 = c2 := fun _ _ h1 h2 => Option.some.inj (h1.symm.trans h2)
