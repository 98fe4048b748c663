section
/-! THE FRAME: a world of a FIXED SHAPE (objects and arrays that never come or go; references between them never change), its numbers as two functions; a walk is a goal about (pc, locals, stack, numbers) alone. -/
abbrev pm_W : Type := (Nat → Nat → Int32) × (Nat → Nat → Int64)
/-- a field: a reference to the object of that number, or a number (true: a long) -/
abbrev pm_F : Type := Nat ⊕ Bool
/-- an array (its class's place, its elements' type, its length), or an object (its class's place, its fields) -/
abbrev pm_E : Type := (Nat × FieldType × Nat) ⊕ (Nat × List pm_F)
def pm_val (ad : Nat → Nat) (w : pm_W) (o k : Nat) (f : pm_F) : Value := match f with
  | .inl t => .ref (ad t)
  | .inr false => .int (w.1 o k)
  | .inr true => .long (w.2 o k)
def pm_arr (w : pm_W) (o n : Nat) (ty : FieldType) : vp_A := match ty with
  | .long => (n, .inr (.inl (w.2 o)))
  | _ => (n, .inl (w.1 o))
def pm_cell (ca : Nat → ClassId) (ad : Nat → Nat) (w : pm_W) (o : Nat) (x : pm_E) : Nat × va_E := (ad o, match x with
  | .inl a => .inl (ca a.1, pm_arr w o a.2.2 a.2.1)
  | .inr b => .inr (b.1, b.2.mapIdx (fun k f => pm_val ad w o k f)))
def pm_cells (sh : List pm_E) (ca : Nat → ClassId) (ad : Nat → Nat) (w : pm_W) : va_W := sh.mapIdx (fun o x => pm_cell ca ad w o x)
def pm_up {α : Type} (f : Nat → Nat → α) (o k : Nat) (v : α) : Nat → Nat → α := fun a b => if a = o then (if b = k then v else f a b) else f a b
def pm_setI (w : pm_W) (o k : Nat) (v : Int32) : pm_W := (pm_up w.1 o k v, w.2)
def pm_setJ (w : pm_W) (o k : Nat) (v : Int64) : pm_W := (w.1, pm_up w.2 o k v)
theorem pm_up_off {α : Type} {f : Nat → Nat → α} {o k a : Nat} {v : α} (h : a ≠ o) : pm_up f o k v a = f a := by
  funext b
  simp [pm_up, h]
theorem pm_up_on {α : Type} {f : Nat → Nat → α} {o k : Nat} {v : α} : pm_up f o k v o = fun b => if b = k then v else f o b := by
  funext b
  simp [pm_up]
theorem pm_get {sh : List pm_E} {ca : Nat → ClassId} {ad : Nat → Nat} {w : pm_W} {o : Nat} {x : pm_E} (h : sh[o]? = some x) : (pm_cells sh ca ad w)[o]? = some (pm_cell ca ad w o x) := by
  unfold pm_cells
  rw [List.getElem?_mapIdx, h]
  rfl
theorem pm_len {sh : List pm_E} {ca : Nat → ClassId} {ad : Nat → Nat} {w : pm_W} : (pm_cells sh ca ad w).length = sh.length := by
  unfold pm_cells
  exact List.length_mapIdx
/-- the worlds differ at one object alone -/
theorem pm_off {w w' : pm_W} {o : Nat} (h1 : ∀ a, a ≠ o → w'.1 a = w.1 a) (h2 : ∀ a, a ≠ o → w'.2 a = w.2 a) {ca : Nat → ClassId} {ad : Nat → Nat} {a : Nat} (ha : a ≠ o) (x : pm_E) : pm_cell ca ad w' a x = pm_cell ca ad w a x := by
  have e1 := h1 a ha
  have e2 := h2 a ha
  rcases x with ⟨t, ty, n⟩ | ⟨ci, fk⟩
  · cases ty <;> simp [pm_cell, pm_arr, e1, e2]
  · have e : (fun (k : Nat) (f : pm_F) => pm_val ad w' a k f) = fun (k : Nat) (f : pm_F) => pm_val ad w a k f := by
      funext k f
      rcases f with t | b
      · rfl
      · cases b
        · simp [pm_val, e1]
        · simp [pm_val, e2]
    simp [pm_cell, e]
theorem pm_set {sh : List pm_E} {ca : Nat → ClassId} {ad : Nat → Nat} {w w' : pm_W} {o : Nat} {x : pm_E} {q : Nat × va_E} (hs : sh[o]? = some x) (h1 : ∀ a, a ≠ o → w'.1 a = w.1 a) (h2 : ∀ a, a ≠ o → w'.2 a = w.2 a) (hq : q = pm_cell ca ad w' o x) : (pm_cells sh ca ad w).set o q = pm_cells sh ca ad w' := by
  have hl : o < (pm_cells sh ca ad w).length := by rw [pm_len]; exact (List.getElem?_eq_some_iff.mp hs).1
  apply List.ext_getElem?
  intro j
  by_cases hj : j = o
  · subst hj
    rw [List.getElem?_set_self hl, pm_get hs, hq]
  · rw [List.getElem?_set_ne (Ne.symm hj)]
    unfold pm_cells
    rw [List.getElem?_mapIdx, List.getElem?_mapIdx]
    cases hx : sh[j]? with
    | none => rfl
    | some y => simp [pm_off h1 h2 hj]
theorem pm_setFI {sh : List pm_E} {ca : Nat → ClassId} {ad : Nat → Nat} {w : pm_W} {o ci k : Nat} {fk : List pm_F} {v : Int32} (hs : sh[o]? = some (.inr (ci, fk))) (hk : fk[k]? = some (.inr false)) :
    (pm_cells sh ca ad w).set o (ad o, .inr (ci, (fk.mapIdx (fun k f => pm_val ad w o k f)).set k (.int v))) = pm_cells sh ca ad (pm_setI w o k v) := by
  refine pm_set hs (fun a ha => pm_up_off ha) (fun a _ => rfl) ?_
  have e : (fk.mapIdx (fun k f => pm_val ad w o k f)).set k (.int v) = fk.mapIdx (fun j f => pm_val ad (pm_setI w o k v) o j f) := by
    apply List.ext_getElem?
    intro j
    by_cases hj : j = k
    · subst hj
      rw [List.getElem?_set_self (by rw [List.length_mapIdx]; exact (List.getElem?_eq_some_iff.mp hk).1), List.getElem?_mapIdx, hk]
      simp [pm_val, pm_setI, pm_up]
    · rw [List.getElem?_set_ne (Ne.symm hj), List.getElem?_mapIdx, List.getElem?_mapIdx]
      cases hx : fk[j]? with
      | none => rfl
      | some y =>
        rcases y with t | b
        · rfl
        · cases b
          · simp [pm_val, pm_setI, pm_up, hj]
          · rfl
  rw [e]
  rfl
theorem pm_setFJ {sh : List pm_E} {ca : Nat → ClassId} {ad : Nat → Nat} {w : pm_W} {o ci k : Nat} {fk : List pm_F} {v : Int64} (hs : sh[o]? = some (.inr (ci, fk))) (hk : fk[k]? = some (.inr true)) :
    (pm_cells sh ca ad w).set o (ad o, .inr (ci, (fk.mapIdx (fun k f => pm_val ad w o k f)).set k (.long v))) = pm_cells sh ca ad (pm_setJ w o k v) := by
  refine pm_set hs (fun a _ => rfl) (fun a ha => pm_up_off ha) ?_
  have e : (fk.mapIdx (fun k f => pm_val ad w o k f)).set k (.long v) = fk.mapIdx (fun j f => pm_val ad (pm_setJ w o k v) o j f) := by
    apply List.ext_getElem?
    intro j
    by_cases hj : j = k
    · subst hj
      rw [List.getElem?_set_self (by rw [List.length_mapIdx]; exact (List.getElem?_eq_some_iff.mp hk).1), List.getElem?_mapIdx, hk]
      simp [pm_val, pm_setJ, pm_up]
    · rw [List.getElem?_set_ne (Ne.symm hj), List.getElem?_mapIdx, List.getElem?_mapIdx]
      cases hx : fk[j]? with
      | none => rfl
      | some y =>
        rcases y with t | b
        · rfl
        · cases b
          · rfl
          · simp [pm_val, pm_setJ, pm_up, hj]
  rw [e]
  rfl
/-- what an element type of one slot says of an array's cell -/
def pm_one (ty : FieldType) : Prop := ty ≠ .long
theorem pm_arrI {w : pm_W} {o n : Nat} {ty : FieldType} (h : pm_one ty) : pm_arr w o n ty = (n, .inl (w.1 o)) := by
  cases ty <;> first | rfl | exact absurd rfl h
theorem pm_setAI {sh : List pm_E} {ca : Nat → ClassId} {ad : Nat → Nat} {w : pm_W} {o t n i : Nat} {ty : FieldType} {v : Int32} (hs : sh[o]? = some (.inl (t, ty, n))) (h : pm_one ty) :
    (pm_cells sh ca ad w).set o (ad o, .inl (ca t, n, .inl (upd (w.1 o) i v))) = pm_cells sh ca ad (pm_setI w o i v) := by
  refine pm_set hs (fun a ha => pm_up_off ha) (fun a _ => rfl) ?_
  have e : (pm_setI w o i v).1 o = upd (w.1 o) i v := by
    show pm_up w.1 o i v o = _
    rw [pm_up_on]
    rfl
  show _ = (ad o, Sum.inl (ca t, pm_arr (pm_setI w o i v) o n ty))
  rw [pm_arrI h, e]
theorem pm_setAJ {sh : List pm_E} {ca : Nat → ClassId} {ad : Nat → Nat} {w : pm_W} {o t n i : Nat} {v : Int64} (hs : sh[o]? = some (.inl (t, .long, n))) :
    (pm_cells sh ca ad w).set o (ad o, .inl (ca t, n, .inr (.inl (vp_updL (w.2 o) i v)))) = pm_cells sh ca ad (pm_setJ w o i v) := by
  refine pm_set hs (fun a _ => rfl) (fun a ha => pm_up_off ha) ?_
  have e : (pm_setJ w o i v).2 o = vp_updL (w.2 o) i v := by
    show pm_up w.2 o i v o = _
    rw [pm_up_on]
    rfl
  show _ = (ad o, Sum.inl (ca t, pm_arr (pm_setJ w o i v) o n .long))
  rw [show pm_arr (pm_setJ w o i v) o n .long = (n, .inr (.inl ((pm_setJ w o i v).2 o))) from rfl, e]
def pm_inj (sh : List pm_E) (ad : Nat → Nat) : Prop := ∀ i j, i < sh.length → j < sh.length → ad i = ad j → i = j
def pm_A (sh : List pm_E) (ad : Nat → Nat) (sz : Nat) : Nat → Prop := fun q => (∃ o, o < sh.length ∧ q = ad o) ∨ sz ≤ q
theorem pm_D {sh : List pm_E} {ca : Nat → ClassId} {ad : Nat → Nat} {w : pm_W} {sz : Nat} (h : pm_inj sh ad) : va_D (pm_A sh ad sz) (pm_cells sh ca ad w) := by
  have key : ∀ (k : Nat) (q : Nat × va_E), (pm_cells sh ca ad w)[k]? = some q → k < sh.length ∧ q.1 = ad k := by
    intro k q hk
    have hl : k < sh.length := by rw [← pm_len (ca := ca) (ad := ad) (w := w)]; exact (List.getElem?_eq_some_iff.mp hk).1
    obtain ⟨x, hx⟩ : ∃ x, sh[k]? = some x := ⟨_, List.getElem?_eq_getElem hl⟩
    rw [pm_get hx] at hk
    cases hk
    exact ⟨hl, rfl⟩
  refine ⟨fun i j p q hi hj e => ?_, fun k q hk => ?_⟩
  · obtain ⟨l1, e1⟩ := key i p hi
    obtain ⟨l2, e2⟩ := key j q hj
    exact h i j l1 l2 (by rw [← e1, ← e2, e])
  · obtain ⟨l1, e1⟩ := key k q hk
    exact Or.inl ⟨k, l1, e1⟩
theorem pm_A_in {sh : List pm_E} {ca : Nat → ClassId} {ad : Nat → Nat} {w : pm_W} {sz q : Nat} : pm_A sh ad sz q ↔ va_A (pm_cells sh ca ad w) sz q := by
  constructor
  · rintro (⟨o, ho, rfl⟩ | h)
    · obtain ⟨x, hx⟩ : ∃ x, sh[o]? = some x := ⟨_, List.getElem?_eq_getElem ho⟩
      exact Or.inl ⟨o, _, pm_get hx⟩
    · exact Or.inr h
  · rintro (⟨k, e, hk⟩ | h)
    · have hl : k < sh.length := by rw [← pm_len (ca := ca) (ad := ad) (w := w)]; exact (List.getElem?_eq_some_iff.mp hk).1
      obtain ⟨x, hx⟩ : ∃ x, sh[k]? = some x := ⟨_, List.getElem?_eq_getElem hl⟩
      rw [pm_get hx] at hk
      exact Or.inl ⟨k, hl, (congrArg Prod.fst (Option.some.inj hk)).symm⟩
    · exact Or.inr h
theorem pm_A_mono {sh : List pm_E} {ad : Nat → Nat} {a b : Nat} (h : a ≤ b) (q : Nat) (hq : pm_A sh ad b q) : pm_A sh ad a q := by
  rcases hq with h1 | h1
  · exact Or.inl h1
  · exact Or.inr (Nat.le_trans h h1)
-- the tables' words
def pm_good (w : Cond) : Bool := match w with
  | .fieldLinkNest .. => true
  | .methodLinkNest .. => true
  | w => w.onTables && w.keeps
theorem pm_good_on {w : Cond} (h : pm_good w = true) : w.onTables = true := by
  cases w <;> first | rfl | (simp only [pm_good, Bool.and_eq_true] at h; exact h.1)
def pm_T (Ts : List Cond) (U : State) : Prop := ∀ w ∈ Ts, w.before #[] U = true
def pm_Tg (Ts : List Cond) : Prop := ∀ w ∈ Ts, pm_good w = true
theorem pm_T_warm {Ts : List Cond} {s U : State} (hg : pm_Tg Ts) (hW : s.WarmedH U.vm) (h : pm_T Ts s) : pm_T Ts U := by
  intro w hw
  have h1 := hg w hw
  have h2 := h w hw
  cases w
  case fieldLinkNest => exact va_Nw.warmF hW h2
  case methodLinkNest => exact va_Nw.warmM hW h2
  all_goals exact word_at hW (Or.inl h1) h2
theorem pm_T_same {Ts : List Cond} {s U : State} (hg : pm_Tg Ts) (e : s.vm = U.vm) (h : pm_T Ts s) : pm_T Ts U := fun w hw => va_tabs (pm_good_on (hg w hw)) e (h w hw)
theorem pm_T_use {Ts : List Cond} {s : State} (hg : pm_Tg Ts) (h : pm_T Ts s) (args : Array Value) : ∀ w ∈ Ts, w.before args s = true := fun w hw => va_tabs (pm_good_on (hg w hw)) rfl (h w hw)
end
section
/-! what the functions of the methods are made of -/
def pm_it {α : Type} (base : α) (step : α → α) : Nat → α
  | 0 => base
  | n + 1 => step (pm_it base step n)
def pm_fuel : Nat := 100000
theorem pm_bind {α β : Type} {x : Option α} {f : α → Option β} {b : β} (h : x.bind f = some b) : ∃ a, x = some a ∧ f a = some b := by
  cases x with
  | none => cases h
  | some a => exact ⟨a, rfl, h⟩
theorem pm_ift {β : Type} {c : Prop} {i : Decidable c} {a b : Option β} {o : Option β} (h : c) (e : (@ite _ c i a b) = o) : a = o := by
  rw [if_pos h] at e
  exact e
theorem pm_iff {β : Type} {c : Prop} {i : Decidable c} {a b : Option β} {o : Option β} (h : ¬ c) (e : (@ite _ c i a b) = o) : b = o := by
  rw [if_neg h] at e
  exact e
theorem pm_bnd {β : Type} {c : Prop} {i : Decidable c} {b : Option β} {o : β} (e : (@ite _ c i none b) = some o) : ¬ c ∧ b = some o := by
  by_cases h : c
  · rw [if_pos h] at e
    cases e
  · rw [if_neg h] at e
    exact ⟨h, e⟩
theorem pm_chk {β : Type} {c : Prop} {i : Decidable c} {b : Option β} {o : β} (e : (@ite _ c i b none) = some o) : c ∧ b = some o := by
  by_cases h : c
  · rw [if_pos h] at e
    exact ⟨h, e⟩
  · rw [if_neg h] at e
    cases e
theorem pm_zn {v : Int32} (h : v = 0 ∨ v = 1) : narrow .boolean (.int v) = .int v := by
  rcases h with rfl | rfl <;> rfl
theorem pm_zf {v : Int32} (h : v = 0 ∨ v = 1) : fits .boolean (.int v) = true := by
  rcases h with rfl | rfl <;> rfl
/-! THE WALK over a world of a fixed shape -/
def pm_Q (D : va_G) (cl : List vw_C) (sh : List pm_E) (ca : Nat → ClassId) (ad : Nat → Nat) (fin : Option Value × pm_W) (sz : Nat) : Array Value → State → Outcome → State → Prop := fun _ st oc t =>
  oc = .returned fin.1 ∧ va_P D cl (pm_cells sh ca ad fin.2) t.heap ∧ va_F (pm_A sh ad sz) st t
/-- the machine comes, from pc with these locals, this stack and this world, to the method's end with the answer and the world 'fin' -/
def pm_wk (p : Program) (l : Launch) (e : Env) (R : Room) (s : State) (m : MethodId) (args : Array Value) (below : List Frame) (meth : Method) (c : Code) (D : va_G) (cl : List vw_C) (sh : List pm_E) (ca : Nat → ClassId) (ad : Nat → Nat) (nL : Nat) (fin : Option Value × pm_W) (pc : Nat) (lv : List (Nat × Value)) (st : List Value) (w : pm_W) : Prop :=
  ∀ (H : Heap) (locs : List Loc) (ls : Array Slot), lv_has ls nL lv → va_P D cl (pm_cells sh ca ad w) H → va_S (pm_A sh ad s.heap.size) s.heap H locs →
    W p l e R s m args below meth c H locs 0 0 (MQ below (pm_Q D cl sh ca ad fin s.heap.size) args s 0 0 (pm_A sh ad s.heap.size)) (F0 m pc ls st)
/-- what else holds of the heap, outside of the world, and stays -/
def pm_Ecl (E : (Nat → Prop) → State → Heap → Prop) : Prop := ∀ (A B : Nat → Prop) (s U : State) (H : Heap), E A s s.heap → (∀ q, q < s.heap.size → ¬ A q → H[q]? = s.heap[q]?) → (∀ q, B q → A q) → s.vm.Alike U.vm → s.WarmedH U.vm → U.heap = H → E B U U.heap
def pm_Met (l : Launch) (Ts : List Cond) (D : va_G) (cl : List vw_C) (tys : List (ClassId × FieldType)) (sh : List pm_E) (ca : Nat → ClassId) (ad : Nat → Nat) (E : (Nat → Prop) → State → Heap → Prop) (y : MethodName) (cc : ByteArray) (maxL : Nat) (ret : Option FieldType) (rm : Room) (avs : List Value) (w : pm_W) (fin : Option Value × pm_W) : Prop :=
  ∀ sz : Nat, Met l y [Cond.code y cc maxL ret] rm (va_Pc avs (fun U => U.heap.size = sz ∧ pm_T Ts U ∧ va_K D cl tys U ∧ pm_inj sh ad ∧ va_P D cl (pm_cells sh ca ad w) U.heap ∧ E (pm_A sh ad sz) U U.heap)) (pm_Q D cl sh ca ad fin sz) 0 0 (pm_A sh ad sz)
def pm_ok (p : Program) (s : State) (m : MethodId) (args : Array Value) (meth : Method) (c : Code) (cc : ByteArray) (nL : Nat) (Ts : List Cond) (own : String) (D : va_G) (cl : List vw_C) (tys : List (ClassId × FieldType)) (sh : List pm_E) (ad : Nat → Nat) (E : (Nat → Prop) → State → Heap → Prop) (ret : Option FieldType) : Prop :=
  p.tables.exec = Jvm.exec ∧ c.code = cc ∧ c.maxLocals = nL ∧ s.vm.findClass own = some m.cls ∧ (∀ w ∈ Ts, w.before args s = true) ∧ pm_T Ts s ∧ pm_Tg Ts ∧ va_K D cl tys s ∧ pm_inj sh ad ∧ meth.locks = false ∧ meth.sig.returnType = ret ∧ E (pm_A sh ad s.heap.size) s s.heap ∧ pm_Ecl E
/-- a class's place and words -/
def pm_cls (Ts : List Cond) (cl : List vw_C) (ci : Nat) (C : String) (T : u_T) (N : Nat) (ty : Nat → FieldType) : Prop :=
  cl[ci]? = some (C, T, N) ∧ (∀ w ∈ u_ws C T N, w ∈ Ts) ∧ (∀ k, k < N → parseFieldDescriptor (T k).2.2.1 = some (ty k)) ∧ ∀ a, a < N → ∀ b, b < N → a ≠ b → (T a).2.1 ≠ (T b).2.1
section PMW
variable {p : Program} {l : Launch} {e : Env} {R : Room} {s : State} {m : MethodId} {args : Array Value} {below : List Frame} {meth : Method} {c : Code} {cc : ByteArray} {nL : Nat} {Ts : List Cond} {own : String}
variable {D : va_G} {cl : List vw_C} {tys : List (ClassId × FieldType)} {sh : List pm_E} {ca : Nat → ClassId} {ad : Nat → Nat} {E : (Nat → Prop) → State → Heap → Prop} {ret : Option FieldType} {fin : Option Value × pm_W} {pc : Nat} {lv : List (Nat × Value)} {st : List Value} {w : pm_W}
theorem pm_start {y : MethodName} {rm : Room} {avs : List Value} (hg : pm_Tg Ts) (hEc : pm_Ecl E) (hy : plainName y.cls = true) (hL : (lg_sl avs).length ≤ nL)
    (body : ∀ (p : Program) (e : Env) (s : State) (m : MethodId) (below : List Frame) (meth : Method) (c : Code), pm_ok p s m avs.toArray meth c cc nL Ts y.cls D cl tys sh ad E ret → pm_wk p l e rm s m avs.toArray below meth c D cl sh ca ad nL fin 0 (lv_args 0 avs) [] w) : pm_Met l Ts D cl tys sh ca ad E y cc nL ret rm avs w fin := by
  intro sz
  refine Met.ofW (cc := cc) (maxL := nL) (ret := ret) hy rfl ?_
  intro p e s m args below meth c s₁ B hml hv
  obtain ⟨rfl, hsz, hT, hK, hJ, hP, hE⟩ := hv
  subst hsz
  have h := body p e s m below meth c ⟨B.exec, B.bytes, hml, findClass_of_methodNamed B.named, pm_T_use hg hT _, hT, hg, hK, hJ, B.notSynchronized, B.returns, hE, hEc⟩ s.heap [] _ (lv_entry avs hL) hP va_S.rf
  rw [lg_entry_eq]
  exact h
theorem pm_sub (ks : List Nat) {lv' : List (Nat × Value)} (h : lv_pick lv ks = lv') (k : pm_wk p l e R s m args below meth c D cl sh ca ad nL fin pc lv' st w) : pm_wk p l e R s m args below meth c D cl sh ca ad nL fin pc lv st w := fun H locs ls hl hP hS => k H locs ls (lv_sub hl ks h) hP hS
theorem pm_iconst (K : pm_ok p s m args meth c cc nL Ts own D cl tys sh ad E ret) {n : Int} {v : Int32} (hd : decode cc pc = .ok (.iconst n, 1)) (hv : Int32.ofInt n = v)
    (k : pm_wk p l e R s m args below meth c D cl sh ca ad nL fin (pc + 1) lv (.int v :: st) w) : pm_wk p l e R s m args below meth c D cl sh ca ad nL fin pc lv st w := fun H locs ls hl hP hS => lv_iconst K.1 K.2.1 hd hv (k H locs ls hl hP hS)
theorem pm_bipush (K : pm_ok p s m args meth c cc nL Ts own D cl tys sh ad E ret) {n : Int} {v : Int32} (hd : decode cc pc = .ok (.bipush n, 2)) (hv : (Int8.ofInt n).toInt32 = v)
    (k : pm_wk p l e R s m args below meth c D cl sh ca ad nL fin (pc + 2) lv (.int v :: st) w) : pm_wk p l e R s m args below meth c D cl sh ca ad nL fin pc lv st w := fun H locs ls hl hP hS => lv_bipush K.1 K.2.1 hd hv (k H locs ls hl hP hS)
theorem pm_sipush (K : pm_ok p s m args meth c cc nL Ts own D cl tys sh ad E ret) {n : Int} {v : Int32} (hd : decode cc pc = .ok (.sipush n, 3)) (hv : (Int16.ofInt n).toInt32 = v)
    (k : pm_wk p l e R s m args below meth c D cl sh ca ad nL fin (pc + 3) lv (.int v :: st) w) : pm_wk p l e R s m args below meth c D cl sh ca ad nL fin pc lv st w := fun H locs ls hl hP hS => lv_sipush K.1 K.2.1 hd hv (k H locs ls hl hP hS)
theorem pm_lconst (K : pm_ok p s m args meth c cc nL Ts own D cl tys sh ad E ret) {n : Fin 2} {v : Int64} (hd : decode cc pc = .ok (.lconst n, 1)) (hv : Int64.ofNat (n : Nat) = v)
    (k : pm_wk p l e R s m args below meth c D cl sh ca ad nL fin (pc + 1) lv (.long v :: st) w) : pm_wk p l e R s m args below meth c D cl sh ca ad nL fin pc lv st w := fun H locs ls hl hP hS => lv_lconst K.1 K.2.1 hd hv (k H locs ls hl hP hS)
theorem pm_iload_n (K : pm_ok p s m args meth c cc nL Ts own D cl tys sh ad E ret) {n : Fin 4} {i : Nat} {x : Int32} (hd : decode cc pc = .ok (.iload_n n, 1)) (j : Nat) (hi : (n : Nat) = i) (hj : lv[j]? = some (i, .int x))
    (k : pm_wk p l e R s m args below meth c D cl sh ca ad nL fin (pc + 1) lv (.int x :: st) w) : pm_wk p l e R s m args below meth c D cl sh ca ad nL fin pc lv st w := fun H locs ls hl hP hS => lv_iload_n K.1 K.2.1 hd hi (lv_at hl j hj) (k H locs ls hl hP hS)
theorem pm_iload (K : pm_ok p s m args meth c cc nL Ts own D cl tys sh ad E ret) {i : Nat} {x : Int32} (hd : decode cc pc = .ok (.iload i, 2)) (j : Nat) (hj : lv[j]? = some (i, .int x))
    (k : pm_wk p l e R s m args below meth c D cl sh ca ad nL fin (pc + 2) lv (.int x :: st) w) : pm_wk p l e R s m args below meth c D cl sh ca ad nL fin pc lv st w := fun H locs ls hl hP hS => lv_iload K.1 K.2.1 hd (lv_at hl j hj) (k H locs ls hl hP hS)
theorem pm_lload_n (K : pm_ok p s m args meth c cc nL Ts own D cl tys sh ad E ret) {n : Fin 4} {i : Nat} {x : Int64} (hd : decode cc pc = .ok (.lload_n n, 1)) (j : Nat) (hi : (n : Nat) = i) (hj : lv[j]? = some (i, .long x))
    (k : pm_wk p l e R s m args below meth c D cl sh ca ad nL fin (pc + 1) lv (.long x :: st) w) : pm_wk p l e R s m args below meth c D cl sh ca ad nL fin pc lv st w := fun H locs ls hl hP hS => lv_lload_n K.1 K.2.1 hd hi (lv_at hl j hj) (k H locs ls hl hP hS)
theorem pm_lload (K : pm_ok p s m args meth c cc nL Ts own D cl tys sh ad E ret) {i : Nat} {x : Int64} (hd : decode cc pc = .ok (.lload i, 2)) (j : Nat) (hj : lv[j]? = some (i, .long x))
    (k : pm_wk p l e R s m args below meth c D cl sh ca ad nL fin (pc + 2) lv (.long x :: st) w) : pm_wk p l e R s m args below meth c D cl sh ca ad nL fin pc lv st w := fun H locs ls hl hP hS => lv_lload K.1 K.2.1 hd (lv_at hl j hj) (k H locs ls hl hP hS)
theorem pm_aload_n (K : pm_ok p s m args meth c cc nL Ts own D cl tys sh ad E ret) {n : Fin 4} {i x : Nat} (hd : decode cc pc = .ok (.aload_n n, 1)) (j : Nat) (hi : (n : Nat) = i) (hj : lv[j]? = some (i, .ref x))
    (k : pm_wk p l e R s m args below meth c D cl sh ca ad nL fin (pc + 1) lv (.ref x :: st) w) : pm_wk p l e R s m args below meth c D cl sh ca ad nL fin pc lv st w := fun H locs ls hl hP hS => lv_aload_n K.1 K.2.1 hd hi (lv_at hl j hj) (k H locs ls hl hP hS)
theorem pm_aload (K : pm_ok p s m args meth c cc nL Ts own D cl tys sh ad E ret) {i x : Nat} (hd : decode cc pc = .ok (.aload i, 2)) (j : Nat) (hj : lv[j]? = some (i, .ref x))
    (k : pm_wk p l e R s m args below meth c D cl sh ca ad nL fin (pc + 2) lv (.ref x :: st) w) : pm_wk p l e R s m args below meth c D cl sh ca ad nL fin pc lv st w := fun H locs ls hl hP hS => lv_aload K.1 K.2.1 hd (lv_at hl j hj) (k H locs ls hl hP hS)
theorem pm_istore_n (K : pm_ok p s m args meth c cc nL Ts own D cl tys sh ad E ret) {n : Fin 4} {i : Nat} {x : Int32} {lv' : List (Nat × Value)} (hd : decode cc pc = .ok (.istore_n n, 1)) (hi : (n : Nat) = i) (hn : i < nL) (hl' : (i, Value.int x) :: lv.filter (fun q => !(q.1 == i) && !(q.1 + 1 == i && q.2.category == 2)) = lv')
    (k : pm_wk p l e R s m args below meth c D cl sh ca ad nL fin (pc + 1) lv' st w) : pm_wk p l e R s m args below meth c D cl sh ca ad nL fin pc lv (.int x :: st) w := fun H locs ls hl hP hS => lv_istore_n K.1 K.2.1 hd hi hl hn hl' (fun ls' h' => k H locs ls' h' hP hS)
theorem pm_istore (K : pm_ok p s m args meth c cc nL Ts own D cl tys sh ad E ret) {i : Nat} {x : Int32} {lv' : List (Nat × Value)} (hd : decode cc pc = .ok (.istore i, 2)) (hn : i < nL) (hl' : (i, Value.int x) :: lv.filter (fun q => !(q.1 == i) && !(q.1 + 1 == i && q.2.category == 2)) = lv')
    (k : pm_wk p l e R s m args below meth c D cl sh ca ad nL fin (pc + 2) lv' st w) : pm_wk p l e R s m args below meth c D cl sh ca ad nL fin pc lv (.int x :: st) w := fun H locs ls hl hP hS => lv_istore K.1 K.2.1 hd hl hn hl' (fun ls' h' => k H locs ls' h' hP hS)
theorem pm_lstore_n (K : pm_ok p s m args meth c cc nL Ts own D cl tys sh ad E ret) {n : Fin 4} {i : Nat} {x : Int64} {lv' : List (Nat × Value)} (hd : decode cc pc = .ok (.lstore_n n, 1)) (hi : (n : Nat) = i) (hn : i + 1 < nL) (hl' : (i, Value.long x) :: lv.filter (fun q => !(q.1 == i) && (!(q.1 == i + 1) && !(q.1 + 1 == i && q.2.category == 2))) = lv')
    (k : pm_wk p l e R s m args below meth c D cl sh ca ad nL fin (pc + 1) lv' st w) : pm_wk p l e R s m args below meth c D cl sh ca ad nL fin pc lv (.long x :: st) w := fun H locs ls hl hP hS => lv_lstore_n K.1 K.2.1 hd hi hl hn hl' (fun ls' h' => k H locs ls' h' hP hS)
theorem pm_lstore (K : pm_ok p s m args meth c cc nL Ts own D cl tys sh ad E ret) {i : Nat} {x : Int64} {lv' : List (Nat × Value)} (hd : decode cc pc = .ok (.lstore i, 2)) (hn : i + 1 < nL) (hl' : (i, Value.long x) :: lv.filter (fun q => !(q.1 == i) && (!(q.1 == i + 1) && !(q.1 + 1 == i && q.2.category == 2))) = lv')
    (k : pm_wk p l e R s m args below meth c D cl sh ca ad nL fin (pc + 2) lv' st w) : pm_wk p l e R s m args below meth c D cl sh ca ad nL fin pc lv (.long x :: st) w := fun H locs ls hl hP hS => lv_lstore K.1 K.2.1 hd hl hn hl' (fun ls' h' => k H locs ls' h' hP hS)
theorem pm_astore_n (K : pm_ok p s m args meth c cc nL Ts own D cl tys sh ad E ret) {n : Fin 4} {i : Nat} {x : Nat} {lv' : List (Nat × Value)} (hd : decode cc pc = .ok (.astore_n n, 1)) (hi : (n : Nat) = i) (hn : i < nL) (hl' : (i, Value.ref x) :: lv.filter (fun q => !(q.1 == i) && !(q.1 + 1 == i && q.2.category == 2)) = lv')
    (k : pm_wk p l e R s m args below meth c D cl sh ca ad nL fin (pc + 1) lv' st w) : pm_wk p l e R s m args below meth c D cl sh ca ad nL fin pc lv (.ref x :: st) w := fun H locs ls hl hP hS => lv_astore_n K.1 K.2.1 hd hi hl hn hl' (fun ls' h' => k H locs ls' h' hP hS)
theorem pm_astore (K : pm_ok p s m args meth c cc nL Ts own D cl tys sh ad E ret) {i : Nat} {x : Nat} {lv' : List (Nat × Value)} (hd : decode cc pc = .ok (.astore i, 2)) (hn : i < nL) (hl' : (i, Value.ref x) :: lv.filter (fun q => !(q.1 == i) && !(q.1 + 1 == i && q.2.category == 2)) = lv')
    (k : pm_wk p l e R s m args below meth c D cl sh ca ad nL fin (pc + 2) lv' st w) : pm_wk p l e R s m args below meth c D cl sh ca ad nL fin pc lv (.ref x :: st) w := fun H locs ls hl hP hS => lv_astore K.1 K.2.1 hd hl hn hl' (fun ls' h' => k H locs ls' h' hP hS)
theorem pm_iinc (K : pm_ok p s m args meth c cc nL Ts own D cl tys sh ad E ret) {i : Nat} {n : Int} {x v : Int32} {lv' : List (Nat × Value)} (hd : decode cc pc = .ok (.iinc i n, 3)) (j : Nat) (hj : lv[j]? = some (i, .int x)) (hv : x + Int32.ofInt n = v) (hn : i < nL) (hl' : (i, Value.int v) :: lv.filter (fun q => !(q.1 == i) && !(q.1 + 1 == i && q.2.category == 2)) = lv')
    (k : pm_wk p l e R s m args below meth c D cl sh ca ad nL fin (pc + 3) lv' st w) : pm_wk p l e R s m args below meth c D cl sh ca ad nL fin pc lv st w := fun H locs ls hl hP hS => lv_iinc K.1 K.2.1 hd hl hj hv hn hl' (fun ls' h' => k H locs ls' h' hP hS)
theorem pm_iadd (K : pm_ok p s m args meth c cc nL Ts own D cl tys sh ad E ret) {x y : Int32} (hd : decode cc pc = .ok (.iadd, 1)) 
    (k : pm_wk p l e R s m args below meth c D cl sh ca ad nL fin (pc + 1) lv (.int (x + y) :: st) w) : pm_wk p l e R s m args below meth c D cl sh ca ad nL fin pc lv (.int y :: .int x :: st) w := fun H locs ls hl hP hS => lv_iadd K.1 K.2.1 hd  (k H locs ls hl hP hS)
theorem pm_isub (K : pm_ok p s m args meth c cc nL Ts own D cl tys sh ad E ret) {x y : Int32} (hd : decode cc pc = .ok (.isub, 1)) 
    (k : pm_wk p l e R s m args below meth c D cl sh ca ad nL fin (pc + 1) lv (.int (x - y) :: st) w) : pm_wk p l e R s m args below meth c D cl sh ca ad nL fin pc lv (.int y :: .int x :: st) w := fun H locs ls hl hP hS => lv_isub K.1 K.2.1 hd  (k H locs ls hl hP hS)
theorem pm_imul (K : pm_ok p s m args meth c cc nL Ts own D cl tys sh ad E ret) {x y : Int32} (hd : decode cc pc = .ok (.imul, 1)) 
    (k : pm_wk p l e R s m args below meth c D cl sh ca ad nL fin (pc + 1) lv (.int (x * y) :: st) w) : pm_wk p l e R s m args below meth c D cl sh ca ad nL fin pc lv (.int y :: .int x :: st) w := fun H locs ls hl hP hS => lv_imul K.1 K.2.1 hd  (k H locs ls hl hP hS)
theorem pm_iand (K : pm_ok p s m args meth c cc nL Ts own D cl tys sh ad E ret) {x y : Int32} (hd : decode cc pc = .ok (.iand, 1)) 
    (k : pm_wk p l e R s m args below meth c D cl sh ca ad nL fin (pc + 1) lv (.int (x &&& y) :: st) w) : pm_wk p l e R s m args below meth c D cl sh ca ad nL fin pc lv (.int y :: .int x :: st) w := fun H locs ls hl hP hS => lv_iand K.1 K.2.1 hd  (k H locs ls hl hP hS)
theorem pm_ior (K : pm_ok p s m args meth c cc nL Ts own D cl tys sh ad E ret) {x y : Int32} (hd : decode cc pc = .ok (.ior, 1)) 
    (k : pm_wk p l e R s m args below meth c D cl sh ca ad nL fin (pc + 1) lv (.int (x ||| y) :: st) w) : pm_wk p l e R s m args below meth c D cl sh ca ad nL fin pc lv (.int y :: .int x :: st) w := fun H locs ls hl hP hS => lv_ior K.1 K.2.1 hd  (k H locs ls hl hP hS)
theorem pm_ixor (K : pm_ok p s m args meth c cc nL Ts own D cl tys sh ad E ret) {x y : Int32} (hd : decode cc pc = .ok (.ixor, 1)) 
    (k : pm_wk p l e R s m args below meth c D cl sh ca ad nL fin (pc + 1) lv (.int (x ^^^ y) :: st) w) : pm_wk p l e R s m args below meth c D cl sh ca ad nL fin pc lv (.int y :: .int x :: st) w := fun H locs ls hl hP hS => lv_ixor K.1 K.2.1 hd  (k H locs ls hl hP hS)
theorem pm_ishl (K : pm_ok p s m args meth c cc nL Ts own D cl tys sh ad E ret) {x y : Int32} (hd : decode cc pc = .ok (.ishl, 1)) 
    (k : pm_wk p l e R s m args below meth c D cl sh ca ad nL fin (pc + 1) lv (.int (x <<< (y &&& 31)) :: st) w) : pm_wk p l e R s m args below meth c D cl sh ca ad nL fin pc lv (.int y :: .int x :: st) w := fun H locs ls hl hP hS => lv_ishl K.1 K.2.1 hd  (k H locs ls hl hP hS)
theorem pm_ishr (K : pm_ok p s m args meth c cc nL Ts own D cl tys sh ad E ret) {x y : Int32} (hd : decode cc pc = .ok (.ishr, 1)) 
    (k : pm_wk p l e R s m args below meth c D cl sh ca ad nL fin (pc + 1) lv (.int (x >>> (y &&& 31)) :: st) w) : pm_wk p l e R s m args below meth c D cl sh ca ad nL fin pc lv (.int y :: .int x :: st) w := fun H locs ls hl hP hS => lv_ishr K.1 K.2.1 hd  (k H locs ls hl hP hS)
theorem pm_idiv (K : pm_ok p s m args meth c cc nL Ts own D cl tys sh ad E ret) {x y : Int32} (hd : decode cc pc = .ok (.idiv, 1)) (hne : ¬ y = 0)
    (k : pm_wk p l e R s m args below meth c D cl sh ca ad nL fin (pc + 1) lv (.int (x / y) :: st) w) : pm_wk p l e R s m args below meth c D cl sh ca ad nL fin pc lv (.int y :: .int x :: st) w := fun H locs ls hl hP hS => lv_idiv K.1 K.2.1 hd hne (k H locs ls hl hP hS)
theorem pm_irem (K : pm_ok p s m args meth c cc nL Ts own D cl tys sh ad E ret) {x y : Int32} (hd : decode cc pc = .ok (.irem, 1)) (hne : ¬ y = 0)
    (k : pm_wk p l e R s m args below meth c D cl sh ca ad nL fin (pc + 1) lv (.int (x - x / y * y) :: st) w) : pm_wk p l e R s m args below meth c D cl sh ca ad nL fin pc lv (.int y :: .int x :: st) w := fun H locs ls hl hP hS => lv_irem K.1 K.2.1 hd hne (k H locs ls hl hP hS)
theorem pm_ineg (K : pm_ok p s m args meth c cc nL Ts own D cl tys sh ad E ret) {x : Int32} (hd : decode cc pc = .ok (.ineg, 1)) 
    (k : pm_wk p l e R s m args below meth c D cl sh ca ad nL fin (pc + 1) lv (.int (-x) :: st) w) : pm_wk p l e R s m args below meth c D cl sh ca ad nL fin pc lv (.int x :: st) w := fun H locs ls hl hP hS => lv_ineg K.1 K.2.1 hd  (k H locs ls hl hP hS)
theorem pm_ladd (K : pm_ok p s m args meth c cc nL Ts own D cl tys sh ad E ret) {x y : Int64} (hd : decode cc pc = .ok (.ladd, 1)) 
    (k : pm_wk p l e R s m args below meth c D cl sh ca ad nL fin (pc + 1) lv (.long (x + y) :: st) w) : pm_wk p l e R s m args below meth c D cl sh ca ad nL fin pc lv (.long y :: .long x :: st) w := fun H locs ls hl hP hS => lv_ladd K.1 K.2.1 hd  (k H locs ls hl hP hS)
theorem pm_lsub (K : pm_ok p s m args meth c cc nL Ts own D cl tys sh ad E ret) {x y : Int64} (hd : decode cc pc = .ok (.lsub, 1)) 
    (k : pm_wk p l e R s m args below meth c D cl sh ca ad nL fin (pc + 1) lv (.long (x - y) :: st) w) : pm_wk p l e R s m args below meth c D cl sh ca ad nL fin pc lv (.long y :: .long x :: st) w := fun H locs ls hl hP hS => lv_lsub K.1 K.2.1 hd  (k H locs ls hl hP hS)
theorem pm_lmul (K : pm_ok p s m args meth c cc nL Ts own D cl tys sh ad E ret) {x y : Int64} (hd : decode cc pc = .ok (.lmul, 1)) 
    (k : pm_wk p l e R s m args below meth c D cl sh ca ad nL fin (pc + 1) lv (.long (x * y) :: st) w) : pm_wk p l e R s m args below meth c D cl sh ca ad nL fin pc lv (.long y :: .long x :: st) w := fun H locs ls hl hP hS => lv_lmul K.1 K.2.1 hd  (k H locs ls hl hP hS)
theorem pm_land (K : pm_ok p s m args meth c cc nL Ts own D cl tys sh ad E ret) {x y : Int64} (hd : decode cc pc = .ok (.land, 1)) 
    (k : pm_wk p l e R s m args below meth c D cl sh ca ad nL fin (pc + 1) lv (.long (x &&& y) :: st) w) : pm_wk p l e R s m args below meth c D cl sh ca ad nL fin pc lv (.long y :: .long x :: st) w := fun H locs ls hl hP hS => lv_land K.1 K.2.1 hd  (k H locs ls hl hP hS)
theorem pm_lor (K : pm_ok p s m args meth c cc nL Ts own D cl tys sh ad E ret) {x y : Int64} (hd : decode cc pc = .ok (.lor, 1)) 
    (k : pm_wk p l e R s m args below meth c D cl sh ca ad nL fin (pc + 1) lv (.long (x ||| y) :: st) w) : pm_wk p l e R s m args below meth c D cl sh ca ad nL fin pc lv (.long y :: .long x :: st) w := fun H locs ls hl hP hS => lv_lor K.1 K.2.1 hd  (k H locs ls hl hP hS)
theorem pm_lxor (K : pm_ok p s m args meth c cc nL Ts own D cl tys sh ad E ret) {x y : Int64} (hd : decode cc pc = .ok (.lxor, 1)) 
    (k : pm_wk p l e R s m args below meth c D cl sh ca ad nL fin (pc + 1) lv (.long (x ^^^ y) :: st) w) : pm_wk p l e R s m args below meth c D cl sh ca ad nL fin pc lv (.long y :: .long x :: st) w := fun H locs ls hl hP hS => lv_lxor K.1 K.2.1 hd  (k H locs ls hl hP hS)
theorem pm_lshl (K : pm_ok p s m args meth c cc nL Ts own D cl tys sh ad E ret) {x v : Int64} {y : Int32} (hd : decode cc pc = .ok (.lshl, 1)) (hv : x <<< (y.toInt64 &&& 63) = v)
    (k : pm_wk p l e R s m args below meth c D cl sh ca ad nL fin (pc + 1) lv (.long v :: st) w) : pm_wk p l e R s m args below meth c D cl sh ca ad nL fin pc lv (.int y :: .long x :: st) w := fun H locs ls hl hP hS => lv_lshl K.1 K.2.1 hd hv (k H locs ls hl hP hS)
theorem pm_lshr (K : pm_ok p s m args meth c cc nL Ts own D cl tys sh ad E ret) {x v : Int64} {y : Int32} (hd : decode cc pc = .ok (.lshr, 1)) (hv : x >>> (y.toInt64 &&& 63) = v)
    (k : pm_wk p l e R s m args below meth c D cl sh ca ad nL fin (pc + 1) lv (.long v :: st) w) : pm_wk p l e R s m args below meth c D cl sh ca ad nL fin pc lv (.int y :: .long x :: st) w := fun H locs ls hl hP hS => lv_lshr K.1 K.2.1 hd hv (k H locs ls hl hP hS)
theorem pm_lushr (K : pm_ok p s m args meth c cc nL Ts own D cl tys sh ad E ret) {x v : Int64} {y : Int32} (hd : decode cc pc = .ok (.lushr, 1)) (hv : (x.toUInt64 >>> (y.toInt64.toUInt64 &&& Int64.toUInt64 63)).toInt64 = v)
    (k : pm_wk p l e R s m args below meth c D cl sh ca ad nL fin (pc + 1) lv (.long v :: st) w) : pm_wk p l e R s m args below meth c D cl sh ca ad nL fin pc lv (.int y :: .long x :: st) w := fun H locs ls hl hP hS => lv_lushr K.1 K.2.1 hd hv (k H locs ls hl hP hS)
theorem pm_iushr (K : pm_ok p s m args meth c cc nL Ts own D cl tys sh ad E ret) {x y v : Int32} (hd : decode cc pc = .ok (.iushr, 1)) (hv : (x.toUInt32 >>> (y.toUInt32 &&& Int32.toUInt32 31)).toInt32 = v)
    (k : pm_wk p l e R s m args below meth c D cl sh ca ad nL fin (pc + 1) lv (.int v :: st) w) : pm_wk p l e R s m args below meth c D cl sh ca ad nL fin pc lv (.int y :: .int x :: st) w := fun H locs ls hl hP hS => lv_iushr K.1 K.2.1 hd hv (k H locs ls hl hP hS)
theorem pm_i2l (K : pm_ok p s m args meth c cc nL Ts own D cl tys sh ad E ret) {x : Int32} {v : Int64} (hd : decode cc pc = .ok (.i2l, 1)) (hv : x.toInt64 = v)
    (k : pm_wk p l e R s m args below meth c D cl sh ca ad nL fin (pc + 1) lv (.long v :: st) w) : pm_wk p l e R s m args below meth c D cl sh ca ad nL fin pc lv (.int x :: st) w := fun H locs ls hl hP hS => lv_i2l K.1 K.2.1 hd hv (k H locs ls hl hP hS)
theorem pm_l2i (K : pm_ok p s m args meth c cc nL Ts own D cl tys sh ad E ret) {x : Int64} {v : Int32} (hd : decode cc pc = .ok (.l2i, 1)) (hv : x.toInt32 = v)
    (k : pm_wk p l e R s m args below meth c D cl sh ca ad nL fin (pc + 1) lv (.int v :: st) w) : pm_wk p l e R s m args below meth c D cl sh ca ad nL fin pc lv (.long x :: st) w := fun H locs ls hl hP hS => lv_l2i K.1 K.2.1 hd hv (k H locs ls hl hP hS)
theorem pm_i2c (K : pm_ok p s m args meth c cc nL Ts own D cl tys sh ad E ret) {x v : Int32} (hd : decode cc pc = .ok (.i2c, 1)) (hv : (x.toUInt32 % 65536).toInt32 = v)
    (k : pm_wk p l e R s m args below meth c D cl sh ca ad nL fin (pc + 1) lv (.int v :: st) w) : pm_wk p l e R s m args below meth c D cl sh ca ad nL fin pc lv (.int x :: st) w := fun H locs ls hl hP hS => lv_i2c K.1 K.2.1 hd hv (k H locs ls hl hP hS)
theorem pm_i2b (K : pm_ok p s m args meth c cc nL Ts own D cl tys sh ad E ret) {x v : Int32} (hd : decode cc pc = .ok (.i2b, 1)) (hv : x.toInt8.toInt32 = v)
    (k : pm_wk p l e R s m args below meth c D cl sh ca ad nL fin (pc + 1) lv (.int v :: st) w) : pm_wk p l e R s m args below meth c D cl sh ca ad nL fin pc lv (.int x :: st) w := fun H locs ls hl hP hS => lv_i2b K.1 K.2.1 hd hv (k H locs ls hl hP hS)
theorem pm_i2s (K : pm_ok p s m args meth c cc nL Ts own D cl tys sh ad E ret) {x v : Int32} (hd : decode cc pc = .ok (.i2s, 1)) (hv : x.toInt16.toInt32 = v)
    (k : pm_wk p l e R s m args below meth c D cl sh ca ad nL fin (pc + 1) lv (.int v :: st) w) : pm_wk p l e R s m args below meth c D cl sh ca ad nL fin pc lv (.int x :: st) w := fun H locs ls hl hP hS => lv_i2s K.1 K.2.1 hd hv (k H locs ls hl hP hS)
theorem pm_lcmp (K : pm_ok p s m args meth c cc nL Ts own D cl tys sh ad E ret) {x y : Int64} (hd : decode cc pc = .ok (.lcmp, 1)) 
    (k : pm_wk p l e R s m args below meth c D cl sh ca ad nL fin (pc + 1) lv (.int (lg_cmp x y) :: st) w) : pm_wk p l e R s m args below meth c D cl sh ca ad nL fin pc lv (.long y :: .long x :: st) w := fun H locs ls hl hP hS => W.lcmp K.1 K.2.1 hd  (k H locs ls hl hP hS)
theorem pm_dup (K : pm_ok p s m args meth c cc nL Ts own D cl tys sh ad E ret) {va : Value} (hd : decode cc pc = .ok (.dup, 1)) (ha : va.category = 1)
    (k : pm_wk p l e R s m args below meth c D cl sh ca ad nL fin (pc + 1) lv (va :: va :: st) w) : pm_wk p l e R s m args below meth c D cl sh ca ad nL fin pc lv (va :: st) w := fun H locs ls hl hP hS => lv_dup K.1 K.2.1 hd ha (k H locs ls hl hP hS)
theorem pm_pop (K : pm_ok p s m args meth c cc nL Ts own D cl tys sh ad E ret) {va : Value} (hd : decode cc pc = .ok (.pop, 1)) (ha : va.category = 1)
    (k : pm_wk p l e R s m args below meth c D cl sh ca ad nL fin (pc + 1) lv st w) : pm_wk p l e R s m args below meth c D cl sh ca ad nL fin pc lv (va :: st) w := fun H locs ls hl hP hS => lv_pop K.1 K.2.1 hd ha (k H locs ls hl hP hS)
theorem pm_dup_x1 (K : pm_ok p s m args meth c cc nL Ts own D cl tys sh ad E ret) {va vb : Value} (hd : decode cc pc = .ok (.dup_x1, 1)) (ha : va.category = 1) (hb : vb.category = 1)
    (k : pm_wk p l e R s m args below meth c D cl sh ca ad nL fin (pc + 1) lv (va :: vb :: va :: st) w) : pm_wk p l e R s m args below meth c D cl sh ca ad nL fin pc lv (va :: vb :: st) w := fun H locs ls hl hP hS => lv_dup_x1 K.1 K.2.1 hd ha hb (k H locs ls hl hP hS)
theorem pm_dup_x2 (K : pm_ok p s m args meth c cc nL Ts own D cl tys sh ad E ret) {va vb vd : Value} (hd : decode cc pc = .ok (.dup_x2, 1)) (ha : va.category = 1) (hb : vb.category = 1) (hc : vd.category = 1)
    (k : pm_wk p l e R s m args below meth c D cl sh ca ad nL fin (pc + 1) lv (va :: vb :: vd :: va :: st) w) : pm_wk p l e R s m args below meth c D cl sh ca ad nL fin pc lv (va :: vb :: vd :: st) w := fun H locs ls hl hP hS => lv_dup_x2 K.1 K.2.1 hd ha hb hc (k H locs ls hl hP hS)
theorem pm_dup2_11 (K : pm_ok p s m args meth c cc nL Ts own D cl tys sh ad E ret) {va vb : Value} (hd : decode cc pc = .ok (.dup2, 1)) (ha : va.category = 1) (hb : vb.category = 1)
    (k : pm_wk p l e R s m args below meth c D cl sh ca ad nL fin (pc + 1) lv (va :: vb :: va :: vb :: st) w) : pm_wk p l e R s m args below meth c D cl sh ca ad nL fin pc lv (va :: vb :: st) w := fun H locs ls hl hP hS => lv_dup2_11 K.1 K.2.1 hd ha hb (k H locs ls hl hP hS)
theorem pm_if_eq (K : pm_ok p s m args meth c cc nL Ts own D cl tys sh ad E ret) {x : Int32} {off : Int} (hd : decode cc pc = .ok (.ifCond .eq off, 3)) (tgt : Nat) (ht : (pc : Int) + off = (tgt : Int))
    (kt : x = 0 → pm_wk p l e R s m args below meth c D cl sh ca ad nL fin tgt lv st w) (kf : ¬ x = 0 → pm_wk p l e R s m args below meth c D cl sh ca ad nL fin (pc + 3) lv st w) : pm_wk p l e R s m args below meth c D cl sh ca ad nL fin pc lv (.int x :: st) w := fun H locs ls hl hP hS => lv_if_eq K.1 K.2.1 hd ht (fun q => kt q H locs ls hl hP hS) (fun q => kf q H locs ls hl hP hS)
theorem pm_icmp_eq (K : pm_ok p s m args meth c cc nL Ts own D cl tys sh ad E ret) {x y : Int32} {off : Int} (hd : decode cc pc = .ok (.if_icmp .eq off, 3)) (tgt : Nat) (ht : (pc : Int) + off = (tgt : Int))
    (kt : x = y → pm_wk p l e R s m args below meth c D cl sh ca ad nL fin tgt lv st w) (kf : ¬ x = y → pm_wk p l e R s m args below meth c D cl sh ca ad nL fin (pc + 3) lv st w) : pm_wk p l e R s m args below meth c D cl sh ca ad nL fin pc lv (.int y :: .int x :: st) w := fun H locs ls hl hP hS => lv_icmp_eq K.1 K.2.1 hd ht (fun q => kt q H locs ls hl hP hS) (fun q => kf q H locs ls hl hP hS)
theorem pm_if_ne (K : pm_ok p s m args meth c cc nL Ts own D cl tys sh ad E ret) {x : Int32} {off : Int} (hd : decode cc pc = .ok (.ifCond .ne off, 3)) (tgt : Nat) (ht : (pc : Int) + off = (tgt : Int))
    (kt : ¬ x = 0 → pm_wk p l e R s m args below meth c D cl sh ca ad nL fin tgt lv st w) (kf : x = 0 → pm_wk p l e R s m args below meth c D cl sh ca ad nL fin (pc + 3) lv st w) : pm_wk p l e R s m args below meth c D cl sh ca ad nL fin pc lv (.int x :: st) w := fun H locs ls hl hP hS => lv_if_ne K.1 K.2.1 hd ht (fun q => kt q H locs ls hl hP hS) (fun q => kf q H locs ls hl hP hS)
theorem pm_icmp_ne (K : pm_ok p s m args meth c cc nL Ts own D cl tys sh ad E ret) {x y : Int32} {off : Int} (hd : decode cc pc = .ok (.if_icmp .ne off, 3)) (tgt : Nat) (ht : (pc : Int) + off = (tgt : Int))
    (kt : ¬ x = y → pm_wk p l e R s m args below meth c D cl sh ca ad nL fin tgt lv st w) (kf : x = y → pm_wk p l e R s m args below meth c D cl sh ca ad nL fin (pc + 3) lv st w) : pm_wk p l e R s m args below meth c D cl sh ca ad nL fin pc lv (.int y :: .int x :: st) w := fun H locs ls hl hP hS => lv_icmp_ne K.1 K.2.1 hd ht (fun q => kt q H locs ls hl hP hS) (fun q => kf q H locs ls hl hP hS)
theorem pm_if_lt (K : pm_ok p s m args meth c cc nL Ts own D cl tys sh ad E ret) {x : Int32} {off : Int} (hd : decode cc pc = .ok (.ifCond .lt off, 3)) (tgt : Nat) (ht : (pc : Int) + off = (tgt : Int))
    (kt : x < 0 → pm_wk p l e R s m args below meth c D cl sh ca ad nL fin tgt lv st w) (kf : ¬ x < 0 → pm_wk p l e R s m args below meth c D cl sh ca ad nL fin (pc + 3) lv st w) : pm_wk p l e R s m args below meth c D cl sh ca ad nL fin pc lv (.int x :: st) w := fun H locs ls hl hP hS => lv_if_lt K.1 K.2.1 hd ht (fun q => kt q H locs ls hl hP hS) (fun q => kf q H locs ls hl hP hS)
theorem pm_icmp_lt (K : pm_ok p s m args meth c cc nL Ts own D cl tys sh ad E ret) {x y : Int32} {off : Int} (hd : decode cc pc = .ok (.if_icmp .lt off, 3)) (tgt : Nat) (ht : (pc : Int) + off = (tgt : Int))
    (kt : x < y → pm_wk p l e R s m args below meth c D cl sh ca ad nL fin tgt lv st w) (kf : ¬ x < y → pm_wk p l e R s m args below meth c D cl sh ca ad nL fin (pc + 3) lv st w) : pm_wk p l e R s m args below meth c D cl sh ca ad nL fin pc lv (.int y :: .int x :: st) w := fun H locs ls hl hP hS => lv_icmp_lt K.1 K.2.1 hd ht (fun q => kt q H locs ls hl hP hS) (fun q => kf q H locs ls hl hP hS)
theorem pm_if_ge (K : pm_ok p s m args meth c cc nL Ts own D cl tys sh ad E ret) {x : Int32} {off : Int} (hd : decode cc pc = .ok (.ifCond .ge off, 3)) (tgt : Nat) (ht : (pc : Int) + off = (tgt : Int))
    (kt : 0 ≤ x → pm_wk p l e R s m args below meth c D cl sh ca ad nL fin tgt lv st w) (kf : ¬ 0 ≤ x → pm_wk p l e R s m args below meth c D cl sh ca ad nL fin (pc + 3) lv st w) : pm_wk p l e R s m args below meth c D cl sh ca ad nL fin pc lv (.int x :: st) w := fun H locs ls hl hP hS => lv_if_ge K.1 K.2.1 hd ht (fun q => kt q H locs ls hl hP hS) (fun q => kf q H locs ls hl hP hS)
theorem pm_icmp_ge (K : pm_ok p s m args meth c cc nL Ts own D cl tys sh ad E ret) {x y : Int32} {off : Int} (hd : decode cc pc = .ok (.if_icmp .ge off, 3)) (tgt : Nat) (ht : (pc : Int) + off = (tgt : Int))
    (kt : y ≤ x → pm_wk p l e R s m args below meth c D cl sh ca ad nL fin tgt lv st w) (kf : ¬ y ≤ x → pm_wk p l e R s m args below meth c D cl sh ca ad nL fin (pc + 3) lv st w) : pm_wk p l e R s m args below meth c D cl sh ca ad nL fin pc lv (.int y :: .int x :: st) w := fun H locs ls hl hP hS => lv_icmp_ge K.1 K.2.1 hd ht (fun q => kt q H locs ls hl hP hS) (fun q => kf q H locs ls hl hP hS)
theorem pm_if_gt (K : pm_ok p s m args meth c cc nL Ts own D cl tys sh ad E ret) {x : Int32} {off : Int} (hd : decode cc pc = .ok (.ifCond .gt off, 3)) (tgt : Nat) (ht : (pc : Int) + off = (tgt : Int))
    (kt : 0 < x → pm_wk p l e R s m args below meth c D cl sh ca ad nL fin tgt lv st w) (kf : ¬ 0 < x → pm_wk p l e R s m args below meth c D cl sh ca ad nL fin (pc + 3) lv st w) : pm_wk p l e R s m args below meth c D cl sh ca ad nL fin pc lv (.int x :: st) w := fun H locs ls hl hP hS => lv_if_gt K.1 K.2.1 hd ht (fun q => kt q H locs ls hl hP hS) (fun q => kf q H locs ls hl hP hS)
theorem pm_icmp_gt (K : pm_ok p s m args meth c cc nL Ts own D cl tys sh ad E ret) {x y : Int32} {off : Int} (hd : decode cc pc = .ok (.if_icmp .gt off, 3)) (tgt : Nat) (ht : (pc : Int) + off = (tgt : Int))
    (kt : y < x → pm_wk p l e R s m args below meth c D cl sh ca ad nL fin tgt lv st w) (kf : ¬ y < x → pm_wk p l e R s m args below meth c D cl sh ca ad nL fin (pc + 3) lv st w) : pm_wk p l e R s m args below meth c D cl sh ca ad nL fin pc lv (.int y :: .int x :: st) w := fun H locs ls hl hP hS => lv_icmp_gt K.1 K.2.1 hd ht (fun q => kt q H locs ls hl hP hS) (fun q => kf q H locs ls hl hP hS)
theorem pm_if_le (K : pm_ok p s m args meth c cc nL Ts own D cl tys sh ad E ret) {x : Int32} {off : Int} (hd : decode cc pc = .ok (.ifCond .le off, 3)) (tgt : Nat) (ht : (pc : Int) + off = (tgt : Int))
    (kt : x ≤ 0 → pm_wk p l e R s m args below meth c D cl sh ca ad nL fin tgt lv st w) (kf : ¬ x ≤ 0 → pm_wk p l e R s m args below meth c D cl sh ca ad nL fin (pc + 3) lv st w) : pm_wk p l e R s m args below meth c D cl sh ca ad nL fin pc lv (.int x :: st) w := fun H locs ls hl hP hS => lv_if_le K.1 K.2.1 hd ht (fun q => kt q H locs ls hl hP hS) (fun q => kf q H locs ls hl hP hS)
theorem pm_icmp_le (K : pm_ok p s m args meth c cc nL Ts own D cl tys sh ad E ret) {x y : Int32} {off : Int} (hd : decode cc pc = .ok (.if_icmp .le off, 3)) (tgt : Nat) (ht : (pc : Int) + off = (tgt : Int))
    (kt : x ≤ y → pm_wk p l e R s m args below meth c D cl sh ca ad nL fin tgt lv st w) (kf : ¬ x ≤ y → pm_wk p l e R s m args below meth c D cl sh ca ad nL fin (pc + 3) lv st w) : pm_wk p l e R s m args below meth c D cl sh ca ad nL fin pc lv (.int y :: .int x :: st) w := fun H locs ls hl hP hS => lv_icmp_le K.1 K.2.1 hd ht (fun q => kt q H locs ls hl hP hS) (fun q => kf q H locs ls hl hP hS)
theorem pm_goto (K : pm_ok p s m args meth c cc nL Ts own D cl tys sh ad E ret) {off : Int} (hd : decode cc pc = .ok (.goto off, 3)) (tgt : Nat) (ht : (pc : Int) + off = (tgt : Int)) (k : pm_wk p l e R s m args below meth c D cl sh ca ad nL fin tgt lv st w) : pm_wk p l e R s m args below meth c D cl sh ca ad nL fin pc lv st w := fun H locs ls hl hP hS => lv_goto K.1 K.2.1 hd ht (k H locs ls hl hP hS)
theorem pm_tableOut (K : pm_ok p s m args meth c cc nL Ts own D cl tys sh ad E ret) {dflt lo hi : Int} {offs : Array Int} {len : Nat} {x : Int32} (hd : decode cc pc = .ok (.tableswitch dflt lo hi offs, len)) (h : x.toInt < lo ∨ hi < x.toInt) (tgt : Nat) (ht : (pc : Int) + dflt = (tgt : Int)) (k : pm_wk p l e R s m args below meth c D cl sh ca ad nL fin tgt lv st w) : pm_wk p l e R s m args below meth c D cl sh ca ad nL fin pc lv (.int x :: st) w := fun H locs ls hl hP hS => lv_tableOut K.1 K.2.1 hd h ht (k H locs ls hl hP hS)
theorem pm_tableIn (K : pm_ok p s m args meth c cc nL Ts own D cl tys sh ad E ret) {dflt lo hi : Int} {offs : Array Int} {len : Nat} {x : Int32} {off : Int} (hd : decode cc pc = .ok (.tableswitch dflt lo hi offs, len)) (h1 : ¬ x.toInt < lo) (h2 : ¬ hi < x.toInt) (ho : offs[(x.toInt - lo).toNat]? = some off) (tgt : Nat) (ht : (pc : Int) + off = (tgt : Int)) (k : pm_wk p l e R s m args below meth c D cl sh ca ad nL fin tgt lv st w) : pm_wk p l e R s m args below meth c D cl sh ca ad nL fin pc lv (.int x :: st) w := fun H locs ls hl hP hS => lv_tableIn K.1 K.2.1 hd h1 h2 ho ht (k H locs ls hl hP hS)
theorem pm_lookup (K : pm_ok p s m args meth c cc nL Ts own D cl tys sh ad E ret) {dflt : Int} {ps : Array (Int × Int)} {len : Nat} {x : Int32} {off : Int} (hd : decode cc pc = .ok (.lookupswitch dflt ps, len)) (hp : (ps.toList.zip (ps.toList.drop 1)).all (fun (a, next) => a.1 < next.1) = true) (ho : Op.lookupswitch.offset ps.toList dflt x.toInt = off) (tgt : Nat) (ht : (pc : Int) + off = (tgt : Int)) (k : pm_wk p l e R s m args below meth c D cl sh ca ad nL fin tgt lv st w) : pm_wk p l e R s m args below meth c D cl sh ca ad nL fin pc lv (.int x :: st) w := fun H locs ls hl hP hS => lv_lookup K.1 K.2.1 hd hp ho ht (k H locs ls hl hP hS)
theorem pm_ldc (K : pm_ok p s m args meth c cc nL Ts own D cl tys sh ad E ret) {ix : Nat} {v : Int32} (hw : Cond.constant own ix v ∈ Ts) (hd : decode cc pc = .ok (.ldc ix, 2)) (k : pm_wk p l e R s m args below meth c D cl sh ca ad nL fin (pc + 2) lv (.int v :: st) w) : pm_wk p l e R s m args below meth c D cl sh ca ad nL fin pc lv st w := fun H locs ls hl hP hS => lv_ldc K.1 K.2.1 K.2.2.2.1 (K.2.2.2.2.1 _ hw) hd (k H locs ls hl hP hS)
theorem pm_ldc2 (K : pm_ok p s m args meth c cc nL Ts own D cl tys sh ad E ret) {ix : Nat} {v : Int64} (hw : Cond.constantLong own ix v ∈ Ts) (hd : decode cc pc = .ok (.ldc2_w ix, 3)) (k : pm_wk p l e R s m args below meth c D cl sh ca ad nL fin (pc + 3) lv (.long v :: st) w) : pm_wk p l e R s m args below meth c D cl sh ca ad nL fin pc lv st w := fun H locs ls hl hP hS => lv_ldc2 K.1 K.2.1 K.2.2.2.1 (K.2.2.2.2.1 _ hw) hd (k H locs ls hl hP hS)
theorem pm_getI (K : pm_ok p s m args meth c cc nL Ts own D cl tys sh ad E ret) {C : String} {T : u_T} {N : Nat} {ty0 : Nat → FieldType} {ci o ix : Nat} {fk : List pm_F} (F : pm_cls Ts cl ci C T N ty0) {v : Int32} (hs : sh[o]? = some (.inr (ci, fk))) (k : Nat) (hf : fk[k]? = some (.inr false)) (hk : k < N) (hw : Cond.fieldLink own ix (T k).1 (T k).2.1 (T k).2.2.1 ∈ Ts) (hd : decode cc pc = .ok (.getfield ix, 3)) (hv : w.1 o k = v)
    (kk : pm_wk p l e R s m args below meth c D cl sh ca ad nL fin (pc + 3) lv (.int v :: st) w) : pm_wk p l e R s m args below meth c D cl sh ca ad nL fin pc lv (.ref (ad o) :: st) w := fun H locs ls hl hP hS =>
  va_get (D := D) (tys := tys) (ws := pm_cells sh ca ad w) (fs := fk.mapIdx (fun k f => pm_val ad w o k f)) K.1 K.2.1 K.2.2.2.2.1 F.2.1 K.2.2.2.1 K.2.2.2.2.2.2.2.1 hP o (pm_get hs) F.1 k hk (K.2.2.2.2.1 _ hw) (fun _ h => h) (by rw [List.getElem?_mapIdx, hf]; exact congrArg some (congrArg Value.int hv)) hd (kk H locs ls hl hP hS)
theorem pm_getJ (K : pm_ok p s m args meth c cc nL Ts own D cl tys sh ad E ret) {C : String} {T : u_T} {N : Nat} {ty0 : Nat → FieldType} {ci o ix : Nat} {fk : List pm_F} (F : pm_cls Ts cl ci C T N ty0) {v : Int64} (hs : sh[o]? = some (.inr (ci, fk))) (k : Nat) (hf : fk[k]? = some (.inr true)) (hk : k < N) (hw : Cond.fieldLink own ix (T k).1 (T k).2.1 (T k).2.2.1 ∈ Ts) (hd : decode cc pc = .ok (.getfield ix, 3)) (hv : w.2 o k = v)
    (kk : pm_wk p l e R s m args below meth c D cl sh ca ad nL fin (pc + 3) lv (.long v :: st) w) : pm_wk p l e R s m args below meth c D cl sh ca ad nL fin pc lv (.ref (ad o) :: st) w := fun H locs ls hl hP hS =>
  va_get (D := D) (tys := tys) (ws := pm_cells sh ca ad w) (fs := fk.mapIdx (fun k f => pm_val ad w o k f)) K.1 K.2.1 K.2.2.2.2.1 F.2.1 K.2.2.2.1 K.2.2.2.2.2.2.2.1 hP o (pm_get hs) F.1 k hk (K.2.2.2.2.1 _ hw) (fun _ h => h) (by rw [List.getElem?_mapIdx, hf]; exact congrArg some (congrArg Value.long hv)) hd (kk H locs ls hl hP hS)
theorem pm_getR (K : pm_ok p s m args meth c cc nL Ts own D cl tys sh ad E ret) {C : String} {T : u_T} {N : Nat} {ty0 : Nat → FieldType} {ci o ix : Nat} {fk : List pm_F} (F : pm_cls Ts cl ci C T N ty0) {t : Nat} (hs : sh[o]? = some (.inr (ci, fk))) (k : Nat) (hf : fk[k]? = some (.inl t)) (hk : k < N) (hw : Cond.fieldLink own ix (T k).1 (T k).2.1 (T k).2.2.1 ∈ Ts) (hd : decode cc pc = .ok (.getfield ix, 3))
    (kk : pm_wk p l e R s m args below meth c D cl sh ca ad nL fin (pc + 3) lv (.ref (ad t) :: st) w) : pm_wk p l e R s m args below meth c D cl sh ca ad nL fin pc lv (.ref (ad o) :: st) w := fun H locs ls hl hP hS =>
  va_get (D := D) (tys := tys) (ws := pm_cells sh ca ad w) (fs := fk.mapIdx (fun k f => pm_val ad w o k f)) K.1 K.2.1 K.2.2.2.2.1 F.2.1 K.2.2.2.1 K.2.2.2.2.2.2.2.1 hP o (pm_get hs) F.1 k hk (K.2.2.2.2.1 _ hw) (fun _ h => h) (by rw [List.getElem?_mapIdx, hf]; rfl) hd (kk H locs ls hl hP hS)
theorem pm_putI (K : pm_ok p s m args meth c cc nL Ts own D cl tys sh ad E ret) {C : String} {T : u_T} {N : Nat} {ty0 : Nat → FieldType} {ci o ix : Nat} {fk : List pm_F} (F : pm_cls Ts cl ci C T N ty0) {ty : FieldType} {v : Int32} (hs : sh[o]? = some (.inr (ci, fk))) (k : Nat) (hf : fk[k]? = some (.inr false)) (hk : k < N) (hw : Cond.fieldLink own ix (T k).1 (T k).2.1 (T k).2.2.1 ∈ Ts) (hfin : (T k).2.2.2 = false) (hty : parseFieldDescriptor (T k).2.2.1 = some ty) (hn : narrow ty (.int v) = .int v) (hfit : fits ty (.int v) = true) (hd : decode cc pc = .ok (.putfield ix, 3))
    (kk : pm_wk p l e R s m args below meth c D cl sh ca ad nL fin (pc + 3) lv st (pm_setI w o k v)) : pm_wk p l e R s m args below meth c D cl sh ca ad nL fin pc lv (.int v :: .ref (ad o) :: st) w := fun H locs ls hl hP hS =>
  va_put (D := D) (tys := tys) (ws := pm_cells sh ca ad w) (fs := fk.mapIdx (fun k f => pm_val ad w o k f)) K.1 K.2.1 K.2.2.2.2.1 F.2.1 ty0 F.2.2.1 F.2.2.2 K.2.2.2.1 K.2.2.2.2.2.2.2.1 hP (pm_D K.2.2.2.2.2.2.2.2.1) hS o (pm_get hs) F.1 k hk (K.2.2.2.2.1 _ hw) (fun _ h => h) hfin hty hn hfit (by rw [List.length_mapIdx]; exact (List.getElem?_eq_some_iff.mp hf).1) hd
    (fun H1 locs1 hP1 _ hS1 => kk H1 locs1 ls hl ((pm_setFI (ca := ca) (ad := ad) (w := w) (v := v) hs hf) ▸ hP1) hS1)
theorem pm_putJ (K : pm_ok p s m args meth c cc nL Ts own D cl tys sh ad E ret) {C : String} {T : u_T} {N : Nat} {ty0 : Nat → FieldType} {ci o ix : Nat} {fk : List pm_F} (F : pm_cls Ts cl ci C T N ty0) {ty : FieldType} {v : Int64} (hs : sh[o]? = some (.inr (ci, fk))) (k : Nat) (hf : fk[k]? = some (.inr true)) (hk : k < N) (hw : Cond.fieldLink own ix (T k).1 (T k).2.1 (T k).2.2.1 ∈ Ts) (hfin : (T k).2.2.2 = false) (hty : parseFieldDescriptor (T k).2.2.1 = some ty) (hn : narrow ty (.long v) = .long v) (hfit : fits ty (.long v) = true) (hd : decode cc pc = .ok (.putfield ix, 3))
    (kk : pm_wk p l e R s m args below meth c D cl sh ca ad nL fin (pc + 3) lv st (pm_setJ w o k v)) : pm_wk p l e R s m args below meth c D cl sh ca ad nL fin pc lv (.long v :: .ref (ad o) :: st) w := fun H locs ls hl hP hS =>
  va_put (D := D) (tys := tys) (ws := pm_cells sh ca ad w) (fs := fk.mapIdx (fun k f => pm_val ad w o k f)) K.1 K.2.1 K.2.2.2.2.1 F.2.1 ty0 F.2.2.1 F.2.2.2 K.2.2.2.1 K.2.2.2.2.2.2.2.1 hP (pm_D K.2.2.2.2.2.2.2.2.1) hS o (pm_get hs) F.1 k hk (K.2.2.2.2.1 _ hw) (fun _ h => h) hfin hty hn hfit (by rw [List.length_mapIdx]; exact (List.getElem?_eq_some_iff.mp hf).1) hd
    (fun H1 locs1 hP1 _ hS1 => kk H1 locs1 ls hl ((pm_setFJ (ca := ca) (ad := ad) (w := w) (v := v) hs hf) ▸ hP1) hS1)
theorem pm_getIN (K : pm_ok p s m args meth c cc nL Ts own D cl tys sh ad E ret) {C : String} {T : u_T} {N : Nat} {ty0 : Nat → FieldType} {ci o ix : Nat} {fk : List pm_F} {host : String} (F : pm_cls Ts cl ci C T N ty0) {v : Int32} (hs : sh[o]? = some (.inr (ci, fk))) (k : Nat) (hf : fk[k]? = some (.inr false)) (hk : k < N) (hw : Cond.fieldLinkNest own ix (T k).1 (T k).2.1 (T k).2.2.1 host ∈ Ts) (hd : decode cc pc = .ok (.getfield ix, 3)) (hv : w.1 o k = v)
    (kk : pm_wk p l e R s m args below meth c D cl sh ca ad nL fin (pc + 3) lv (.int v :: st) w) : pm_wk p l e R s m args below meth c D cl sh ca ad nL fin pc lv (.ref (ad o) :: st) w := fun H locs ls hl hP hS =>
  va_getN (D := D) (tys := tys) (ws := pm_cells sh ca ad w) (fs := fk.mapIdx (fun k f => pm_val ad w o k f)) K.1 K.2.1 K.2.2.2.2.1 F.2.1 K.2.2.2.1 K.2.2.2.2.2.2.2.1 hP o (pm_get hs) F.1 k hk (K.2.2.2.2.1 _ hw) (fun _ h => h) (by rw [List.getElem?_mapIdx, hf]; exact congrArg some (congrArg Value.int hv)) hd (kk H locs ls hl hP hS)
theorem pm_getJN (K : pm_ok p s m args meth c cc nL Ts own D cl tys sh ad E ret) {C : String} {T : u_T} {N : Nat} {ty0 : Nat → FieldType} {ci o ix : Nat} {fk : List pm_F} {host : String} (F : pm_cls Ts cl ci C T N ty0) {v : Int64} (hs : sh[o]? = some (.inr (ci, fk))) (k : Nat) (hf : fk[k]? = some (.inr true)) (hk : k < N) (hw : Cond.fieldLinkNest own ix (T k).1 (T k).2.1 (T k).2.2.1 host ∈ Ts) (hd : decode cc pc = .ok (.getfield ix, 3)) (hv : w.2 o k = v)
    (kk : pm_wk p l e R s m args below meth c D cl sh ca ad nL fin (pc + 3) lv (.long v :: st) w) : pm_wk p l e R s m args below meth c D cl sh ca ad nL fin pc lv (.ref (ad o) :: st) w := fun H locs ls hl hP hS =>
  va_getN (D := D) (tys := tys) (ws := pm_cells sh ca ad w) (fs := fk.mapIdx (fun k f => pm_val ad w o k f)) K.1 K.2.1 K.2.2.2.2.1 F.2.1 K.2.2.2.1 K.2.2.2.2.2.2.2.1 hP o (pm_get hs) F.1 k hk (K.2.2.2.2.1 _ hw) (fun _ h => h) (by rw [List.getElem?_mapIdx, hf]; exact congrArg some (congrArg Value.long hv)) hd (kk H locs ls hl hP hS)
theorem pm_getRN (K : pm_ok p s m args meth c cc nL Ts own D cl tys sh ad E ret) {C : String} {T : u_T} {N : Nat} {ty0 : Nat → FieldType} {ci o ix : Nat} {fk : List pm_F} {host : String} (F : pm_cls Ts cl ci C T N ty0) {t : Nat} (hs : sh[o]? = some (.inr (ci, fk))) (k : Nat) (hf : fk[k]? = some (.inl t)) (hk : k < N) (hw : Cond.fieldLinkNest own ix (T k).1 (T k).2.1 (T k).2.2.1 host ∈ Ts) (hd : decode cc pc = .ok (.getfield ix, 3))
    (kk : pm_wk p l e R s m args below meth c D cl sh ca ad nL fin (pc + 3) lv (.ref (ad t) :: st) w) : pm_wk p l e R s m args below meth c D cl sh ca ad nL fin pc lv (.ref (ad o) :: st) w := fun H locs ls hl hP hS =>
  va_getN (D := D) (tys := tys) (ws := pm_cells sh ca ad w) (fs := fk.mapIdx (fun k f => pm_val ad w o k f)) K.1 K.2.1 K.2.2.2.2.1 F.2.1 K.2.2.2.1 K.2.2.2.2.2.2.2.1 hP o (pm_get hs) F.1 k hk (K.2.2.2.2.1 _ hw) (fun _ h => h) (by rw [List.getElem?_mapIdx, hf]; rfl) hd (kk H locs ls hl hP hS)
theorem pm_putIN (K : pm_ok p s m args meth c cc nL Ts own D cl tys sh ad E ret) {C : String} {T : u_T} {N : Nat} {ty0 : Nat → FieldType} {ci o ix : Nat} {fk : List pm_F} {host : String} (F : pm_cls Ts cl ci C T N ty0) {ty : FieldType} {v : Int32} (hs : sh[o]? = some (.inr (ci, fk))) (k : Nat) (hf : fk[k]? = some (.inr false)) (hk : k < N) (hw : Cond.fieldLinkNest own ix (T k).1 (T k).2.1 (T k).2.2.1 host ∈ Ts) (hfin : (T k).2.2.2 = false) (hty : parseFieldDescriptor (T k).2.2.1 = some ty) (hn : narrow ty (.int v) = .int v) (hfit : fits ty (.int v) = true) (hd : decode cc pc = .ok (.putfield ix, 3))
    (kk : pm_wk p l e R s m args below meth c D cl sh ca ad nL fin (pc + 3) lv st (pm_setI w o k v)) : pm_wk p l e R s m args below meth c D cl sh ca ad nL fin pc lv (.int v :: .ref (ad o) :: st) w := fun H locs ls hl hP hS =>
  va_putN (D := D) (tys := tys) (ws := pm_cells sh ca ad w) (fs := fk.mapIdx (fun k f => pm_val ad w o k f)) K.1 K.2.1 K.2.2.2.2.1 F.2.1 ty0 F.2.2.1 F.2.2.2 K.2.2.2.1 K.2.2.2.2.2.2.2.1 hP (pm_D K.2.2.2.2.2.2.2.2.1) hS o (pm_get hs) F.1 k hk (K.2.2.2.2.1 _ hw) (fun _ h => h) hfin hty hn hfit (by rw [List.length_mapIdx]; exact (List.getElem?_eq_some_iff.mp hf).1) hd
    (fun H1 locs1 hP1 _ hS1 => kk H1 locs1 ls hl ((pm_setFI (ca := ca) (ad := ad) (w := w) (v := v) hs hf) ▸ hP1) hS1)
theorem pm_putJN (K : pm_ok p s m args meth c cc nL Ts own D cl tys sh ad E ret) {C : String} {T : u_T} {N : Nat} {ty0 : Nat → FieldType} {ci o ix : Nat} {fk : List pm_F} {host : String} (F : pm_cls Ts cl ci C T N ty0) {ty : FieldType} {v : Int64} (hs : sh[o]? = some (.inr (ci, fk))) (k : Nat) (hf : fk[k]? = some (.inr true)) (hk : k < N) (hw : Cond.fieldLinkNest own ix (T k).1 (T k).2.1 (T k).2.2.1 host ∈ Ts) (hfin : (T k).2.2.2 = false) (hty : parseFieldDescriptor (T k).2.2.1 = some ty) (hn : narrow ty (.long v) = .long v) (hfit : fits ty (.long v) = true) (hd : decode cc pc = .ok (.putfield ix, 3))
    (kk : pm_wk p l e R s m args below meth c D cl sh ca ad nL fin (pc + 3) lv st (pm_setJ w o k v)) : pm_wk p l e R s m args below meth c D cl sh ca ad nL fin pc lv (.long v :: .ref (ad o) :: st) w := fun H locs ls hl hP hS =>
  va_putN (D := D) (tys := tys) (ws := pm_cells sh ca ad w) (fs := fk.mapIdx (fun k f => pm_val ad w o k f)) K.1 K.2.1 K.2.2.2.2.1 F.2.1 ty0 F.2.2.1 F.2.2.2 K.2.2.2.1 K.2.2.2.2.2.2.2.1 hP (pm_D K.2.2.2.2.2.2.2.2.1) hS o (pm_get hs) F.1 k hk (K.2.2.2.2.1 _ hw) (fun _ h => h) hfin hty hn hfit (by rw [List.length_mapIdx]; exact (List.getElem?_eq_some_iff.mp hf).1) hd
    (fun H1 locs1 hP1 _ hS1 => kk H1 locs1 ls hl ((pm_setFJ (ca := ca) (ad := ad) (w := w) (v := v) hs hf) ▸ hP1) hS1)
theorem pm_iald (K : pm_ok p s m args meth c cc nL Ts own D cl tys sh ad E ret) {o t n : Nat} {i v : Int32} (hs : sh[o]? = some (.inl (t, .int, n))) (ht : tys[t]? = some (ca t, .int)) (hin : ¬ (i < 0 ∨ n ≤ i.toNatClampNeg)) (hd : decode cc pc = .ok (.iaload, 1)) (hv : w.1 o i.toNatClampNeg = v)
    (kk : pm_wk p l e R s m args below meth c D cl sh ca ad nL fin (pc + 1) lv (.int v :: st) w) : pm_wk p l e R s m args below meth c D cl sh ca ad nL fin pc lv (.int i :: .ref (ad o) :: st) w := fun H locs ls hl hP hS =>
  va_iald (n := n) (f := w.1 o) K.1 K.2.1 K.2.2.2.2.2.2.2.1 hP o t (pm_get hs) ht hin hd (by rw [hv]; exact kk H locs ls hl hP hS)
theorem pm_cald (K : pm_ok p s m args meth c cc nL Ts own D cl tys sh ad E ret) {o t n : Nat} {i v : Int32} (hs : sh[o]? = some (.inl (t, .char, n))) (ht : tys[t]? = some (ca t, .char)) (hin : ¬ (i < 0 ∨ n ≤ i.toNatClampNeg)) (hd : decode cc pc = .ok (.caload, 1)) (hv : w.1 o i.toNatClampNeg = v)
    (kk : pm_wk p l e R s m args below meth c D cl sh ca ad nL fin (pc + 1) lv (.int v :: st) w) : pm_wk p l e R s m args below meth c D cl sh ca ad nL fin pc lv (.int i :: .ref (ad o) :: st) w := fun H locs ls hl hP hS =>
  va_cald (n := n) (f := w.1 o) K.1 K.2.1 K.2.2.2.2.2.2.2.1 hP o t (pm_get hs) ht hin hd (by rw [hv]; exact kk H locs ls hl hP hS)
theorem pm_zald (K : pm_ok p s m args meth c cc nL Ts own D cl tys sh ad E ret) {o t n : Nat} {i v : Int32} (hs : sh[o]? = some (.inl (t, .boolean, n))) (ht : tys[t]? = some (ca t, .boolean)) (hin : ¬ (i < 0 ∨ n ≤ i.toNatClampNeg)) (hd : decode cc pc = .ok (.baload, 1)) (hv : w.1 o i.toNatClampNeg = v)
    (kk : pm_wk p l e R s m args below meth c D cl sh ca ad nL fin (pc + 1) lv (.int v :: st) w) : pm_wk p l e R s m args below meth c D cl sh ca ad nL fin pc lv (.int i :: .ref (ad o) :: st) w := fun H locs ls hl hP hS =>
  va_zald (n := n) (f := w.1 o) K.1 K.2.1 K.2.2.2.2.2.2.2.1 hP o t (pm_get hs) ht hin hd (by rw [hv]; exact kk H locs ls hl hP hS)
theorem pm_bald (K : pm_ok p s m args meth c cc nL Ts own D cl tys sh ad E ret) {o t n : Nat} {i v : Int32} (hs : sh[o]? = some (.inl (t, .byte, n))) (ht : tys[t]? = some (ca t, .byte)) (hin : ¬ (i < 0 ∨ n ≤ i.toNatClampNeg)) (hd : decode cc pc = .ok (.baload, 1)) (hv : w.1 o i.toNatClampNeg = v)
    (kk : pm_wk p l e R s m args below meth c D cl sh ca ad nL fin (pc + 1) lv (.int v :: st) w) : pm_wk p l e R s m args below meth c D cl sh ca ad nL fin pc lv (.int i :: .ref (ad o) :: st) w := fun H locs ls hl hP hS =>
  va_bald (n := n) (f := w.1 o) K.1 K.2.1 K.2.2.2.2.2.2.2.1 hP o t (pm_get hs) ht hin hd (by rw [hv]; exact kk H locs ls hl hP hS)
theorem pm_sald (K : pm_ok p s m args meth c cc nL Ts own D cl tys sh ad E ret) {o t n : Nat} {i v : Int32} (hs : sh[o]? = some (.inl (t, .short, n))) (ht : tys[t]? = some (ca t, .short)) (hin : ¬ (i < 0 ∨ n ≤ i.toNatClampNeg)) (hd : decode cc pc = .ok (.saload, 1)) (hv : w.1 o i.toNatClampNeg = v)
    (kk : pm_wk p l e R s m args below meth c D cl sh ca ad nL fin (pc + 1) lv (.int v :: st) w) : pm_wk p l e R s m args below meth c D cl sh ca ad nL fin pc lv (.int i :: .ref (ad o) :: st) w := fun H locs ls hl hP hS =>
  va_sald (n := n) (f := w.1 o) K.1 K.2.1 K.2.2.2.2.2.2.2.1 hP o t (pm_get hs) ht hin hd (by rw [hv]; exact kk H locs ls hl hP hS)
theorem pm_lald (K : pm_ok p s m args meth c cc nL Ts own D cl tys sh ad E ret) {o t n : Nat} {i : Int32} {v : Int64} (hs : sh[o]? = some (.inl (t, .long, n))) (ht : tys[t]? = some (ca t, .long)) (hin : ¬ (i < 0 ∨ n ≤ i.toNatClampNeg)) (hd : decode cc pc = .ok (.laload, 1)) (hv : w.2 o i.toNatClampNeg = v)
    (kk : pm_wk p l e R s m args below meth c D cl sh ca ad nL fin (pc + 1) lv (.long v :: st) w) : pm_wk p l e R s m args below meth c D cl sh ca ad nL fin pc lv (.int i :: .ref (ad o) :: st) w := fun H locs ls hl hP hS =>
  va_lald (n := n) (f := w.2 o) K.1 K.2.1 K.2.2.2.2.2.2.2.1 hP o t (pm_get hs) ht hin hd (by rw [hv]; exact kk H locs ls hl hP hS)
theorem pm_iast (K : pm_ok p s m args meth c cc nL Ts own D cl tys sh ad E ret) {o t n : Nat} {i x : Int32} (hs : sh[o]? = some (.inl (t, .int, n))) (ht : tys[t]? = some (ca t, .int)) (hin : ¬ (i < 0 ∨ n ≤ i.toNatClampNeg)) (hd : decode cc pc = .ok (.iastore, 1))
    (kk : pm_wk p l e R s m args below meth c D cl sh ca ad nL fin (pc + 1) lv st (pm_setI w o i.toNatClampNeg x)) : pm_wk p l e R s m args below meth c D cl sh ca ad nL fin pc lv (.int x :: .int i :: .ref (ad o) :: st) w := fun H locs ls hl hP hS =>
  va_iast (n := n) (f := w.1 o) K.1 K.2.1 K.2.2.2.2.2.2.2.1 hP (pm_D K.2.2.2.2.2.2.2.2.1) hS o t (pm_get hs) ht hin hd (fun H1 locs1 hP1 _ hS1 => kk H1 locs1 ls hl ((pm_setAI (ca := ca) (ad := ad) (w := w) (i := i.toNatClampNeg) (v := x) hs (fun h => by cases h)) ▸ hP1) hS1)
theorem pm_cast (K : pm_ok p s m args meth c cc nL Ts own D cl tys sh ad E ret) {o t n : Nat} {i x : Int32} (hs : sh[o]? = some (.inl (t, .char, n))) (ht : tys[t]? = some (ca t, .char)) (hin : ¬ (i < 0 ∨ n ≤ i.toNatClampNeg)) (hd : decode cc pc = .ok (.castore, 1))
    (kk : pm_wk p l e R s m args below meth c D cl sh ca ad nL fin (pc + 1) lv st (pm_setI w o i.toNatClampNeg (vp_nar .char x))) : pm_wk p l e R s m args below meth c D cl sh ca ad nL fin pc lv (.int x :: .int i :: .ref (ad o) :: st) w := fun H locs ls hl hP hS =>
  va_cast (n := n) (f := w.1 o) K.1 K.2.1 K.2.2.2.2.2.2.2.1 hP (pm_D K.2.2.2.2.2.2.2.2.1) hS o t (pm_get hs) ht hin hd (fun H1 locs1 hP1 _ hS1 => kk H1 locs1 ls hl ((pm_setAI (ca := ca) (ad := ad) (w := w) (i := i.toNatClampNeg) (v := (vp_nar .char x)) hs (fun h => by cases h)) ▸ hP1) hS1)
theorem pm_zast (K : pm_ok p s m args meth c cc nL Ts own D cl tys sh ad E ret) {o t n : Nat} {i x : Int32} (hs : sh[o]? = some (.inl (t, .boolean, n))) (ht : tys[t]? = some (ca t, .boolean)) (hin : ¬ (i < 0 ∨ n ≤ i.toNatClampNeg)) (hd : decode cc pc = .ok (.bastore, 1))
    (kk : pm_wk p l e R s m args below meth c D cl sh ca ad nL fin (pc + 1) lv st (pm_setI w o i.toNatClampNeg (vp_nar .boolean x))) : pm_wk p l e R s m args below meth c D cl sh ca ad nL fin pc lv (.int x :: .int i :: .ref (ad o) :: st) w := fun H locs ls hl hP hS =>
  va_zast (n := n) (f := w.1 o) K.1 K.2.1 K.2.2.2.2.2.2.2.1 hP (pm_D K.2.2.2.2.2.2.2.2.1) hS o t (pm_get hs) ht hin hd (fun H1 locs1 hP1 _ hS1 => kk H1 locs1 ls hl ((pm_setAI (ca := ca) (ad := ad) (w := w) (i := i.toNatClampNeg) (v := (vp_nar .boolean x)) hs (fun h => by cases h)) ▸ hP1) hS1)
theorem pm_bast (K : pm_ok p s m args meth c cc nL Ts own D cl tys sh ad E ret) {o t n : Nat} {i x : Int32} (hs : sh[o]? = some (.inl (t, .byte, n))) (ht : tys[t]? = some (ca t, .byte)) (hin : ¬ (i < 0 ∨ n ≤ i.toNatClampNeg)) (hd : decode cc pc = .ok (.bastore, 1))
    (kk : pm_wk p l e R s m args below meth c D cl sh ca ad nL fin (pc + 1) lv st (pm_setI w o i.toNatClampNeg (vp_nar .byte x))) : pm_wk p l e R s m args below meth c D cl sh ca ad nL fin pc lv (.int x :: .int i :: .ref (ad o) :: st) w := fun H locs ls hl hP hS =>
  va_bast (n := n) (f := w.1 o) K.1 K.2.1 K.2.2.2.2.2.2.2.1 hP (pm_D K.2.2.2.2.2.2.2.2.1) hS o t (pm_get hs) ht hin hd (fun H1 locs1 hP1 _ hS1 => kk H1 locs1 ls hl ((pm_setAI (ca := ca) (ad := ad) (w := w) (i := i.toNatClampNeg) (v := (vp_nar .byte x)) hs (fun h => by cases h)) ▸ hP1) hS1)
theorem pm_sast (K : pm_ok p s m args meth c cc nL Ts own D cl tys sh ad E ret) {o t n : Nat} {i x : Int32} (hs : sh[o]? = some (.inl (t, .short, n))) (ht : tys[t]? = some (ca t, .short)) (hin : ¬ (i < 0 ∨ n ≤ i.toNatClampNeg)) (hd : decode cc pc = .ok (.sastore, 1))
    (kk : pm_wk p l e R s m args below meth c D cl sh ca ad nL fin (pc + 1) lv st (pm_setI w o i.toNatClampNeg (vp_nar .short x))) : pm_wk p l e R s m args below meth c D cl sh ca ad nL fin pc lv (.int x :: .int i :: .ref (ad o) :: st) w := fun H locs ls hl hP hS =>
  va_sast (n := n) (f := w.1 o) K.1 K.2.1 K.2.2.2.2.2.2.2.1 hP (pm_D K.2.2.2.2.2.2.2.2.1) hS o t (pm_get hs) ht hin hd (fun H1 locs1 hP1 _ hS1 => kk H1 locs1 ls hl ((pm_setAI (ca := ca) (ad := ad) (w := w) (i := i.toNatClampNeg) (v := (vp_nar .short x)) hs (fun h => by cases h)) ▸ hP1) hS1)
theorem pm_last (K : pm_ok p s m args meth c cc nL Ts own D cl tys sh ad E ret) {o t n : Nat} {i : Int32} {x : Int64} (hs : sh[o]? = some (.inl (t, .long, n))) (ht : tys[t]? = some (ca t, .long)) (hin : ¬ (i < 0 ∨ n ≤ i.toNatClampNeg)) (hd : decode cc pc = .ok (.lastore, 1))
    (kk : pm_wk p l e R s m args below meth c D cl sh ca ad nL fin (pc + 1) lv st (pm_setJ w o i.toNatClampNeg x)) : pm_wk p l e R s m args below meth c D cl sh ca ad nL fin pc lv (.long x :: .int i :: .ref (ad o) :: st) w := fun H locs ls hl hP hS =>
  va_last (n := n) (f := w.2 o) K.1 K.2.1 K.2.2.2.2.2.2.2.1 hP (pm_D K.2.2.2.2.2.2.2.2.1) hS o t (pm_get hs) ht hin hd (fun H1 locs1 hP1 _ hS1 => kk H1 locs1 ls hl ((pm_setAJ (ca := ca) (ad := ad) (w := w) (i := i.toNatClampNeg) (v := x) hs) ▸ hP1) hS1)
theorem pm_alen (K : pm_ok p s m args meth c cc nL Ts own D cl tys sh ad E ret) {o t n : Nat} {ty : FieldType} {v : Int32} (hs : sh[o]? = some (.inl (t, ty, n))) (ht : tys[t]? = some (ca t, ty)) (hv : Int32.ofNat n = v) (hd : decode cc pc = .ok (.arraylength, 1))
    (kk : pm_wk p l e R s m args below meth c D cl sh ca ad nL fin (pc + 1) lv (.int v :: st) w) : pm_wk p l e R s m args below meth c D cl sh ca ad nL fin pc lv (.ref (ad o) :: st) w := fun H locs ls hl hP hS =>
  va_alen K.1 K.2.1 K.2.2.2.2.2.2.2.1 hP o t (x := pm_arr w o n ty) (pm_get hs) ht (by cases ty <;> exact hv) hd (kk H locs ls hl hP hS)
theorem pm_mmax (K : pm_ok p s m args meth c cc nL Ts own D cl tys sh ad E ret) {x y : Int32} {ix : Nat} (h1 : Cond.methodLink own ix Lib.Math.max.name ∈ Ts) (h2 : Cond.static Lib.Math.max.name ∈ Ts) (h3 : Cond.initialized "java/lang/Math" ∈ Ts) (h4 : Cond.code Lib.Math.max.name Lib.Math.max.code 2 (some .int) ∈ Ts) (hf : 1 ≤ R.frames) (hlo : (st.map fun v => v.category).sum + 13 ≤ R.locals) (hd : decode cc pc = .ok (.invokestatic ix, 3))
    (kk : pm_wk p l e R s m args below meth c D cl sh ca ad nL fin (pc + 3) lv (.int (if x < y then y else x) :: st) w) : pm_wk p l e R s m args below meth c D cl sh ca ad nL fin pc lv (.int y :: .int x :: st) w := fun H locs ls hl hP hS =>
  va_mmax K.1 K.2.1 (by rw [K.2.2.1, hl.1]) K.2.2.2.1 (K.2.2.2.2.1 _ h1) (K.2.2.2.2.1 _ h2) (K.2.2.2.2.1 _ h3) (K.2.2.2.2.1 _ h4) hf hlo (Nat.zero_le _) (Nat.zero_le _) hd (kk H locs ls hl hP hS)
theorem pm_mmin (K : pm_ok p s m args meth c cc nL Ts own D cl tys sh ad E ret) {x y : Int32} {ix : Nat} (h1 : Cond.methodLink own ix Lib.Math.min.name ∈ Ts) (h2 : Cond.static Lib.Math.min.name ∈ Ts) (h3 : Cond.initialized "java/lang/Math" ∈ Ts) (h4 : Cond.code Lib.Math.min.name Lib.Math.min.code 2 (some .int) ∈ Ts) (hf : 1 ≤ R.frames) (hlo : (st.map fun v => v.category).sum + 13 ≤ R.locals) (hd : decode cc pc = .ok (.invokestatic ix, 3))
    (kk : pm_wk p l e R s m args below meth c D cl sh ca ad nL fin (pc + 3) lv (.int (if y < x then y else x) :: st) w) : pm_wk p l e R s m args below meth c D cl sh ca ad nL fin pc lv (.int y :: .int x :: st) w := fun H locs ls hl hP hS =>
  va_mmin K.1 K.2.1 (by rw [K.2.2.1, hl.1]) K.2.2.2.1 (K.2.2.2.2.1 _ h1) (K.2.2.2.2.1 _ h2) (K.2.2.2.2.1 _ h3) (K.2.2.2.2.1 _ h4) hf hlo (Nat.zero_le _) (Nat.zero_le _) hd (kk H locs ls hl hP hS)
theorem pm_mabs (K : pm_ok p s m args meth c cc nL Ts own D cl tys sh ad E ret) {x : Int32} {ix : Nat} (h1 : Cond.methodLink own ix Lib.Math.abs.name ∈ Ts) (h2 : Cond.static Lib.Math.abs.name ∈ Ts) (h3 : Cond.initialized "java/lang/Math" ∈ Ts) (h4 : Cond.code Lib.Math.abs.name Lib.Math.abs.code 1 (some .int) ∈ Ts) (hf : 1 ≤ R.frames) (hlo : (st.map fun v => v.category).sum + 13 ≤ R.locals) (hd : decode cc pc = .ok (.invokestatic ix, 3))
    (kk : pm_wk p l e R s m args below meth c D cl sh ca ad nL fin (pc + 3) lv (.int (if 0 ≤ x then x else 0 - x) :: st) w) : pm_wk p l e R s m args below meth c D cl sh ca ad nL fin pc lv (.int x :: st) w := fun H locs ls hl hP hS =>
  va_mabs K.1 K.2.1 (by rw [K.2.2.1, hl.1]) K.2.2.2.1 (K.2.2.2.2.1 _ h1) (K.2.2.2.2.1 _ h2) (K.2.2.2.2.1 _ h3) (K.2.2.2.2.1 _ h4) hf hlo (Nat.zero_le _) (Nat.zero_le _) hd (kk H locs ls hl hP hS)
theorem pm_ret {r : Option Value} {locs : List Loc} {H : Heap} (hP : va_P D cl (pm_cells sh ca ad w) H) (hS : va_S (pm_A sh ad s.heap.size) s.heap H locs) : ∀ t : State, t.heap = H → s.WarmedH t.vm → pm_Q D cl sh ca ad (r, w) s.heap.size args s (.returned r) t := fun t ht _ => ⟨rfl, by rw [ht]; exact hP, hS.F ht⟩
theorem pm_iret (K : pm_ok p s m args meth c cc nL Ts own D cl tys sh ad E (some .int)) {v : Int32} (hd : decode cc pc = .ok (.ireturn, 1)) : pm_wk p l e R s m args below meth c D cl sh ca ad nL (some (.int v), w) pc lv [.int v] w := fun H locs ls hl hP hS =>
  W.iret K.1 K.2.1 K.2.2.2.2.2.2.2.2.2.2.1 (pm_ret hP hS) hS.2.2 hd (hlocks := K.2.2.2.2.2.2.2.2.2.1)
theorem pm_zret {ty : FieldType} (K : pm_ok p s m args meth c cc nL Ts own D cl tys sh ad E (some ty)) {v : Int32} (hn : narrow ty (.int v) = .int v) (hd : decode cc pc = .ok (.ireturn, 1)) : pm_wk p l e R s m args below meth c D cl sh ca ad nL (some (.int v), w) pc lv [.int v] w := fun H locs ls hl hP hS =>
  W.zret K.1 K.2.1 K.2.2.2.2.2.2.2.2.2.2.1 hn (pm_ret hP hS) hS.2.2 hd (hlocks := K.2.2.2.2.2.2.2.2.2.1)
theorem pm_lret (K : pm_ok p s m args meth c cc nL Ts own D cl tys sh ad E (some .long)) {v : Int64} (hd : decode cc pc = .ok (.lreturn, 1)) : pm_wk p l e R s m args below meth c D cl sh ca ad nL (some (.long v), w) pc lv [.long v] w := fun H locs ls hl hP hS =>
  W.lret K.1 K.2.1 K.2.2.2.2.2.2.2.2.2.2.1 (pm_ret hP hS) hS.2.2 hd (hlocks := K.2.2.2.2.2.2.2.2.2.1)
theorem pm_vret (K : pm_ok p s m args meth c cc nL Ts own D cl tys sh ad E none) (hd : decode cc pc = .ok (.return_, 1)) : pm_wk p l e R s m args below meth c D cl sh ca ad nL (none, w) pc lv [] w := fun H locs ls hl hP hS =>
  W.vret K.1 K.2.1 K.2.2.2.2.2.2.2.2.2.2.1 (pm_ret hP hS) hS.2.2 hd (hlocks := K.2.2.2.2.2.2.2.2.2.1)
theorem pm_run (K : pm_ok p s m args meth c cc nL Ts own D cl tys sh ad E ret) {H : Heap} {locs : List Loc} {ls : Array Slot} {st0 rest : List Value} {av : Array Value} {r : Option Value} {w' : pm_W} (hl : lv_has ls nL lv) (hS : va_S (pm_A sh ad s.heap.size) s.heap H locs)
    (hr : va_Run p l e R s m args below meth c H locs 0 0 0 0 (F0 m pc ls st0) rest (pm_Q D cl sh ca ad (r, w') H.size av) (pm_A sh ad H.size)) (kk : pm_wk p l e R s m args below meth c D cl sh ca ad nL fin (pc + 3) lv (r.toList ++ rest) w') :
    W p l e R s m args below meth c H locs 0 0 (MQ below (pm_Q D cl sh ca ad fin s.heap.size) args s 0 0 (pm_A sh ad s.heap.size)) (F0 m pc ls st0) := by
  intro T hT X
  obtain ⟨v, st₀, t, T', L, h0, X', hL, e1, e2, ⟨hv, hP', hz, hk⟩, sg⟩ := hr T hT X
  have hv : v = r := Outcome.returned.inj hv
  subst hv
  rw [h0] at hz hk
  have hm : ∀ q, pm_A sh ad H.size q → pm_A sh ad s.heap.size q := fun q h => pm_A_mono hS.1 q h
  obtain ⟨t2, a1, b1⟩ := kk T'.heap (locs ++ L) ls hl (by rw [e1]; exact hP')
    ⟨Nat.le_trans hS.1 (by rw [e1]; exact hz), fun q h1 h2 => by rw [e1, hk q (Nat.lt_of_lt_of_le h1 hS.1) (fun z => h2 (hm q z))]; exact hS.2.1 q h1 h2, fun q hq => by
      rcases List.mem_append.mp hq with h | h
      · exact hS.2.2 q h
      · exact hm _ (hL q h)⟩ T' rfl X'
  exact ⟨t2, sg t2 a1, b1⟩
theorem pm_blind {sz : Nat} {avs : List Value} (hg : pm_Tg Ts) (hEc : pm_Ecl E) : FrameBlind (va_Pc avs (fun U => U.heap.size = sz ∧ pm_T Ts U ∧ va_K D cl tys U ∧ pm_inj sh ad ∧ va_P D cl (pm_cells sh ca ad w) U.heap ∧ E (pm_A sh ad sz) U U.heap)) := by
  intro a U g mk h
  obtain ⟨h0, h1, h2, h3, h4, h5, h6⟩ := h
  exact ⟨h0, h1, pm_T_same (s := U) (U := U.calling g mk a) hg rfl h2, va_K.moved (u := U) (U := U.calling g mk a) (Vm.Alike.refl U.vm) h3, h4, h5, hEc _ _ U (U.calling g mk a) U.heap h6 (fun _ _ _ => rfl) (fun _ h => h) (Vm.Alike.refl U.vm) (State.WarmedH.refl U) rfl⟩
theorem pm_pre (K : pm_ok p s m args meth c cc nL Ts own D cl tys sh ad E ret) {H : Heap} {locs : List Loc} {avs : List Value} (hP : va_P D cl (pm_cells sh ca ad w) H) (hS : va_S (pm_A sh ad s.heap.size) s.heap H locs) (U : State) (hU : U.heap = H) (hW : s.WarmedH U.vm) :
    va_Pc avs (fun U => U.heap.size = H.size ∧ pm_T Ts U ∧ va_K D cl tys U ∧ pm_inj sh ad ∧ va_P D cl (pm_cells sh ca ad w) U.heap ∧ E (pm_A sh ad H.size) U U.heap) avs.toArray U :=
  ⟨rfl, by rw [hU], pm_T_warm K.2.2.2.2.2.2.1 hW K.2.2.2.2.2.1, va_K.moved hW.alike K.2.2.2.2.2.2.2.1, K.2.2.2.2.2.2.2.2.1, by rw [hU]; exact hP,
    K.2.2.2.2.2.2.2.2.2.2.2.2 _ _ s U H K.2.2.2.2.2.2.2.2.2.2.2.1 hS.2.1 (pm_A_mono hS.1) hW.alike hW hU⟩
/-- a method's place in the tables -/
def pm_mi (Ts : List Cond) (y : MethodName) (bytes : ByteArray) (maxL : Nat) (ret : Option FieldType) (n : Nat) : Prop := Cond.code y bytes maxL ret ∈ Ts ∧ Cond.initialized y.cls ∈ Ts ∧ (y.cls ≠ "java/lang/invoke/MethodHandle" ∧ y.cls ≠ "java/lang/invoke/VarHandle") ∧ (parseMethodDescriptor y.desc).map (fun d => d.parameters.length) = some n
def pm_rm (rm R : Room) (maxL : Nat) : Prop := rm.cells = 0 ∧ rm.slots = 0 ∧ rm.frames + 1 ≤ R.frames ∧ 8 + (maxL + 11) + rm.locals ≤ R.locals
theorem pm_cw (K : pm_ok p s m args meth c cc nL Ts own D cl tys sh ad E ret) {y : MethodName} {bytes : ByteArray} {maxL n : Nat} {rt : Option FieldType} (hi : pm_mi Ts y bytes maxL rt n) : (∀ x ∈ [Cond.code y bytes maxL rt], ∀ (a' : Array Value) (U : State), s.WarmedH U.vm → x.before a' U = true) ∧ (Cond.code y bytes maxL rt).before args s = true ∧ (Cond.initialized y.cls).before args s = true ∧ ∀ sig, parseMethodDescriptor y.desc = some sig → n = sig.parameters.length := by
  refine ⟨fun x hx a' U hW => ?_, K.2.2.2.2.1 _ hi.1, K.2.2.2.2.1 _ hi.2.1, fun sig h => ?_⟩
  · rw [List.mem_singleton] at hx
    subst hx
    exact pm_T_use K.2.2.2.2.2.2.1 (pm_T_warm K.2.2.2.2.2.2.1 hW K.2.2.2.2.2.1) a' _ hi.1
  · have h2 := hi.2.2.2
    rw [h] at h2
    exact (Option.some.inj h2).symm
theorem pm_recv (K : pm_ok p s m args meth c cc nL Ts own D cl tys sh ad E ret) {H : Heap} {o ci : Nat} {fk : List pm_F} {q : vw_C} (hP : va_P D cl (pm_cells sh ca ad w) H) (hs : sh[o]? = some (.inr (ci, fk))) (hc : cl[ci]? = some q) : ∃ cell : Cell, H[ad o]? = some cell ∧ cell.vm.isStatics = false ∧ s.vm.findClass q.1 = some cell.cls :=
  va_recv K.2.2.2.2.2.2.2.1 hP hc (q0 := o) (pm_get hs)
theorem pm_callV (K : pm_ok p s m args meth c cc nL Ts own D cl tys sh ad E ret) {y : MethodName} {bytes : ByteArray} {maxL n ix : Nat} {rt : Option FieldType} {rm : Room} {o ci : Nat} {fk : List pm_F} {T : u_T} {N : Nat} {As rest st0 : List Value} {r : Option Value} {w' : pm_W} (hM : pm_Met l Ts D cl tys sh ca ad E y bytes maxL rt rm (.ref (ad o) :: As) w (r, w')) (hi : pm_mi Ts y bytes maxL rt n) (hs : sh[o]? = some (.inr (ci, fk))) (hc : cl[ci]? = some (y.cls, T, N)) (hin : Cond.instanceMethod y ∈ Ts) (hse : Cond.selects y.cls y y ∈ Ts) (hw : Cond.methodLink own ix y ∈ Ts) (hn : As.length = n) (hr : pm_rm rm R maxL) (hst : st0 = As.reverse ++ .ref (ad o) :: rest) (hrest : (rest.map fun v => v.category).sum ≤ 8) (hd : decode cc pc = .ok (.invokevirtual ix, 3))
    (kk : pm_wk p l e R s m args below meth c D cl sh ca ad nL fin (pc + 3) lv (r.toList ++ rest) w') : pm_wk p l e R s m args below meth c D cl sh ca ad nL fin pc lv st0 w := fun H locs ls hl hP hS => by
  have cw := pm_cw K hi
  exact pm_run K hl hS (va_runV (As := As) (rest := rest) (nL := nL) (cc := cc) (Ts := Ts) (own := own) ⟨K.1, K.2.1, K.2.2.1, K.2.2.2.1, K.2.2.2.2.1⟩ (hM H.size) ⟨⟨hr.1, hr.2.1, hr.2.2.1, hr.2.2.2, cw.1, List.mem_singleton.mpr rfl, cw.2.1, cw.2.2.1, hi.2.2.1, cw.2.2.2, K.2.2.2.2.1 _ hw⟩, K.2.2.2.2.1 _ hin, K.2.2.2.2.1 _ hse⟩ ⟨pm_blind K.2.2.2.2.2.2.1 K.2.2.2.2.2.2.2.2.2.2.2.2, pm_recv K hP hs hc, fun U hU hW => pm_pre K hP hS U hU hW⟩ rfl hn hl.1 hst (lv_room hrest) hd ⟨Nat.zero_le _, Nat.zero_le _⟩) kk
theorem pm_callVN (K : pm_ok p s m args meth c cc nL Ts own D cl tys sh ad E ret) {y : MethodName} {bytes : ByteArray} {maxL n ix : Nat} {rt : Option FieldType} {rm : Room} {host : String} {o ci : Nat} {fk : List pm_F} {T : u_T} {N : Nat} {As rest st0 : List Value} {r : Option Value} {w' : pm_W} (hM : pm_Met l Ts D cl tys sh ca ad E y bytes maxL rt rm (.ref (ad o) :: As) w (r, w')) (hi : pm_mi Ts y bytes maxL rt n) (hs : sh[o]? = some (.inr (ci, fk))) (hc : cl[ci]? = some (y.cls, T, N)) (hin : Cond.instanceMethod y ∈ Ts) (hse : Cond.selects y.cls y y ∈ Ts) (hw : Cond.methodLinkNest own ix y host ∈ Ts) (hn : As.length = n) (hr : pm_rm rm R maxL) (hst : st0 = As.reverse ++ .ref (ad o) :: rest) (hrest : (rest.map fun v => v.category).sum ≤ 8) (hd : decode cc pc = .ok (.invokevirtual ix, 3))
    (kk : pm_wk p l e R s m args below meth c D cl sh ca ad nL fin (pc + 3) lv (r.toList ++ rest) w') : pm_wk p l e R s m args below meth c D cl sh ca ad nL fin pc lv st0 w := fun H locs ls hl hP hS => by
  have cw := pm_cw K hi
  exact pm_run K hl hS (va_runVN (As := As) (rest := rest) (nL := nL) (cc := cc) (Ts := Ts) (own := own) ⟨K.1, K.2.1, K.2.2.1, K.2.2.2.1, K.2.2.2.2.1⟩ (hM H.size) ⟨⟨⟨hr.1, hr.2.1, hr.2.2.1, hr.2.2.2, cw.1, List.mem_singleton.mpr rfl⟩, cw.2.1, cw.2.2.1, hi.2.2.1, cw.2.2.2, K.2.2.2.2.1 _ hw⟩, K.2.2.2.2.1 _ hin, K.2.2.2.2.1 _ hse⟩ ⟨pm_blind K.2.2.2.2.2.2.1 K.2.2.2.2.2.2.2.2.2.2.2.2, pm_recv K hP hs hc, fun U hU hW => pm_pre K hP hS U hU hW⟩ rfl hn hl.1 hst (lv_room hrest) hd ⟨Nat.zero_le _, Nat.zero_le _⟩) kk
theorem pm_callS (K : pm_ok p s m args meth c cc nL Ts own D cl tys sh ad E ret) {y : MethodName} {bytes : ByteArray} {maxL n ix : Nat} {rt : Option FieldType} {rm : Room} {As rest st0 : List Value} {r : Option Value} {w' : pm_W} (hM : pm_Met l Ts D cl tys sh ca ad E y bytes maxL rt rm As w (r, w')) (hi : pm_mi Ts y bytes maxL rt n) (hin : Cond.static y ∈ Ts) (hw : Cond.methodLink own ix y ∈ Ts) (hn : As.length = n) (hr : pm_rm rm R maxL) (hst : st0 = As.reverse ++ rest) (hrest : (rest.map fun v => v.category).sum ≤ 8) (hd : decode cc pc = .ok (.invokestatic ix, 3))
    (kk : pm_wk p l e R s m args below meth c D cl sh ca ad nL fin (pc + 3) lv (r.toList ++ rest) w') : pm_wk p l e R s m args below meth c D cl sh ca ad nL fin pc lv st0 w := fun H locs ls hl hP hS => by
  have cw := pm_cw K hi
  exact pm_run K hl hS (va_runS (As := As) (rest := rest) (nL := nL) (cc := cc) (Ts := Ts) (own := own) ⟨K.1, K.2.1, K.2.2.1, K.2.2.2.1, K.2.2.2.2.1⟩ (hM H.size) ⟨⟨hr.1, hr.2.1, hr.2.2.1, hr.2.2.2, cw.1, List.mem_singleton.mpr rfl, cw.2.1, cw.2.2.1, hi.2.2.1, cw.2.2.2, K.2.2.2.2.1 _ hw⟩, K.2.2.2.2.1 _ hin⟩ ⟨pm_blind K.2.2.2.2.2.2.1 K.2.2.2.2.2.2.2.2.2.2.2.2, fun U hU hW => pm_pre K hP hS U hU hW⟩ rfl hn hl.1 hst (lv_room hrest) hd ⟨Nat.zero_le _, Nat.zero_le _⟩) kk
theorem pm_callSN (K : pm_ok p s m args meth c cc nL Ts own D cl tys sh ad E ret) {y : MethodName} {bytes : ByteArray} {maxL n ix : Nat} {rt : Option FieldType} {rm : Room} {host : String} {As rest st0 : List Value} {r : Option Value} {w' : pm_W} (hM : pm_Met l Ts D cl tys sh ca ad E y bytes maxL rt rm As w (r, w')) (hi : pm_mi Ts y bytes maxL rt n) (hin : Cond.static y ∈ Ts) (hw : Cond.methodLinkNest own ix y host ∈ Ts) (hn : As.length = n) (hr : pm_rm rm R maxL) (hst : st0 = As.reverse ++ rest) (hrest : (rest.map fun v => v.category).sum ≤ 8) (hd : decode cc pc = .ok (.invokestatic ix, 3))
    (kk : pm_wk p l e R s m args below meth c D cl sh ca ad nL fin (pc + 3) lv (r.toList ++ rest) w') : pm_wk p l e R s m args below meth c D cl sh ca ad nL fin pc lv st0 w := fun H locs ls hl hP hS => by
  have cw := pm_cw K hi
  exact pm_run K hl hS (va_runSN (As := As) (rest := rest) (nL := nL) (cc := cc) (Ts := Ts) (own := own) ⟨K.1, K.2.1, K.2.2.1, K.2.2.2.1, K.2.2.2.2.1⟩ (hM H.size) ⟨⟨⟨hr.1, hr.2.1, hr.2.2.1, hr.2.2.2, cw.1, List.mem_singleton.mpr rfl⟩, cw.2.1, cw.2.2.1, hi.2.2.1, cw.2.2.2, K.2.2.2.2.1 _ hw⟩, K.2.2.2.2.1 _ hin, trivial⟩ ⟨pm_blind K.2.2.2.2.2.2.1 K.2.2.2.2.2.2.2.2.2.2.2.2, fun U hU hW => pm_pre K hP hS U hU hW⟩ rfl hn hl.1 hst (lv_room hrest) hd ⟨Nat.zero_le _, Nat.zero_le _⟩) kk
end PMW
end
section
-- ===== PART A: goes FIRST, ahead of the names: the tables' words, and 'selects' of the private methods out of them =====
/-- a private method of a class that the tables say can be made, by its rows of tables_1 -/
def lw_okq (q : MethodName × Nat) : Prop := (q.1.cls ≠ "java/lang/invoke/MethodHandle" ∧ q.1.cls ≠ "java/lang/invoke/VarHandle") ∧ Cond.instantiable q.1.cls q.2 ∈ tables_1 ∧ Cond.privateMethod q.1 ∈ tables_1 ∧ Cond.instanceMethod q.1 ∈ tables_1
theorem lw_p0 : lw_okq (⟨"CellLisp$Machine", "begin", "()I"⟩, 7) := ⟨⟨by decide +kernel, by decide +kernel⟩, List.mem_of_getElem? (i := 234) (by decide +kernel), List.mem_of_getElem? (i := 352) (by decide +kernel), List.mem_of_getElem? (i := 353) (by decide +kernel)⟩
theorem lw_p1 : lw_okq (⟨"CellLisp$Reader", "findForm", "()I"⟩, 9) := ⟨⟨by decide +kernel, by decide +kernel⟩, List.mem_of_getElem? (i := 236) (by decide +kernel), List.mem_of_getElem? (i := 360) (by decide +kernel), List.mem_of_getElem? (i := 361) (by decide +kernel)⟩
theorem lw_p2 : lw_okq (⟨"CellLisp$Reader", "learnSymbols", "()Z"⟩, 9) := ⟨⟨by decide +kernel, by decide +kernel⟩, List.mem_of_getElem? (i := 236) (by decide +kernel), List.mem_of_getElem? (i := 386) (by decide +kernel), List.mem_of_getElem? (i := 387) (by decide +kernel)⟩
theorem lw_p3 : lw_okq (⟨"CellLisp$Reader", "isSymbol", "(II)Z"⟩, 9) := ⟨⟨by decide +kernel, by decide +kernel⟩, List.mem_of_getElem? (i := 236) (by decide +kernel), List.mem_of_getElem? (i := 390) (by decide +kernel), List.mem_of_getElem? (i := 391) (by decide +kernel)⟩
theorem lw_p4 : lw_okq (⟨"CellLisp$Room", "reach", "(I)V"⟩, 13) := ⟨⟨by decide +kernel, by decide +kernel⟩, List.mem_of_getElem? (i := 179) (by decide +kernel), List.mem_of_getElem? (i := 413) (by decide +kernel), List.mem_of_getElem? (i := 414) (by decide +kernel)⟩
theorem lw_p5 : lw_okq (⟨"CellLisp$Room", "freeUnreached", "()V"⟩, 13) := ⟨⟨by decide +kernel, by decide +kernel⟩, List.mem_of_getElem? (i := 179) (by decide +kernel), List.mem_of_getElem? (i := 423) (by decide +kernel), List.mem_of_getElem? (i := 424) (by decide +kernel)⟩
theorem lw_p6 : lw_okq (⟨"CellLisp$Reader", "build", "()V"⟩, 9) := ⟨⟨by decide +kernel, by decide +kernel⟩, List.mem_of_getElem? (i := 236) (by decide +kernel), List.mem_of_getElem? (i := 427) (by decide +kernel), List.mem_of_getElem? (i := 428) (by decide +kernel)⟩
theorem lw_p7 : lw_okq (⟨"CellLisp$Reader", "place", "(IZI)V"⟩, 9) := ⟨⟨by decide +kernel, by decide +kernel⟩, List.mem_of_getElem? (i := 236) (by decide +kernel), List.mem_of_getElem? (i := 431) (by decide +kernel), List.mem_of_getElem? (i := 432) (by decide +kernel)⟩
theorem lw_p8 : lw_okq (⟨"CellLisp$Room", "make", "(IIII)I"⟩, 13) := ⟨⟨by decide +kernel, by decide +kernel⟩, List.mem_of_getElem? (i := 179) (by decide +kernel), List.mem_of_getElem? (i := 440) (by decide +kernel), List.mem_of_getElem? (i := 441) (by decide +kernel)⟩
theorem lw_p9 : lw_okq (⟨"CellLisp$Room", "isHere", "(I)Z"⟩, 13) := ⟨⟨by decide +kernel, by decide +kernel⟩, List.mem_of_getElem? (i := 179) (by decide +kernel), List.mem_of_getElem? (i := 448) (by decide +kernel), List.mem_of_getElem? (i := 449) (by decide +kernel)⟩
theorem lw_p10 : lw_okq (⟨"CellLisp$Reader", "wordValue", "(II)I"⟩, 9) := ⟨⟨by decide +kernel, by decide +kernel⟩, List.mem_of_getElem? (i := 236) (by decide +kernel), List.mem_of_getElem? (i := 452) (by decide +kernel), List.mem_of_getElem? (i := 453) (by decide +kernel)⟩
theorem lw_p11 : lw_okq (⟨"CellLisp$Machine", "evaluateNext", "(II)I"⟩, 7) := ⟨⟨by decide +kernel, by decide +kernel⟩, List.mem_of_getElem? (i := 234) (by decide +kernel), List.mem_of_getElem? (i := 467) (by decide +kernel), List.mem_of_getElem? (i := 468) (by decide +kernel)⟩
theorem lw_p12 : lw_okq (⟨"CellLisp$Machine", "evaluate", "()I"⟩, 7) := ⟨⟨by decide +kernel, by decide +kernel⟩, List.mem_of_getElem? (i := 234) (by decide +kernel), List.mem_of_getElem? (i := 471) (by decide +kernel), List.mem_of_getElem? (i := 472) (by decide +kernel)⟩
theorem lw_p13 : lw_okq (⟨"CellLisp$Machine", "evaluateSymbol", "()I"⟩, 7) := ⟨⟨by decide +kernel, by decide +kernel⟩, List.mem_of_getElem? (i := 234) (by decide +kernel), List.mem_of_getElem? (i := 479) (by decide +kernel), List.mem_of_getElem? (i := 480) (by decide +kernel)⟩
theorem lw_p14 : lw_okq (⟨"CellLisp$Machine", "returnNext", "(I)I"⟩, 7) := ⟨⟨by decide +kernel, by decide +kernel⟩, List.mem_of_getElem? (i := 234) (by decide +kernel), List.mem_of_getElem? (i := 499) (by decide +kernel), List.mem_of_getElem? (i := 500) (by decide +kernel)⟩
theorem lw_p15 : lw_okq (⟨"CellLisp$Machine", "evaluateQuote", "()I"⟩, 7) := ⟨⟨by decide +kernel, by decide +kernel⟩, List.mem_of_getElem? (i := 234) (by decide +kernel), List.mem_of_getElem? (i := 510) (by decide +kernel), List.mem_of_getElem? (i := 511) (by decide +kernel)⟩
def lw_privs_1 : List (MethodName × Nat) := [(⟨"CellLisp$Machine", "begin", "()I"⟩, 7), (⟨"CellLisp$Reader", "findForm", "()I"⟩, 9), (⟨"CellLisp$Reader", "learnSymbols", "()Z"⟩, 9), (⟨"CellLisp$Reader", "isSymbol", "(II)Z"⟩, 9), (⟨"CellLisp$Room", "reach", "(I)V"⟩, 13), (⟨"CellLisp$Room", "freeUnreached", "()V"⟩, 13), (⟨"CellLisp$Reader", "build", "()V"⟩, 9), (⟨"CellLisp$Reader", "place", "(IZI)V"⟩, 9), (⟨"CellLisp$Room", "make", "(IIII)I"⟩, 13), (⟨"CellLisp$Room", "isHere", "(I)Z"⟩, 13), (⟨"CellLisp$Reader", "wordValue", "(II)I"⟩, 9), (⟨"CellLisp$Machine", "evaluateNext", "(II)I"⟩, 7), (⟨"CellLisp$Machine", "evaluate", "()I"⟩, 7), (⟨"CellLisp$Machine", "evaluateSymbol", "()I"⟩, 7), (⟨"CellLisp$Machine", "returnNext", "(I)I"⟩, 7), (⟨"CellLisp$Machine", "evaluateQuote", "()I"⟩, 7)]
theorem lw_r1 : ∀ q ∈ lw_privs_1, lw_okq q := List.forall_mem_cons.mpr ⟨lw_p0, List.forall_mem_cons.mpr ⟨lw_p1, List.forall_mem_cons.mpr ⟨lw_p2, List.forall_mem_cons.mpr ⟨lw_p3, List.forall_mem_cons.mpr ⟨lw_p4, List.forall_mem_cons.mpr ⟨lw_p5, List.forall_mem_cons.mpr ⟨lw_p6, List.forall_mem_cons.mpr ⟨lw_p7, List.forall_mem_cons.mpr ⟨lw_p8, List.forall_mem_cons.mpr ⟨lw_p9, List.forall_mem_cons.mpr ⟨lw_p10, List.forall_mem_cons.mpr ⟨lw_p11, List.forall_mem_cons.mpr ⟨lw_p12, List.forall_mem_cons.mpr ⟨lw_p13, List.forall_mem_cons.mpr ⟨lw_p14, List.forall_mem_cons.mpr ⟨lw_p15, fun _ h => absurd h List.not_mem_nil⟩⟩⟩⟩⟩⟩⟩⟩⟩⟩⟩⟩⟩⟩⟩⟩
theorem lw_p16 : lw_okq (⟨"CellLisp$Machine", "part", "(I)I"⟩, 7) := ⟨⟨by decide +kernel, by decide +kernel⟩, List.mem_of_getElem? (i := 234) (by decide +kernel), List.mem_of_getElem? (i := 518) (by decide +kernel), List.mem_of_getElem? (i := 519) (by decide +kernel)⟩
theorem lw_p17 : lw_okq (⟨"CellLisp$Machine", "evaluateIf", "()I"⟩, 7) := ⟨⟨by decide +kernel, by decide +kernel⟩, List.mem_of_getElem? (i := 234) (by decide +kernel), List.mem_of_getElem? (i := 526) (by decide +kernel), List.mem_of_getElem? (i := 527) (by decide +kernel)⟩
theorem lw_p18 : lw_okq (⟨"CellLisp$Machine", "evaluateUnder", "(IIII)I"⟩, 7) := ⟨⟨by decide +kernel, by decide +kernel⟩, List.mem_of_getElem? (i := 234) (by decide +kernel), List.mem_of_getElem? (i := 530) (by decide +kernel), List.mem_of_getElem? (i := 531) (by decide +kernel)⟩
theorem lw_p19 : lw_okq (⟨"CellLisp$Machine", "evaluateLambda", "()I"⟩, 7) := ⟨⟨by decide +kernel, by decide +kernel⟩, List.mem_of_getElem? (i := 234) (by decide +kernel), List.mem_of_getElem? (i := 538) (by decide +kernel), List.mem_of_getElem? (i := 539) (by decide +kernel)⟩
theorem lw_p20 : lw_okq (⟨"CellLisp$Machine", "areParameters", "(I)Z"⟩, 7) := ⟨⟨by decide +kernel, by decide +kernel⟩, List.mem_of_getElem? (i := 234) (by decide +kernel), List.mem_of_getElem? (i := 542) (by decide +kernel), List.mem_of_getElem? (i := 543) (by decide +kernel)⟩
theorem lw_p21 : lw_okq (⟨"CellLisp$Machine", "evaluateNaming", "(II)I"⟩, 7) := ⟨⟨by decide +kernel, by decide +kernel⟩, List.mem_of_getElem? (i := 234) (by decide +kernel), List.mem_of_getElem? (i := 551) (by decide +kernel), List.mem_of_getElem? (i := 552) (by decide +kernel)⟩
theorem lw_p22 : lw_okq (⟨"CellLisp$Machine", "giveBack", "()I"⟩, 7) := ⟨⟨by decide +kernel, by decide +kernel⟩, List.mem_of_getElem? (i := 234) (by decide +kernel), List.mem_of_getElem? (i := 555) (by decide +kernel), List.mem_of_getElem? (i := 556) (by decide +kernel)⟩
theorem lw_p23 : lw_okq (⟨"CellLisp$State", "hasTop", "()Z"⟩, 8) := ⟨⟨by decide +kernel, by decide +kernel⟩, List.mem_of_getElem? (i := 138) (by decide +kernel), List.mem_of_getElem? (i := 563) (by decide +kernel), List.mem_of_getElem? (i := 564) (by decide +kernel)⟩
theorem lw_p24 : lw_okq (⟨"CellLisp$Machine", "choose", "()I"⟩, 7) := ⟨⟨by decide +kernel, by decide +kernel⟩, List.mem_of_getElem? (i := 234) (by decide +kernel), List.mem_of_getElem? (i := 567) (by decide +kernel), List.mem_of_getElem? (i := 568) (by decide +kernel)⟩
theorem lw_p25 : lw_okq (⟨"CellLisp$Machine", "define", "()I"⟩, 7) := ⟨⟨by decide +kernel, by decide +kernel⟩, List.mem_of_getElem? (i := 234) (by decide +kernel), List.mem_of_getElem? (i := 583) (by decide +kernel), List.mem_of_getElem? (i := 584) (by decide +kernel)⟩
theorem lw_p26 : lw_okq (⟨"CellLisp$Machine", "assign", "()I"⟩, 7) := ⟨⟨by decide +kernel, by decide +kernel⟩, List.mem_of_getElem? (i := 234) (by decide +kernel), List.mem_of_getElem? (i := 591) (by decide +kernel), List.mem_of_getElem? (i := 592) (by decide +kernel)⟩
theorem lw_p27 : lw_okq (⟨"CellLisp$Machine", "keepValue", "()Z"⟩, 7) := ⟨⟨by decide +kernel, by decide +kernel⟩, List.mem_of_getElem? (i := 234) (by decide +kernel), List.mem_of_getElem? (i := 596) (by decide +kernel), List.mem_of_getElem? (i := 597) (by decide +kernel)⟩
theorem lw_p28 : lw_okq (⟨"CellLisp$Machine", "nextArgument", "()I"⟩, 7) := ⟨⟨by decide +kernel, by decide +kernel⟩, List.mem_of_getElem? (i := 234) (by decide +kernel), List.mem_of_getElem? (i := 609) (by decide +kernel), List.mem_of_getElem? (i := 610) (by decide +kernel)⟩
theorem lw_p29 : lw_okq (⟨"CellLisp$Machine", "apply", "()I"⟩, 7) := ⟨⟨by decide +kernel, by decide +kernel⟩, List.mem_of_getElem? (i := 234) (by decide +kernel), List.mem_of_getElem? (i := 617) (by decide +kernel), List.mem_of_getElem? (i := 618) (by decide +kernel)⟩
theorem lw_p30 : lw_okq (⟨"CellLisp$Machine", "faultOfCall", "(II)I"⟩, 7) := ⟨⟨by decide +kernel, by decide +kernel⟩, List.mem_of_getElem? (i := 234) (by decide +kernel), List.mem_of_getElem? (i := 621) (by decide +kernel), List.mem_of_getElem? (i := 622) (by decide +kernel)⟩
theorem lw_p31 : lw_okq (⟨"CellLisp$Machine", "faultOfPrimitive", "(II)I"⟩, 7) := ⟨⟨by decide +kernel, by decide +kernel⟩, List.mem_of_getElem? (i := 234) (by decide +kernel), List.mem_of_getElem? (i := 626) (by decide +kernel), List.mem_of_getElem? (i := 627) (by decide +kernel)⟩
def lw_privs_2 : List (MethodName × Nat) := [(⟨"CellLisp$Machine", "part", "(I)I"⟩, 7), (⟨"CellLisp$Machine", "evaluateIf", "()I"⟩, 7), (⟨"CellLisp$Machine", "evaluateUnder", "(IIII)I"⟩, 7), (⟨"CellLisp$Machine", "evaluateLambda", "()I"⟩, 7), (⟨"CellLisp$Machine", "areParameters", "(I)Z"⟩, 7), (⟨"CellLisp$Machine", "evaluateNaming", "(II)I"⟩, 7), (⟨"CellLisp$Machine", "giveBack", "()I"⟩, 7), (⟨"CellLisp$State", "hasTop", "()Z"⟩, 8), (⟨"CellLisp$Machine", "choose", "()I"⟩, 7), (⟨"CellLisp$Machine", "define", "()I"⟩, 7), (⟨"CellLisp$Machine", "assign", "()I"⟩, 7), (⟨"CellLisp$Machine", "keepValue", "()Z"⟩, 7), (⟨"CellLisp$Machine", "nextArgument", "()I"⟩, 7), (⟨"CellLisp$Machine", "apply", "()I"⟩, 7), (⟨"CellLisp$Machine", "faultOfCall", "(II)I"⟩, 7), (⟨"CellLisp$Machine", "faultOfPrimitive", "(II)I"⟩, 7)]
theorem lw_r2 : ∀ q ∈ lw_privs_2, lw_okq q := List.forall_mem_cons.mpr ⟨lw_p16, List.forall_mem_cons.mpr ⟨lw_p17, List.forall_mem_cons.mpr ⟨lw_p18, List.forall_mem_cons.mpr ⟨lw_p19, List.forall_mem_cons.mpr ⟨lw_p20, List.forall_mem_cons.mpr ⟨lw_p21, List.forall_mem_cons.mpr ⟨lw_p22, List.forall_mem_cons.mpr ⟨lw_p23, List.forall_mem_cons.mpr ⟨lw_p24, List.forall_mem_cons.mpr ⟨lw_p25, List.forall_mem_cons.mpr ⟨lw_p26, List.forall_mem_cons.mpr ⟨lw_p27, List.forall_mem_cons.mpr ⟨lw_p28, List.forall_mem_cons.mpr ⟨lw_p29, List.forall_mem_cons.mpr ⟨lw_p30, List.forall_mem_cons.mpr ⟨lw_p31, fun _ h => absurd h List.not_mem_nil⟩⟩⟩⟩⟩⟩⟩⟩⟩⟩⟩⟩⟩⟩⟩⟩
theorem lw_p32 : lw_okq (⟨"CellLisp$Machine", "boundEnvironment", "(III)I"⟩, 7) := ⟨⟨by decide +kernel, by decide +kernel⟩, List.mem_of_getElem? (i := 234) (by decide +kernel), List.mem_of_getElem? (i := 636) (by decide +kernel), List.mem_of_getElem? (i := 637) (by decide +kernel)⟩
theorem lw_p33 : lw_okq (⟨"CellLisp$Machine", "primitiveResult", "(III)I"⟩, 7) := ⟨⟨by decide +kernel, by decide +kernel⟩, List.mem_of_getElem? (i := 234) (by decide +kernel), List.mem_of_getElem? (i := 644) (by decide +kernel), List.mem_of_getElem? (i := 645) (by decide +kernel)⟩
theorem lw_p34 : lw_okq (⟨"CellLisp$Machine", "listOf", "(II)I"⟩, 7) := ⟨⟨by decide +kernel, by decide +kernel⟩, List.mem_of_getElem? (i := 234) (by decide +kernel), List.mem_of_getElem? (i := 652) (by decide +kernel), List.mem_of_getElem? (i := 653) (by decide +kernel)⟩
theorem lw_p35 : lw_okq (⟨"CellLisp$Printer", "print", "(II)V"⟩, 3) := ⟨⟨by decide +kernel, by decide +kernel⟩, List.mem_of_getElem? (i := 271) (by decide +kernel), List.mem_of_getElem? (i := 660) (by decide +kernel), List.mem_of_getElem? (i := 661) (by decide +kernel)⟩
theorem lw_p36 : lw_okq (⟨"CellLisp$Printer", "printNumber", "(I)V"⟩, 3) := ⟨⟨by decide +kernel, by decide +kernel⟩, List.mem_of_getElem? (i := 271) (by decide +kernel), List.mem_of_getElem? (i := 666) (by decide +kernel), List.mem_of_getElem? (i := 667) (by decide +kernel)⟩
theorem lw_p37 : lw_okq (⟨"CellLisp$Printer", "printName", "(J)V"⟩, 3) := ⟨⟨by decide +kernel, by decide +kernel⟩, List.mem_of_getElem? (i := 271) (by decide +kernel), List.mem_of_getElem? (i := 682) (by decide +kernel), List.mem_of_getElem? (i := 683) (by decide +kernel)⟩
theorem lw_p38 : lw_okq (⟨"CellLisp$Printer", "printText", "(Ljava/lang/String;)V"⟩, 3) := ⟨⟨by decide +kernel, by decide +kernel⟩, List.mem_of_getElem? (i := 271) (by decide +kernel), List.mem_of_getElem? (i := 688) (by decide +kernel), List.mem_of_getElem? (i := 689) (by decide +kernel)⟩
theorem lw_p39 : lw_okq (⟨"CellLisp$Printer", "printList", "(II)V"⟩, 3) := ⟨⟨by decide +kernel, by decide +kernel⟩, List.mem_of_getElem? (i := 271) (by decide +kernel), List.mem_of_getElem? (i := 694) (by decide +kernel), List.mem_of_getElem? (i := 695) (by decide +kernel)⟩
theorem lw_p40 : lw_okq (⟨"CellLisp$Machine", "endForm", "()V"⟩, 7) := ⟨⟨by decide +kernel, by decide +kernel⟩, List.mem_of_getElem? (i := 234) (by decide +kernel), List.mem_of_getElem? (i := 709) (by decide +kernel), List.mem_of_getElem? (i := 710) (by decide +kernel)⟩
theorem lw_p41 : lw_okq (⟨"CellLispModel", "word", "(IIIIII)V"⟩, 31) := ⟨⟨by decide +kernel, by decide +kernel⟩, List.mem_of_getElem? (i := 741) (by decide +kernel), List.mem_of_getElem? (i := 750) (by decide +kernel), List.mem_of_getElem? (i := 751) (by decide +kernel)⟩
theorem lw_p42 : lw_okq (⟨"CellLispModel", "reading", "()I"⟩, 31) := ⟨⟨by decide +kernel, by decide +kernel⟩, List.mem_of_getElem? (i := 741) (by decide +kernel), List.mem_of_getElem? (i := 857) (by decide +kernel), List.mem_of_getElem? (i := 858) (by decide +kernel)⟩
theorem lw_p43 : lw_okq (⟨"CellLispModel", "lookOver", "()I"⟩, 31) := ⟨⟨by decide +kernel, by decide +kernel⟩, List.mem_of_getElem? (i := 741) (by decide +kernel), List.mem_of_getElem? (i := 861) (by decide +kernel), List.mem_of_getElem? (i := 862) (by decide +kernel)⟩
theorem lw_p44 : lw_okq (⟨"CellLispModel", "skip", "(I)I"⟩, 31) := ⟨⟨by decide +kernel, by decide +kernel⟩, List.mem_of_getElem? (i := 741) (by decide +kernel), List.mem_of_getElem? (i := 865) (by decide +kernel), List.mem_of_getElem? (i := 866) (by decide +kernel)⟩
theorem lw_p45 : lw_okq (⟨"CellLispModel", "tokenEnd", "(I)I"⟩, 31) := ⟨⟨by decide +kernel, by decide +kernel⟩, List.mem_of_getElem? (i := 741) (by decide +kernel), List.mem_of_getElem? (i := 872) (by decide +kernel), List.mem_of_getElem? (i := 873) (by decide +kernel)⟩
theorem lw_p46 : lw_okq (⟨"CellLispModel", "meet", "(II)Z"⟩, 31) := ⟨⟨by decide +kernel, by decide +kernel⟩, List.mem_of_getElem? (i := 741) (by decide +kernel), List.mem_of_getElem? (i := 879) (by decide +kernel), List.mem_of_getElem? (i := 880) (by decide +kernel)⟩
theorem lw_p47 : lw_okq (⟨"CellLispModel", "isFigure", "(II)Z"⟩, 31) := ⟨⟨by decide +kernel, by decide +kernel⟩, List.mem_of_getElem? (i := 741) (by decide +kernel), List.mem_of_getElem? (i := 883) (by decide +kernel), List.mem_of_getElem? (i := 884) (by decide +kernel)⟩
def lw_privs_3 : List (MethodName × Nat) := [(⟨"CellLisp$Machine", "boundEnvironment", "(III)I"⟩, 7), (⟨"CellLisp$Machine", "primitiveResult", "(III)I"⟩, 7), (⟨"CellLisp$Machine", "listOf", "(II)I"⟩, 7), (⟨"CellLisp$Printer", "print", "(II)V"⟩, 3), (⟨"CellLisp$Printer", "printNumber", "(I)V"⟩, 3), (⟨"CellLisp$Printer", "printName", "(J)V"⟩, 3), (⟨"CellLisp$Printer", "printText", "(Ljava/lang/String;)V"⟩, 3), (⟨"CellLisp$Printer", "printList", "(II)V"⟩, 3), (⟨"CellLisp$Machine", "endForm", "()V"⟩, 7), (⟨"CellLispModel", "word", "(IIIIII)V"⟩, 31), (⟨"CellLispModel", "reading", "()I"⟩, 31), (⟨"CellLispModel", "lookOver", "()I"⟩, 31), (⟨"CellLispModel", "skip", "(I)I"⟩, 31), (⟨"CellLispModel", "tokenEnd", "(I)I"⟩, 31), (⟨"CellLispModel", "meet", "(II)Z"⟩, 31), (⟨"CellLispModel", "isFigure", "(II)Z"⟩, 31)]
theorem lw_r3 : ∀ q ∈ lw_privs_3, lw_okq q := List.forall_mem_cons.mpr ⟨lw_p32, List.forall_mem_cons.mpr ⟨lw_p33, List.forall_mem_cons.mpr ⟨lw_p34, List.forall_mem_cons.mpr ⟨lw_p35, List.forall_mem_cons.mpr ⟨lw_p36, List.forall_mem_cons.mpr ⟨lw_p37, List.forall_mem_cons.mpr ⟨lw_p38, List.forall_mem_cons.mpr ⟨lw_p39, List.forall_mem_cons.mpr ⟨lw_p40, List.forall_mem_cons.mpr ⟨lw_p41, List.forall_mem_cons.mpr ⟨lw_p42, List.forall_mem_cons.mpr ⟨lw_p43, List.forall_mem_cons.mpr ⟨lw_p44, List.forall_mem_cons.mpr ⟨lw_p45, List.forall_mem_cons.mpr ⟨lw_p46, List.forall_mem_cons.mpr ⟨lw_p47, fun _ h => absurd h List.not_mem_nil⟩⟩⟩⟩⟩⟩⟩⟩⟩⟩⟩⟩⟩⟩⟩⟩
theorem lw_p48 : lw_okq (⟨"CellLispModel", "isNil", "(II)Z"⟩, 31) := ⟨⟨by decide +kernel, by decide +kernel⟩, List.mem_of_getElem? (i := 741) (by decide +kernel), List.mem_of_getElem? (i := 887) (by decide +kernel), List.mem_of_getElem? (i := 888) (by decide +kernel)⟩
theorem lw_p49 : lw_okq (⟨"CellLispModel", "symbolOf", "(II)I"⟩, 31) := ⟨⟨by decide +kernel, by decide +kernel⟩, List.mem_of_getElem? (i := 741) (by decide +kernel), List.mem_of_getElem? (i := 891) (by decide +kernel), List.mem_of_getElem? (i := 892) (by decide +kernel)⟩
theorem lw_p50 : lw_okq (⟨"CellLispModel", "room", "(I)Z"⟩, 31) := ⟨⟨by decide +kernel, by decide +kernel⟩, List.mem_of_getElem? (i := 741) (by decide +kernel), List.mem_of_getElem? (i := 895) (by decide +kernel), List.mem_of_getElem? (i := 896) (by decide +kernel)⟩
theorem lw_p51 : lw_okq (⟨"CellLispModel", "live", "()I"⟩, 31) := ⟨⟨by decide +kernel, by decide +kernel⟩, List.mem_of_getElem? (i := 741) (by decide +kernel), List.mem_of_getElem? (i := 899) (by decide +kernel), List.mem_of_getElem? (i := 900) (by decide +kernel)⟩
theorem lw_p52 : lw_okq (⟨"CellLispModel", "mark", "(I)V"⟩, 31) := ⟨⟨by decide +kernel, by decide +kernel⟩, List.mem_of_getElem? (i := 741) (by decide +kernel), List.mem_of_getElem? (i := 903) (by decide +kernel), List.mem_of_getElem? (i := 904) (by decide +kernel)⟩
theorem lw_p53 : lw_okq (⟨"CellLispModel", "read", "()V"⟩, 31) := ⟨⟨by decide +kernel, by decide +kernel⟩, List.mem_of_getElem? (i := 741) (by decide +kernel), List.mem_of_getElem? (i := 911) (by decide +kernel), List.mem_of_getElem? (i := 912) (by decide +kernel)⟩
theorem lw_p54 : lw_okq (⟨"CellLispModel", "arrived", "(II)V"⟩, 31) := ⟨⟨by decide +kernel, by decide +kernel⟩, List.mem_of_getElem? (i := 741) (by decide +kernel), List.mem_of_getElem? (i := 915) (by decide +kernel), List.mem_of_getElem? (i := 916) (by decide +kernel)⟩
theorem lw_p55 : lw_okq (⟨"CellLispModel", "pair", "(II)I"⟩, 31) := ⟨⟨by decide +kernel, by decide +kernel⟩, List.mem_of_getElem? (i := 741) (by decide +kernel), List.mem_of_getElem? (i := 920) (by decide +kernel), List.mem_of_getElem? (i := 921) (by decide +kernel)⟩
theorem lw_p56 : lw_okq (⟨"CellLispModel", "make", "(IIII)I"⟩, 31) := ⟨⟨by decide +kernel, by decide +kernel⟩, List.mem_of_getElem? (i := 741) (by decide +kernel), List.mem_of_getElem? (i := 924) (by decide +kernel), List.mem_of_getElem? (i := 925) (by decide +kernel)⟩
theorem lw_p57 : lw_okq (⟨"CellLispModel", "atom", "(II)I"⟩, 31) := ⟨⟨by decide +kernel, by decide +kernel⟩, List.mem_of_getElem? (i := 741) (by decide +kernel), List.mem_of_getElem? (i := 928) (by decide +kernel), List.mem_of_getElem? (i := 929) (by decide +kernel)⟩
theorem lw_p58 : lw_okq (⟨"CellLispModel", "figure", "(II)I"⟩, 31) := ⟨⟨by decide +kernel, by decide +kernel⟩, List.mem_of_getElem? (i := 741) (by decide +kernel), List.mem_of_getElem? (i := 932) (by decide +kernel), List.mem_of_getElem? (i := 933) (by decide +kernel)⟩
theorem lw_p59 : lw_okq (⟨"CellLispModel", "drop", "(I)V"⟩, 31) := ⟨⟨by decide +kernel, by decide +kernel⟩, List.mem_of_getElem? (i := 741) (by decide +kernel), List.mem_of_getElem? (i := 940) (by decide +kernel), List.mem_of_getElem? (i := 941) (by decide +kernel)⟩
theorem lw_p60 : lw_okq (⟨"CellLispModel", "back", "()I"⟩, 31) := ⟨⟨by decide +kernel, by decide +kernel⟩, List.mem_of_getElem? (i := 741) (by decide +kernel), List.mem_of_getElem? (i := 944) (by decide +kernel), List.mem_of_getElem? (i := 945) (by decide +kernel)⟩
theorem lw_p61 : lw_okq (⟨"CellLispModel", "print", "()V"⟩, 31) := ⟨⟨by decide +kernel, by decide +kernel⟩, List.mem_of_getElem? (i := 741) (by decide +kernel), List.mem_of_getElem? (i := 948) (by decide +kernel), List.mem_of_getElem? (i := 949) (by decide +kernel)⟩
theorem lw_p62 : lw_okq (⟨"CellLispModel", "begin", "(II)I"⟩, 31) := ⟨⟨by decide +kernel, by decide +kernel⟩, List.mem_of_getElem? (i := 741) (by decide +kernel), List.mem_of_getElem? (i := 952) (by decide +kernel), List.mem_of_getElem? (i := 953) (by decide +kernel)⟩
theorem lw_p63 : lw_okq (⟨"CellLispModel", "isPair", "(I)Z"⟩, 31) := ⟨⟨by decide +kernel, by decide +kernel⟩, List.mem_of_getElem? (i := 741) (by decide +kernel), List.mem_of_getElem? (i := 956) (by decide +kernel), List.mem_of_getElem? (i := 957) (by decide +kernel)⟩
def lw_privs_4 : List (MethodName × Nat) := [(⟨"CellLispModel", "isNil", "(II)Z"⟩, 31), (⟨"CellLispModel", "symbolOf", "(II)I"⟩, 31), (⟨"CellLispModel", "room", "(I)Z"⟩, 31), (⟨"CellLispModel", "live", "()I"⟩, 31), (⟨"CellLispModel", "mark", "(I)V"⟩, 31), (⟨"CellLispModel", "read", "()V"⟩, 31), (⟨"CellLispModel", "arrived", "(II)V"⟩, 31), (⟨"CellLispModel", "pair", "(II)I"⟩, 31), (⟨"CellLispModel", "make", "(IIII)I"⟩, 31), (⟨"CellLispModel", "atom", "(II)I"⟩, 31), (⟨"CellLispModel", "figure", "(II)I"⟩, 31), (⟨"CellLispModel", "drop", "(I)V"⟩, 31), (⟨"CellLispModel", "back", "()I"⟩, 31), (⟨"CellLispModel", "print", "()V"⟩, 31), (⟨"CellLispModel", "begin", "(II)I"⟩, 31), (⟨"CellLispModel", "isPair", "(I)Z"⟩, 31)]
theorem lw_r4 : ∀ q ∈ lw_privs_4, lw_okq q := List.forall_mem_cons.mpr ⟨lw_p48, List.forall_mem_cons.mpr ⟨lw_p49, List.forall_mem_cons.mpr ⟨lw_p50, List.forall_mem_cons.mpr ⟨lw_p51, List.forall_mem_cons.mpr ⟨lw_p52, List.forall_mem_cons.mpr ⟨lw_p53, List.forall_mem_cons.mpr ⟨lw_p54, List.forall_mem_cons.mpr ⟨lw_p55, List.forall_mem_cons.mpr ⟨lw_p56, List.forall_mem_cons.mpr ⟨lw_p57, List.forall_mem_cons.mpr ⟨lw_p58, List.forall_mem_cons.mpr ⟨lw_p59, List.forall_mem_cons.mpr ⟨lw_p60, List.forall_mem_cons.mpr ⟨lw_p61, List.forall_mem_cons.mpr ⟨lw_p62, List.forall_mem_cons.mpr ⟨lw_p63, fun _ h => absurd h List.not_mem_nil⟩⟩⟩⟩⟩⟩⟩⟩⟩⟩⟩⟩⟩⟩⟩⟩
theorem lw_p64 : lw_okq (⟨"CellLispModel", "putPlain", "(I)V"⟩, 31) := ⟨⟨by decide +kernel, by decide +kernel⟩, List.mem_of_getElem? (i := 741) (by decide +kernel), List.mem_of_getElem? (i := 960) (by decide +kernel), List.mem_of_getElem? (i := 961) (by decide +kernel)⟩
theorem lw_p65 : lw_okq (⟨"CellLispModel", "putNumber", "(I)V"⟩, 31) := ⟨⟨by decide +kernel, by decide +kernel⟩, List.mem_of_getElem? (i := 741) (by decide +kernel), List.mem_of_getElem? (i := 967) (by decide +kernel), List.mem_of_getElem? (i := 968) (by decide +kernel)⟩
theorem lw_p66 : lw_okq (⟨"CellLispModel", "put", "(I)V"⟩, 31) := ⟨⟨by decide +kernel, by decide +kernel⟩, List.mem_of_getElem? (i := 741) (by decide +kernel), List.mem_of_getElem? (i := 971) (by decide +kernel), List.mem_of_getElem? (i := 972) (by decide +kernel)⟩
theorem lw_p67 : lw_okq (⟨"CellLispModel", "putName", "(I)V"⟩, 31) := ⟨⟨by decide +kernel, by decide +kernel⟩, List.mem_of_getElem? (i := 741) (by decide +kernel), List.mem_of_getElem? (i := 978) (by decide +kernel), List.mem_of_getElem? (i := 979) (by decide +kernel)⟩
theorem lw_p68 : lw_okq (⟨"CellLispModel", "putDots", "()V"⟩, 31) := ⟨⟨by decide +kernel, by decide +kernel⟩, List.mem_of_getElem? (i := 741) (by decide +kernel), List.mem_of_getElem? (i := 982) (by decide +kernel), List.mem_of_getElem? (i := 983) (by decide +kernel)⟩
theorem lw_p69 : lw_okq (⟨"CellLispModel", "further", "(I)I"⟩, 31) := ⟨⟨by decide +kernel, by decide +kernel⟩, List.mem_of_getElem? (i := 741) (by decide +kernel), List.mem_of_getElem? (i := 986) (by decide +kernel), List.mem_of_getElem? (i := 987) (by decide +kernel)⟩
theorem lw_p70 : lw_okq (⟨"CellLispModel", "cdr", "(I)I"⟩, 31) := ⟨⟨by decide +kernel, by decide +kernel⟩, List.mem_of_getElem? (i := 741) (by decide +kernel), List.mem_of_getElem? (i := 990) (by decide +kernel), List.mem_of_getElem? (i := 991) (by decide +kernel)⟩
theorem lw_p71 : lw_okq (⟨"CellLispModel", "car", "(I)I"⟩, 31) := ⟨⟨by decide +kernel, by decide +kernel⟩, List.mem_of_getElem? (i := 741) (by decide +kernel), List.mem_of_getElem? (i := 994) (by decide +kernel), List.mem_of_getElem? (i := 995) (by decide +kernel)⟩
theorem lw_p72 : lw_okq (⟨"CellLispModel", "clearAll", "()V"⟩, 31) := ⟨⟨by decide +kernel, by decide +kernel⟩, List.mem_of_getElem? (i := 741) (by decide +kernel), List.mem_of_getElem? (i := 998) (by decide +kernel), List.mem_of_getElem? (i := 999) (by decide +kernel)⟩
theorem lw_p73 : lw_okq (⟨"CellLispModel", "argument", "(I)I"⟩, 31) := ⟨⟨by decide +kernel, by decide +kernel⟩, List.mem_of_getElem? (i := 741) (by decide +kernel), List.mem_of_getElem? (i := 1002) (by decide +kernel), List.mem_of_getElem? (i := 1003) (by decide +kernel)⟩
theorem lw_p74 : lw_okq (⟨"CellLispModel", "apply", "(I)I"⟩, 31) := ⟨⟨by decide +kernel, by decide +kernel⟩, List.mem_of_getElem? (i := 741) (by decide +kernel), List.mem_of_getElem? (i := 1006) (by decide +kernel), List.mem_of_getElem? (i := 1007) (by decide +kernel)⟩
theorem lw_p75 : lw_okq (⟨"CellLispModel", "lengthOf", "(I)I"⟩, 31) := ⟨⟨by decide +kernel, by decide +kernel⟩, List.mem_of_getElem? (i := 741) (by decide +kernel), List.mem_of_getElem? (i := 1010) (by decide +kernel), List.mem_of_getElem? (i := 1011) (by decide +kernel)⟩
theorem lw_p76 : lw_okq (⟨"CellLispModel", "at", "(II)I"⟩, 31) := ⟨⟨by decide +kernel, by decide +kernel⟩, List.mem_of_getElem? (i := 741) (by decide +kernel), List.mem_of_getElem? (i := 1014) (by decide +kernel), List.mem_of_getElem? (i := 1015) (by decide +kernel)⟩
theorem lw_p77 : lw_okq (⟨"CellLispModel", "isClosure", "(I)Z"⟩, 31) := ⟨⟨by decide +kernel, by decide +kernel⟩, List.mem_of_getElem? (i := 741) (by decide +kernel), List.mem_of_getElem? (i := 1018) (by decide +kernel), List.mem_of_getElem? (i := 1019) (by decide +kernel)⟩
theorem lw_p78 : lw_okq (⟨"CellLispModel", "enter", "(III)I"⟩, 31) := ⟨⟨by decide +kernel, by decide +kernel⟩, List.mem_of_getElem? (i := 741) (by decide +kernel), List.mem_of_getElem? (i := 1022) (by decide +kernel), List.mem_of_getElem? (i := 1023) (by decide +kernel)⟩
theorem lw_p79 : lw_okq (⟨"CellLispModel", "go", "(II)I"⟩, 31) := ⟨⟨by decide +kernel, by decide +kernel⟩, List.mem_of_getElem? (i := 741) (by decide +kernel), List.mem_of_getElem? (i := 1026) (by decide +kernel), List.mem_of_getElem? (i := 1027) (by decide +kernel)⟩
def lw_privs_5 : List (MethodName × Nat) := [(⟨"CellLispModel", "putPlain", "(I)V"⟩, 31), (⟨"CellLispModel", "putNumber", "(I)V"⟩, 31), (⟨"CellLispModel", "put", "(I)V"⟩, 31), (⟨"CellLispModel", "putName", "(I)V"⟩, 31), (⟨"CellLispModel", "putDots", "()V"⟩, 31), (⟨"CellLispModel", "further", "(I)I"⟩, 31), (⟨"CellLispModel", "cdr", "(I)I"⟩, 31), (⟨"CellLispModel", "car", "(I)I"⟩, 31), (⟨"CellLispModel", "clearAll", "()V"⟩, 31), (⟨"CellLispModel", "argument", "(I)I"⟩, 31), (⟨"CellLispModel", "apply", "(I)I"⟩, 31), (⟨"CellLispModel", "lengthOf", "(I)I"⟩, 31), (⟨"CellLispModel", "at", "(II)I"⟩, 31), (⟨"CellLispModel", "isClosure", "(I)Z"⟩, 31), (⟨"CellLispModel", "enter", "(III)I"⟩, 31), (⟨"CellLispModel", "go", "(II)I"⟩, 31)]
theorem lw_r5 : ∀ q ∈ lw_privs_5, lw_okq q := List.forall_mem_cons.mpr ⟨lw_p64, List.forall_mem_cons.mpr ⟨lw_p65, List.forall_mem_cons.mpr ⟨lw_p66, List.forall_mem_cons.mpr ⟨lw_p67, List.forall_mem_cons.mpr ⟨lw_p68, List.forall_mem_cons.mpr ⟨lw_p69, List.forall_mem_cons.mpr ⟨lw_p70, List.forall_mem_cons.mpr ⟨lw_p71, List.forall_mem_cons.mpr ⟨lw_p72, List.forall_mem_cons.mpr ⟨lw_p73, List.forall_mem_cons.mpr ⟨lw_p74, List.forall_mem_cons.mpr ⟨lw_p75, List.forall_mem_cons.mpr ⟨lw_p76, List.forall_mem_cons.mpr ⟨lw_p77, List.forall_mem_cons.mpr ⟨lw_p78, List.forall_mem_cons.mpr ⟨lw_p79, fun _ h => absurd h List.not_mem_nil⟩⟩⟩⟩⟩⟩⟩⟩⟩⟩⟩⟩⟩⟩⟩⟩
theorem lw_p80 : lw_okq (⟨"CellLispModel", "listed", "(II)I"⟩, 31) := ⟨⟨by decide +kernel, by decide +kernel⟩, List.mem_of_getElem? (i := 741) (by decide +kernel), List.mem_of_getElem? (i := 1030) (by decide +kernel), List.mem_of_getElem? (i := 1031) (by decide +kernel)⟩
theorem lw_p81 : lw_okq (⟨"CellLispModel", "done", "(I)I"⟩, 31) := ⟨⟨by decide +kernel, by decide +kernel⟩, List.mem_of_getElem? (i := 741) (by decide +kernel), List.mem_of_getElem? (i := 1034) (by decide +kernel), List.mem_of_getElem? (i := 1035) (by decide +kernel)⟩
theorem lw_p82 : lw_okq (⟨"CellLispModel", "give", "(I)I"⟩, 31) := ⟨⟨by decide +kernel, by decide +kernel⟩, List.mem_of_getElem? (i := 741) (by decide +kernel), List.mem_of_getElem? (i := 1038) (by decide +kernel), List.mem_of_getElem? (i := 1039) (by decide +kernel)⟩
theorem lw_p83 : lw_okq (⟨"CellLispModel", "binding", "(II)I"⟩, 31) := ⟨⟨by decide +kernel, by decide +kernel⟩, List.mem_of_getElem? (i := 741) (by decide +kernel), List.mem_of_getElem? (i := 1042) (by decide +kernel), List.mem_of_getElem? (i := 1043) (by decide +kernel)⟩
theorem lw_p84 : lw_okq (⟨"CellLispModel", "evaluate", "()I"⟩, 31) := ⟨⟨by decide +kernel, by decide +kernel⟩, List.mem_of_getElem? (i := 741) (by decide +kernel), List.mem_of_getElem? (i := 1046) (by decide +kernel), List.mem_of_getElem? (i := 1047) (by decide +kernel)⟩
theorem lw_p85 : lw_okq (⟨"CellLispModel", "lookUp", "()I"⟩, 31) := ⟨⟨by decide +kernel, by decide +kernel⟩, List.mem_of_getElem? (i := 741) (by decide +kernel), List.mem_of_getElem? (i := 1050) (by decide +kernel), List.mem_of_getElem? (i := 1051) (by decide +kernel)⟩
theorem lw_p86 : lw_okq (⟨"CellLispModel", "special", "(I)I"⟩, 31) := ⟨⟨by decide +kernel, by decide +kernel⟩, List.mem_of_getElem? (i := 741) (by decide +kernel), List.mem_of_getElem? (i := 1054) (by decide +kernel), List.mem_of_getElem? (i := 1055) (by decide +kernel)⟩
theorem lw_p87 : lw_okq (⟨"CellLispModel", "areParameters", "(I)Z"⟩, 31) := ⟨⟨by decide +kernel, by decide +kernel⟩, List.mem_of_getElem? (i := 741) (by decide +kernel), List.mem_of_getElem? (i := 1058) (by decide +kernel), List.mem_of_getElem? (i := 1059) (by decide +kernel)⟩
theorem lw_p88 : lw_okq (⟨"CellLispModel", "push", "(III)I"⟩, 31) := ⟨⟨by decide +kernel, by decide +kernel⟩, List.mem_of_getElem? (i := 741) (by decide +kernel), List.mem_of_getElem? (i := 1062) (by decide +kernel), List.mem_of_getElem? (i := 1063) (by decide +kernel)⟩
def lw_privs_6 : List (MethodName × Nat) := [(⟨"CellLispModel", "listed", "(II)I"⟩, 31), (⟨"CellLispModel", "done", "(I)I"⟩, 31), (⟨"CellLispModel", "give", "(I)I"⟩, 31), (⟨"CellLispModel", "binding", "(II)I"⟩, 31), (⟨"CellLispModel", "evaluate", "()I"⟩, 31), (⟨"CellLispModel", "lookUp", "()I"⟩, 31), (⟨"CellLispModel", "special", "(I)I"⟩, 31), (⟨"CellLispModel", "areParameters", "(I)Z"⟩, 31), (⟨"CellLispModel", "push", "(III)I"⟩, 31)]
theorem lw_r6 : ∀ q ∈ lw_privs_6, lw_okq q := List.forall_mem_cons.mpr ⟨lw_p80, List.forall_mem_cons.mpr ⟨lw_p81, List.forall_mem_cons.mpr ⟨lw_p82, List.forall_mem_cons.mpr ⟨lw_p83, List.forall_mem_cons.mpr ⟨lw_p84, List.forall_mem_cons.mpr ⟨lw_p85, List.forall_mem_cons.mpr ⟨lw_p86, List.forall_mem_cons.mpr ⟨lw_p87, List.forall_mem_cons.mpr ⟨lw_p88, fun _ h => absurd h List.not_mem_nil⟩⟩⟩⟩⟩⟩⟩⟩⟩
def lw_privs : List (MethodName × Nat) := lw_privs_1 ++ (lw_privs_2 ++ (lw_privs_3 ++ (lw_privs_4 ++ (lw_privs_5 ++ (lw_privs_6)))))
def lw_tbl : List Cond := k2_sels lw_privs ++ tables_1
theorem lw_privs_ok : ∀ q ∈ lw_privs, lw_okq q := by
  show ∀ q ∈ lw_privs_1 ++ (lw_privs_2 ++ (lw_privs_3 ++ (lw_privs_4 ++ (lw_privs_5 ++ (lw_privs_6))))), lw_okq q
  exact List.forall_mem_append.mpr ⟨lw_r1, List.forall_mem_append.mpr ⟨lw_r2, List.forall_mem_append.mpr ⟨lw_r3, List.forall_mem_append.mpr ⟨lw_r4, List.forall_mem_append.mpr ⟨lw_r5, lw_r6⟩⟩⟩⟩⟩
end
section
def R_CL : String := "CellLisp"
def R_Text : String := "CellLisp$Text"
def R_Output : String := "CellLisp$Output"
def R_Symbols : String := "CellLisp$Symbols"
def R_State : String := "CellLisp$State"
def R_Room : String := "CellLisp$Room"
def R_Machine : String := "CellLisp$Machine"
def R_Reader : String := "CellLisp$Reader"
def R_Printer : String := "CellLisp$Printer"
def R_Md : String := "CellLispModel"
def R_Value : String := "CellLisp$Value"
def R_Law : String := "CellLispLaw"
def T_CL : u_T := fun k => match k with
  | 0 => (R_CL, "text", "LCellLisp$Text;", true)
  | 1 => (R_CL, "output", "LCellLisp$Output;", true)
  | 2 => (R_CL, "symbols", "LCellLisp$Symbols;", true)
  | 3 => (R_CL, "state", "LCellLisp$State;", true)
  | 4 => (R_CL, "room", "LCellLisp$Room;", true)
  | _ => (R_CL, "machine", "LCellLisp$Machine;", true)
def t_CL : Nat → FieldType := fun k => match k with
  | 0 => .object "CellLisp$Text"
  | 1 => .object "CellLisp$Output"
  | 2 => .object "CellLisp$Symbols"
  | 3 => .object "CellLisp$State"
  | 4 => .object "CellLisp$Room"
  | _ => .object "CellLisp$Machine"
theorem n_CL : ∀ a, a < 6 → ∀ b, b < 6 → a ≠ b → (T_CL a).2.1 ≠ (T_CL b).2.1 := by decide +kernel
theorem t_CL_ok : ∀ k, k < 6 → parseFieldDescriptor (T_CL k).2.2.1 = some (t_CL k) := by decide +kernel
def T_Text : u_T := fun k => match k with
  | 0 => (R_Text, "row", "[C", true)
  | _ => (R_Text, "size", "I", false)
def t_Text : Nat → FieldType := fun k => match k with
  | 0 => .array .char
  | _ => .int
theorem n_Text : ∀ a, a < 2 → ∀ b, b < 2 → a ≠ b → (T_Text a).2.1 ≠ (T_Text b).2.1 := by decide +kernel
theorem t_Text_ok : ∀ k, k < 2 → parseFieldDescriptor (T_Text k).2.2.1 = some (t_Text k) := by decide +kernel
def T_Output : u_T := fun k => match k with
  | 0 => (R_Output, "row", "[C", true)
  | _ => (R_Output, "size", "I", false)
def t_Output : Nat → FieldType := fun k => match k with
  | 0 => .array .char
  | _ => .int
theorem n_Output : ∀ a, a < 2 → ∀ b, b < 2 → a ≠ b → (T_Output a).2.1 ≠ (T_Output b).2.1 := by decide +kernel
theorem t_Output_ok : ∀ k, k < 2 → parseFieldDescriptor (T_Output k).2.2.1 = some (t_Output k) := by decide +kernel
def T_Symbols : u_T := fun k => match k with
  | 0 => (R_Symbols, "names", "[J", true)
  | 1 => (R_Symbols, "globals", "[I", true)
  | _ => (R_Symbols, "known", "I", false)
def t_Symbols : Nat → FieldType := fun k => match k with
  | 0 => .array .long
  | 1 => .array .int
  | _ => .int
theorem n_Symbols : ∀ a, a < 3 → ∀ b, b < 3 → a ≠ b → (T_Symbols a).2.1 ≠ (T_Symbols b).2.1 := by decide +kernel
theorem t_Symbols_ok : ∀ k, k < 3 → parseFieldDescriptor (T_Symbols k).2.2.1 = some (t_Symbols k) := by decide +kernel
def T_State : u_T := fun k => match k with
  | 0 => (R_State, "value", "I", false)
  | 1 => (R_State, "environment", "I", false)
  | 2 => (R_State, "evaluating", "Z", false)
  | 3 => (R_State, "depth", "I", false)
  | 4 => (R_State, "kinds", "[I", true)
  | 5 => (R_State, "as", "[I", true)
  | 6 => (R_State, "bs", "[I", true)
  | _ => (R_State, "cs", "[I", true)
def t_State : Nat → FieldType := fun k => match k with
  | 0 => .int
  | 1 => .int
  | 2 => .boolean
  | 3 => .int
  | 4 => .array .int
  | 5 => .array .int
  | 6 => .array .int
  | _ => .array .int
theorem n_State : ∀ a, a < 8 → ∀ b, b < 8 → a ≠ b → (T_State a).2.1 ≠ (T_State b).2.1 := by decide +kernel
theorem t_State_ok : ∀ k, k < 8 → parseFieldDescriptor (T_State k).2.2.1 = some (t_State k) := by decide +kernel
def T_Room : u_T := fun k => match k with
  | 0 => (R_Room, "size", "I", true)
  | 1 => (R_Room, "slots", "I", true)
  | 2 => (R_Room, "firsts", "[I", true)
  | 3 => (R_Room, "seconds", "[I", true)
  | 4 => (R_Room, "thirds", "[I", true)
  | 5 => (R_Room, "reached", "[Z", true)
  | 6 => (R_Room, "waiting", "[I", true)
  | 7 => (R_Room, "free", "[I", true)
  | 8 => (R_Room, "waitingSize", "I", false)
  | 9 => (R_Room, "freeSize", "I", false)
  | 10 => (R_Room, "used", "I", false)
  | 11 => (R_Room, "state", "LCellLisp$State;", true)
  | _ => (R_Room, "symbols", "LCellLisp$Symbols;", true)
def t_Room : Nat → FieldType := fun k => match k with
  | 0 => .int
  | 1 => .int
  | 2 => .array .int
  | 3 => .array .int
  | 4 => .array .int
  | 5 => .array .boolean
  | 6 => .array .int
  | 7 => .array .int
  | 8 => .int
  | 9 => .int
  | 10 => .int
  | 11 => .object "CellLisp$State"
  | _ => .object "CellLisp$Symbols"
theorem n_Room : ∀ a, a < 13 → ∀ b, b < 13 → a ≠ b → (T_Room a).2.1 ≠ (T_Room b).2.1 := by decide +kernel
theorem t_Room_ok : ∀ k, k < 13 → parseFieldDescriptor (T_Room k).2.2.1 = some (t_Room k) := by decide +kernel
def T_Machine : u_T := fun k => match k with
  | 0 => (R_Machine, "state", "LCellLisp$State;", true)
  | 1 => (R_Machine, "room", "LCellLisp$Room;", true)
  | 2 => (R_Machine, "symbols", "LCellLisp$Symbols;", true)
  | 3 => (R_Machine, "reader", "LCellLisp$Reader;", true)
  | 4 => (R_Machine, "printer", "LCellLisp$Printer;", true)
  | 5 => (R_Machine, "underWay", "Z", false)
  | _ => (R_Machine, "steps", "I", false)
def t_Machine : Nat → FieldType := fun k => match k with
  | 0 => .object "CellLisp$State"
  | 1 => .object "CellLisp$Room"
  | 2 => .object "CellLisp$Symbols"
  | 3 => .object "CellLisp$Reader"
  | 4 => .object "CellLisp$Printer"
  | 5 => .boolean
  | _ => .int
theorem n_Machine : ∀ a, a < 7 → ∀ b, b < 7 → a ≠ b → (T_Machine a).2.1 ≠ (T_Machine b).2.1 := by decide +kernel
theorem t_Machine_ok : ∀ k, k < 7 → parseFieldDescriptor (T_Machine k).2.2.1 = some (t_Machine k) := by decide +kernel
def T_Reader : u_T := fun k => match k with
  | 0 => (R_Reader, "text", "LCellLisp$Text;", true)
  | 1 => (R_Reader, "symbols", "LCellLisp$Symbols;", true)
  | 2 => (R_Reader, "room", "LCellLisp$Room;", true)
  | 3 => (R_Reader, "end", "I", false)
  | 4 => (R_Reader, "cells", "I", false)
  | 5 => (R_Reader, "form", "I", false)
  | 6 => (R_Reader, "heads", "[I", true)
  | 7 => (R_Reader, "lasts", "[I", true)
  | _ => (R_Reader, "quotes", "[Z", true)
def t_Reader : Nat → FieldType := fun k => match k with
  | 0 => .object "CellLisp$Text"
  | 1 => .object "CellLisp$Symbols"
  | 2 => .object "CellLisp$Room"
  | 3 => .int
  | 4 => .int
  | 5 => .int
  | 6 => .array .int
  | 7 => .array .int
  | _ => .array .boolean
theorem n_Reader : ∀ a, a < 9 → ∀ b, b < 9 → a ≠ b → (T_Reader a).2.1 ≠ (T_Reader b).2.1 := by decide +kernel
theorem t_Reader_ok : ∀ k, k < 9 → parseFieldDescriptor (T_Reader k).2.2.1 = some (t_Reader k) := by decide +kernel
def T_Printer : u_T := fun k => match k with
  | 0 => (R_Printer, "output", "LCellLisp$Output;", true)
  | 1 => (R_Printer, "symbols", "LCellLisp$Symbols;", true)
  | _ => (R_Printer, "room", "LCellLisp$Room;", true)
def t_Printer : Nat → FieldType := fun k => match k with
  | 0 => .object "CellLisp$Output"
  | 1 => .object "CellLisp$Symbols"
  | _ => .object "CellLisp$Room"
theorem n_Printer : ∀ a, a < 3 → ∀ b, b < 3 → a ≠ b → (T_Printer a).2.1 ≠ (T_Printer b).2.1 := by decide +kernel
theorem t_Printer_ok : ∀ k, k < 3 → parseFieldDescriptor (T_Printer k).2.2.1 = some (t_Printer k) := by decide +kernel
def T_Md : u_T := fun k => match k with
  | 0 => (R_Md, "thrown", "I", false)
  | 1 => (R_Md, "size", "I", true)
  | 2 => (R_Md, "cells", "[I", true)
  | 3 => (R_Md, "first", "[I", true)
  | 4 => (R_Md, "second", "[I", true)
  | 5 => (R_Md, "third", "[I", true)
  | 6 => (R_Md, "used", "[Z", true)
  | 7 => (R_Md, "kind", "[I", true)
  | 8 => (R_Md, "frameA", "[I", true)
  | 9 => (R_Md, "frameB", "[I", true)
  | 10 => (R_Md, "frameC", "[I", true)
  | 11 => (R_Md, "frames", "I", false)
  | 12 => (R_Md, "known", "I", false)
  | 13 => (R_Md, "names", "[C", true)
  | 14 => (R_Md, "globals", "[I", true)
  | 15 => (R_Md, "value", "I", false)
  | 16 => (R_Md, "scope", "I", false)
  | 17 => (R_Md, "under", "Z", false)
  | 18 => (R_Md, "returns", "Z", false)
  | 19 => (R_Md, "steps", "I", false)
  | 20 => (R_Md, "fed", "I", false)
  | 21 => (R_Md, "text", "[C", true)
  | 22 => (R_Md, "waits", "I", false)
  | 23 => (R_Md, "out", "[C", true)
  | 24 => (R_Md, "openFirst", "[I", true)
  | 25 => (R_Md, "openLast", "[I", true)
  | 26 => (R_Md, "quoted", "[Z", true)
  | 27 => (R_Md, "left", "[I", true)
  | 28 => (R_Md, "things", "[I", true)
  | 29 => (R_Md, "end", "I", false)
  | _ => (R_Md, "needs", "I", false)
def t_Md : Nat → FieldType := fun k => match k with
  | 0 => .int
  | 1 => .int
  | 2 => .array .int
  | 3 => .array .int
  | 4 => .array .int
  | 5 => .array .int
  | 6 => .array .boolean
  | 7 => .array .int
  | 8 => .array .int
  | 9 => .array .int
  | 10 => .array .int
  | 11 => .int
  | 12 => .int
  | 13 => .array .char
  | 14 => .array .int
  | 15 => .int
  | 16 => .int
  | 17 => .boolean
  | 18 => .boolean
  | 19 => .int
  | 20 => .int
  | 21 => .array .char
  | 22 => .int
  | 23 => .array .char
  | 24 => .array .int
  | 25 => .array .int
  | 26 => .array .boolean
  | 27 => .array .int
  | 28 => .array .int
  | 29 => .int
  | _ => .int
theorem n_Md : ∀ a, a < 31 → ∀ b, b < 31 → a ≠ b → (T_Md a).2.1 ≠ (T_Md b).2.1 := by decide +kernel
theorem t_Md_ok : ∀ k, k < 31 → parseFieldDescriptor (T_Md k).2.2.1 = some (t_Md k) := by decide +kernel
abbrev vwCl : List vw_C := [(R_CL, T_CL, 6), (R_Text, T_Text, 2), (R_Output, T_Output, 2), (R_Symbols, T_Symbols, 3), (R_State, T_State, 8), (R_Room, T_Room, 13), (R_Machine, T_Machine, 7), (R_Reader, T_Reader, 9), (R_Printer, T_Printer, 3), (R_Md, T_Md, 31)]
abbrev k_CL_init : ByteArray := prog_1_method_1_code
def y_CL_init : MethodName := ⟨R_CL, "<init>", "(I)V"⟩
abbrev k_CL_feed : ByteArray := prog_1_method_2_code
def y_CL_feed : MethodName := ⟨R_CL, "feed", "(II)Z"⟩
abbrev k_CL_run : ByteArray := prog_1_method_3_code
def y_CL_run : MethodName := ⟨R_CL, "run", "(I)I"⟩
abbrev k_CL_outSize : ByteArray := prog_1_method_4_code
def y_CL_outSize : MethodName := ⟨R_CL, "outSize", "()I"⟩
abbrev k_CL_out : ByteArray := prog_1_method_5_code
def y_CL_out : MethodName := ⟨R_CL, "out", "(I)I"⟩
abbrev k_CL_clearOut : ByteArray := prog_1_method_6_code
def y_CL_clearOut : MethodName := ⟨R_CL, "clearOut", "()V"⟩
abbrev k_CL_liveCells : ByteArray := prog_1_method_7_code
def y_CL_liveCells : MethodName := ⟨R_CL, "liveCells", "()I"⟩
abbrev k_CL_count : ByteArray := prog_1_method_8_code
def y_CL_count : MethodName := ⟨R_CL, "count", "(I)I"⟩
abbrev k_Text_init : ByteArray := prog_9_method_1_code
def y_Text_init : MethodName := ⟨R_Text, "<init>", "()V"⟩
abbrev k_Text_append : ByteArray := prog_9_method_2_code
def y_Text_append : MethodName := ⟨R_Text, "append", "(II)Z"⟩
abbrev k_Text_at : ByteArray := prog_9_method_3_code
def y_Text_at : MethodName := ⟨R_Text, "at", "(I)C"⟩
abbrev k_Text_drop : ByteArray := prog_9_method_4_code
def y_Text_drop : MethodName := ⟨R_Text, "drop", "(I)V"⟩
abbrev k_Text_pieceEnd : ByteArray := prog_9_method_5_code
def y_Text_pieceEnd : MethodName := ⟨R_Text, "pieceEnd", "(I)I"⟩
abbrev k_Text_isNumber : ByteArray := prog_9_method_6_code
def y_Text_isNumber : MethodName := ⟨R_Text, "isNumber", "(II)Z"⟩
abbrev k_Text_number : ByteArray := prog_9_method_7_code
def y_Text_number : MethodName := ⟨R_Text, "number", "(II)I"⟩
abbrev k_Text_name : ByteArray := prog_9_method_8_code
def y_Text_name : MethodName := ⟨R_Text, "name", "(II)J"⟩
abbrev k_Text_isBlank : ByteArray := prog_9_method_9_code
def y_Text_isBlank : MethodName := ⟨R_Text, "isBlank", "(C)Z"⟩
abbrev k_Text_isOfWord : ByteArray := prog_9_method_10_code
def y_Text_isOfWord : MethodName := ⟨R_Text, "isOfWord", "(C)Z"⟩
abbrev k_Text_isCharacter : ByteArray := prog_9_method_11_code
def y_Text_isCharacter : MethodName := ⟨R_Text, "isCharacter", "(I)Z"⟩
abbrev k_Output_init : ByteArray := prog_3_method_1_code
def y_Output_init : MethodName := ⟨R_Output, "<init>", "()V"⟩
abbrev k_Output_isFull : ByteArray := prog_3_method_2_code
def y_Output_isFull : MethodName := ⟨R_Output, "isFull", "()Z"⟩
abbrev k_Output_put : ByteArray := prog_3_method_3_code
def y_Output_put : MethodName := ⟨R_Output, "put", "(C)V"⟩
abbrev k_Output_at : ByteArray := prog_3_method_4_code
def y_Output_at : MethodName := ⟨R_Output, "at", "(I)I"⟩
abbrev k_Symbols_init : ByteArray := prog_8_method_1_code
def y_Symbols_init : MethodName := ⟨R_Symbols, "<init>", "()V"⟩
abbrev k_Symbols_find : ByteArray := prog_8_method_2_code
def y_Symbols_find : MethodName := ⟨R_Symbols, "find", "(J)I"⟩
abbrev k_Symbols_learn : ByteArray := prog_8_method_3_code
def y_Symbols_learn : MethodName := ⟨R_Symbols, "learn", "(J)Z"⟩
abbrev k_Symbols_name : ByteArray := prog_8_method_4_code
def y_Symbols_name : MethodName := ⟨R_Symbols, "name", "(I)J"⟩
abbrev k_Symbols_global : ByteArray := prog_8_method_5_code
def y_Symbols_global : MethodName := ⟨R_Symbols, "global", "(I)I"⟩
abbrev k_Symbols_setGlobal : ByteArray := prog_8_method_6_code
def y_Symbols_setGlobal : MethodName := ⟨R_Symbols, "setGlobal", "(II)V"⟩
abbrev k_State_init : ByteArray := prog_7_method_1_code
def y_State_init : MethodName := ⟨R_State, "<init>", "()V"⟩
abbrev k_State_push : ByteArray := prog_7_method_2_code
def y_State_push : MethodName := ⟨R_State, "push", "(III)Z"⟩
abbrev k_State_pop : ByteArray := prog_7_method_3_code
def y_State_pop : MethodName := ⟨R_State, "pop", "()V"⟩
abbrev k_State_kind : ByteArray := prog_7_method_4_code
def y_State_kind : MethodName := ⟨R_State, "kind", "()I"⟩
abbrev k_State_a : ByteArray := prog_7_method_5_code
def y_State_a : MethodName := ⟨R_State, "a", "()I"⟩
abbrev k_State_b : ByteArray := prog_7_method_6_code
def y_State_b : MethodName := ⟨R_State, "b", "()I"⟩
abbrev k_State_c : ByteArray := prog_7_method_7_code
def y_State_c : MethodName := ⟨R_State, "c", "()I"⟩
abbrev k_State_setA : ByteArray := prog_7_method_8_code
def y_State_setA : MethodName := ⟨R_State, "setA", "(I)V"⟩
abbrev k_State_setC : ByteArray := prog_7_method_9_code
def y_State_setC : MethodName := ⟨R_State, "setC", "(I)V"⟩
abbrev k_State_hasTop : ByteArray := prog_7_method_10_code
def y_State_hasTop : MethodName := ⟨R_State, "hasTop", "()Z"⟩
abbrev k_Room_init : ByteArray := prog_6_method_1_code
def y_Room_init : MethodName := ⟨R_Room, "<init>", "(ILCellLisp$State;LCellLisp$Symbols;)V"⟩
abbrev k_Room_hasFor : ByteArray := prog_6_method_2_code
def y_Room_hasFor : MethodName := ⟨R_Room, "hasFor", "(I)Z"⟩
abbrev k_Room_pair : ByteArray := prog_6_method_3_code
def y_Room_pair : MethodName := ⟨R_Room, "pair", "(II)I"⟩
abbrev k_Room_closure : ByteArray := prog_6_method_4_code
def y_Room_closure : MethodName := ⟨R_Room, "closure", "(III)I"⟩
abbrev k_Room_first : ByteArray := prog_6_method_5_code
def y_Room_first : MethodName := ⟨R_Room, "first", "(I)I"⟩
abbrev k_Room_second : ByteArray := prog_6_method_6_code
def y_Room_second : MethodName := ⟨R_Room, "second", "(I)I"⟩
abbrev k_Room_third : ByteArray := prog_6_method_7_code
def y_Room_third : MethodName := ⟨R_Room, "third", "(I)I"⟩
abbrev k_Room_setSecond : ByteArray := prog_6_method_8_code
def y_Room_setSecond : MethodName := ⟨R_Room, "setSecond", "(II)V"⟩
abbrev k_Room_length : ByteArray := prog_6_method_9_code
def y_Room_length : MethodName := ⟨R_Room, "length", "(I)I"⟩
abbrev k_Room_tail : ByteArray := prog_6_method_10_code
def y_Room_tail : MethodName := ⟨R_Room, "tail", "(II)I"⟩
abbrev k_Room_binding : ByteArray := prog_6_method_11_code
def y_Room_binding : MethodName := ⟨R_Room, "binding", "(II)I"⟩
abbrev k_Room_collect : ByteArray := prog_6_method_12_code
def y_Room_collect : MethodName := ⟨R_Room, "collect", "()V"⟩
abbrev k_Room_reach : ByteArray := prog_6_method_13_code
def y_Room_reach : MethodName := ⟨R_Room, "reach", "(I)V"⟩
abbrev k_Room_freeUnreached : ByteArray := prog_6_method_14_code
def y_Room_freeUnreached : MethodName := ⟨R_Room, "freeUnreached", "()V"⟩
abbrev k_Room_make : ByteArray := prog_6_method_15_code
def y_Room_make : MethodName := ⟨R_Room, "make", "(IIII)I"⟩
abbrev k_Room_isHere : ByteArray := prog_6_method_16_code
def y_Room_isHere : MethodName := ⟨R_Room, "isHere", "(I)Z"⟩
abbrev k_Machine_init : ByteArray := prog_2_method_1_code
def y_Machine_init : MethodName := ⟨R_Machine, "<init>", "(LCellLisp$State;LCellLisp$Room;LCellLisp$Symbols;LCellLisp$Reader;LCellLisp$Printer;)V"⟩
abbrev k_Machine_step : ByteArray := prog_2_method_2_code
def y_Machine_step : MethodName := ⟨R_Machine, "step", "()I"⟩
abbrev k_Machine_begin : ByteArray := prog_2_method_3_code
def y_Machine_begin : MethodName := ⟨R_Machine, "begin", "()I"⟩
abbrev k_Machine_endForm : ByteArray := prog_2_method_4_code
def y_Machine_endForm : MethodName := ⟨R_Machine, "endForm", "()V"⟩
abbrev k_Machine_evaluateNext : ByteArray := prog_2_method_5_code
def y_Machine_evaluateNext : MethodName := ⟨R_Machine, "evaluateNext", "(II)I"⟩
abbrev k_Machine_returnNext : ByteArray := prog_2_method_6_code
def y_Machine_returnNext : MethodName := ⟨R_Machine, "returnNext", "(I)I"⟩
abbrev k_Machine_evaluate : ByteArray := prog_2_method_7_code
def y_Machine_evaluate : MethodName := ⟨R_Machine, "evaluate", "()I"⟩
abbrev k_Machine_evaluateSymbol : ByteArray := prog_2_method_8_code
def y_Machine_evaluateSymbol : MethodName := ⟨R_Machine, "evaluateSymbol", "()I"⟩
abbrev k_Machine_evaluateUnder : ByteArray := prog_2_method_9_code
def y_Machine_evaluateUnder : MethodName := ⟨R_Machine, "evaluateUnder", "(IIII)I"⟩
abbrev k_Machine_part : ByteArray := prog_2_method_10_code
def y_Machine_part : MethodName := ⟨R_Machine, "part", "(I)I"⟩
abbrev k_Machine_evaluateQuote : ByteArray := prog_2_method_11_code
def y_Machine_evaluateQuote : MethodName := ⟨R_Machine, "evaluateQuote", "()I"⟩
abbrev k_Machine_evaluateIf : ByteArray := prog_2_method_12_code
def y_Machine_evaluateIf : MethodName := ⟨R_Machine, "evaluateIf", "()I"⟩
abbrev k_Machine_evaluateLambda : ByteArray := prog_2_method_13_code
def y_Machine_evaluateLambda : MethodName := ⟨R_Machine, "evaluateLambda", "()I"⟩
abbrev k_Machine_areParameters : ByteArray := prog_2_method_14_code
def y_Machine_areParameters : MethodName := ⟨R_Machine, "areParameters", "(I)Z"⟩
abbrev k_Machine_evaluateNaming : ByteArray := prog_2_method_15_code
def y_Machine_evaluateNaming : MethodName := ⟨R_Machine, "evaluateNaming", "(II)I"⟩
abbrev k_Machine_giveBack : ByteArray := prog_2_method_16_code
def y_Machine_giveBack : MethodName := ⟨R_Machine, "giveBack", "()I"⟩
abbrev k_Machine_choose : ByteArray := prog_2_method_17_code
def y_Machine_choose : MethodName := ⟨R_Machine, "choose", "()I"⟩
abbrev k_Machine_define : ByteArray := prog_2_method_18_code
def y_Machine_define : MethodName := ⟨R_Machine, "define", "()I"⟩
abbrev k_Machine_assign : ByteArray := prog_2_method_19_code
def y_Machine_assign : MethodName := ⟨R_Machine, "assign", "()I"⟩
abbrev k_Machine_keepValue : ByteArray := prog_2_method_20_code
def y_Machine_keepValue : MethodName := ⟨R_Machine, "keepValue", "()Z"⟩
abbrev k_Machine_nextArgument : ByteArray := prog_2_method_21_code
def y_Machine_nextArgument : MethodName := ⟨R_Machine, "nextArgument", "()I"⟩
abbrev k_Machine_apply : ByteArray := prog_2_method_22_code
def y_Machine_apply : MethodName := ⟨R_Machine, "apply", "()I"⟩
abbrev k_Machine_faultOfCall : ByteArray := prog_2_method_23_code
def y_Machine_faultOfCall : MethodName := ⟨R_Machine, "faultOfCall", "(II)I"⟩
abbrev k_Machine_faultOfPrimitive : ByteArray := prog_2_method_24_code
def y_Machine_faultOfPrimitive : MethodName := ⟨R_Machine, "faultOfPrimitive", "(II)I"⟩
abbrev k_Machine_cellsOfCall : ByteArray := prog_2_method_25_code
def y_Machine_cellsOfCall : MethodName := ⟨R_Machine, "cellsOfCall", "(II)I"⟩
abbrev k_Machine_boundEnvironment : ByteArray := prog_2_method_26_code
def y_Machine_boundEnvironment : MethodName := ⟨R_Machine, "boundEnvironment", "(III)I"⟩
abbrev k_Machine_primitiveResult : ByteArray := prog_2_method_27_code
def y_Machine_primitiveResult : MethodName := ⟨R_Machine, "primitiveResult", "(III)I"⟩
abbrev k_Machine_truth : ByteArray := prog_2_method_28_code
def y_Machine_truth : MethodName := ⟨R_Machine, "truth", "(Z)I"⟩
abbrev k_Machine_listOf : ByteArray := prog_2_method_29_code
def y_Machine_listOf : MethodName := ⟨R_Machine, "listOf", "(II)I"⟩
abbrev k_Reader_init : ByteArray := prog_5_method_1_code
def y_Reader_init : MethodName := ⟨R_Reader, "<init>", "(LCellLisp$Text;LCellLisp$Symbols;LCellLisp$Room;)V"⟩
abbrev k_Reader_read : ByteArray := prog_5_method_2_code
def y_Reader_read : MethodName := ⟨R_Reader, "read", "()I"⟩
abbrev k_Reader_findForm : ByteArray := prog_5_method_3_code
def y_Reader_findForm : MethodName := ⟨R_Reader, "findForm", "()I"⟩
abbrev k_Reader_isFault : ByteArray := prog_5_method_4_code
def y_Reader_isFault : MethodName := ⟨R_Reader, "isFault", "(CIZ)Z"⟩
abbrev k_Reader_cellsOfPiece : ByteArray := prog_5_method_5_code
def y_Reader_cellsOfPiece : MethodName := ⟨R_Reader, "cellsOfPiece", "(CIZ)I"⟩
abbrev k_Reader_learnSymbols : ByteArray := prog_5_method_6_code
def y_Reader_learnSymbols : MethodName := ⟨R_Reader, "learnSymbols", "()Z"⟩
abbrev k_Reader_isSymbol : ByteArray := prog_5_method_7_code
def y_Reader_isSymbol : MethodName := ⟨R_Reader, "isSymbol", "(II)Z"⟩
abbrev k_Reader_build : ByteArray := prog_5_method_8_code
def y_Reader_build : MethodName := ⟨R_Reader, "build", "()V"⟩
abbrev k_Reader_wordValue : ByteArray := prog_5_method_9_code
def y_Reader_wordValue : MethodName := ⟨R_Reader, "wordValue", "(II)I"⟩
abbrev k_Reader_place : ByteArray := prog_5_method_10_code
def y_Reader_place : MethodName := ⟨R_Reader, "place", "(IZI)V"⟩
abbrev k_Printer_init : ByteArray := prog_4_method_1_code
def y_Printer_init : MethodName := ⟨R_Printer, "<init>", "(LCellLisp$Output;LCellLisp$Symbols;LCellLisp$Room;)V"⟩
abbrev k_Printer_printLine : ByteArray := prog_4_method_2_code
def y_Printer_printLine : MethodName := ⟨R_Printer, "printLine", "(I)V"⟩
abbrev k_Printer_print : ByteArray := prog_4_method_3_code
def y_Printer_print : MethodName := ⟨R_Printer, "print", "(II)V"⟩
abbrev k_Printer_printList : ByteArray := prog_4_method_4_code
def y_Printer_printList : MethodName := ⟨R_Printer, "printList", "(II)V"⟩
abbrev k_Printer_printNumber : ByteArray := prog_4_method_5_code
def y_Printer_printNumber : MethodName := ⟨R_Printer, "printNumber", "(I)V"⟩
abbrev k_Printer_printName : ByteArray := prog_4_method_6_code
def y_Printer_printName : MethodName := ⟨R_Printer, "printName", "(J)V"⟩
abbrev k_Printer_printText : ByteArray := prog_4_method_7_code
def y_Printer_printText : MethodName := ⟨R_Printer, "printText", "(Ljava/lang/String;)V"⟩
abbrev k_Md_init : ByteArray := prog_12_method_1_code
def y_Md_init : MethodName := ⟨R_Md, "<init>", "(I)V"⟩
abbrev k_Md_word : ByteArray := prog_12_method_2_code
def y_Md_word : MethodName := ⟨R_Md, "word", "(IIIIII)V"⟩
abbrev k_Md_isNumber : ByteArray := prog_12_method_4_code
def y_Md_isNumber : MethodName := ⟨R_Md, "isNumber", "(I)Z"⟩
abbrev k_Md_isSymbol : ByteArray := prog_12_method_5_code
def y_Md_isSymbol : MethodName := ⟨R_Md, "isSymbol", "(I)Z"⟩
abbrev k_Md_isThing : ByteArray := prog_12_method_6_code
def y_Md_isThing : MethodName := ⟨R_Md, "isThing", "(I)Z"⟩
abbrev k_Md_isPair : ByteArray := prog_12_method_7_code
def y_Md_isPair : MethodName := ⟨R_Md, "isPair", "(I)Z"⟩
abbrev k_Md_isClosure : ByteArray := prog_12_method_8_code
def y_Md_isClosure : MethodName := ⟨R_Md, "isClosure", "(I)Z"⟩
abbrev k_Md_wrap : ByteArray := prog_12_method_9_code
def y_Md_wrap : MethodName := ⟨R_Md, "wrap", "(I)I"⟩
abbrev k_Md_car : ByteArray := prog_12_method_10_code
def y_Md_car : MethodName := ⟨R_Md, "car", "(I)I"⟩
abbrev k_Md_cdr : ByteArray := prog_12_method_11_code
def y_Md_cdr : MethodName := ⟨R_Md, "cdr", "(I)I"⟩
abbrev k_Md_mark : ByteArray := prog_12_method_12_code
def y_Md_mark : MethodName := ⟨R_Md, "mark", "(I)V"⟩
abbrev k_Md_live : ByteArray := prog_12_method_13_code
def y_Md_live : MethodName := ⟨R_Md, "live", "()I"⟩
abbrev k_Md_room : ByteArray := prog_12_method_14_code
def y_Md_room : MethodName := ⟨R_Md, "room", "(I)Z"⟩
abbrev k_Md_make : ByteArray := prog_12_method_15_code
def y_Md_make : MethodName := ⟨R_Md, "make", "(IIII)I"⟩
abbrev k_Md_pair : ByteArray := prog_12_method_16_code
def y_Md_pair : MethodName := ⟨R_Md, "pair", "(II)I"⟩
abbrev k_Md_feed : ByteArray := prog_12_method_17_code
def y_Md_feed : MethodName := ⟨R_Md, "feed", "(II)Z"⟩
abbrev k_Md_isBlank : ByteArray := prog_12_method_18_code
def y_Md_isBlank : MethodName := ⟨R_Md, "isBlank", "(C)Z"⟩
abbrev k_Md_isSign : ByteArray := prog_12_method_19_code
def y_Md_isSign : MethodName := ⟨R_Md, "isSign", "(C)Z"⟩
abbrev k_Md_skip : ByteArray := prog_12_method_20_code
def y_Md_skip : MethodName := ⟨R_Md, "skip", "(I)I"⟩
abbrev k_Md_tokenEnd : ByteArray := prog_12_method_21_code
def y_Md_tokenEnd : MethodName := ⟨R_Md, "tokenEnd", "(I)I"⟩
abbrev k_Md_drop : ByteArray := prog_12_method_22_code
def y_Md_drop : MethodName := ⟨R_Md, "drop", "(I)V"⟩
abbrev k_Md_isFigure : ByteArray := prog_12_method_23_code
def y_Md_isFigure : MethodName := ⟨R_Md, "isFigure", "(II)Z"⟩
abbrev k_Md_figure : ByteArray := prog_12_method_24_code
def y_Md_figure : MethodName := ⟨R_Md, "figure", "(II)I"⟩
abbrev k_Md_isNil : ByteArray := prog_12_method_25_code
def y_Md_isNil : MethodName := ⟨R_Md, "isNil", "(II)Z"⟩
abbrev k_Md_symbolOf : ByteArray := prog_12_method_26_code
def y_Md_symbolOf : MethodName := ⟨R_Md, "symbolOf", "(II)I"⟩
abbrev k_Md_atom : ByteArray := prog_12_method_27_code
def y_Md_atom : MethodName := ⟨R_Md, "atom", "(II)I"⟩
abbrev k_Md_meet : ByteArray := prog_12_method_28_code
def y_Md_meet : MethodName := ⟨R_Md, "meet", "(II)Z"⟩
abbrev k_Md_lookOver : ByteArray := prog_12_method_29_code
def y_Md_lookOver : MethodName := ⟨R_Md, "lookOver", "()I"⟩
abbrev k_Md_arrived : ByteArray := prog_12_method_30_code
def y_Md_arrived : MethodName := ⟨R_Md, "arrived", "(II)V"⟩
abbrev k_Md_read : ByteArray := prog_12_method_31_code
def y_Md_read : MethodName := ⟨R_Md, "read", "()V"⟩
abbrev k_Md_reading : ByteArray := prog_12_method_32_code
def y_Md_reading : MethodName := ⟨R_Md, "reading", "()I"⟩
abbrev k_Md_push : ByteArray := prog_12_method_33_code
def y_Md_push : MethodName := ⟨R_Md, "push", "(III)I"⟩
abbrev k_Md_give : ByteArray := prog_12_method_34_code
def y_Md_give : MethodName := ⟨R_Md, "give", "(I)I"⟩
abbrev k_Md_go : ByteArray := prog_12_method_35_code
def y_Md_go : MethodName := ⟨R_Md, "go", "(II)I"⟩
abbrev k_Md_lengthOf : ByteArray := prog_12_method_36_code
def y_Md_lengthOf : MethodName := ⟨R_Md, "lengthOf", "(I)I"⟩
abbrev k_Md_at : ByteArray := prog_12_method_37_code
def y_Md_at : MethodName := ⟨R_Md, "at", "(II)I"⟩
abbrev k_Md_binding : ByteArray := prog_12_method_38_code
def y_Md_binding : MethodName := ⟨R_Md, "binding", "(II)I"⟩
abbrev k_Md_lookUp : ByteArray := prog_12_method_39_code
def y_Md_lookUp : MethodName := ⟨R_Md, "lookUp", "()I"⟩
abbrev k_Md_areParameters : ByteArray := prog_12_method_40_code
def y_Md_areParameters : MethodName := ⟨R_Md, "areParameters", "(I)Z"⟩
abbrev k_Md_special : ByteArray := prog_12_method_41_code
def y_Md_special : MethodName := ⟨R_Md, "special", "(I)I"⟩
abbrev k_Md_evaluate : ByteArray := prog_12_method_42_code
def y_Md_evaluate : MethodName := ⟨R_Md, "evaluate", "()I"⟩
abbrev k_Md_back : ByteArray := prog_12_method_43_code
def y_Md_back : MethodName := ⟨R_Md, "back", "()I"⟩
abbrev k_Md_argument : ByteArray := prog_12_method_44_code
def y_Md_argument : MethodName := ⟨R_Md, "argument", "(I)I"⟩
abbrev k_Md_done : ByteArray := prog_12_method_45_code
def y_Md_done : MethodName := ⟨R_Md, "done", "(I)I"⟩
abbrev k_Md_apply : ByteArray := prog_12_method_46_code
def y_Md_apply : MethodName := ⟨R_Md, "apply", "(I)I"⟩
abbrev k_Md_listed : ByteArray := prog_12_method_47_code
def y_Md_listed : MethodName := ⟨R_Md, "listed", "(II)I"⟩
abbrev k_Md_enter : ByteArray := prog_12_method_48_code
def y_Md_enter : MethodName := ⟨R_Md, "enter", "(III)I"⟩
abbrev k_Md_clearAll : ByteArray := prog_12_method_49_code
def y_Md_clearAll : MethodName := ⟨R_Md, "clearAll", "()V"⟩
abbrev k_Md_run : ByteArray := prog_12_method_50_code
def y_Md_run : MethodName := ⟨R_Md, "run", "(I)I"⟩
abbrev k_Md_put : ByteArray := prog_12_method_51_code
def y_Md_put : MethodName := ⟨R_Md, "put", "(I)V"⟩
abbrev k_Md_putName : ByteArray := prog_12_method_52_code
def y_Md_putName : MethodName := ⟨R_Md, "putName", "(I)V"⟩
abbrev k_Md_putNumber : ByteArray := prog_12_method_53_code
def y_Md_putNumber : MethodName := ⟨R_Md, "putNumber", "(I)V"⟩
abbrev k_Md_putDots : ByteArray := prog_12_method_54_code
def y_Md_putDots : MethodName := ⟨R_Md, "putDots", "()V"⟩
abbrev k_Md_putPlain : ByteArray := prog_12_method_55_code
def y_Md_putPlain : MethodName := ⟨R_Md, "putPlain", "(I)V"⟩
abbrev k_Md_begin : ByteArray := prog_12_method_56_code
def y_Md_begin : MethodName := ⟨R_Md, "begin", "(II)I"⟩
abbrev k_Md_further : ByteArray := prog_12_method_57_code
def y_Md_further : MethodName := ⟨R_Md, "further", "(I)I"⟩
abbrev k_Md_print : ByteArray := prog_12_method_58_code
def y_Md_print : MethodName := ⟨R_Md, "print", "()V"⟩
abbrev k_Md_outSize : ByteArray := prog_12_method_59_code
def y_Md_outSize : MethodName := ⟨R_Md, "outSize", "()I"⟩
abbrev k_Md_out : ByteArray := prog_12_method_60_code
def y_Md_out : MethodName := ⟨R_Md, "out", "(I)I"⟩
abbrev k_Md_clearOut : ByteArray := prog_12_method_61_code
def y_Md_clearOut : MethodName := ⟨R_Md, "clearOut", "()V"⟩
abbrev k_Md_liveCells : ByteArray := prog_12_method_62_code
def y_Md_liveCells : MethodName := ⟨R_Md, "liveCells", "()I"⟩
abbrev k_Md_count : ByteArray := prog_12_method_63_code
def y_Md_count : MethodName := ⟨R_Md, "count", "(I)I"⟩
abbrev k_Value_of : ByteArray := prog_10_method_2_code
def y_Value_of : MethodName := ⟨R_Value, "of", "(II)I"⟩
abbrev k_Value_kind : ByteArray := prog_10_method_3_code
def y_Value_kind : MethodName := ⟨R_Value, "kind", "(I)I"⟩
abbrev k_Value_content : ByteArray := prog_10_method_4_code
def y_Value_content : MethodName := ⟨R_Value, "content", "(I)I"⟩
abbrev k_Value_isPair : ByteArray := prog_10_method_5_code
def y_Value_isPair : MethodName := ⟨R_Value, "isPair", "(I)Z"⟩
abbrev k_Value_isSymbol : ByteArray := prog_10_method_6_code
def y_Value_isSymbol : MethodName := ⟨R_Value, "isSymbol", "(I)Z"⟩
abbrev k_Value_isNumber : ByteArray := prog_10_method_7_code
def y_Value_isNumber : MethodName := ⟨R_Value, "isNumber", "(I)Z"⟩
abbrev k_Law_cell : ByteArray := method_2_code
def y_Law_cell : MethodName := ⟨R_Law, "cell", "([II)I"⟩
abbrev tyl (ca : Nat → ClassId) : List (ClassId × FieldType) := [(ca 0, .int), (ca 1, .char), (ca 2, .boolean), (ca 3, .long)]
abbrev shC (S : Nat) : List pm_E := [
  .inr (0, [.inl 1, .inl 2, .inl 3, .inl 4, .inl 5, .inl 6]),
  .inr (1, [.inl 9, .inr false]),
  .inr (2, [.inl 10, .inr false]),
  .inr (3, [.inl 11, .inl 12, .inr false]),
  .inr (4, [.inr false, .inr false, .inr false, .inr false, .inl 13, .inl 14, .inl 15, .inl 16]),
  .inr (5, [.inr false, .inr false, .inl 17, .inl 18, .inl 19, .inl 20, .inl 21, .inl 22, .inr false, .inr false, .inr false, .inl 4, .inl 3]),
  .inr (6, [.inl 4, .inl 5, .inl 3, .inl 7, .inl 8, .inr false, .inr false]),
  .inr (7, [.inl 1, .inl 3, .inl 5, .inr false, .inr false, .inr false, .inl 23, .inl 24, .inl 25]),
  .inr (8, [.inl 2, .inl 3, .inl 5]),
  .inl (1, .char, 120),
  .inl (1, .char, 200),
  .inl (3, .long, 40),
  .inl (0, .int, 40),
  .inl (0, .int, 30),
  .inl (0, .int, 30),
  .inl (0, .int, 30),
  .inl (0, .int, 30),
  .inl (0, .int, S),
  .inl (0, .int, S),
  .inl (0, .int, S),
  .inl (2, .boolean, S),
  .inl (0, .int, S),
  .inl (0, .int, S),
  .inl (0, .int, 11),
  .inl (0, .int, 11),
  .inl (2, .boolean, 11)]
abbrev shM : List pm_E := [
  .inr (9, [.inr false, .inr false, .inl 1, .inl 2, .inl 3, .inl 4, .inl 5, .inl 6, .inl 7, .inl 8, .inl 9, .inr false, .inr false, .inl 10, .inl 11, .inr false, .inr false, .inr false, .inr false, .inr false, .inr false, .inl 12, .inr false, .inl 13, .inl 14, .inl 15, .inl 16, .inl 17, .inl 18, .inr false, .inr false]),
  .inl (0, .int, 206),
  .inl (0, .int, 206),
  .inl (0, .int, 206),
  .inl (0, .int, 206),
  .inl (2, .boolean, 206),
  .inl (0, .int, 30),
  .inl (0, .int, 30),
  .inl (0, .int, 30),
  .inl (0, .int, 30),
  .inl (1, .char, 320),
  .inl (0, .int, 40),
  .inl (1, .char, 120),
  .inl (1, .char, 200),
  .inl (0, .int, 12),
  .inl (0, .int, 12),
  .inl (2, .boolean, 12),
  .inl (0, .int, 18),
  .inl (0, .int, 18)]
end
section
def pmTs_0 : List Cond := [
  Cond.selects y_Machine_begin.cls y_Machine_begin y_Machine_begin,
  Cond.selects y_Reader_findForm.cls y_Reader_findForm y_Reader_findForm,
  Cond.selects y_Reader_learnSymbols.cls y_Reader_learnSymbols y_Reader_learnSymbols,
  Cond.selects y_Reader_isSymbol.cls y_Reader_isSymbol y_Reader_isSymbol,
  Cond.selects y_Room_reach.cls y_Room_reach y_Room_reach,
  Cond.selects y_Room_freeUnreached.cls y_Room_freeUnreached y_Room_freeUnreached,
  Cond.selects y_Reader_build.cls y_Reader_build y_Reader_build,
  Cond.selects y_Reader_place.cls y_Reader_place y_Reader_place,
  Cond.selects y_Room_make.cls y_Room_make y_Room_make,
  Cond.selects y_Room_isHere.cls y_Room_isHere y_Room_isHere,
  Cond.selects y_Reader_wordValue.cls y_Reader_wordValue y_Reader_wordValue,
  Cond.selects y_Machine_evaluateNext.cls y_Machine_evaluateNext y_Machine_evaluateNext,
  Cond.selects y_Machine_evaluate.cls y_Machine_evaluate y_Machine_evaluate,
  Cond.selects y_Machine_evaluateSymbol.cls y_Machine_evaluateSymbol y_Machine_evaluateSymbol,
  Cond.selects y_Machine_returnNext.cls y_Machine_returnNext y_Machine_returnNext,
  Cond.selects y_Machine_evaluateQuote.cls y_Machine_evaluateQuote y_Machine_evaluateQuote,
  Cond.selects y_Machine_part.cls y_Machine_part y_Machine_part,
  Cond.selects y_Machine_evaluateIf.cls y_Machine_evaluateIf y_Machine_evaluateIf,
  Cond.selects y_Machine_evaluateUnder.cls y_Machine_evaluateUnder y_Machine_evaluateUnder,
  Cond.selects y_Machine_evaluateLambda.cls y_Machine_evaluateLambda y_Machine_evaluateLambda]
theorem pmI_0 : pmTs_0 = [0, 1, 2, 3, 4, 5, 6, 7, 8, 9, 10, 11, 12, 13, 14, 15, 16, 17, 18, 19].filterMap (fun i => lw_tbl[i]?) := by decide +kernel
theorem pmG_0 : ∀ w ∈ pmTs_0, pm_good w = true := by decide +kernel
def pmTs_1 : List Cond := [
  Cond.selects y_Machine_areParameters.cls y_Machine_areParameters y_Machine_areParameters,
  Cond.selects y_Machine_evaluateNaming.cls y_Machine_evaluateNaming y_Machine_evaluateNaming,
  Cond.selects y_Machine_giveBack.cls y_Machine_giveBack y_Machine_giveBack,
  Cond.selects y_State_hasTop.cls y_State_hasTop y_State_hasTop,
  Cond.selects y_Machine_choose.cls y_Machine_choose y_Machine_choose,
  Cond.selects y_Machine_define.cls y_Machine_define y_Machine_define,
  Cond.selects y_Machine_assign.cls y_Machine_assign y_Machine_assign,
  Cond.selects y_Machine_keepValue.cls y_Machine_keepValue y_Machine_keepValue,
  Cond.selects y_Machine_nextArgument.cls y_Machine_nextArgument y_Machine_nextArgument,
  Cond.selects y_Machine_apply.cls y_Machine_apply y_Machine_apply,
  Cond.selects y_Machine_faultOfCall.cls y_Machine_faultOfCall y_Machine_faultOfCall,
  Cond.selects y_Machine_faultOfPrimitive.cls y_Machine_faultOfPrimitive y_Machine_faultOfPrimitive,
  Cond.selects y_Machine_boundEnvironment.cls y_Machine_boundEnvironment y_Machine_boundEnvironment,
  Cond.selects y_Machine_primitiveResult.cls y_Machine_primitiveResult y_Machine_primitiveResult,
  Cond.selects y_Machine_listOf.cls y_Machine_listOf y_Machine_listOf,
  Cond.selects y_Printer_print.cls y_Printer_print y_Printer_print,
  Cond.selects y_Printer_printNumber.cls y_Printer_printNumber y_Printer_printNumber,
  Cond.selects y_Printer_printName.cls y_Printer_printName y_Printer_printName,
  Cond.selects y_Printer_printText.cls y_Printer_printText y_Printer_printText,
  Cond.selects y_Printer_printList.cls y_Printer_printList y_Printer_printList]
theorem pmI_1 : pmTs_1 = [20, 21, 22, 23, 24, 25, 26, 27, 28, 29, 30, 31, 32, 33, 34, 35, 36, 37, 38, 39].filterMap (fun i => lw_tbl[i]?) := by decide +kernel
theorem pmG_1 : ∀ w ∈ pmTs_1, pm_good w = true := by decide +kernel
def pmTs_2 : List Cond := [
  Cond.selects y_Machine_endForm.cls y_Machine_endForm y_Machine_endForm,
  Cond.selects y_Md_word.cls y_Md_word y_Md_word,
  Cond.selects y_Md_reading.cls y_Md_reading y_Md_reading,
  Cond.selects y_Md_lookOver.cls y_Md_lookOver y_Md_lookOver,
  Cond.selects y_Md_skip.cls y_Md_skip y_Md_skip,
  Cond.selects y_Md_tokenEnd.cls y_Md_tokenEnd y_Md_tokenEnd,
  Cond.selects y_Md_meet.cls y_Md_meet y_Md_meet,
  Cond.selects y_Md_isFigure.cls y_Md_isFigure y_Md_isFigure,
  Cond.selects y_Md_isNil.cls y_Md_isNil y_Md_isNil,
  Cond.selects y_Md_symbolOf.cls y_Md_symbolOf y_Md_symbolOf,
  Cond.selects y_Md_room.cls y_Md_room y_Md_room,
  Cond.selects y_Md_live.cls y_Md_live y_Md_live,
  Cond.selects y_Md_mark.cls y_Md_mark y_Md_mark,
  Cond.selects y_Md_read.cls y_Md_read y_Md_read,
  Cond.selects y_Md_arrived.cls y_Md_arrived y_Md_arrived,
  Cond.selects y_Md_pair.cls y_Md_pair y_Md_pair,
  Cond.selects y_Md_make.cls y_Md_make y_Md_make,
  Cond.selects y_Md_atom.cls y_Md_atom y_Md_atom,
  Cond.selects y_Md_figure.cls y_Md_figure y_Md_figure,
  Cond.selects y_Md_drop.cls y_Md_drop y_Md_drop]
theorem pmI_2 : pmTs_2 = [40, 41, 42, 43, 44, 45, 46, 47, 48, 49, 50, 51, 52, 53, 54, 55, 56, 57, 58, 59].filterMap (fun i => lw_tbl[i]?) := by decide +kernel
theorem pmG_2 : ∀ w ∈ pmTs_2, pm_good w = true := by decide +kernel
def pmTs_3 : List Cond := [
  Cond.selects y_Md_back.cls y_Md_back y_Md_back,
  Cond.selects y_Md_print.cls y_Md_print y_Md_print,
  Cond.selects y_Md_begin.cls y_Md_begin y_Md_begin,
  Cond.selects y_Md_isPair.cls y_Md_isPair y_Md_isPair,
  Cond.selects y_Md_putPlain.cls y_Md_putPlain y_Md_putPlain,
  Cond.selects y_Md_putNumber.cls y_Md_putNumber y_Md_putNumber,
  Cond.selects y_Md_put.cls y_Md_put y_Md_put,
  Cond.selects y_Md_putName.cls y_Md_putName y_Md_putName,
  Cond.selects y_Md_putDots.cls y_Md_putDots y_Md_putDots,
  Cond.selects y_Md_further.cls y_Md_further y_Md_further,
  Cond.selects y_Md_cdr.cls y_Md_cdr y_Md_cdr,
  Cond.selects y_Md_car.cls y_Md_car y_Md_car,
  Cond.selects y_Md_clearAll.cls y_Md_clearAll y_Md_clearAll,
  Cond.selects y_Md_argument.cls y_Md_argument y_Md_argument,
  Cond.selects y_Md_apply.cls y_Md_apply y_Md_apply,
  Cond.selects y_Md_lengthOf.cls y_Md_lengthOf y_Md_lengthOf,
  Cond.selects y_Md_at.cls y_Md_at y_Md_at,
  Cond.selects y_Md_isClosure.cls y_Md_isClosure y_Md_isClosure,
  Cond.selects y_Md_enter.cls y_Md_enter y_Md_enter,
  Cond.selects y_Md_go.cls y_Md_go y_Md_go]
theorem pmI_3 : pmTs_3 = [60, 61, 62, 63, 64, 65, 66, 67, 68, 69, 70, 71, 72, 73, 74, 75, 76, 77, 78, 79].filterMap (fun i => lw_tbl[i]?) := by decide +kernel
theorem pmG_3 : ∀ w ∈ pmTs_3, pm_good w = true := by decide +kernel
def pmTs_4 : List Cond := [
  Cond.selects y_Md_listed.cls y_Md_listed y_Md_listed,
  Cond.selects y_Md_done.cls y_Md_done y_Md_done,
  Cond.selects y_Md_give.cls y_Md_give y_Md_give,
  Cond.selects y_Md_binding.cls y_Md_binding y_Md_binding,
  Cond.selects y_Md_evaluate.cls y_Md_evaluate y_Md_evaluate,
  Cond.selects y_Md_lookUp.cls y_Md_lookUp y_Md_lookUp,
  Cond.selects y_Md_special.cls y_Md_special y_Md_special,
  Cond.selects y_Md_areParameters.cls y_Md_areParameters y_Md_areParameters,
  Cond.selects y_Md_push.cls y_Md_push y_Md_push,
  Cond.initialized R_Law,
  Cond.initialized R_CL,
  Cond.initialized R_Text,
  Cond.initialized R_Output,
  Cond.initialized R_Symbols,
  Cond.initialized "java/lang/String",
  Cond.initialized "java/lang/StringLatin1",
  Cond.initialized "jdk/internal/util/Preconditions",
  Cond.initialized "java/lang/StringUTF16",
  Cond.initialized R_Value,
  Cond.initialized R_State]
theorem pmI_4 : pmTs_4 = [80, 81, 82, 83, 84, 85, 86, 87, 88, 89, 90, 91, 92, 93, 94, 95, 96, 97, 98, 99].filterMap (fun i => lw_tbl[i]?) := by decide +kernel
theorem pmG_4 : ∀ w ∈ pmTs_4, pm_good w = true := by decide +kernel
def pmTs_5 : List Cond := [
  Cond.initialized R_Room,
  Cond.initialized "java/lang/Math",
  Cond.initialized R_Machine,
  Cond.initialized R_Reader,
  Cond.initialized R_Printer,
  Cond.initialized R_Md,
  Cond.classLink R_Law 7 R_CL,
  Cond.instantiable R_CL 6,
  Cond.methodLink R_Law 15 y_CL_init,
  Cond.instanceMethod y_CL_init,
  Cond.code y_CL_init k_CL_init 2 none,
  Cond.methodLink R_CL 1 objectInit,
  Cond.instanceMethod objectInit,
  Cond.classLink R_CL 7 R_Text,
  Cond.instantiable R_Text 2,
  Cond.methodLinkNest R_CL 9 y_Text_init R_CL,
  Cond.instanceMethod y_Text_init,
  Cond.code y_Text_init k_Text_init 1 none,
  Cond.methodLink R_Text 1 objectInit,
  Cond.fieldLink R_Text 9 R_Text "row" "[C"]
theorem pmI_5 : pmTs_5 = [100, 101, 102, 103, 104, 105, 106, 107, 108, 109, 110, 111, 112, 114, 115, 116, 117, 118, 119, 120].filterMap (fun i => lw_tbl[i]?) := by decide +kernel
theorem pmG_5 : ∀ w ∈ pmTs_5, pm_good w = true := by decide +kernel
def pmTs_6 : List Cond := [
  Cond.fieldLink R_Text 13 R_Text "size" "I",
  Cond.fieldLinkNest R_Reader 69 R_Text "size" "I" R_CL,
  Cond.fieldLinkNest R_CL 96 R_Text "size" "I" R_CL,
  Cond.classLink R_CL 16 R_Output,
  Cond.instantiable R_Output 2,
  Cond.methodLinkNest R_CL 18 y_Output_init R_CL,
  Cond.instanceMethod y_Output_init,
  Cond.code y_Output_init k_Output_init 1 none,
  Cond.methodLink R_Output 1 objectInit,
  Cond.fieldLink R_Output 9 R_Output "row" "[C",
  Cond.fieldLink R_Output 13 R_Output "size" "I",
  Cond.fieldLinkNest R_CL 82 R_Output "size" "I" R_CL,
  Cond.classLink R_CL 23 R_Symbols,
  Cond.instantiable R_Symbols 3,
  Cond.methodLink R_CL 25 y_Symbols_init,
  Cond.instanceMethod y_Symbols_init,
  Cond.code y_Symbols_init k_Symbols_init 5 none,
  Cond.methodLink R_Symbols 1 objectInit,
  Cond.methodLink R_Symbols 19 (⟨"java/lang/String", "length", "()I"⟩ : MethodName),
  Cond.instanceMethod (⟨"java/lang/String", "length", "()I"⟩ : MethodName)]
theorem pmI_6 : pmTs_6 = [121, 122, 123, 130, 131, 132, 133, 134, 135, 136, 137, 138, 144, 145, 146, 147, 148, 149, 151, 152].filterMap (fun i => lw_tbl[i]?) := by decide +kernel
theorem pmG_6 : ∀ w ∈ pmTs_6, pm_good w = true := by decide +kernel
def pmTs_7 : List Cond := [
  Cond.selects (⟨"java/lang/String", "length", "()I"⟩ : MethodName).cls (⟨"java/lang/String", "length", "()I"⟩ : MethodName) (⟨"java/lang/String", "length", "()I"⟩ : MethodName),
  Cond.code (⟨"java/lang/String", "length", "()I"⟩ : MethodName) prog_14_method_54_code 1 (some .int),
  Cond.methodLink "java/lang/String" 335 (⟨"java/lang/String", "coder", "()B"⟩ : MethodName),
  Cond.instanceMethod (⟨"java/lang/String", "coder", "()B"⟩ : MethodName),
  Cond.selects (⟨"java/lang/String", "coder", "()B"⟩ : MethodName).cls (⟨"java/lang/String", "coder", "()B"⟩ : MethodName) (⟨"java/lang/String", "coder", "()B"⟩ : MethodName),
  Cond.code (⟨"java/lang/String", "coder", "()B"⟩ : MethodName) prog_14_method_152_code 1 (some .byte),
  Cond.fieldLink "java/lang/String" 38 "java/lang/String" "COMPACT_STRINGS" "Z",
  Cond.methodLink R_Symbols 25 (⟨"java/lang/String", "charAt", "(I)C"⟩ : MethodName),
  Cond.instanceMethod (⟨"java/lang/String", "charAt", "(I)C"⟩ : MethodName),
  Cond.selects (⟨"java/lang/String", "charAt", "(I)C"⟩ : MethodName).cls (⟨"java/lang/String", "charAt", "(I)C"⟩ : MethodName) (⟨"java/lang/String", "charAt", "(I)C"⟩ : MethodName),
  Cond.code (⟨"java/lang/String", "charAt", "(I)C"⟩ : MethodName) prog_14_method_56_code 2 (some .char),
  Cond.methodLink "java/lang/String" 492 (⟨"java/lang/String", "isLatin1", "()Z"⟩ : MethodName),
  Cond.instanceMethod (⟨"java/lang/String", "isLatin1", "()Z"⟩ : MethodName),
  Cond.selects (⟨"java/lang/String", "isLatin1", "()Z"⟩ : MethodName).cls (⟨"java/lang/String", "isLatin1", "()Z"⟩ : MethodName) (⟨"java/lang/String", "isLatin1", "()Z"⟩ : MethodName),
  Cond.code (⟨"java/lang/String", "isLatin1", "()Z"⟩ : MethodName) prog_14_method_154_code 1 (some .boolean),
  Cond.methodLink "java/lang/String" 495 (⟨"java/lang/StringLatin1", "charAt", "([BI)C"⟩ : MethodName),
  Cond.static (⟨"java/lang/StringLatin1", "charAt", "([BI)C"⟩ : MethodName),
  Cond.code (⟨"java/lang/StringLatin1", "charAt", "([BI)C"⟩ : MethodName) prog_15_method_2_code 2 (some .char),
  Cond.methodLink "java/lang/StringLatin1" 9 (⟨"java/lang/String", "checkIndex", "(II)V"⟩ : MethodName),
  Cond.static (⟨"java/lang/String", "checkIndex", "(II)V"⟩ : MethodName)]
theorem pmI_7 : pmTs_7 = [153, 154, 155, 156, 157, 158, 159, 161, 162, 163, 164, 165, 166, 167, 168, 169, 170, 171, 172, 173].filterMap (fun i => lw_tbl[i]?) := by decide +kernel
theorem pmG_7 : ∀ w ∈ pmTs_7, pm_good w = true := by decide +kernel
def pmTs_8 : List Cond := [
  Cond.code (⟨"java/lang/String", "checkIndex", "(II)V"⟩ : MethodName) prog_14_method_155_code 2 none,
  Cond.fieldLink "java/lang/String" 1053 "jdk/internal/util/Preconditions" "SIOOBE_FORMATTER" "Ljava/util/function/BiFunction;",
  Cond.methodLink "java/lang/String" 1059 (⟨"jdk/internal/util/Preconditions", "checkIndex", "(IILjava/util/function/BiFunction;)I"⟩ : MethodName),
  Cond.static (⟨"jdk/internal/util/Preconditions", "checkIndex", "(IILjava/util/function/BiFunction;)I"⟩ : MethodName),
  Cond.code (⟨"jdk/internal/util/Preconditions", "checkIndex", "(IILjava/util/function/BiFunction;)I"⟩ : MethodName) prog_17_method_11_code 3 (some .int),
  Cond.methodLink "java/lang/String" 498 (⟨"java/lang/StringUTF16", "charAt", "([BI)C"⟩ : MethodName),
  Cond.static (⟨"java/lang/StringUTF16", "charAt", "([BI)C"⟩ : MethodName),
  Cond.code (⟨"java/lang/StringUTF16", "charAt", "([BI)C"⟩ : MethodName) prog_16_method_83_code 2 (some .char),
  Cond.methodLink "java/lang/StringUTF16" 67 (⟨"java/lang/StringUTF16", "checkIndex", "(I[B)V"⟩ : MethodName),
  Cond.static (⟨"java/lang/StringUTF16", "checkIndex", "(I[B)V"⟩ : MethodName),
  Cond.code (⟨"java/lang/StringUTF16", "checkIndex", "(I[B)V"⟩ : MethodName) prog_16_method_91_code 2 none,
  Cond.methodLink "java/lang/StringUTF16" 48 (⟨"java/lang/StringUTF16", "length", "([B)I"⟩ : MethodName),
  Cond.static (⟨"java/lang/StringUTF16", "length", "([B)I"⟩ : MethodName),
  Cond.code (⟨"java/lang/StringUTF16", "length", "([B)I"⟩ : MethodName) prog_16_method_6_code 1 (some .int),
  Cond.methodLink "java/lang/StringUTF16" 414 (⟨"java/lang/String", "checkIndex", "(II)V"⟩ : MethodName),
  Cond.methodLink "java/lang/StringUTF16" 71 (⟨"java/lang/StringUTF16", "getChar", "([BI)C"⟩ : MethodName),
  Cond.static (⟨"java/lang/StringUTF16", "getChar", "([BI)C"⟩ : MethodName),
  Cond.code (⟨"java/lang/StringUTF16", "getChar", "([BI)C"⟩ : MethodName) prog_16_method_5_code 2 (some .char),
  Cond.fieldLink "java/lang/StringUTF16" 44 "java/lang/StringUTF16" "$assertionsDisabled" "Z",
  Cond.fieldLink "java/lang/StringUTF16" 59 "java/lang/StringUTF16" "HI_BYTE_SHIFT" "I"]
theorem pmI_8 : pmTs_8 = [174, 175, 177, 178, 179, 180, 181, 182, 183, 184, 185, 186, 187, 188, 189, 190, 191, 192, 193, 195].filterMap (fun i => lw_tbl[i]?) := by decide +kernel
theorem pmG_8 : ∀ w ∈ pmTs_8, pm_good w = true := by decide +kernel
def pmTs_9 : List Cond := [
  Cond.fieldLink "java/lang/StringUTF16" 63 "java/lang/StringUTF16" "LO_BYTE_SHIFT" "I",
  Cond.methodLink R_Symbols 29 y_Symbols_learn,
  Cond.instanceMethod y_Symbols_learn,
  Cond.selects y_Symbols_learn.cls y_Symbols_learn y_Symbols_learn,
  Cond.code y_Symbols_learn k_Symbols_learn 3 (some .boolean),
  Cond.methodLink R_Symbols 43 y_Symbols_find,
  Cond.instanceMethod y_Symbols_find,
  Cond.selects y_Symbols_find.cls y_Symbols_find y_Symbols_find,
  Cond.code y_Symbols_find k_Symbols_find 4 (some .int),
  Cond.methodLink R_Symbols 35 y_Value_of,
  Cond.static y_Value_of,
  Cond.code y_Value_of k_Value_of 2 (some .int),
  Cond.fieldLink R_Symbols 9 R_Symbols "names" "[J",
  Cond.fieldLink R_Symbols 13 R_Symbols "globals" "[I",
  Cond.fieldLinkNest R_Room 114 R_Symbols "globals" "[I" R_CL,
  Cond.fieldLink R_Symbols 39 R_Symbols "known" "I",
  Cond.fieldLinkNest R_CL 100 R_Symbols "known" "I" R_CL,
  Cond.fieldLinkNest R_Room 109 R_Symbols "known" "I" R_CL,
  Cond.classLink R_CL 30 R_State,
  Cond.instantiable R_State 8]
theorem pmI_9 : pmTs_9 = [197, 199, 200, 201, 202, 203, 204, 205, 206, 207, 208, 209, 210, 211, 212, 213, 214, 215, 226, 227].filterMap (fun i => lw_tbl[i]?) := by decide +kernel
theorem pmG_9 : ∀ w ∈ pmTs_9, pm_good w = true := by decide +kernel
def pmTs_10 : List Cond := [
  Cond.methodLinkNest R_CL 32 y_State_init R_CL,
  Cond.instanceMethod y_State_init,
  Cond.code y_State_init k_State_init 1 none,
  Cond.methodLink R_State 1 objectInit,
  Cond.fieldLink R_State 9 R_State "value" "I",
  Cond.fieldLinkNest R_Machine 71 R_State "value" "I" R_CL,
  Cond.fieldLinkNest R_Room 85 R_State "value" "I" R_CL,
  Cond.fieldLink R_State 15 R_State "environment" "I",
  Cond.fieldLinkNest R_Machine 74 R_State "environment" "I" R_CL,
  Cond.fieldLinkNest R_Room 94 R_State "environment" "I" R_CL,
  Cond.fieldLinkNest R_Machine 43 R_State "evaluating" "Z" R_CL,
  Cond.fieldLink R_State 31 R_State "depth" "I",
  Cond.fieldLinkNest R_Machine 77 R_State "depth" "I" R_CL,
  Cond.fieldLinkNest R_CL 97 R_State "depth" "I" R_CL,
  Cond.fieldLinkNest R_Room 97 R_State "depth" "I" R_CL,
  Cond.fieldLink R_State 18 R_State "kinds" "[I",
  Cond.fieldLink R_State 22 R_State "as" "[I",
  Cond.fieldLinkNest R_Room 100 R_State "as" "[I" R_CL,
  Cond.fieldLink R_State 25 R_State "bs" "[I",
  Cond.fieldLinkNest R_Room 103 R_State "bs" "[I" R_CL]
theorem pmI_10 : pmTs_10 = [228, 229, 230, 231, 232, 233, 234, 235, 236, 237, 238, 239, 240, 241, 242, 243, 244, 245, 246, 247].filterMap (fun i => lw_tbl[i]?) := by decide +kernel
theorem pmG_10 : ∀ w ∈ pmTs_10, pm_good w = true := by decide +kernel
def pmTs_11 : List Cond := [
  Cond.fieldLink R_State 28 R_State "cs" "[I",
  Cond.fieldLinkNest R_Room 106 R_State "cs" "[I" R_CL,
  Cond.classLink R_CL 37 R_Room,
  Cond.instantiable R_Room 13,
  Cond.methodLink R_CL 39 Lib.Math.min.name,
  Cond.static Lib.Math.min.name,
  Cond.code Lib.Math.min.name Lib.Math.min.code 2 (some .int),
  Cond.methodLink R_CL 45 Lib.Math.max.name,
  Cond.static Lib.Math.max.name,
  Cond.code Lib.Math.max.name Lib.Math.max.code 2 (some .int),
  Cond.methodLink R_CL 48 y_Room_init,
  Cond.instanceMethod y_Room_init,
  Cond.code y_Room_init k_Room_init 5 none,
  Cond.methodLink R_Room 1 objectInit,
  Cond.methodLink R_Room 21 Lib.Math.max.name,
  Cond.fieldLink R_Room 7 R_Room "size" "I",
  Cond.fieldLink R_Room 27 R_Room "slots" "I",
  Cond.fieldLink R_Room 30 R_Room "firsts" "[I",
  Cond.fieldLink R_Room 34 R_Room "seconds" "[I",
  Cond.fieldLink R_Room 37 R_Room "thirds" "[I"]
theorem pmI_11 : pmTs_11 = [248, 249, 267, 268, 269, 270, 271, 272, 273, 274, 275, 276, 277, 278, 279, 280, 281, 282, 283, 284].filterMap (fun i => lw_tbl[i]?) := by decide +kernel
theorem pmG_11 : ∀ w ∈ pmTs_11, pm_good w = true := by decide +kernel
def pmTs_12 : List Cond := [
  Cond.fieldLink R_Room 40 R_Room "reached" "[Z",
  Cond.fieldLink R_Room 44 R_Room "waiting" "[I",
  Cond.fieldLink R_Room 47 R_Room "free" "[I",
  Cond.fieldLink R_Room 82 R_Room "waitingSize" "I",
  Cond.fieldLink R_Room 50 R_Room "freeSize" "I",
  Cond.fieldLink R_Room 53 R_Room "used" "I",
  Cond.fieldLinkNest R_CL 93 R_Room "used" "I" R_CL,
  Cond.fieldLink R_Room 13 R_Room "state" "LCellLisp$State;",
  Cond.fieldLink R_Room 17 R_Room "symbols" "LCellLisp$Symbols;",
  Cond.classLink R_CL 55 R_Machine,
  Cond.instantiable R_Machine 7,
  Cond.classLink R_CL 57 R_Reader,
  Cond.instantiable R_Reader 9,
  Cond.methodLink R_CL 59 y_Reader_init,
  Cond.instanceMethod y_Reader_init,
  Cond.code y_Reader_init k_Reader_init 4 none,
  Cond.methodLink R_Reader 3 objectInit,
  Cond.fieldLink R_Reader 28 R_Reader "text" "LCellLisp$Text;",
  Cond.fieldLink R_Reader 32 R_Reader "symbols" "LCellLisp$Symbols;",
  Cond.fieldLink R_Reader 36 R_Reader "room" "LCellLisp$Room;"]
theorem pmI_12 : pmTs_12 = [285, 286, 287, 288, 289, 290, 291, 292, 293, 322, 323, 324, 325, 326, 327, 328, 329, 330, 331, 332].filterMap (fun i => lw_tbl[i]?) := by decide +kernel
theorem pmG_12 : ∀ w ∈ pmTs_12, pm_good w = true := by decide +kernel
def pmTs_13 : List Cond := [
  Cond.fieldLink R_Reader 60 R_Reader "end" "I",
  Cond.fieldLink R_Reader 48 R_Reader "cells" "I",
  Cond.fieldLink R_Reader 11 R_Reader "form" "I",
  Cond.fieldLinkNest R_Machine 62 R_Reader "form" "I" R_CL,
  Cond.fieldLink R_Reader 17 R_Reader "heads" "[I",
  Cond.fieldLink R_Reader 21 R_Reader "lasts" "[I",
  Cond.fieldLink R_Reader 24 R_Reader "quotes" "[Z",
  Cond.classLink R_CL 62 R_Printer,
  Cond.instantiable R_Printer 3,
  Cond.methodLink R_CL 64 y_Printer_init,
  Cond.instanceMethod y_Printer_init,
  Cond.code y_Printer_init k_Printer_init 4 none,
  Cond.methodLink R_Printer 1 objectInit,
  Cond.fieldLink R_Printer 7 R_Printer "output" "LCellLisp$Output;",
  Cond.fieldLink R_Printer 13 R_Printer "symbols" "LCellLisp$Symbols;",
  Cond.fieldLink R_Printer 17 R_Printer "room" "LCellLisp$Room;",
  Cond.methodLink R_CL 67 y_Machine_init,
  Cond.instanceMethod y_Machine_init,
  Cond.code y_Machine_init k_Machine_init 6 none,
  Cond.methodLink R_Machine 3 objectInit]
theorem pmI_13 : pmTs_13 = [333, 334, 335, 336, 337, 338, 339, 359, 360, 361, 362, 363, 364, 365, 366, 367, 375, 376, 377, 378].filterMap (fun i => lw_tbl[i]?) := by decide +kernel
theorem pmG_13 : ∀ w ∈ pmTs_13, pm_good w = true := by decide +kernel
def pmTs_14 : List Cond := [
  Cond.fieldLink R_Machine 9 R_Machine "state" "LCellLisp$State;",
  Cond.fieldLink R_Machine 15 R_Machine "room" "LCellLisp$Room;",
  Cond.fieldLink R_Machine 19 R_Machine "symbols" "LCellLisp$Symbols;",
  Cond.fieldLink R_Machine 23 R_Machine "reader" "LCellLisp$Reader;",
  Cond.fieldLink R_Machine 27 R_Machine "printer" "LCellLisp$Printer;",
  Cond.fieldLink R_Machine 31 R_Machine "underWay" "Z",
  Cond.fieldLink R_Machine 39 R_Machine "steps" "I",
  Cond.fieldLinkNest R_CL 103 R_Machine "steps" "I" R_CL,
  Cond.fieldLink R_CL 10 R_CL "text" "LCellLisp$Text;",
  Cond.fieldLink R_CL 19 R_CL "output" "LCellLisp$Output;",
  Cond.fieldLink R_CL 26 R_CL "symbols" "LCellLisp$Symbols;",
  Cond.fieldLink R_CL 33 R_CL "state" "LCellLisp$State;",
  Cond.fieldLink R_CL 51 R_CL "room" "LCellLisp$Room;",
  Cond.fieldLink R_CL 70 R_CL "machine" "LCellLisp$Machine;",
  Cond.methodLink R_Law 21 y_CL_feed,
  Cond.instanceMethod y_CL_feed,
  Cond.selects y_CL_feed.cls y_CL_feed y_CL_feed,
  Cond.code y_CL_feed k_CL_feed 3 (some .boolean),
  Cond.methodLink R_CL 74 y_Text_append,
  Cond.instanceMethod y_Text_append]
theorem pmI_14 : pmTs_14 = [379, 380, 381, 382, 383, 384, 385, 386, 402, 403, 404, 405, 406, 407, 421, 422, 423, 424, 425, 426].filterMap (fun i => lw_tbl[i]?) := by decide +kernel
theorem pmG_14 : ∀ w ∈ pmTs_14, pm_good w = true := by decide +kernel
def pmTs_15 : List Cond := [
  Cond.selects y_Text_append.cls y_Text_append y_Text_append,
  Cond.code y_Text_append k_Text_append 4 (some .boolean),
  Cond.methodLink R_Text 17 y_Text_isCharacter,
  Cond.static y_Text_isCharacter,
  Cond.code y_Text_isCharacter k_Text_isCharacter 1 (some .boolean),
  Cond.methodLink R_Law 26 y_CL_run,
  Cond.instanceMethod y_CL_run,
  Cond.selects y_CL_run.cls y_CL_run y_CL_run,
  Cond.code y_CL_run k_CL_run 5 (some .int),
  Cond.methodLink R_CL 78 y_Machine_step,
  Cond.instanceMethod y_Machine_step,
  Cond.selects y_Machine_step.cls y_Machine_step y_Machine_step,
  Cond.code y_Machine_step k_Machine_step 2 (some .int),
  Cond.methodLink R_Machine 35 y_Machine_begin,
  Cond.instanceMethod y_Machine_begin,
  Cond.code y_Machine_begin k_Machine_begin 2 (some .int),
  Cond.methodLink R_Machine 57 y_Reader_read,
  Cond.instanceMethod y_Reader_read,
  Cond.selects y_Reader_read.cls y_Reader_read y_Reader_read,
  Cond.code y_Reader_read k_Reader_read 2 (some .int)]
theorem pmI_15 : pmTs_15 = [427, 428, 429, 430, 431, 432, 433, 434, 435, 436, 437, 438, 439, 440, 442, 443, 444, 445, 446, 447].filterMap (fun i => lw_tbl[i]?) := by decide +kernel
theorem pmG_15 : ∀ w ∈ pmTs_15, pm_good w = true := by decide +kernel
def pmTs_16 : List Cond := [
  Cond.methodLink R_Reader 40 y_Reader_findForm,
  Cond.instanceMethod y_Reader_findForm,
  Cond.code y_Reader_findForm k_Reader_findForm 6 (some .int),
  Cond.methodLink R_Reader 72 y_Text_at,
  Cond.instanceMethod y_Text_at,
  Cond.selects y_Text_at.cls y_Text_at y_Text_at,
  Cond.code y_Text_at k_Text_at 2 (some .char),
  Cond.methodLink R_Reader 76 y_Text_pieceEnd,
  Cond.instanceMethod y_Text_pieceEnd,
  Cond.selects y_Text_pieceEnd.cls y_Text_pieceEnd y_Text_pieceEnd,
  Cond.code y_Text_pieceEnd k_Text_pieceEnd 3 (some .int),
  Cond.methodLink R_Text 30 y_Text_at,
  Cond.methodLink R_Text 34 y_Text_isOfWord,
  Cond.static y_Text_isOfWord,
  Cond.code y_Text_isOfWord k_Text_isOfWord 1 (some .boolean),
  Cond.methodLink R_Text 38 y_Text_isBlank,
  Cond.static y_Text_isBlank,
  Cond.code y_Text_isBlank k_Text_isBlank 1 (some .boolean),
  Cond.methodLink R_Reader 80 y_Text_isBlank,
  Cond.methodLink R_Reader 84 y_Reader_isFault]
theorem pmI_16 : pmTs_16 = [448, 450, 451, 452, 453, 454, 455, 456, 457, 458, 459, 460, 461, 462, 463, 464, 465, 466, 467, 468].filterMap (fun i => lw_tbl[i]?) := by decide +kernel
theorem pmG_16 : ∀ w ∈ pmTs_16, pm_good w = true := by decide +kernel
def pmTs_17 : List Cond := [
  Cond.static y_Reader_isFault,
  Cond.code y_Reader_isFault k_Reader_isFault 3 (some .boolean),
  Cond.methodLink R_Reader 88 y_Reader_cellsOfPiece,
  Cond.static y_Reader_cellsOfPiece,
  Cond.code y_Reader_cellsOfPiece k_Reader_cellsOfPiece 4 (some .int),
  Cond.methodLink R_Reader 44 y_Reader_learnSymbols,
  Cond.instanceMethod y_Reader_learnSymbols,
  Cond.code y_Reader_learnSymbols k_Reader_learnSymbols 4 (some .boolean),
  Cond.methodLink R_Reader 92 y_Reader_isSymbol,
  Cond.instanceMethod y_Reader_isSymbol,
  Cond.code y_Reader_isSymbol k_Reader_isSymbol 3 (some .boolean),
  Cond.methodLinkNest R_Reader 106 y_Text_isOfWord R_CL,
  Cond.methodLink R_Reader 109 y_Text_isNumber,
  Cond.instanceMethod y_Text_isNumber,
  Cond.selects y_Text_isNumber.cls y_Text_isNumber y_Text_isNumber,
  Cond.code y_Text_isNumber k_Text_isNumber 5 (some .boolean),
  Cond.methodLink R_Reader 96 y_Text_name,
  Cond.instanceMethod y_Text_name,
  Cond.selects y_Text_name.cls y_Text_name y_Text_name,
  Cond.code y_Text_name k_Text_name 6 (some .long)]
theorem pmI_17 : pmTs_17 = [469, 470, 471, 472, 473, 474, 476, 477, 478, 480, 481, 482, 483, 484, 485, 486, 487, 488, 489, 490].filterMap (fun i => lw_tbl[i]?) := by decide +kernel
theorem pmG_17 : ∀ w ∈ pmTs_17, pm_good w = true := by decide +kernel
def pmTs_18 : List Cond := [
  Cond.constantLong R_Reader 112 (7235948),
  Cond.methodLink R_Reader 100 y_Symbols_learn,
  Cond.methodLink R_Reader 51 y_Room_hasFor,
  Cond.instanceMethod y_Room_hasFor,
  Cond.selects y_Room_hasFor.cls y_Room_hasFor y_Room_hasFor,
  Cond.code y_Room_hasFor k_Room_hasFor 2 (some .boolean),
  Cond.methodLink R_Room 56 y_Room_collect,
  Cond.instanceMethod y_Room_collect,
  Cond.selects y_Room_collect.cls y_Room_collect y_Room_collect,
  Cond.code y_Room_collect k_Room_collect 3 none,
  Cond.methodLink R_Room 90 y_Room_reach,
  Cond.instanceMethod y_Room_reach,
  Cond.code y_Room_reach k_Room_reach 5 none,
  Cond.methodLink R_Room 120 y_Value_kind,
  Cond.static y_Value_kind,
  Cond.code y_Value_kind k_Value_kind 1 (some .int),
  Cond.methodLink R_Room 69 y_Value_content,
  Cond.static y_Value_content,
  Cond.code y_Value_content k_Value_content 1 (some .int),
  Cond.methodLink R_Room 117 y_Room_freeUnreached]
theorem pmI_18 : pmTs_18 = [491, 492, 493, 494, 495, 496, 497, 498, 499, 500, 501, 503, 504, 505, 506, 507, 508, 509, 510, 511].filterMap (fun i => lw_tbl[i]?) := by decide +kernel
theorem pmG_18 : ∀ w ∈ pmTs_18, pm_good w = true := by decide +kernel
def pmTs_19 : List Cond := [
  Cond.instanceMethod y_Room_freeUnreached,
  Cond.code y_Room_freeUnreached k_Room_freeUnreached 2 none,
  Cond.methodLink R_Reader 57 y_Reader_build,
  Cond.instanceMethod y_Reader_build,
  Cond.code y_Reader_build k_Reader_build 7 none,
  Cond.methodLink R_Reader 114 y_Reader_place,
  Cond.instanceMethod y_Reader_place,
  Cond.code y_Reader_place k_Reader_place 6 none,
  Cond.methodLink R_Reader 125 y_Value_of,
  Cond.methodLink R_Reader 132 y_Room_pair,
  Cond.instanceMethod y_Room_pair,
  Cond.selects y_Room_pair.cls y_Room_pair y_Room_pair,
  Cond.code y_Room_pair k_Room_pair 3 (some .int),
  Cond.methodLink R_Room 61 y_Room_make,
  Cond.instanceMethod y_Room_make,
  Cond.code y_Room_make k_Room_make 6 (some .int),
  Cond.methodLink R_Reader 135 y_Room_setSecond,
  Cond.instanceMethod y_Room_setSecond,
  Cond.selects y_Room_setSecond.cls y_Room_setSecond y_Room_setSecond,
  Cond.code y_Room_setSecond k_Room_setSecond 3 none]
theorem pmI_19 : pmTs_19 = [513, 514, 515, 517, 518, 519, 521, 522, 523, 524, 525, 526, 527, 528, 530, 531, 532, 533, 534, 535].filterMap (fun i => lw_tbl[i]?) := by decide +kernel
theorem pmG_19 : ∀ w ∈ pmTs_19, pm_good w = true := by decide +kernel
def pmTs_20 : List Cond := [
  Cond.methodLink R_Room 65 y_Room_isHere,
  Cond.instanceMethod y_Room_isHere,
  Cond.code y_Room_isHere k_Room_isHere 4 (some .boolean),
  Cond.methodLink R_Reader 118 y_Reader_wordValue,
  Cond.instanceMethod y_Reader_wordValue,
  Cond.code y_Reader_wordValue k_Reader_wordValue 4 (some .int),
  Cond.methodLink R_Reader 122 y_Text_number,
  Cond.instanceMethod y_Text_number,
  Cond.selects y_Text_number.cls y_Text_number y_Text_number,
  Cond.code y_Text_number k_Text_number 6 (some .int),
  Cond.methodLink R_Reader 128 y_Symbols_find,
  Cond.methodLink R_Reader 63 y_Text_drop,
  Cond.instanceMethod y_Text_drop,
  Cond.selects y_Text_drop.cls y_Text_drop y_Text_drop,
  Cond.code y_Text_drop k_Text_drop 4 none,
  Cond.methodLink R_Text 21 Lib.Math.min.name,
  Cond.methodLink R_Text 27 Lib.Math.max.name,
  Cond.methodLink R_Machine 67 y_Machine_evaluateNext,
  Cond.instanceMethod y_Machine_evaluateNext,
  Cond.code y_Machine_evaluateNext k_Machine_evaluateNext 3 (some .int)]
theorem pmI_20 : pmTs_20 = [536, 538, 539, 540, 542, 543, 544, 545, 546, 547, 548, 549, 550, 551, 552, 553, 554, 555, 557, 558].filterMap (fun i => lw_tbl[i]?) := by decide +kernel
theorem pmG_20 : ∀ w ∈ pmTs_20, pm_good w = true := by decide +kernel
def pmTs_21 : List Cond := [
  Cond.methodLink R_Machine 48 y_Machine_evaluate,
  Cond.instanceMethod y_Machine_evaluate,
  Cond.code y_Machine_evaluate k_Machine_evaluate 2 (some .int),
  Cond.methodLink R_Machine 80 y_Value_isSymbol,
  Cond.static y_Value_isSymbol,
  Cond.code y_Value_isSymbol k_Value_isSymbol 1 (some .boolean),
  Cond.methodLink R_Value 9 y_Value_kind,
  Cond.methodLink R_Machine 84 y_Machine_evaluateSymbol,
  Cond.instanceMethod y_Machine_evaluateSymbol,
  Cond.code y_Machine_evaluateSymbol k_Machine_evaluateSymbol 3 (some .int),
  Cond.methodLink R_Machine 121 y_Room_binding,
  Cond.instanceMethod y_Room_binding,
  Cond.selects y_Room_binding.cls y_Room_binding y_Room_binding,
  Cond.code y_Room_binding k_Room_binding 5 (some .int),
  Cond.methodLink R_Room 73 y_Value_isPair,
  Cond.static y_Value_isPair,
  Cond.code y_Value_isPair k_Value_isPair 1 (some .boolean),
  Cond.methodLink R_Room 79 y_Room_first,
  Cond.instanceMethod y_Room_first,
  Cond.selects y_Room_first.cls y_Room_first y_Room_first]
theorem pmI_21 : pmTs_21 = [559, 561, 562, 563, 564, 565, 566, 567, 569, 570, 571, 572, 573, 574, 575, 576, 577, 578, 579, 580].filterMap (fun i => lw_tbl[i]?) := by decide +kernel
theorem pmG_21 : ∀ w ∈ pmTs_21, pm_good w = true := by decide +kernel
def pmTs_22 : List Cond := [
  Cond.code y_Room_first k_Room_first 2 (some .int),
  Cond.methodLink R_Room 76 y_Room_second,
  Cond.instanceMethod y_Room_second,
  Cond.selects y_Room_second.cls y_Room_second y_Room_second,
  Cond.code y_Room_second k_Room_second 2 (some .int),
  Cond.methodLink R_Machine 114 y_Room_second,
  Cond.methodLink R_Machine 90 y_Machine_returnNext,
  Cond.instanceMethod y_Machine_returnNext,
  Cond.code y_Machine_returnNext k_Machine_returnNext 2 (some .int),
  Cond.methodLink R_Machine 99 y_Value_content,
  Cond.methodLink R_Machine 124 y_Symbols_global,
  Cond.instanceMethod y_Symbols_global,
  Cond.selects y_Symbols_global.cls y_Symbols_global y_Symbols_global,
  Cond.code y_Symbols_global k_Symbols_global 2 (some .int),
  Cond.methodLink R_Machine 87 y_Value_isPair,
  Cond.methodLink R_Machine 94 y_Room_first,
  Cond.methodLink R_Machine 102 y_Machine_evaluateQuote,
  Cond.instanceMethod y_Machine_evaluateQuote,
  Cond.code y_Machine_evaluateQuote k_Machine_evaluateQuote 1 (some .int),
  Cond.methodLink R_Machine 136 y_Room_length]
theorem pmI_22 : pmTs_22 = [581, 582, 583, 584, 585, 586, 587, 589, 590, 591, 592, 593, 594, 595, 596, 597, 598, 600, 601, 602].filterMap (fun i => lw_tbl[i]?) := by decide +kernel
theorem pmG_22 : ∀ w ∈ pmTs_22, pm_good w = true := by decide +kernel
def pmTs_23 : List Cond := [
  Cond.instanceMethod y_Room_length,
  Cond.selects y_Room_length.cls y_Room_length y_Room_length,
  Cond.code y_Room_length k_Room_length 4 (some .int),
  Cond.methodLink R_Machine 139 y_Machine_part,
  Cond.instanceMethod y_Machine_part,
  Cond.code y_Machine_part k_Machine_part 2 (some .int),
  Cond.methodLink R_Machine 133 y_Room_tail,
  Cond.instanceMethod y_Room_tail,
  Cond.selects y_Room_tail.cls y_Room_tail y_Room_tail,
  Cond.code y_Room_tail k_Room_tail 5 (some .int),
  Cond.methodLink R_Machine 105 y_Machine_evaluateIf,
  Cond.instanceMethod y_Machine_evaluateIf,
  Cond.code y_Machine_evaluateIf k_Machine_evaluateIf 2 (some .int),
  Cond.methodLink R_Machine 117 y_Machine_evaluateUnder,
  Cond.instanceMethod y_Machine_evaluateUnder,
  Cond.code y_Machine_evaluateUnder k_Machine_evaluateUnder 5 (some .int),
  Cond.methodLink R_Machine 129 y_State_push,
  Cond.instanceMethod y_State_push,
  Cond.selects y_State_push.cls y_State_push y_State_push,
  Cond.code y_State_push k_State_push 4 (some .boolean)]
theorem pmI_23 : pmTs_23 = [603, 604, 605, 606, 608, 609, 610, 611, 612, 613, 614, 616, 617, 618, 620, 621, 622, 623, 624, 625].filterMap (fun i => lw_tbl[i]?) := by decide +kernel
theorem pmG_23 : ∀ w ∈ pmTs_23, pm_good w = true := by decide +kernel
def pmTs_24 : List Cond := [
  Cond.methodLink R_Machine 108 y_Machine_evaluateLambda,
  Cond.instanceMethod y_Machine_evaluateLambda,
  Cond.code y_Machine_evaluateLambda k_Machine_evaluateLambda 1 (some .int),
  Cond.methodLink R_Machine 142 y_Machine_areParameters,
  Cond.instanceMethod y_Machine_areParameters,
  Cond.code y_Machine_areParameters k_Machine_areParameters 4 (some .boolean),
  Cond.methodLink R_Machine 145 y_Room_hasFor,
  Cond.methodLink R_Machine 148 y_Room_closure,
  Cond.instanceMethod y_Room_closure,
  Cond.selects y_Room_closure.cls y_Room_closure y_Room_closure,
  Cond.code y_Room_closure k_Room_closure 4 (some .int),
  Cond.methodLink R_Machine 111 y_Machine_evaluateNaming,
  Cond.instanceMethod y_Machine_evaluateNaming,
  Cond.code y_Machine_evaluateNaming k_Machine_evaluateNaming 3 (some .int),
  Cond.methodLink R_Machine 51 y_Machine_giveBack,
  Cond.instanceMethod y_Machine_giveBack,
  Cond.code y_Machine_giveBack k_Machine_giveBack 1 (some .int),
  Cond.methodLink R_Machine 152 y_State_kind,
  Cond.instanceMethod y_State_kind,
  Cond.selects y_State_kind.cls y_State_kind y_State_kind]
theorem pmI_24 : pmTs_24 = [626, 628, 629, 630, 632, 633, 634, 635, 636, 637, 638, 639, 641, 642, 643, 645, 646, 647, 648, 649].filterMap (fun i => lw_tbl[i]?) := by decide +kernel
theorem pmG_24 : ∀ w ∈ pmTs_24, pm_good w = true := by decide +kernel
def pmTs_25 : List Cond := [
  Cond.code y_State_kind k_State_kind 1 (some .int),
  Cond.methodLink R_State 34 y_State_hasTop,
  Cond.instanceMethod y_State_hasTop,
  Cond.code y_State_hasTop k_State_hasTop 1 (some .boolean),
  Cond.methodLink R_Machine 155 y_Machine_choose,
  Cond.instanceMethod y_Machine_choose,
  Cond.code y_Machine_choose k_Machine_choose 3 (some .int),
  Cond.methodLink R_Machine 168 y_State_a,
  Cond.instanceMethod y_State_a,
  Cond.selects y_State_a.cls y_State_a y_State_a,
  Cond.code y_State_a k_State_a 1 (some .int),
  Cond.methodLink R_Machine 183 y_State_b,
  Cond.instanceMethod y_State_b,
  Cond.selects y_State_b.cls y_State_b y_State_b,
  Cond.code y_State_b k_State_b 1 (some .int),
  Cond.methodLink R_Machine 186 y_State_pop,
  Cond.instanceMethod y_State_pop,
  Cond.selects y_State_pop.cls y_State_pop y_State_pop,
  Cond.code y_State_pop k_State_pop 1 none,
  Cond.methodLink R_Machine 158 y_Machine_define]
theorem pmI_25 : pmTs_25 = [650, 651, 653, 654, 655, 657, 658, 659, 660, 661, 662, 663, 664, 665, 666, 667, 668, 669, 670, 671].filterMap (fun i => lw_tbl[i]?) := by decide +kernel
theorem pmG_25 : ∀ w ∈ pmTs_25, pm_good w = true := by decide +kernel
def pmTs_26 : List Cond := [
  Cond.instanceMethod y_Machine_define,
  Cond.code y_Machine_define k_Machine_define 2 (some .int),
  Cond.methodLink R_Machine 189 y_Symbols_setGlobal,
  Cond.instanceMethod y_Symbols_setGlobal,
  Cond.selects y_Symbols_setGlobal.cls y_Symbols_setGlobal y_Symbols_setGlobal,
  Cond.code y_Symbols_setGlobal k_Symbols_setGlobal 3 none,
  Cond.methodLink R_Machine 161 y_Machine_assign,
  Cond.instanceMethod y_Machine_assign,
  Cond.code y_Machine_assign k_Machine_assign 3 (some .int),
  Cond.methodLink R_Machine 193 y_Room_setSecond,
  Cond.methodLink R_Machine 164 y_Machine_keepValue,
  Cond.instanceMethod y_Machine_keepValue,
  Cond.code y_Machine_keepValue k_Machine_keepValue 1 (some .boolean),
  Cond.methodLink R_Machine 196 y_State_c,
  Cond.instanceMethod y_State_c,
  Cond.selects y_State_c.cls y_State_c y_State_c,
  Cond.code y_State_c k_State_c 1 (some .int),
  Cond.methodLink R_Machine 199 y_Room_pair,
  Cond.methodLink R_Machine 202 y_State_setC,
  Cond.instanceMethod y_State_setC]
theorem pmI_26 : pmTs_26 = [673, 674, 675, 676, 677, 678, 679, 681, 682, 683, 684, 686, 687, 688, 689, 690, 691, 692, 693, 694].filterMap (fun i => lw_tbl[i]?) := by decide +kernel
theorem pmG_26 : ∀ w ∈ pmTs_26, pm_good w = true := by decide +kernel
def pmTs_27 : List Cond := [
  Cond.selects y_State_setC.cls y_State_setC y_State_setC,
  Cond.code y_State_setC k_State_setC 2 none,
  Cond.methodLink R_Machine 171 y_Machine_nextArgument,
  Cond.instanceMethod y_Machine_nextArgument,
  Cond.code y_Machine_nextArgument k_Machine_nextArgument 2 (some .int),
  Cond.methodLink R_Machine 205 y_State_setA,
  Cond.instanceMethod y_State_setA,
  Cond.selects y_State_setA.cls y_State_setA y_State_setA,
  Cond.code y_State_setA k_State_setA 2 none,
  Cond.methodLink R_Machine 174 y_Machine_apply,
  Cond.instanceMethod y_Machine_apply,
  Cond.code y_Machine_apply k_Machine_apply 5 (some .int),
  Cond.methodLink R_Machine 208 y_Machine_faultOfCall,
  Cond.instanceMethod y_Machine_faultOfCall,
  Cond.code y_Machine_faultOfCall k_Machine_faultOfCall 3 (some .int),
  Cond.methodLink R_Machine 214 y_Value_kind,
  Cond.methodLink R_Machine 222 y_Machine_faultOfPrimitive,
  Cond.instanceMethod y_Machine_faultOfPrimitive,
  Cond.code y_Machine_faultOfPrimitive k_Machine_faultOfPrimitive 5 (some .int),
  Cond.methodLink R_Machine 225 y_Value_isNumber]
theorem pmI_27 : pmTs_27 = [695, 696, 697, 699, 700, 701, 702, 703, 704, 705, 707, 708, 709, 711, 712, 713, 714, 716, 717, 718].filterMap (fun i => lw_tbl[i]?) := by decide +kernel
theorem pmG_27 : ∀ w ∈ pmTs_27, pm_good w = true := by decide +kernel
def pmTs_28 : List Cond := [
  Cond.static y_Value_isNumber,
  Cond.code y_Value_isNumber k_Value_isNumber 1 (some .boolean),
  Cond.methodLink R_Machine 211 y_Machine_cellsOfCall,
  Cond.static y_Machine_cellsOfCall,
  Cond.code y_Machine_cellsOfCall k_Machine_cellsOfCall 2 (some .int),
  Cond.methodLink R_Machine 216 y_Machine_boundEnvironment,
  Cond.instanceMethod y_Machine_boundEnvironment,
  Cond.code y_Machine_boundEnvironment k_Machine_boundEnvironment 9 (some .int),
  Cond.methodLink R_Machine 228 y_Room_third,
  Cond.instanceMethod y_Room_third,
  Cond.selects y_Room_third.cls y_Room_third y_Room_third,
  Cond.code y_Room_third k_Room_third 2 (some .int),
  Cond.methodLink R_Machine 219 y_Machine_primitiveResult,
  Cond.instanceMethod y_Machine_primitiveResult,
  Cond.code y_Machine_primitiveResult k_Machine_primitiveResult 6 (some .int),
  Cond.methodLink R_Machine 231 y_Value_of,
  Cond.methodLink R_Machine 234 y_Machine_truth,
  Cond.static y_Machine_truth,
  Cond.code y_Machine_truth k_Machine_truth 1 (some .int),
  Cond.methodLink R_Machine 238 y_Machine_listOf]
theorem pmI_28 : pmTs_28 = [719, 720, 721, 722, 723, 724, 726, 727, 728, 729, 730, 731, 732, 734, 735, 736, 737, 738, 739, 740].filterMap (fun i => lw_tbl[i]?) := by decide +kernel
theorem pmG_28 : ∀ w ∈ pmTs_28, pm_good w = true := by decide +kernel
def pmTs_29 : List Cond := [
  Cond.instanceMethod y_Machine_listOf,
  Cond.code y_Machine_listOf k_Machine_listOf 6 (some .int),
  Cond.methodLink R_Machine 177 y_Printer_printLine,
  Cond.instanceMethod y_Printer_printLine,
  Cond.selects y_Printer_printLine.cls y_Printer_printLine y_Printer_printLine,
  Cond.code y_Printer_printLine k_Printer_printLine 2 none,
  Cond.methodLink R_Printer 21 y_Printer_print,
  Cond.instanceMethod y_Printer_print,
  Cond.code y_Printer_print k_Printer_print 3 none,
  Cond.methodLink R_Printer 31 y_Value_kind,
  Cond.methodLink R_Printer 37 y_Value_content,
  Cond.methodLink R_Printer 40 y_Printer_printNumber,
  Cond.instanceMethod y_Printer_printNumber,
  Cond.code y_Printer_printNumber k_Printer_printNumber 4 none,
  Cond.methodLink R_Printer 25 y_Output_put,
  Cond.instanceMethod y_Output_put,
  Cond.selects y_Output_put.cls y_Output_put y_Output_put,
  Cond.code y_Output_put k_Output_put 2 none,
  Cond.methodLink R_Printer 87 Lib.Math.abs.name,
  Cond.static Lib.Math.abs.name]
theorem pmI_29 : pmTs_29 = [742, 743, 744, 745, 746, 747, 748, 750, 751, 752, 753, 754, 756, 757, 758, 759, 760, 761, 762, 763].filterMap (fun i => lw_tbl[i]?) := by decide +kernel
theorem pmG_29 : ∀ w ∈ pmTs_29, pm_good w = true := by decide +kernel
def pmTs_30 : List Cond := [
  Cond.code Lib.Math.abs.name Lib.Math.abs.code 1 (some .int),
  Cond.constant R_Printer 92 (100000000),
  Cond.methodLink R_Printer 44 y_Symbols_name,
  Cond.instanceMethod y_Symbols_name,
  Cond.selects y_Symbols_name.cls y_Symbols_name y_Symbols_name,
  Cond.code y_Symbols_name k_Symbols_name 2 (some .long),
  Cond.methodLink R_Printer 50 y_Printer_printName,
  Cond.instanceMethod y_Printer_printName,
  Cond.code y_Printer_printName k_Printer_printName 5 none,
  Cond.constantLong R_Printer 93 (255),
  Cond.methodLink R_Printer 56 y_Printer_printText,
  Cond.instanceMethod y_Printer_printText,
  Cond.code y_Printer_printText k_Printer_printText 3 none,
  Cond.methodLink R_Printer 95 (⟨"java/lang/String", "length", "()I"⟩ : MethodName),
  Cond.methodLink R_Printer 101 (⟨"java/lang/String", "charAt", "(I)C"⟩ : MethodName),
  Cond.methodLink R_Printer 60 y_Printer_printList,
  Cond.instanceMethod y_Printer_printList,
  Cond.code y_Printer_printList k_Printer_printList 5 none,
  Cond.methodLink R_Printer 67 y_Value_isPair,
  Cond.methodLink R_Printer 71 y_Output_isFull]
theorem pmI_30 : pmTs_30 = [764, 765, 766, 767, 768, 769, 770, 772, 773, 774, 776, 778, 779, 780, 781, 782, 784, 785, 786, 787].filterMap (fun i => lw_tbl[i]?) := by decide +kernel
theorem pmG_30 : ∀ w ∈ pmTs_30, pm_good w = true := by decide +kernel
def pmTs_31 : List Cond := [
  Cond.instanceMethod y_Output_isFull,
  Cond.selects y_Output_isFull.cls y_Output_isFull y_Output_isFull,
  Cond.code y_Output_isFull k_Output_isFull 1 (some .boolean),
  Cond.methodLink R_Printer 75 y_Room_first,
  Cond.methodLink R_Printer 80 y_Room_second,
  Cond.methodLink R_Machine 54 y_Machine_endForm,
  Cond.instanceMethod y_Machine_endForm,
  Cond.code y_Machine_endForm k_Machine_endForm 1 none,
  Cond.methodLink R_Law 31 y_CL_outSize,
  Cond.instanceMethod y_CL_outSize,
  Cond.selects y_CL_outSize.cls y_CL_outSize y_CL_outSize,
  Cond.code y_CL_outSize k_CL_outSize 1 (some .int),
  Cond.methodLink R_Law 36 y_CL_out,
  Cond.instanceMethod y_CL_out,
  Cond.selects y_CL_out.cls y_CL_out y_CL_out,
  Cond.code y_CL_out k_CL_out 2 (some .int),
  Cond.methodLink R_CL 86 y_Output_at,
  Cond.instanceMethod y_Output_at,
  Cond.selects y_Output_at.cls y_Output_at y_Output_at,
  Cond.code y_Output_at k_Output_at 2 (some .int)]
theorem pmI_31 : pmTs_31 = [788, 789, 790, 791, 792, 797, 799, 800, 801, 802, 803, 804, 805, 806, 807, 808, 809, 810, 811, 812].filterMap (fun i => lw_tbl[i]?) := by decide +kernel
theorem pmG_31 : ∀ w ∈ pmTs_31, pm_good w = true := by decide +kernel
def pmTs_32 : List Cond := [
  Cond.methodLink R_Law 40 y_CL_clearOut,
  Cond.instanceMethod y_CL_clearOut,
  Cond.selects y_CL_clearOut.cls y_CL_clearOut y_CL_clearOut,
  Cond.code y_CL_clearOut k_CL_clearOut 1 none,
  Cond.methodLink R_Law 44 y_CL_liveCells,
  Cond.instanceMethod y_CL_liveCells,
  Cond.selects y_CL_liveCells.cls y_CL_liveCells y_CL_liveCells,
  Cond.code y_CL_liveCells k_CL_liveCells 1 (some .int),
  Cond.methodLink R_CL 90 y_Room_collect,
  Cond.methodLink R_Law 48 y_CL_count,
  Cond.instanceMethod y_CL_count,
  Cond.selects y_CL_count.cls y_CL_count y_CL_count,
  Cond.code y_CL_count k_CL_count 2 (some .int),
  Cond.methodLink R_Law 9 y_Law_cell,
  Cond.static y_Law_cell,
  Cond.code y_Law_cell k_Law_cell 2 (some .int),
  Cond.classLink R_Law 18 R_Md,
  Cond.instantiable R_Md 31,
  Cond.methodLink R_Law 20 y_Md_init,
  Cond.instanceMethod y_Md_init]
theorem pmI_32 : pmTs_32 = [813, 814, 815, 816, 817, 818, 819, 820, 821, 822, 823, 824, 825, 826, 827, 828, 829, 830, 831, 832].filterMap (fun i => lw_tbl[i]?) := by decide +kernel
theorem pmG_32 : ∀ w ∈ pmTs_32, pm_good w = true := by decide +kernel
def pmTs_33 : List Cond := [
  Cond.code y_Md_init k_Md_init 3 none,
  Cond.methodLink R_Md 1 objectInit,
  Cond.constant R_Md 45 (536870912),
  Cond.constant R_Md 77 (536872000),
  Cond.constant R_Md 78 (-2147483648),
  Cond.methodLink R_Md 79 y_Md_word,
  Cond.instanceMethod y_Md_word,
  Cond.code y_Md_word k_Md_word 7 none,
  Cond.constant R_Md 83 (536871015),
  Cond.fieldLink R_Md 87 R_Md "thrown" "I",
  Cond.fieldLink R_Md 74 R_Md "size" "I",
  Cond.fieldLink R_Md 7 R_Md "cells" "[I",
  Cond.fieldLink R_Md 13 R_Md "first" "[I",
  Cond.fieldLink R_Md 16 R_Md "second" "[I",
  Cond.fieldLink R_Md 19 R_Md "third" "[I",
  Cond.fieldLink R_Md 22 R_Md "used" "[Z",
  Cond.fieldLink R_Md 26 R_Md "kind" "[I",
  Cond.fieldLink R_Md 29 R_Md "frameA" "[I",
  Cond.fieldLink R_Md 32 R_Md "frameB" "[I",
  Cond.fieldLink R_Md 35 R_Md "frameC" "[I"]
theorem pmI_33 : pmTs_33 = [833, 834, 835, 836, 837, 838, 840, 841, 842, 843, 844, 845, 846, 847, 848, 849, 850, 851, 852, 853].filterMap (fun i => lw_tbl[i]?) := by decide +kernel
theorem pmG_33 : ∀ w ∈ pmTs_33, pm_good w = true := by decide +kernel
def pmTs_34 : List Cond := [
  Cond.fieldLink R_Md 100 R_Md "frames" "I",
  Cond.fieldLink R_Md 84 R_Md "known" "I",
  Cond.fieldLink R_Md 38 R_Md "names" "[C",
  Cond.fieldLink R_Md 42 R_Md "globals" "[I",
  Cond.fieldLink R_Md 46 R_Md "value" "I",
  Cond.fieldLink R_Md 50 R_Md "scope" "I",
  Cond.fieldLink R_Md 180 R_Md "under" "Z",
  Cond.fieldLink R_Md 184 R_Md "returns" "Z",
  Cond.fieldLink R_Md 165 R_Md "steps" "I",
  Cond.fieldLink R_Md 111 R_Md "fed" "I",
  Cond.fieldLink R_Md 53 R_Md "text" "[C",
  Cond.fieldLink R_Md 263 R_Md "waits" "I",
  Cond.fieldLink R_Md 56 R_Md "out" "[C",
  Cond.fieldLink R_Md 59 R_Md "openFirst" "[I",
  Cond.fieldLink R_Md 62 R_Md "openLast" "[I",
  Cond.fieldLink R_Md 65 R_Md "quoted" "[Z",
  Cond.fieldLink R_Md 68 R_Md "left" "[I",
  Cond.fieldLink R_Md 71 R_Md "things" "[I",
  Cond.fieldLink R_Md 148 R_Md "end" "I",
  Cond.fieldLink R_Md 139 R_Md "needs" "I"]
theorem pmI_34 : pmTs_34 = [854, 855, 856, 857, 858, 859, 860, 861, 862, 863, 864, 865, 866, 867, 868, 869, 870, 871, 872, 873].filterMap (fun i => lw_tbl[i]?) := by decide +kernel
theorem pmG_34 : ∀ w ∈ pmTs_34, pm_good w = true := by decide +kernel
def pmTs_35 : List Cond := [
  Cond.methodLink R_Law 25 y_Md_feed,
  Cond.instanceMethod y_Md_feed,
  Cond.selects y_Md_feed.cls y_Md_feed y_Md_feed,
  Cond.code y_Md_feed k_Md_feed 5 (some .boolean),
  Cond.methodLink R_Law 30 y_Md_run,
  Cond.instanceMethod y_Md_run,
  Cond.selects y_Md_run.cls y_Md_run y_Md_run,
  Cond.code y_Md_run k_Md_run 4 (some .int),
  Cond.methodLink R_Md 254 y_Md_reading,
  Cond.instanceMethod y_Md_reading,
  Cond.code y_Md_reading k_Md_reading 4 (some .int),
  Cond.methodLink R_Md 162 y_Md_lookOver,
  Cond.instanceMethod y_Md_lookOver,
  Cond.code y_Md_lookOver k_Md_lookOver 5 (some .int),
  Cond.methodLink R_Md 142 y_Md_skip,
  Cond.instanceMethod y_Md_skip,
  Cond.code y_Md_skip k_Md_skip 3 (some .int),
  Cond.methodLink R_Md 114 y_Md_isBlank,
  Cond.static y_Md_isBlank,
  Cond.code y_Md_isBlank k_Md_isBlank 1 (some .boolean)]
theorem pmI_35 : pmTs_35 = [937, 938, 939, 940, 941, 942, 943, 944, 945, 947, 948, 949, 951, 952, 953, 955, 956, 957, 958, 959].filterMap (fun i => lw_tbl[i]?) := by decide +kernel
theorem pmG_35 : ∀ w ∈ pmTs_35, pm_good w = true := by decide +kernel
def pmTs_36 : List Cond := [
  Cond.methodLink R_Md 145 y_Md_tokenEnd,
  Cond.instanceMethod y_Md_tokenEnd,
  Cond.code y_Md_tokenEnd k_Md_tokenEnd 3 (some .int),
  Cond.methodLink R_Md 118 y_Md_isSign,
  Cond.static y_Md_isSign,
  Cond.code y_Md_isSign k_Md_isSign 1 (some .boolean),
  Cond.methodLink R_Md 168 y_Md_meet,
  Cond.instanceMethod y_Md_meet,
  Cond.code y_Md_meet k_Md_meet 4 (some .boolean),
  Cond.methodLink R_Md 125 y_Md_isFigure,
  Cond.instanceMethod y_Md_isFigure,
  Cond.code y_Md_isFigure k_Md_isFigure 6 (some .boolean),
  Cond.methodLink R_Md 133 y_Md_isNil,
  Cond.instanceMethod y_Md_isNil,
  Cond.code y_Md_isNil k_Md_isNil 3 (some .boolean),
  Cond.methodLink R_Md 136 y_Md_symbolOf,
  Cond.instanceMethod y_Md_symbolOf,
  Cond.code y_Md_symbolOf k_Md_symbolOf 6 (some .int),
  Cond.methodLink R_Md 171 y_Md_room,
  Cond.instanceMethod y_Md_room]
theorem pmI_36 : pmTs_36 = [960, 962, 963, 964, 965, 966, 967, 969, 970, 971, 973, 974, 975, 977, 978, 979, 981, 982, 983, 985].filterMap (fun i => lw_tbl[i]?) := by decide +kernel
theorem pmG_36 : ∀ w ∈ pmTs_36, pm_good w = true := by decide +kernel
def pmTs_37 : List Cond := [
  Cond.code y_Md_room k_Md_room 4 (some .boolean),
  Cond.methodLink R_Md 103 y_Md_live,
  Cond.instanceMethod y_Md_live,
  Cond.code y_Md_live k_Md_live 4 (some .int),
  Cond.methodLink R_Md 96 y_Md_mark,
  Cond.instanceMethod y_Md_mark,
  Cond.code y_Md_mark k_Md_mark 2 none,
  Cond.methodLink R_Md 92 y_Md_isThing,
  Cond.static y_Md_isThing,
  Cond.code y_Md_isThing k_Md_isThing 1 (some .boolean),
  Cond.constant R_Md 91 (536873000),
  Cond.methodLink R_Md 174 y_Md_read,
  Cond.instanceMethod y_Md_read,
  Cond.code y_Md_read k_Md_read 4 none,
  Cond.methodLink R_Md 155 y_Md_arrived,
  Cond.instanceMethod y_Md_arrived,
  Cond.code y_Md_arrived k_Md_arrived 5 none,
  Cond.constant R_Md 151 (536871010),
  Cond.methodLink R_Md 152 y_Md_pair,
  Cond.instanceMethod y_Md_pair]
theorem pmI_37 : pmTs_37 = [986, 987, 989, 990, 991, 993, 994, 995, 996, 997, 998, 999, 1001, 1002, 1003, 1005, 1006, 1007, 1008, 1010].filterMap (fun i => lw_tbl[i]?) := by decide +kernel
theorem pmG_37 : ∀ w ∈ pmTs_37, pm_good w = true := by decide +kernel
def pmTs_38 : List Cond := [
  Cond.code y_Md_pair k_Md_pair 3 (some .int),
  Cond.methodLink R_Md 107 y_Md_make,
  Cond.instanceMethod y_Md_make,
  Cond.code y_Md_make k_Md_make 6 (some .int),
  Cond.methodLink R_Md 159 y_Md_atom,
  Cond.instanceMethod y_Md_atom,
  Cond.code y_Md_atom k_Md_atom 3 (some .int),
  Cond.methodLink R_Md 129 y_Md_figure,
  Cond.instanceMethod y_Md_figure,
  Cond.code y_Md_figure k_Md_figure 5 (some .int),
  Cond.methodLink R_Md 121 y_Md_wrap,
  Cond.static y_Md_wrap,
  Cond.code y_Md_wrap k_Md_wrap 1 (some .int),
  Cond.constant R_Md 90 (536871000),
  Cond.methodLink R_Md 177 y_Md_drop,
  Cond.instanceMethod y_Md_drop,
  Cond.code y_Md_drop k_Md_drop 3 none,
  Cond.methodLink R_Md 257 y_Md_back,
  Cond.instanceMethod y_Md_back,
  Cond.code y_Md_back k_Md_back 5 (some .int)]
theorem pmI_38 : pmTs_38 = [1011, 1012, 1014, 1015, 1016, 1018, 1019, 1020, 1022, 1023, 1024, 1025, 1026, 1027, 1028, 1030, 1031, 1032, 1034, 1035].filterMap (fun i => lw_tbl[i]?) := by decide +kernel
theorem pmG_38 : ∀ w ∈ pmTs_38, pm_good w = true := by decide +kernel
def pmTs_39 : List Cond := [
  Cond.methodLink R_Md 227 y_Md_print,
  Cond.instanceMethod y_Md_print,
  Cond.code y_Md_print k_Md_print 2 none,
  Cond.methodLink R_Md 281 y_Md_begin,
  Cond.instanceMethod y_Md_begin,
  Cond.code y_Md_begin k_Md_begin 3 (some .int),
  Cond.methodLink R_Md 187 y_Md_isPair,
  Cond.instanceMethod y_Md_isPair,
  Cond.code y_Md_isPair k_Md_isPair 2 (some .boolean),
  Cond.methodLink R_Md 275 y_Md_putPlain,
  Cond.instanceMethod y_Md_putPlain,
  Cond.code y_Md_putPlain k_Md_putPlain 2 none,
  Cond.methodLink R_Md 251 y_Md_isNumber,
  Cond.static y_Md_isNumber,
  Cond.code y_Md_isNumber k_Md_isNumber 1 (some .boolean),
  Cond.methodLink R_Md 269 y_Md_putNumber,
  Cond.instanceMethod y_Md_putNumber,
  Cond.code y_Md_putNumber k_Md_putNumber 4 none,
  Cond.methodLink R_Md 266 y_Md_put,
  Cond.instanceMethod y_Md_put]
theorem pmI_39 : pmTs_39 = [1036, 1038, 1039, 1040, 1042, 1043, 1044, 1046, 1047, 1048, 1050, 1051, 1052, 1053, 1054, 1055, 1057, 1058, 1059, 1061].filterMap (fun i => lw_tbl[i]?) := by decide +kernel
theorem pmG_39 : ∀ w ∈ pmTs_39, pm_good w = true := by decide +kernel
def pmTs_40 : List Cond := [
  Cond.code y_Md_put k_Md_put 2 none,
  Cond.methodLink R_Md 205 y_Md_isSymbol,
  Cond.static y_Md_isSymbol,
  Cond.code y_Md_isSymbol k_Md_isSymbol 1 (some .boolean),
  Cond.methodLink R_Md 272 y_Md_putName,
  Cond.instanceMethod y_Md_putName,
  Cond.code y_Md_putName k_Md_putName 3 none,
  Cond.methodLink R_Md 278 y_Md_putDots,
  Cond.instanceMethod y_Md_putDots,
  Cond.code y_Md_putDots k_Md_putDots 1 none,
  Cond.methodLink R_Md 284 y_Md_further,
  Cond.instanceMethod y_Md_further,
  Cond.code y_Md_further k_Md_further 3 (some .int),
  Cond.methodLink R_Md 190 y_Md_cdr,
  Cond.instanceMethod y_Md_cdr,
  Cond.code y_Md_cdr k_Md_cdr 2 (some .int),
  Cond.methodLink R_Md 193 y_Md_car,
  Cond.instanceMethod y_Md_car,
  Cond.code y_Md_car k_Md_car 2 (some .int),
  Cond.methodLink R_Md 230 y_Md_clearAll]
theorem pmI_40 : pmTs_40 = [1062, 1063, 1064, 1065, 1066, 1068, 1069, 1070, 1072, 1073, 1074, 1076, 1077, 1078, 1080, 1081, 1082, 1084, 1085, 1086].filterMap (fun i => lw_tbl[i]?) := by decide +kernel
theorem pmG_40 : ∀ w ∈ pmTs_40, pm_good w = true := by decide +kernel
def pmTs_41 : List Cond := [
  Cond.instanceMethod y_Md_clearAll,
  Cond.code y_Md_clearAll k_Md_clearAll 1 none,
  Cond.methodLink R_Md 233 y_Md_argument,
  Cond.instanceMethod y_Md_argument,
  Cond.code y_Md_argument k_Md_argument 3 (some .int),
  Cond.methodLink R_Md 236 y_Md_apply,
  Cond.instanceMethod y_Md_apply,
  Cond.code y_Md_apply k_Md_apply 8 (some .int),
  Cond.methodLink R_Md 202 y_Md_lengthOf,
  Cond.instanceMethod y_Md_lengthOf,
  Cond.code y_Md_lengthOf k_Md_lengthOf 4 (some .int),
  Cond.methodLink R_Md 211 y_Md_at,
  Cond.instanceMethod y_Md_at,
  Cond.code y_Md_at k_Md_at 5 (some .int),
  Cond.methodLink R_Md 239 y_Md_isClosure,
  Cond.instanceMethod y_Md_isClosure,
  Cond.code y_Md_isClosure k_Md_isClosure 2 (some .boolean),
  Cond.methodLink R_Md 242 y_Md_enter,
  Cond.instanceMethod y_Md_enter,
  Cond.code y_Md_enter k_Md_enter 6 (some .int)]
theorem pmI_41 : pmTs_41 = [1088, 1089, 1090, 1092, 1093, 1094, 1096, 1097, 1098, 1100, 1101, 1102, 1104, 1105, 1106, 1108, 1109, 1110, 1112, 1113].filterMap (fun i => lw_tbl[i]?) := by decide +kernel
theorem pmG_41 : ∀ w ∈ pmTs_41, pm_good w = true := by decide +kernel
def pmTs_42 : List Cond := [
  Cond.methodLink R_Md 218 y_Md_go,
  Cond.instanceMethod y_Md_go,
  Cond.code y_Md_go k_Md_go 3 (some .int),
  Cond.methodLink R_Md 245 y_Md_listed,
  Cond.instanceMethod y_Md_listed,
  Cond.code y_Md_listed k_Md_listed 5 (some .int),
  Cond.methodLink R_Md 248 y_Md_done,
  Cond.instanceMethod y_Md_done,
  Cond.code y_Md_done k_Md_done 2 (some .int),
  Cond.methodLink R_Md 199 y_Md_give,
  Cond.instanceMethod y_Md_give,
  Cond.code y_Md_give k_Md_give 2 (some .int),
  Cond.methodLink R_Md 196 y_Md_binding,
  Cond.instanceMethod y_Md_binding,
  Cond.code y_Md_binding k_Md_binding 4 (some .int),
  Cond.methodLink R_Md 260 y_Md_evaluate,
  Cond.instanceMethod y_Md_evaluate,
  Cond.code y_Md_evaluate k_Md_evaluate 2 (some .int),
  Cond.methodLink R_Md 221 y_Md_lookUp,
  Cond.instanceMethod y_Md_lookUp]
theorem pmI_42 : pmTs_42 = [1114, 1116, 1117, 1118, 1120, 1121, 1122, 1124, 1125, 1126, 1128, 1129, 1130, 1132, 1133, 1134, 1136, 1137, 1138, 1140].filterMap (fun i => lw_tbl[i]?) := by decide +kernel
theorem pmG_42 : ∀ w ∈ pmTs_42, pm_good w = true := by decide +kernel
def pmTs_43 : List Cond := [
  Cond.code y_Md_lookUp k_Md_lookUp 3 (some .int),
  Cond.methodLink R_Md 224 y_Md_special,
  Cond.instanceMethod y_Md_special,
  Cond.code y_Md_special k_Md_special 6 (some .int),
  Cond.methodLink R_Md 208 y_Md_areParameters,
  Cond.instanceMethod y_Md_areParameters,
  Cond.code y_Md_areParameters k_Md_areParameters 4 (some .boolean),
  Cond.methodLink R_Md 214 y_Md_push,
  Cond.instanceMethod y_Md_push,
  Cond.code y_Md_push k_Md_push 4 (some .int),
  Cond.methodLink R_Law 35 y_Md_outSize,
  Cond.instanceMethod y_Md_outSize,
  Cond.selects y_Md_outSize.cls y_Md_outSize y_Md_outSize,
  Cond.code y_Md_outSize k_Md_outSize 1 (some .int),
  Cond.methodLink R_Law 39 y_Md_out,
  Cond.instanceMethod y_Md_out,
  Cond.selects y_Md_out.cls y_Md_out y_Md_out,
  Cond.code y_Md_out k_Md_out 2 (some .int),
  Cond.methodLink R_Law 43 y_Md_clearOut,
  Cond.instanceMethod y_Md_clearOut]
theorem pmI_43 : pmTs_43 = [1141, 1142, 1144, 1145, 1146, 1148, 1149, 1150, 1152, 1153, 1154, 1155, 1156, 1157, 1158, 1159, 1160, 1161, 1162, 1163].filterMap (fun i => lw_tbl[i]?) := by decide +kernel
theorem pmG_43 : ∀ w ∈ pmTs_43, pm_good w = true := by decide +kernel
def pmTs_44 : List Cond := [
  Cond.selects y_Md_clearOut.cls y_Md_clearOut y_Md_clearOut,
  Cond.code y_Md_clearOut k_Md_clearOut 1 none,
  Cond.methodLink R_Law 47 y_Md_liveCells,
  Cond.instanceMethod y_Md_liveCells,
  Cond.selects y_Md_liveCells.cls y_Md_liveCells y_Md_liveCells,
  Cond.code y_Md_liveCells k_Md_liveCells 1 (some .int),
  Cond.methodLink R_Law 51 y_Md_count,
  Cond.instanceMethod y_Md_count,
  Cond.selects y_Md_count.cls y_Md_count y_Md_count,
  Cond.code y_Md_count k_Md_count 2 (some .int),
  Cond.fieldLink "java/lang/String" 9 "java/lang/String" "value" "[B",
  Cond.fieldLink "java/lang/String" 15 "java/lang/String" "coder" "B"]
theorem pmI_44 : pmTs_44 = [1164, 1165, 1166, 1167, 1168, 1169, 1170, 1171, 1172, 1173, 1174, 1175].filterMap (fun i => lw_tbl[i]?) := by decide +kernel
theorem pmG_44 : ∀ w ∈ pmTs_44, pm_good w = true := by decide +kernel
theorem pmI_L0 : u_ws R_CL T_CL 6 = [408, 410, 412, 414, 416, 418].filterMap (fun i => lw_tbl[i]?) := by decide +kernel
theorem pmG_L0 : ∀ w ∈ u_ws R_CL T_CL 6, pm_good w = true := by decide +kernel
theorem pmI_L1 : u_ws R_Text T_Text 2 = [124, 126].filterMap (fun i => lw_tbl[i]?) := by decide +kernel
theorem pmG_L1 : ∀ w ∈ u_ws R_Text T_Text 2, pm_good w = true := by decide +kernel
theorem pmI_L2 : u_ws R_Output T_Output 2 = [139, 141].filterMap (fun i => lw_tbl[i]?) := by decide +kernel
theorem pmG_L2 : ∀ w ∈ u_ws R_Output T_Output 2, pm_good w = true := by decide +kernel
theorem pmI_L3 : u_ws R_Symbols T_Symbols 3 = [216, 218, 220].filterMap (fun i => lw_tbl[i]?) := by decide +kernel
theorem pmG_L3 : ∀ w ∈ u_ws R_Symbols T_Symbols 3, pm_good w = true := by decide +kernel
theorem pmI_L4 : u_ws R_State T_State 8 = [250, 252, 254, 256, 258, 260, 262, 264].filterMap (fun i => lw_tbl[i]?) := by decide +kernel
theorem pmG_L4 : ∀ w ∈ u_ws R_State T_State 8, pm_good w = true := by decide +kernel
theorem pmI_L5 : u_ws R_Room T_Room 13 = [294, 296, 298, 300, 302, 304, 306, 308, 310, 312, 314, 316, 318].filterMap (fun i => lw_tbl[i]?) := by decide +kernel
theorem pmG_L5 : ∀ w ∈ u_ws R_Room T_Room 13, pm_good w = true := by decide +kernel
theorem pmI_L6 : u_ws R_Machine T_Machine 7 = [387, 389, 391, 393, 395, 397, 399].filterMap (fun i => lw_tbl[i]?) := by decide +kernel
theorem pmG_L6 : ∀ w ∈ u_ws R_Machine T_Machine 7, pm_good w = true := by decide +kernel
theorem pmI_L7 : u_ws R_Reader T_Reader 9 = [340, 342, 344, 346, 348, 350, 352, 354, 356].filterMap (fun i => lw_tbl[i]?) := by decide +kernel
theorem pmG_L7 : ∀ w ∈ u_ws R_Reader T_Reader 9, pm_good w = true := by decide +kernel
theorem pmI_L8 : u_ws R_Printer T_Printer 3 = [368, 370, 372].filterMap (fun i => lw_tbl[i]?) := by decide +kernel
theorem pmG_L8 : ∀ w ∈ u_ws R_Printer T_Printer 3, pm_good w = true := by decide +kernel
theorem pmI_L9 : u_ws R_Md T_Md 31 = [874, 876, 878, 880, 882, 884, 886, 888, 890, 892, 894, 896, 898, 900, 902, 904, 906, 908, 910, 912, 914, 916, 918, 920, 922, 924, 926, 928, 930, 932, 934].filterMap (fun i => lw_tbl[i]?) := by decide +kernel
theorem pmG_L9 : ∀ w ∈ u_ws R_Md T_Md 31, pm_good w = true := by decide +kernel
def pmTs : List Cond := pmTs_0 ++ (pmTs_1 ++ (pmTs_2 ++ (pmTs_3 ++ (pmTs_4 ++ (pmTs_5 ++ (pmTs_6 ++ (pmTs_7 ++ (pmTs_8 ++ (pmTs_9 ++ (pmTs_10 ++ (pmTs_11 ++ (pmTs_12 ++ (pmTs_13 ++ (pmTs_14 ++ (pmTs_15 ++ (pmTs_16 ++ (pmTs_17 ++ (pmTs_18 ++ (pmTs_19 ++ (pmTs_20 ++ (pmTs_21 ++ (pmTs_22 ++ (pmTs_23 ++ (pmTs_24 ++ (pmTs_25 ++ (pmTs_26 ++ (pmTs_27 ++ (pmTs_28 ++ (pmTs_29 ++ (pmTs_30 ++ (pmTs_31 ++ (pmTs_32 ++ (pmTs_33 ++ (pmTs_34 ++ (pmTs_35 ++ (pmTs_36 ++ (pmTs_37 ++ (pmTs_38 ++ (pmTs_39 ++ (pmTs_40 ++ (pmTs_41 ++ (pmTs_42 ++ (pmTs_43 ++ (pmTs_44 ++ ((u_ws R_CL T_CL 6) ++ ((u_ws R_Text T_Text 2) ++ ((u_ws R_Output T_Output 2) ++ ((u_ws R_Symbols T_Symbols 3) ++ ((u_ws R_State T_State 8) ++ ((u_ws R_Room T_Room 13) ++ ((u_ws R_Machine T_Machine 7) ++ ((u_ws R_Reader T_Reader 9) ++ ((u_ws R_Printer T_Printer 3) ++ ((u_ws R_Md T_Md 31)))))))))))))))))))))))))))))))))))))))))))))))))))))))
theorem pmM_0 {w : Cond} (h : w ∈ pmTs_0) : w ∈ pmTs := List.mem_append_left _ h
theorem pmM_1 {w : Cond} (h : w ∈ pmTs_1) : w ∈ pmTs := List.mem_append_right _ (List.mem_append_left _ h)
theorem pmM_2 {w : Cond} (h : w ∈ pmTs_2) : w ∈ pmTs := List.mem_append_right _ (List.mem_append_right _ (List.mem_append_left _ h))
theorem pmM_3 {w : Cond} (h : w ∈ pmTs_3) : w ∈ pmTs := List.mem_append_right _ (List.mem_append_right _ (List.mem_append_right _ (List.mem_append_left _ h)))
theorem pmM_4 {w : Cond} (h : w ∈ pmTs_4) : w ∈ pmTs := List.mem_append_right _ (List.mem_append_right _ (List.mem_append_right _ (List.mem_append_right _ (List.mem_append_left _ h))))
theorem pmM_5 {w : Cond} (h : w ∈ pmTs_5) : w ∈ pmTs := List.mem_append_right _ (List.mem_append_right _ (List.mem_append_right _ (List.mem_append_right _ (List.mem_append_right _ (List.mem_append_left _ h)))))
theorem pmM_6 {w : Cond} (h : w ∈ pmTs_6) : w ∈ pmTs := List.mem_append_right _ (List.mem_append_right _ (List.mem_append_right _ (List.mem_append_right _ (List.mem_append_right _ (List.mem_append_right _ (List.mem_append_left _ h))))))
theorem pmM_7 {w : Cond} (h : w ∈ pmTs_7) : w ∈ pmTs := List.mem_append_right _ (List.mem_append_right _ (List.mem_append_right _ (List.mem_append_right _ (List.mem_append_right _ (List.mem_append_right _ (List.mem_append_right _ (List.mem_append_left _ h)))))))
theorem pmM_8 {w : Cond} (h : w ∈ pmTs_8) : w ∈ pmTs := List.mem_append_right _ (List.mem_append_right _ (List.mem_append_right _ (List.mem_append_right _ (List.mem_append_right _ (List.mem_append_right _ (List.mem_append_right _ (List.mem_append_right _ (List.mem_append_left _ h))))))))
theorem pmM_9 {w : Cond} (h : w ∈ pmTs_9) : w ∈ pmTs := List.mem_append_right _ (List.mem_append_right _ (List.mem_append_right _ (List.mem_append_right _ (List.mem_append_right _ (List.mem_append_right _ (List.mem_append_right _ (List.mem_append_right _ (List.mem_append_right _ (List.mem_append_left _ h)))))))))
theorem pmM_10 {w : Cond} (h : w ∈ pmTs_10) : w ∈ pmTs := List.mem_append_right _ (List.mem_append_right _ (List.mem_append_right _ (List.mem_append_right _ (List.mem_append_right _ (List.mem_append_right _ (List.mem_append_right _ (List.mem_append_right _ (List.mem_append_right _ (List.mem_append_right _ (List.mem_append_left _ h))))))))))
theorem pmM_11 {w : Cond} (h : w ∈ pmTs_11) : w ∈ pmTs := List.mem_append_right _ (List.mem_append_right _ (List.mem_append_right _ (List.mem_append_right _ (List.mem_append_right _ (List.mem_append_right _ (List.mem_append_right _ (List.mem_append_right _ (List.mem_append_right _ (List.mem_append_right _ (List.mem_append_right _ (List.mem_append_left _ h)))))))))))
theorem pmM_12 {w : Cond} (h : w ∈ pmTs_12) : w ∈ pmTs := List.mem_append_right _ (List.mem_append_right _ (List.mem_append_right _ (List.mem_append_right _ (List.mem_append_right _ (List.mem_append_right _ (List.mem_append_right _ (List.mem_append_right _ (List.mem_append_right _ (List.mem_append_right _ (List.mem_append_right _ (List.mem_append_right _ (List.mem_append_left _ h))))))))))))
theorem pmM_13 {w : Cond} (h : w ∈ pmTs_13) : w ∈ pmTs := List.mem_append_right _ (List.mem_append_right _ (List.mem_append_right _ (List.mem_append_right _ (List.mem_append_right _ (List.mem_append_right _ (List.mem_append_right _ (List.mem_append_right _ (List.mem_append_right _ (List.mem_append_right _ (List.mem_append_right _ (List.mem_append_right _ (List.mem_append_right _ (List.mem_append_left _ h)))))))))))))
theorem pmM_14 {w : Cond} (h : w ∈ pmTs_14) : w ∈ pmTs := List.mem_append_right _ (List.mem_append_right _ (List.mem_append_right _ (List.mem_append_right _ (List.mem_append_right _ (List.mem_append_right _ (List.mem_append_right _ (List.mem_append_right _ (List.mem_append_right _ (List.mem_append_right _ (List.mem_append_right _ (List.mem_append_right _ (List.mem_append_right _ (List.mem_append_right _ (List.mem_append_left _ h))))))))))))))
theorem pmM_15 {w : Cond} (h : w ∈ pmTs_15) : w ∈ pmTs := List.mem_append_right _ (List.mem_append_right _ (List.mem_append_right _ (List.mem_append_right _ (List.mem_append_right _ (List.mem_append_right _ (List.mem_append_right _ (List.mem_append_right _ (List.mem_append_right _ (List.mem_append_right _ (List.mem_append_right _ (List.mem_append_right _ (List.mem_append_right _ (List.mem_append_right _ (List.mem_append_right _ (List.mem_append_left _ h)))))))))))))))
theorem pmM_16 {w : Cond} (h : w ∈ pmTs_16) : w ∈ pmTs := List.mem_append_right _ (List.mem_append_right _ (List.mem_append_right _ (List.mem_append_right _ (List.mem_append_right _ (List.mem_append_right _ (List.mem_append_right _ (List.mem_append_right _ (List.mem_append_right _ (List.mem_append_right _ (List.mem_append_right _ (List.mem_append_right _ (List.mem_append_right _ (List.mem_append_right _ (List.mem_append_right _ (List.mem_append_right _ (List.mem_append_left _ h))))))))))))))))
theorem pmM_17 {w : Cond} (h : w ∈ pmTs_17) : w ∈ pmTs := List.mem_append_right _ (List.mem_append_right _ (List.mem_append_right _ (List.mem_append_right _ (List.mem_append_right _ (List.mem_append_right _ (List.mem_append_right _ (List.mem_append_right _ (List.mem_append_right _ (List.mem_append_right _ (List.mem_append_right _ (List.mem_append_right _ (List.mem_append_right _ (List.mem_append_right _ (List.mem_append_right _ (List.mem_append_right _ (List.mem_append_right _ (List.mem_append_left _ h)))))))))))))))))
theorem pmM_18 {w : Cond} (h : w ∈ pmTs_18) : w ∈ pmTs := List.mem_append_right _ (List.mem_append_right _ (List.mem_append_right _ (List.mem_append_right _ (List.mem_append_right _ (List.mem_append_right _ (List.mem_append_right _ (List.mem_append_right _ (List.mem_append_right _ (List.mem_append_right _ (List.mem_append_right _ (List.mem_append_right _ (List.mem_append_right _ (List.mem_append_right _ (List.mem_append_right _ (List.mem_append_right _ (List.mem_append_right _ (List.mem_append_right _ (List.mem_append_left _ h))))))))))))))))))
theorem pmM_19 {w : Cond} (h : w ∈ pmTs_19) : w ∈ pmTs := List.mem_append_right _ (List.mem_append_right _ (List.mem_append_right _ (List.mem_append_right _ (List.mem_append_right _ (List.mem_append_right _ (List.mem_append_right _ (List.mem_append_right _ (List.mem_append_right _ (List.mem_append_right _ (List.mem_append_right _ (List.mem_append_right _ (List.mem_append_right _ (List.mem_append_right _ (List.mem_append_right _ (List.mem_append_right _ (List.mem_append_right _ (List.mem_append_right _ (List.mem_append_right _ (List.mem_append_left _ h)))))))))))))))))))
theorem pmM_20 {w : Cond} (h : w ∈ pmTs_20) : w ∈ pmTs := List.mem_append_right _ (List.mem_append_right _ (List.mem_append_right _ (List.mem_append_right _ (List.mem_append_right _ (List.mem_append_right _ (List.mem_append_right _ (List.mem_append_right _ (List.mem_append_right _ (List.mem_append_right _ (List.mem_append_right _ (List.mem_append_right _ (List.mem_append_right _ (List.mem_append_right _ (List.mem_append_right _ (List.mem_append_right _ (List.mem_append_right _ (List.mem_append_right _ (List.mem_append_right _ (List.mem_append_right _ (List.mem_append_left _ h))))))))))))))))))))
theorem pmM_21 {w : Cond} (h : w ∈ pmTs_21) : w ∈ pmTs := List.mem_append_right _ (List.mem_append_right _ (List.mem_append_right _ (List.mem_append_right _ (List.mem_append_right _ (List.mem_append_right _ (List.mem_append_right _ (List.mem_append_right _ (List.mem_append_right _ (List.mem_append_right _ (List.mem_append_right _ (List.mem_append_right _ (List.mem_append_right _ (List.mem_append_right _ (List.mem_append_right _ (List.mem_append_right _ (List.mem_append_right _ (List.mem_append_right _ (List.mem_append_right _ (List.mem_append_right _ (List.mem_append_right _ (List.mem_append_left _ h)))))))))))))))))))))
theorem pmM_22 {w : Cond} (h : w ∈ pmTs_22) : w ∈ pmTs := List.mem_append_right _ (List.mem_append_right _ (List.mem_append_right _ (List.mem_append_right _ (List.mem_append_right _ (List.mem_append_right _ (List.mem_append_right _ (List.mem_append_right _ (List.mem_append_right _ (List.mem_append_right _ (List.mem_append_right _ (List.mem_append_right _ (List.mem_append_right _ (List.mem_append_right _ (List.mem_append_right _ (List.mem_append_right _ (List.mem_append_right _ (List.mem_append_right _ (List.mem_append_right _ (List.mem_append_right _ (List.mem_append_right _ (List.mem_append_right _ (List.mem_append_left _ h))))))))))))))))))))))
theorem pmM_23 {w : Cond} (h : w ∈ pmTs_23) : w ∈ pmTs := List.mem_append_right _ (List.mem_append_right _ (List.mem_append_right _ (List.mem_append_right _ (List.mem_append_right _ (List.mem_append_right _ (List.mem_append_right _ (List.mem_append_right _ (List.mem_append_right _ (List.mem_append_right _ (List.mem_append_right _ (List.mem_append_right _ (List.mem_append_right _ (List.mem_append_right _ (List.mem_append_right _ (List.mem_append_right _ (List.mem_append_right _ (List.mem_append_right _ (List.mem_append_right _ (List.mem_append_right _ (List.mem_append_right _ (List.mem_append_right _ (List.mem_append_right _ (List.mem_append_left _ h)))))))))))))))))))))))
theorem pmM_24 {w : Cond} (h : w ∈ pmTs_24) : w ∈ pmTs := List.mem_append_right _ (List.mem_append_right _ (List.mem_append_right _ (List.mem_append_right _ (List.mem_append_right _ (List.mem_append_right _ (List.mem_append_right _ (List.mem_append_right _ (List.mem_append_right _ (List.mem_append_right _ (List.mem_append_right _ (List.mem_append_right _ (List.mem_append_right _ (List.mem_append_right _ (List.mem_append_right _ (List.mem_append_right _ (List.mem_append_right _ (List.mem_append_right _ (List.mem_append_right _ (List.mem_append_right _ (List.mem_append_right _ (List.mem_append_right _ (List.mem_append_right _ (List.mem_append_right _ (List.mem_append_left _ h))))))))))))))))))))))))
theorem pmM_25 {w : Cond} (h : w ∈ pmTs_25) : w ∈ pmTs := List.mem_append_right _ (List.mem_append_right _ (List.mem_append_right _ (List.mem_append_right _ (List.mem_append_right _ (List.mem_append_right _ (List.mem_append_right _ (List.mem_append_right _ (List.mem_append_right _ (List.mem_append_right _ (List.mem_append_right _ (List.mem_append_right _ (List.mem_append_right _ (List.mem_append_right _ (List.mem_append_right _ (List.mem_append_right _ (List.mem_append_right _ (List.mem_append_right _ (List.mem_append_right _ (List.mem_append_right _ (List.mem_append_right _ (List.mem_append_right _ (List.mem_append_right _ (List.mem_append_right _ (List.mem_append_right _ (List.mem_append_left _ h)))))))))))))))))))))))))
theorem pmM_26 {w : Cond} (h : w ∈ pmTs_26) : w ∈ pmTs := List.mem_append_right _ (List.mem_append_right _ (List.mem_append_right _ (List.mem_append_right _ (List.mem_append_right _ (List.mem_append_right _ (List.mem_append_right _ (List.mem_append_right _ (List.mem_append_right _ (List.mem_append_right _ (List.mem_append_right _ (List.mem_append_right _ (List.mem_append_right _ (List.mem_append_right _ (List.mem_append_right _ (List.mem_append_right _ (List.mem_append_right _ (List.mem_append_right _ (List.mem_append_right _ (List.mem_append_right _ (List.mem_append_right _ (List.mem_append_right _ (List.mem_append_right _ (List.mem_append_right _ (List.mem_append_right _ (List.mem_append_right _ (List.mem_append_left _ h))))))))))))))))))))))))))
theorem pmM_27 {w : Cond} (h : w ∈ pmTs_27) : w ∈ pmTs := List.mem_append_right _ (List.mem_append_right _ (List.mem_append_right _ (List.mem_append_right _ (List.mem_append_right _ (List.mem_append_right _ (List.mem_append_right _ (List.mem_append_right _ (List.mem_append_right _ (List.mem_append_right _ (List.mem_append_right _ (List.mem_append_right _ (List.mem_append_right _ (List.mem_append_right _ (List.mem_append_right _ (List.mem_append_right _ (List.mem_append_right _ (List.mem_append_right _ (List.mem_append_right _ (List.mem_append_right _ (List.mem_append_right _ (List.mem_append_right _ (List.mem_append_right _ (List.mem_append_right _ (List.mem_append_right _ (List.mem_append_right _ (List.mem_append_right _ (List.mem_append_left _ h)))))))))))))))))))))))))))
theorem pmM_28 {w : Cond} (h : w ∈ pmTs_28) : w ∈ pmTs := List.mem_append_right _ (List.mem_append_right _ (List.mem_append_right _ (List.mem_append_right _ (List.mem_append_right _ (List.mem_append_right _ (List.mem_append_right _ (List.mem_append_right _ (List.mem_append_right _ (List.mem_append_right _ (List.mem_append_right _ (List.mem_append_right _ (List.mem_append_right _ (List.mem_append_right _ (List.mem_append_right _ (List.mem_append_right _ (List.mem_append_right _ (List.mem_append_right _ (List.mem_append_right _ (List.mem_append_right _ (List.mem_append_right _ (List.mem_append_right _ (List.mem_append_right _ (List.mem_append_right _ (List.mem_append_right _ (List.mem_append_right _ (List.mem_append_right _ (List.mem_append_right _ (List.mem_append_left _ h))))))))))))))))))))))))))))
theorem pmM_29 {w : Cond} (h : w ∈ pmTs_29) : w ∈ pmTs := List.mem_append_right _ (List.mem_append_right _ (List.mem_append_right _ (List.mem_append_right _ (List.mem_append_right _ (List.mem_append_right _ (List.mem_append_right _ (List.mem_append_right _ (List.mem_append_right _ (List.mem_append_right _ (List.mem_append_right _ (List.mem_append_right _ (List.mem_append_right _ (List.mem_append_right _ (List.mem_append_right _ (List.mem_append_right _ (List.mem_append_right _ (List.mem_append_right _ (List.mem_append_right _ (List.mem_append_right _ (List.mem_append_right _ (List.mem_append_right _ (List.mem_append_right _ (List.mem_append_right _ (List.mem_append_right _ (List.mem_append_right _ (List.mem_append_right _ (List.mem_append_right _ (List.mem_append_right _ (List.mem_append_left _ h)))))))))))))))))))))))))))))
theorem pmM_30 {w : Cond} (h : w ∈ pmTs_30) : w ∈ pmTs := List.mem_append_right _ (List.mem_append_right _ (List.mem_append_right _ (List.mem_append_right _ (List.mem_append_right _ (List.mem_append_right _ (List.mem_append_right _ (List.mem_append_right _ (List.mem_append_right _ (List.mem_append_right _ (List.mem_append_right _ (List.mem_append_right _ (List.mem_append_right _ (List.mem_append_right _ (List.mem_append_right _ (List.mem_append_right _ (List.mem_append_right _ (List.mem_append_right _ (List.mem_append_right _ (List.mem_append_right _ (List.mem_append_right _ (List.mem_append_right _ (List.mem_append_right _ (List.mem_append_right _ (List.mem_append_right _ (List.mem_append_right _ (List.mem_append_right _ (List.mem_append_right _ (List.mem_append_right _ (List.mem_append_right _ (List.mem_append_left _ h))))))))))))))))))))))))))))))
theorem pmM_31 {w : Cond} (h : w ∈ pmTs_31) : w ∈ pmTs := List.mem_append_right _ (List.mem_append_right _ (List.mem_append_right _ (List.mem_append_right _ (List.mem_append_right _ (List.mem_append_right _ (List.mem_append_right _ (List.mem_append_right _ (List.mem_append_right _ (List.mem_append_right _ (List.mem_append_right _ (List.mem_append_right _ (List.mem_append_right _ (List.mem_append_right _ (List.mem_append_right _ (List.mem_append_right _ (List.mem_append_right _ (List.mem_append_right _ (List.mem_append_right _ (List.mem_append_right _ (List.mem_append_right _ (List.mem_append_right _ (List.mem_append_right _ (List.mem_append_right _ (List.mem_append_right _ (List.mem_append_right _ (List.mem_append_right _ (List.mem_append_right _ (List.mem_append_right _ (List.mem_append_right _ (List.mem_append_right _ (List.mem_append_left _ h)))))))))))))))))))))))))))))))
theorem pmM_32 {w : Cond} (h : w ∈ pmTs_32) : w ∈ pmTs := List.mem_append_right _ (List.mem_append_right _ (List.mem_append_right _ (List.mem_append_right _ (List.mem_append_right _ (List.mem_append_right _ (List.mem_append_right _ (List.mem_append_right _ (List.mem_append_right _ (List.mem_append_right _ (List.mem_append_right _ (List.mem_append_right _ (List.mem_append_right _ (List.mem_append_right _ (List.mem_append_right _ (List.mem_append_right _ (List.mem_append_right _ (List.mem_append_right _ (List.mem_append_right _ (List.mem_append_right _ (List.mem_append_right _ (List.mem_append_right _ (List.mem_append_right _ (List.mem_append_right _ (List.mem_append_right _ (List.mem_append_right _ (List.mem_append_right _ (List.mem_append_right _ (List.mem_append_right _ (List.mem_append_right _ (List.mem_append_right _ (List.mem_append_right _ (List.mem_append_left _ h))))))))))))))))))))))))))))))))
theorem pmM_33 {w : Cond} (h : w ∈ pmTs_33) : w ∈ pmTs := List.mem_append_right _ (List.mem_append_right _ (List.mem_append_right _ (List.mem_append_right _ (List.mem_append_right _ (List.mem_append_right _ (List.mem_append_right _ (List.mem_append_right _ (List.mem_append_right _ (List.mem_append_right _ (List.mem_append_right _ (List.mem_append_right _ (List.mem_append_right _ (List.mem_append_right _ (List.mem_append_right _ (List.mem_append_right _ (List.mem_append_right _ (List.mem_append_right _ (List.mem_append_right _ (List.mem_append_right _ (List.mem_append_right _ (List.mem_append_right _ (List.mem_append_right _ (List.mem_append_right _ (List.mem_append_right _ (List.mem_append_right _ (List.mem_append_right _ (List.mem_append_right _ (List.mem_append_right _ (List.mem_append_right _ (List.mem_append_right _ (List.mem_append_right _ (List.mem_append_right _ (List.mem_append_left _ h)))))))))))))))))))))))))))))))))
theorem pmM_34 {w : Cond} (h : w ∈ pmTs_34) : w ∈ pmTs := List.mem_append_right _ (List.mem_append_right _ (List.mem_append_right _ (List.mem_append_right _ (List.mem_append_right _ (List.mem_append_right _ (List.mem_append_right _ (List.mem_append_right _ (List.mem_append_right _ (List.mem_append_right _ (List.mem_append_right _ (List.mem_append_right _ (List.mem_append_right _ (List.mem_append_right _ (List.mem_append_right _ (List.mem_append_right _ (List.mem_append_right _ (List.mem_append_right _ (List.mem_append_right _ (List.mem_append_right _ (List.mem_append_right _ (List.mem_append_right _ (List.mem_append_right _ (List.mem_append_right _ (List.mem_append_right _ (List.mem_append_right _ (List.mem_append_right _ (List.mem_append_right _ (List.mem_append_right _ (List.mem_append_right _ (List.mem_append_right _ (List.mem_append_right _ (List.mem_append_right _ (List.mem_append_right _ (List.mem_append_left _ h))))))))))))))))))))))))))))))))))
theorem pmM_35 {w : Cond} (h : w ∈ pmTs_35) : w ∈ pmTs := List.mem_append_right _ (List.mem_append_right _ (List.mem_append_right _ (List.mem_append_right _ (List.mem_append_right _ (List.mem_append_right _ (List.mem_append_right _ (List.mem_append_right _ (List.mem_append_right _ (List.mem_append_right _ (List.mem_append_right _ (List.mem_append_right _ (List.mem_append_right _ (List.mem_append_right _ (List.mem_append_right _ (List.mem_append_right _ (List.mem_append_right _ (List.mem_append_right _ (List.mem_append_right _ (List.mem_append_right _ (List.mem_append_right _ (List.mem_append_right _ (List.mem_append_right _ (List.mem_append_right _ (List.mem_append_right _ (List.mem_append_right _ (List.mem_append_right _ (List.mem_append_right _ (List.mem_append_right _ (List.mem_append_right _ (List.mem_append_right _ (List.mem_append_right _ (List.mem_append_right _ (List.mem_append_right _ (List.mem_append_right _ (List.mem_append_left _ h)))))))))))))))))))))))))))))))))))
theorem pmM_36 {w : Cond} (h : w ∈ pmTs_36) : w ∈ pmTs := List.mem_append_right _ (List.mem_append_right _ (List.mem_append_right _ (List.mem_append_right _ (List.mem_append_right _ (List.mem_append_right _ (List.mem_append_right _ (List.mem_append_right _ (List.mem_append_right _ (List.mem_append_right _ (List.mem_append_right _ (List.mem_append_right _ (List.mem_append_right _ (List.mem_append_right _ (List.mem_append_right _ (List.mem_append_right _ (List.mem_append_right _ (List.mem_append_right _ (List.mem_append_right _ (List.mem_append_right _ (List.mem_append_right _ (List.mem_append_right _ (List.mem_append_right _ (List.mem_append_right _ (List.mem_append_right _ (List.mem_append_right _ (List.mem_append_right _ (List.mem_append_right _ (List.mem_append_right _ (List.mem_append_right _ (List.mem_append_right _ (List.mem_append_right _ (List.mem_append_right _ (List.mem_append_right _ (List.mem_append_right _ (List.mem_append_right _ (List.mem_append_left _ h))))))))))))))))))))))))))))))))))))
theorem pmM_37 {w : Cond} (h : w ∈ pmTs_37) : w ∈ pmTs := List.mem_append_right _ (List.mem_append_right _ (List.mem_append_right _ (List.mem_append_right _ (List.mem_append_right _ (List.mem_append_right _ (List.mem_append_right _ (List.mem_append_right _ (List.mem_append_right _ (List.mem_append_right _ (List.mem_append_right _ (List.mem_append_right _ (List.mem_append_right _ (List.mem_append_right _ (List.mem_append_right _ (List.mem_append_right _ (List.mem_append_right _ (List.mem_append_right _ (List.mem_append_right _ (List.mem_append_right _ (List.mem_append_right _ (List.mem_append_right _ (List.mem_append_right _ (List.mem_append_right _ (List.mem_append_right _ (List.mem_append_right _ (List.mem_append_right _ (List.mem_append_right _ (List.mem_append_right _ (List.mem_append_right _ (List.mem_append_right _ (List.mem_append_right _ (List.mem_append_right _ (List.mem_append_right _ (List.mem_append_right _ (List.mem_append_right _ (List.mem_append_right _ (List.mem_append_left _ h)))))))))))))))))))))))))))))))))))))
theorem pmM_38 {w : Cond} (h : w ∈ pmTs_38) : w ∈ pmTs := List.mem_append_right _ (List.mem_append_right _ (List.mem_append_right _ (List.mem_append_right _ (List.mem_append_right _ (List.mem_append_right _ (List.mem_append_right _ (List.mem_append_right _ (List.mem_append_right _ (List.mem_append_right _ (List.mem_append_right _ (List.mem_append_right _ (List.mem_append_right _ (List.mem_append_right _ (List.mem_append_right _ (List.mem_append_right _ (List.mem_append_right _ (List.mem_append_right _ (List.mem_append_right _ (List.mem_append_right _ (List.mem_append_right _ (List.mem_append_right _ (List.mem_append_right _ (List.mem_append_right _ (List.mem_append_right _ (List.mem_append_right _ (List.mem_append_right _ (List.mem_append_right _ (List.mem_append_right _ (List.mem_append_right _ (List.mem_append_right _ (List.mem_append_right _ (List.mem_append_right _ (List.mem_append_right _ (List.mem_append_right _ (List.mem_append_right _ (List.mem_append_right _ (List.mem_append_right _ (List.mem_append_left _ h))))))))))))))))))))))))))))))))))))))
theorem pmM_39 {w : Cond} (h : w ∈ pmTs_39) : w ∈ pmTs := List.mem_append_right _ (List.mem_append_right _ (List.mem_append_right _ (List.mem_append_right _ (List.mem_append_right _ (List.mem_append_right _ (List.mem_append_right _ (List.mem_append_right _ (List.mem_append_right _ (List.mem_append_right _ (List.mem_append_right _ (List.mem_append_right _ (List.mem_append_right _ (List.mem_append_right _ (List.mem_append_right _ (List.mem_append_right _ (List.mem_append_right _ (List.mem_append_right _ (List.mem_append_right _ (List.mem_append_right _ (List.mem_append_right _ (List.mem_append_right _ (List.mem_append_right _ (List.mem_append_right _ (List.mem_append_right _ (List.mem_append_right _ (List.mem_append_right _ (List.mem_append_right _ (List.mem_append_right _ (List.mem_append_right _ (List.mem_append_right _ (List.mem_append_right _ (List.mem_append_right _ (List.mem_append_right _ (List.mem_append_right _ (List.mem_append_right _ (List.mem_append_right _ (List.mem_append_right _ (List.mem_append_right _ (List.mem_append_left _ h)))))))))))))))))))))))))))))))))))))))
theorem pmM_40 {w : Cond} (h : w ∈ pmTs_40) : w ∈ pmTs := List.mem_append_right _ (List.mem_append_right _ (List.mem_append_right _ (List.mem_append_right _ (List.mem_append_right _ (List.mem_append_right _ (List.mem_append_right _ (List.mem_append_right _ (List.mem_append_right _ (List.mem_append_right _ (List.mem_append_right _ (List.mem_append_right _ (List.mem_append_right _ (List.mem_append_right _ (List.mem_append_right _ (List.mem_append_right _ (List.mem_append_right _ (List.mem_append_right _ (List.mem_append_right _ (List.mem_append_right _ (List.mem_append_right _ (List.mem_append_right _ (List.mem_append_right _ (List.mem_append_right _ (List.mem_append_right _ (List.mem_append_right _ (List.mem_append_right _ (List.mem_append_right _ (List.mem_append_right _ (List.mem_append_right _ (List.mem_append_right _ (List.mem_append_right _ (List.mem_append_right _ (List.mem_append_right _ (List.mem_append_right _ (List.mem_append_right _ (List.mem_append_right _ (List.mem_append_right _ (List.mem_append_right _ (List.mem_append_right _ (List.mem_append_left _ h))))))))))))))))))))))))))))))))))))))))
theorem pmM_41 {w : Cond} (h : w ∈ pmTs_41) : w ∈ pmTs := List.mem_append_right _ (List.mem_append_right _ (List.mem_append_right _ (List.mem_append_right _ (List.mem_append_right _ (List.mem_append_right _ (List.mem_append_right _ (List.mem_append_right _ (List.mem_append_right _ (List.mem_append_right _ (List.mem_append_right _ (List.mem_append_right _ (List.mem_append_right _ (List.mem_append_right _ (List.mem_append_right _ (List.mem_append_right _ (List.mem_append_right _ (List.mem_append_right _ (List.mem_append_right _ (List.mem_append_right _ (List.mem_append_right _ (List.mem_append_right _ (List.mem_append_right _ (List.mem_append_right _ (List.mem_append_right _ (List.mem_append_right _ (List.mem_append_right _ (List.mem_append_right _ (List.mem_append_right _ (List.mem_append_right _ (List.mem_append_right _ (List.mem_append_right _ (List.mem_append_right _ (List.mem_append_right _ (List.mem_append_right _ (List.mem_append_right _ (List.mem_append_right _ (List.mem_append_right _ (List.mem_append_right _ (List.mem_append_right _ (List.mem_append_right _ (List.mem_append_left _ h)))))))))))))))))))))))))))))))))))))))))
theorem pmM_42 {w : Cond} (h : w ∈ pmTs_42) : w ∈ pmTs := List.mem_append_right _ (List.mem_append_right _ (List.mem_append_right _ (List.mem_append_right _ (List.mem_append_right _ (List.mem_append_right _ (List.mem_append_right _ (List.mem_append_right _ (List.mem_append_right _ (List.mem_append_right _ (List.mem_append_right _ (List.mem_append_right _ (List.mem_append_right _ (List.mem_append_right _ (List.mem_append_right _ (List.mem_append_right _ (List.mem_append_right _ (List.mem_append_right _ (List.mem_append_right _ (List.mem_append_right _ (List.mem_append_right _ (List.mem_append_right _ (List.mem_append_right _ (List.mem_append_right _ (List.mem_append_right _ (List.mem_append_right _ (List.mem_append_right _ (List.mem_append_right _ (List.mem_append_right _ (List.mem_append_right _ (List.mem_append_right _ (List.mem_append_right _ (List.mem_append_right _ (List.mem_append_right _ (List.mem_append_right _ (List.mem_append_right _ (List.mem_append_right _ (List.mem_append_right _ (List.mem_append_right _ (List.mem_append_right _ (List.mem_append_right _ (List.mem_append_right _ (List.mem_append_left _ h))))))))))))))))))))))))))))))))))))))))))
theorem pmM_43 {w : Cond} (h : w ∈ pmTs_43) : w ∈ pmTs := List.mem_append_right _ (List.mem_append_right _ (List.mem_append_right _ (List.mem_append_right _ (List.mem_append_right _ (List.mem_append_right _ (List.mem_append_right _ (List.mem_append_right _ (List.mem_append_right _ (List.mem_append_right _ (List.mem_append_right _ (List.mem_append_right _ (List.mem_append_right _ (List.mem_append_right _ (List.mem_append_right _ (List.mem_append_right _ (List.mem_append_right _ (List.mem_append_right _ (List.mem_append_right _ (List.mem_append_right _ (List.mem_append_right _ (List.mem_append_right _ (List.mem_append_right _ (List.mem_append_right _ (List.mem_append_right _ (List.mem_append_right _ (List.mem_append_right _ (List.mem_append_right _ (List.mem_append_right _ (List.mem_append_right _ (List.mem_append_right _ (List.mem_append_right _ (List.mem_append_right _ (List.mem_append_right _ (List.mem_append_right _ (List.mem_append_right _ (List.mem_append_right _ (List.mem_append_right _ (List.mem_append_right _ (List.mem_append_right _ (List.mem_append_right _ (List.mem_append_right _ (List.mem_append_right _ (List.mem_append_left _ h)))))))))))))))))))))))))))))))))))))))))))
theorem pmM_44 {w : Cond} (h : w ∈ pmTs_44) : w ∈ pmTs := List.mem_append_right _ (List.mem_append_right _ (List.mem_append_right _ (List.mem_append_right _ (List.mem_append_right _ (List.mem_append_right _ (List.mem_append_right _ (List.mem_append_right _ (List.mem_append_right _ (List.mem_append_right _ (List.mem_append_right _ (List.mem_append_right _ (List.mem_append_right _ (List.mem_append_right _ (List.mem_append_right _ (List.mem_append_right _ (List.mem_append_right _ (List.mem_append_right _ (List.mem_append_right _ (List.mem_append_right _ (List.mem_append_right _ (List.mem_append_right _ (List.mem_append_right _ (List.mem_append_right _ (List.mem_append_right _ (List.mem_append_right _ (List.mem_append_right _ (List.mem_append_right _ (List.mem_append_right _ (List.mem_append_right _ (List.mem_append_right _ (List.mem_append_right _ (List.mem_append_right _ (List.mem_append_right _ (List.mem_append_right _ (List.mem_append_right _ (List.mem_append_right _ (List.mem_append_right _ (List.mem_append_right _ (List.mem_append_right _ (List.mem_append_right _ (List.mem_append_right _ (List.mem_append_right _ (List.mem_append_right _ (List.mem_append_left _ h))))))))))))))))))))))))))))))))))))))))))))
theorem pmM_L0 {w : Cond} (h : w ∈ (u_ws R_CL T_CL 6)) : w ∈ pmTs := List.mem_append_right _ (List.mem_append_right _ (List.mem_append_right _ (List.mem_append_right _ (List.mem_append_right _ (List.mem_append_right _ (List.mem_append_right _ (List.mem_append_right _ (List.mem_append_right _ (List.mem_append_right _ (List.mem_append_right _ (List.mem_append_right _ (List.mem_append_right _ (List.mem_append_right _ (List.mem_append_right _ (List.mem_append_right _ (List.mem_append_right _ (List.mem_append_right _ (List.mem_append_right _ (List.mem_append_right _ (List.mem_append_right _ (List.mem_append_right _ (List.mem_append_right _ (List.mem_append_right _ (List.mem_append_right _ (List.mem_append_right _ (List.mem_append_right _ (List.mem_append_right _ (List.mem_append_right _ (List.mem_append_right _ (List.mem_append_right _ (List.mem_append_right _ (List.mem_append_right _ (List.mem_append_right _ (List.mem_append_right _ (List.mem_append_right _ (List.mem_append_right _ (List.mem_append_right _ (List.mem_append_right _ (List.mem_append_right _ (List.mem_append_right _ (List.mem_append_right _ (List.mem_append_right _ (List.mem_append_right _ (List.mem_append_right _ (List.mem_append_left _ h)))))))))))))))))))))))))))))))))))))))))))))
theorem pmM_L1 {w : Cond} (h : w ∈ (u_ws R_Text T_Text 2)) : w ∈ pmTs := List.mem_append_right _ (List.mem_append_right _ (List.mem_append_right _ (List.mem_append_right _ (List.mem_append_right _ (List.mem_append_right _ (List.mem_append_right _ (List.mem_append_right _ (List.mem_append_right _ (List.mem_append_right _ (List.mem_append_right _ (List.mem_append_right _ (List.mem_append_right _ (List.mem_append_right _ (List.mem_append_right _ (List.mem_append_right _ (List.mem_append_right _ (List.mem_append_right _ (List.mem_append_right _ (List.mem_append_right _ (List.mem_append_right _ (List.mem_append_right _ (List.mem_append_right _ (List.mem_append_right _ (List.mem_append_right _ (List.mem_append_right _ (List.mem_append_right _ (List.mem_append_right _ (List.mem_append_right _ (List.mem_append_right _ (List.mem_append_right _ (List.mem_append_right _ (List.mem_append_right _ (List.mem_append_right _ (List.mem_append_right _ (List.mem_append_right _ (List.mem_append_right _ (List.mem_append_right _ (List.mem_append_right _ (List.mem_append_right _ (List.mem_append_right _ (List.mem_append_right _ (List.mem_append_right _ (List.mem_append_right _ (List.mem_append_right _ (List.mem_append_right _ (List.mem_append_left _ h))))))))))))))))))))))))))))))))))))))))))))))
theorem pmM_L2 {w : Cond} (h : w ∈ (u_ws R_Output T_Output 2)) : w ∈ pmTs := List.mem_append_right _ (List.mem_append_right _ (List.mem_append_right _ (List.mem_append_right _ (List.mem_append_right _ (List.mem_append_right _ (List.mem_append_right _ (List.mem_append_right _ (List.mem_append_right _ (List.mem_append_right _ (List.mem_append_right _ (List.mem_append_right _ (List.mem_append_right _ (List.mem_append_right _ (List.mem_append_right _ (List.mem_append_right _ (List.mem_append_right _ (List.mem_append_right _ (List.mem_append_right _ (List.mem_append_right _ (List.mem_append_right _ (List.mem_append_right _ (List.mem_append_right _ (List.mem_append_right _ (List.mem_append_right _ (List.mem_append_right _ (List.mem_append_right _ (List.mem_append_right _ (List.mem_append_right _ (List.mem_append_right _ (List.mem_append_right _ (List.mem_append_right _ (List.mem_append_right _ (List.mem_append_right _ (List.mem_append_right _ (List.mem_append_right _ (List.mem_append_right _ (List.mem_append_right _ (List.mem_append_right _ (List.mem_append_right _ (List.mem_append_right _ (List.mem_append_right _ (List.mem_append_right _ (List.mem_append_right _ (List.mem_append_right _ (List.mem_append_right _ (List.mem_append_right _ (List.mem_append_left _ h)))))))))))))))))))))))))))))))))))))))))))))))
theorem pmM_L3 {w : Cond} (h : w ∈ (u_ws R_Symbols T_Symbols 3)) : w ∈ pmTs := List.mem_append_right _ (List.mem_append_right _ (List.mem_append_right _ (List.mem_append_right _ (List.mem_append_right _ (List.mem_append_right _ (List.mem_append_right _ (List.mem_append_right _ (List.mem_append_right _ (List.mem_append_right _ (List.mem_append_right _ (List.mem_append_right _ (List.mem_append_right _ (List.mem_append_right _ (List.mem_append_right _ (List.mem_append_right _ (List.mem_append_right _ (List.mem_append_right _ (List.mem_append_right _ (List.mem_append_right _ (List.mem_append_right _ (List.mem_append_right _ (List.mem_append_right _ (List.mem_append_right _ (List.mem_append_right _ (List.mem_append_right _ (List.mem_append_right _ (List.mem_append_right _ (List.mem_append_right _ (List.mem_append_right _ (List.mem_append_right _ (List.mem_append_right _ (List.mem_append_right _ (List.mem_append_right _ (List.mem_append_right _ (List.mem_append_right _ (List.mem_append_right _ (List.mem_append_right _ (List.mem_append_right _ (List.mem_append_right _ (List.mem_append_right _ (List.mem_append_right _ (List.mem_append_right _ (List.mem_append_right _ (List.mem_append_right _ (List.mem_append_right _ (List.mem_append_right _ (List.mem_append_right _ (List.mem_append_left _ h))))))))))))))))))))))))))))))))))))))))))))))))
theorem pmM_L4 {w : Cond} (h : w ∈ (u_ws R_State T_State 8)) : w ∈ pmTs := List.mem_append_right _ (List.mem_append_right _ (List.mem_append_right _ (List.mem_append_right _ (List.mem_append_right _ (List.mem_append_right _ (List.mem_append_right _ (List.mem_append_right _ (List.mem_append_right _ (List.mem_append_right _ (List.mem_append_right _ (List.mem_append_right _ (List.mem_append_right _ (List.mem_append_right _ (List.mem_append_right _ (List.mem_append_right _ (List.mem_append_right _ (List.mem_append_right _ (List.mem_append_right _ (List.mem_append_right _ (List.mem_append_right _ (List.mem_append_right _ (List.mem_append_right _ (List.mem_append_right _ (List.mem_append_right _ (List.mem_append_right _ (List.mem_append_right _ (List.mem_append_right _ (List.mem_append_right _ (List.mem_append_right _ (List.mem_append_right _ (List.mem_append_right _ (List.mem_append_right _ (List.mem_append_right _ (List.mem_append_right _ (List.mem_append_right _ (List.mem_append_right _ (List.mem_append_right _ (List.mem_append_right _ (List.mem_append_right _ (List.mem_append_right _ (List.mem_append_right _ (List.mem_append_right _ (List.mem_append_right _ (List.mem_append_right _ (List.mem_append_right _ (List.mem_append_right _ (List.mem_append_right _ (List.mem_append_right _ (List.mem_append_left _ h)))))))))))))))))))))))))))))))))))))))))))))))))
theorem pmM_L5 {w : Cond} (h : w ∈ (u_ws R_Room T_Room 13)) : w ∈ pmTs := List.mem_append_right _ (List.mem_append_right _ (List.mem_append_right _ (List.mem_append_right _ (List.mem_append_right _ (List.mem_append_right _ (List.mem_append_right _ (List.mem_append_right _ (List.mem_append_right _ (List.mem_append_right _ (List.mem_append_right _ (List.mem_append_right _ (List.mem_append_right _ (List.mem_append_right _ (List.mem_append_right _ (List.mem_append_right _ (List.mem_append_right _ (List.mem_append_right _ (List.mem_append_right _ (List.mem_append_right _ (List.mem_append_right _ (List.mem_append_right _ (List.mem_append_right _ (List.mem_append_right _ (List.mem_append_right _ (List.mem_append_right _ (List.mem_append_right _ (List.mem_append_right _ (List.mem_append_right _ (List.mem_append_right _ (List.mem_append_right _ (List.mem_append_right _ (List.mem_append_right _ (List.mem_append_right _ (List.mem_append_right _ (List.mem_append_right _ (List.mem_append_right _ (List.mem_append_right _ (List.mem_append_right _ (List.mem_append_right _ (List.mem_append_right _ (List.mem_append_right _ (List.mem_append_right _ (List.mem_append_right _ (List.mem_append_right _ (List.mem_append_right _ (List.mem_append_right _ (List.mem_append_right _ (List.mem_append_right _ (List.mem_append_right _ (List.mem_append_left _ h))))))))))))))))))))))))))))))))))))))))))))))))))
theorem pmM_L6 {w : Cond} (h : w ∈ (u_ws R_Machine T_Machine 7)) : w ∈ pmTs := List.mem_append_right _ (List.mem_append_right _ (List.mem_append_right _ (List.mem_append_right _ (List.mem_append_right _ (List.mem_append_right _ (List.mem_append_right _ (List.mem_append_right _ (List.mem_append_right _ (List.mem_append_right _ (List.mem_append_right _ (List.mem_append_right _ (List.mem_append_right _ (List.mem_append_right _ (List.mem_append_right _ (List.mem_append_right _ (List.mem_append_right _ (List.mem_append_right _ (List.mem_append_right _ (List.mem_append_right _ (List.mem_append_right _ (List.mem_append_right _ (List.mem_append_right _ (List.mem_append_right _ (List.mem_append_right _ (List.mem_append_right _ (List.mem_append_right _ (List.mem_append_right _ (List.mem_append_right _ (List.mem_append_right _ (List.mem_append_right _ (List.mem_append_right _ (List.mem_append_right _ (List.mem_append_right _ (List.mem_append_right _ (List.mem_append_right _ (List.mem_append_right _ (List.mem_append_right _ (List.mem_append_right _ (List.mem_append_right _ (List.mem_append_right _ (List.mem_append_right _ (List.mem_append_right _ (List.mem_append_right _ (List.mem_append_right _ (List.mem_append_right _ (List.mem_append_right _ (List.mem_append_right _ (List.mem_append_right _ (List.mem_append_right _ (List.mem_append_right _ (List.mem_append_left _ h)))))))))))))))))))))))))))))))))))))))))))))))))))
theorem pmM_L7 {w : Cond} (h : w ∈ (u_ws R_Reader T_Reader 9)) : w ∈ pmTs := List.mem_append_right _ (List.mem_append_right _ (List.mem_append_right _ (List.mem_append_right _ (List.mem_append_right _ (List.mem_append_right _ (List.mem_append_right _ (List.mem_append_right _ (List.mem_append_right _ (List.mem_append_right _ (List.mem_append_right _ (List.mem_append_right _ (List.mem_append_right _ (List.mem_append_right _ (List.mem_append_right _ (List.mem_append_right _ (List.mem_append_right _ (List.mem_append_right _ (List.mem_append_right _ (List.mem_append_right _ (List.mem_append_right _ (List.mem_append_right _ (List.mem_append_right _ (List.mem_append_right _ (List.mem_append_right _ (List.mem_append_right _ (List.mem_append_right _ (List.mem_append_right _ (List.mem_append_right _ (List.mem_append_right _ (List.mem_append_right _ (List.mem_append_right _ (List.mem_append_right _ (List.mem_append_right _ (List.mem_append_right _ (List.mem_append_right _ (List.mem_append_right _ (List.mem_append_right _ (List.mem_append_right _ (List.mem_append_right _ (List.mem_append_right _ (List.mem_append_right _ (List.mem_append_right _ (List.mem_append_right _ (List.mem_append_right _ (List.mem_append_right _ (List.mem_append_right _ (List.mem_append_right _ (List.mem_append_right _ (List.mem_append_right _ (List.mem_append_right _ (List.mem_append_right _ (List.mem_append_left _ h))))))))))))))))))))))))))))))))))))))))))))))))))))
theorem pmM_L8 {w : Cond} (h : w ∈ (u_ws R_Printer T_Printer 3)) : w ∈ pmTs := List.mem_append_right _ (List.mem_append_right _ (List.mem_append_right _ (List.mem_append_right _ (List.mem_append_right _ (List.mem_append_right _ (List.mem_append_right _ (List.mem_append_right _ (List.mem_append_right _ (List.mem_append_right _ (List.mem_append_right _ (List.mem_append_right _ (List.mem_append_right _ (List.mem_append_right _ (List.mem_append_right _ (List.mem_append_right _ (List.mem_append_right _ (List.mem_append_right _ (List.mem_append_right _ (List.mem_append_right _ (List.mem_append_right _ (List.mem_append_right _ (List.mem_append_right _ (List.mem_append_right _ (List.mem_append_right _ (List.mem_append_right _ (List.mem_append_right _ (List.mem_append_right _ (List.mem_append_right _ (List.mem_append_right _ (List.mem_append_right _ (List.mem_append_right _ (List.mem_append_right _ (List.mem_append_right _ (List.mem_append_right _ (List.mem_append_right _ (List.mem_append_right _ (List.mem_append_right _ (List.mem_append_right _ (List.mem_append_right _ (List.mem_append_right _ (List.mem_append_right _ (List.mem_append_right _ (List.mem_append_right _ (List.mem_append_right _ (List.mem_append_right _ (List.mem_append_right _ (List.mem_append_right _ (List.mem_append_right _ (List.mem_append_right _ (List.mem_append_right _ (List.mem_append_right _ (List.mem_append_right _ (List.mem_append_left _ h)))))))))))))))))))))))))))))))))))))))))))))))))))))
theorem pmM_L9 {w : Cond} (h : w ∈ (u_ws R_Md T_Md 31)) : w ∈ pmTs := List.mem_append_right _ (List.mem_append_right _ (List.mem_append_right _ (List.mem_append_right _ (List.mem_append_right _ (List.mem_append_right _ (List.mem_append_right _ (List.mem_append_right _ (List.mem_append_right _ (List.mem_append_right _ (List.mem_append_right _ (List.mem_append_right _ (List.mem_append_right _ (List.mem_append_right _ (List.mem_append_right _ (List.mem_append_right _ (List.mem_append_right _ (List.mem_append_right _ (List.mem_append_right _ (List.mem_append_right _ (List.mem_append_right _ (List.mem_append_right _ (List.mem_append_right _ (List.mem_append_right _ (List.mem_append_right _ (List.mem_append_right _ (List.mem_append_right _ (List.mem_append_right _ (List.mem_append_right _ (List.mem_append_right _ (List.mem_append_right _ (List.mem_append_right _ (List.mem_append_right _ (List.mem_append_right _ (List.mem_append_right _ (List.mem_append_right _ (List.mem_append_right _ (List.mem_append_right _ (List.mem_append_right _ (List.mem_append_right _ (List.mem_append_right _ (List.mem_append_right _ (List.mem_append_right _ (List.mem_append_right _ (List.mem_append_right _ (List.mem_append_right _ (List.mem_append_right _ (List.mem_append_right _ (List.mem_append_right _ (List.mem_append_right _ (List.mem_append_right _ (List.mem_append_right _ (List.mem_append_right _ (List.mem_append_right _ (h))))))))))))))))))))))))))))))))))))))))))))))))))))))
theorem pm_fm {ws big : List Cond} {is : List Nat} (h : ws = is.filterMap (fun i => big[i]?)) : ∀ w ∈ ws, w ∈ big := by
  intro w hw
  rw [h] at hw
  obtain ⟨i, -, hi⟩ := List.mem_filterMap.mp hw
  exact List.mem_of_getElem? hi
theorem pmTs_in : ∀ w ∈ pmTs, w ∈ lw_tbl := List.forall_mem_append.mpr ⟨pm_fm pmI_0, List.forall_mem_append.mpr ⟨pm_fm pmI_1, List.forall_mem_append.mpr ⟨pm_fm pmI_2, List.forall_mem_append.mpr ⟨pm_fm pmI_3, List.forall_mem_append.mpr ⟨pm_fm pmI_4, List.forall_mem_append.mpr ⟨pm_fm pmI_5, List.forall_mem_append.mpr ⟨pm_fm pmI_6, List.forall_mem_append.mpr ⟨pm_fm pmI_7, List.forall_mem_append.mpr ⟨pm_fm pmI_8, List.forall_mem_append.mpr ⟨pm_fm pmI_9, List.forall_mem_append.mpr ⟨pm_fm pmI_10, List.forall_mem_append.mpr ⟨pm_fm pmI_11, List.forall_mem_append.mpr ⟨pm_fm pmI_12, List.forall_mem_append.mpr ⟨pm_fm pmI_13, List.forall_mem_append.mpr ⟨pm_fm pmI_14, List.forall_mem_append.mpr ⟨pm_fm pmI_15, List.forall_mem_append.mpr ⟨pm_fm pmI_16, List.forall_mem_append.mpr ⟨pm_fm pmI_17, List.forall_mem_append.mpr ⟨pm_fm pmI_18, List.forall_mem_append.mpr ⟨pm_fm pmI_19, List.forall_mem_append.mpr ⟨pm_fm pmI_20, List.forall_mem_append.mpr ⟨pm_fm pmI_21, List.forall_mem_append.mpr ⟨pm_fm pmI_22, List.forall_mem_append.mpr ⟨pm_fm pmI_23, List.forall_mem_append.mpr ⟨pm_fm pmI_24, List.forall_mem_append.mpr ⟨pm_fm pmI_25, List.forall_mem_append.mpr ⟨pm_fm pmI_26, List.forall_mem_append.mpr ⟨pm_fm pmI_27, List.forall_mem_append.mpr ⟨pm_fm pmI_28, List.forall_mem_append.mpr ⟨pm_fm pmI_29, List.forall_mem_append.mpr ⟨pm_fm pmI_30, List.forall_mem_append.mpr ⟨pm_fm pmI_31, List.forall_mem_append.mpr ⟨pm_fm pmI_32, List.forall_mem_append.mpr ⟨pm_fm pmI_33, List.forall_mem_append.mpr ⟨pm_fm pmI_34, List.forall_mem_append.mpr ⟨pm_fm pmI_35, List.forall_mem_append.mpr ⟨pm_fm pmI_36, List.forall_mem_append.mpr ⟨pm_fm pmI_37, List.forall_mem_append.mpr ⟨pm_fm pmI_38, List.forall_mem_append.mpr ⟨pm_fm pmI_39, List.forall_mem_append.mpr ⟨pm_fm pmI_40, List.forall_mem_append.mpr ⟨pm_fm pmI_41, List.forall_mem_append.mpr ⟨pm_fm pmI_42, List.forall_mem_append.mpr ⟨pm_fm pmI_43, List.forall_mem_append.mpr ⟨pm_fm pmI_44, List.forall_mem_append.mpr ⟨pm_fm pmI_L0, List.forall_mem_append.mpr ⟨pm_fm pmI_L1, List.forall_mem_append.mpr ⟨pm_fm pmI_L2, List.forall_mem_append.mpr ⟨pm_fm pmI_L3, List.forall_mem_append.mpr ⟨pm_fm pmI_L4, List.forall_mem_append.mpr ⟨pm_fm pmI_L5, List.forall_mem_append.mpr ⟨pm_fm pmI_L6, List.forall_mem_append.mpr ⟨pm_fm pmI_L7, List.forall_mem_append.mpr ⟨pm_fm pmI_L8, pm_fm pmI_L9⟩⟩⟩⟩⟩⟩⟩⟩⟩⟩⟩⟩⟩⟩⟩⟩⟩⟩⟩⟩⟩⟩⟩⟩⟩⟩⟩⟩⟩⟩⟩⟩⟩⟩⟩⟩⟩⟩⟩⟩⟩⟩⟩⟩⟩⟩⟩⟩⟩⟩⟩⟩⟩⟩
theorem pmTs_good : pm_Tg pmTs := List.forall_mem_append.mpr ⟨pmG_0, List.forall_mem_append.mpr ⟨pmG_1, List.forall_mem_append.mpr ⟨pmG_2, List.forall_mem_append.mpr ⟨pmG_3, List.forall_mem_append.mpr ⟨pmG_4, List.forall_mem_append.mpr ⟨pmG_5, List.forall_mem_append.mpr ⟨pmG_6, List.forall_mem_append.mpr ⟨pmG_7, List.forall_mem_append.mpr ⟨pmG_8, List.forall_mem_append.mpr ⟨pmG_9, List.forall_mem_append.mpr ⟨pmG_10, List.forall_mem_append.mpr ⟨pmG_11, List.forall_mem_append.mpr ⟨pmG_12, List.forall_mem_append.mpr ⟨pmG_13, List.forall_mem_append.mpr ⟨pmG_14, List.forall_mem_append.mpr ⟨pmG_15, List.forall_mem_append.mpr ⟨pmG_16, List.forall_mem_append.mpr ⟨pmG_17, List.forall_mem_append.mpr ⟨pmG_18, List.forall_mem_append.mpr ⟨pmG_19, List.forall_mem_append.mpr ⟨pmG_20, List.forall_mem_append.mpr ⟨pmG_21, List.forall_mem_append.mpr ⟨pmG_22, List.forall_mem_append.mpr ⟨pmG_23, List.forall_mem_append.mpr ⟨pmG_24, List.forall_mem_append.mpr ⟨pmG_25, List.forall_mem_append.mpr ⟨pmG_26, List.forall_mem_append.mpr ⟨pmG_27, List.forall_mem_append.mpr ⟨pmG_28, List.forall_mem_append.mpr ⟨pmG_29, List.forall_mem_append.mpr ⟨pmG_30, List.forall_mem_append.mpr ⟨pmG_31, List.forall_mem_append.mpr ⟨pmG_32, List.forall_mem_append.mpr ⟨pmG_33, List.forall_mem_append.mpr ⟨pmG_34, List.forall_mem_append.mpr ⟨pmG_35, List.forall_mem_append.mpr ⟨pmG_36, List.forall_mem_append.mpr ⟨pmG_37, List.forall_mem_append.mpr ⟨pmG_38, List.forall_mem_append.mpr ⟨pmG_39, List.forall_mem_append.mpr ⟨pmG_40, List.forall_mem_append.mpr ⟨pmG_41, List.forall_mem_append.mpr ⟨pmG_42, List.forall_mem_append.mpr ⟨pmG_43, List.forall_mem_append.mpr ⟨pmG_44, List.forall_mem_append.mpr ⟨pmG_L0, List.forall_mem_append.mpr ⟨pmG_L1, List.forall_mem_append.mpr ⟨pmG_L2, List.forall_mem_append.mpr ⟨pmG_L3, List.forall_mem_append.mpr ⟨pmG_L4, List.forall_mem_append.mpr ⟨pmG_L5, List.forall_mem_append.mpr ⟨pmG_L6, List.forall_mem_append.mpr ⟨pmG_L7, List.forall_mem_append.mpr ⟨pmG_L8, pmG_L9⟩⟩⟩⟩⟩⟩⟩⟩⟩⟩⟩⟩⟩⟩⟩⟩⟩⟩⟩⟩⟩⟩⟩⟩⟩⟩⟩⟩⟩⟩⟩⟩⟩⟩⟩⟩⟩⟩⟩⟩⟩⟩⟩⟩⟩⟩⟩⟩⟩⟩⟩⟩⟩⟩
theorem tw_0 : Cond.selects y_Machine_begin.cls y_Machine_begin y_Machine_begin ∈ pmTs := pmM_0 (List.mem_of_getElem? (i := 0) rfl)
theorem tw_1 : Cond.selects y_Reader_findForm.cls y_Reader_findForm y_Reader_findForm ∈ pmTs := pmM_0 (List.mem_of_getElem? (i := 1) rfl)
theorem tw_2 : Cond.selects y_Reader_learnSymbols.cls y_Reader_learnSymbols y_Reader_learnSymbols ∈ pmTs := pmM_0 (List.mem_of_getElem? (i := 2) rfl)
theorem tw_3 : Cond.selects y_Reader_isSymbol.cls y_Reader_isSymbol y_Reader_isSymbol ∈ pmTs := pmM_0 (List.mem_of_getElem? (i := 3) rfl)
theorem tw_4 : Cond.selects y_Room_reach.cls y_Room_reach y_Room_reach ∈ pmTs := pmM_0 (List.mem_of_getElem? (i := 4) rfl)
theorem tw_5 : Cond.selects y_Room_freeUnreached.cls y_Room_freeUnreached y_Room_freeUnreached ∈ pmTs := pmM_0 (List.mem_of_getElem? (i := 5) rfl)
theorem tw_6 : Cond.selects y_Reader_build.cls y_Reader_build y_Reader_build ∈ pmTs := pmM_0 (List.mem_of_getElem? (i := 6) rfl)
theorem tw_7 : Cond.selects y_Reader_place.cls y_Reader_place y_Reader_place ∈ pmTs := pmM_0 (List.mem_of_getElem? (i := 7) rfl)
theorem tw_8 : Cond.selects y_Room_make.cls y_Room_make y_Room_make ∈ pmTs := pmM_0 (List.mem_of_getElem? (i := 8) rfl)
theorem tw_9 : Cond.selects y_Room_isHere.cls y_Room_isHere y_Room_isHere ∈ pmTs := pmM_0 (List.mem_of_getElem? (i := 9) rfl)
theorem tw_10 : Cond.selects y_Reader_wordValue.cls y_Reader_wordValue y_Reader_wordValue ∈ pmTs := pmM_0 (List.mem_of_getElem? (i := 10) rfl)
theorem tw_11 : Cond.selects y_Machine_evaluateNext.cls y_Machine_evaluateNext y_Machine_evaluateNext ∈ pmTs := pmM_0 (List.mem_of_getElem? (i := 11) rfl)
theorem tw_12 : Cond.selects y_Machine_evaluate.cls y_Machine_evaluate y_Machine_evaluate ∈ pmTs := pmM_0 (List.mem_of_getElem? (i := 12) rfl)
theorem tw_13 : Cond.selects y_Machine_evaluateSymbol.cls y_Machine_evaluateSymbol y_Machine_evaluateSymbol ∈ pmTs := pmM_0 (List.mem_of_getElem? (i := 13) rfl)
theorem tw_14 : Cond.selects y_Machine_returnNext.cls y_Machine_returnNext y_Machine_returnNext ∈ pmTs := pmM_0 (List.mem_of_getElem? (i := 14) rfl)
theorem tw_15 : Cond.selects y_Machine_evaluateQuote.cls y_Machine_evaluateQuote y_Machine_evaluateQuote ∈ pmTs := pmM_0 (List.mem_of_getElem? (i := 15) rfl)
theorem tw_16 : Cond.selects y_Machine_part.cls y_Machine_part y_Machine_part ∈ pmTs := pmM_0 (List.mem_of_getElem? (i := 16) rfl)
theorem tw_17 : Cond.selects y_Machine_evaluateIf.cls y_Machine_evaluateIf y_Machine_evaluateIf ∈ pmTs := pmM_0 (List.mem_of_getElem? (i := 17) rfl)
theorem tw_18 : Cond.selects y_Machine_evaluateUnder.cls y_Machine_evaluateUnder y_Machine_evaluateUnder ∈ pmTs := pmM_0 (List.mem_of_getElem? (i := 18) rfl)
theorem tw_19 : Cond.selects y_Machine_evaluateLambda.cls y_Machine_evaluateLambda y_Machine_evaluateLambda ∈ pmTs := pmM_0 (List.mem_of_getElem? (i := 19) rfl)
theorem tw_20 : Cond.selects y_Machine_areParameters.cls y_Machine_areParameters y_Machine_areParameters ∈ pmTs := pmM_1 (List.mem_of_getElem? (i := 0) rfl)
theorem tw_21 : Cond.selects y_Machine_evaluateNaming.cls y_Machine_evaluateNaming y_Machine_evaluateNaming ∈ pmTs := pmM_1 (List.mem_of_getElem? (i := 1) rfl)
theorem tw_22 : Cond.selects y_Machine_giveBack.cls y_Machine_giveBack y_Machine_giveBack ∈ pmTs := pmM_1 (List.mem_of_getElem? (i := 2) rfl)
theorem tw_23 : Cond.selects y_State_hasTop.cls y_State_hasTop y_State_hasTop ∈ pmTs := pmM_1 (List.mem_of_getElem? (i := 3) rfl)
theorem tw_24 : Cond.selects y_Machine_choose.cls y_Machine_choose y_Machine_choose ∈ pmTs := pmM_1 (List.mem_of_getElem? (i := 4) rfl)
theorem tw_25 : Cond.selects y_Machine_define.cls y_Machine_define y_Machine_define ∈ pmTs := pmM_1 (List.mem_of_getElem? (i := 5) rfl)
theorem tw_26 : Cond.selects y_Machine_assign.cls y_Machine_assign y_Machine_assign ∈ pmTs := pmM_1 (List.mem_of_getElem? (i := 6) rfl)
theorem tw_27 : Cond.selects y_Machine_keepValue.cls y_Machine_keepValue y_Machine_keepValue ∈ pmTs := pmM_1 (List.mem_of_getElem? (i := 7) rfl)
theorem tw_28 : Cond.selects y_Machine_nextArgument.cls y_Machine_nextArgument y_Machine_nextArgument ∈ pmTs := pmM_1 (List.mem_of_getElem? (i := 8) rfl)
theorem tw_29 : Cond.selects y_Machine_apply.cls y_Machine_apply y_Machine_apply ∈ pmTs := pmM_1 (List.mem_of_getElem? (i := 9) rfl)
theorem tw_30 : Cond.selects y_Machine_faultOfCall.cls y_Machine_faultOfCall y_Machine_faultOfCall ∈ pmTs := pmM_1 (List.mem_of_getElem? (i := 10) rfl)
theorem tw_31 : Cond.selects y_Machine_faultOfPrimitive.cls y_Machine_faultOfPrimitive y_Machine_faultOfPrimitive ∈ pmTs := pmM_1 (List.mem_of_getElem? (i := 11) rfl)
theorem tw_32 : Cond.selects y_Machine_boundEnvironment.cls y_Machine_boundEnvironment y_Machine_boundEnvironment ∈ pmTs := pmM_1 (List.mem_of_getElem? (i := 12) rfl)
theorem tw_33 : Cond.selects y_Machine_primitiveResult.cls y_Machine_primitiveResult y_Machine_primitiveResult ∈ pmTs := pmM_1 (List.mem_of_getElem? (i := 13) rfl)
theorem tw_34 : Cond.selects y_Machine_listOf.cls y_Machine_listOf y_Machine_listOf ∈ pmTs := pmM_1 (List.mem_of_getElem? (i := 14) rfl)
theorem tw_35 : Cond.selects y_Printer_print.cls y_Printer_print y_Printer_print ∈ pmTs := pmM_1 (List.mem_of_getElem? (i := 15) rfl)
theorem tw_36 : Cond.selects y_Printer_printNumber.cls y_Printer_printNumber y_Printer_printNumber ∈ pmTs := pmM_1 (List.mem_of_getElem? (i := 16) rfl)
theorem tw_37 : Cond.selects y_Printer_printName.cls y_Printer_printName y_Printer_printName ∈ pmTs := pmM_1 (List.mem_of_getElem? (i := 17) rfl)
theorem tw_38 : Cond.selects y_Printer_printText.cls y_Printer_printText y_Printer_printText ∈ pmTs := pmM_1 (List.mem_of_getElem? (i := 18) rfl)
theorem tw_39 : Cond.selects y_Printer_printList.cls y_Printer_printList y_Printer_printList ∈ pmTs := pmM_1 (List.mem_of_getElem? (i := 19) rfl)
theorem tw_40 : Cond.selects y_Machine_endForm.cls y_Machine_endForm y_Machine_endForm ∈ pmTs := pmM_2 (List.mem_of_getElem? (i := 0) rfl)
theorem tw_41 : Cond.selects y_Md_word.cls y_Md_word y_Md_word ∈ pmTs := pmM_2 (List.mem_of_getElem? (i := 1) rfl)
theorem tw_42 : Cond.selects y_Md_reading.cls y_Md_reading y_Md_reading ∈ pmTs := pmM_2 (List.mem_of_getElem? (i := 2) rfl)
theorem tw_43 : Cond.selects y_Md_lookOver.cls y_Md_lookOver y_Md_lookOver ∈ pmTs := pmM_2 (List.mem_of_getElem? (i := 3) rfl)
theorem tw_44 : Cond.selects y_Md_skip.cls y_Md_skip y_Md_skip ∈ pmTs := pmM_2 (List.mem_of_getElem? (i := 4) rfl)
theorem tw_45 : Cond.selects y_Md_tokenEnd.cls y_Md_tokenEnd y_Md_tokenEnd ∈ pmTs := pmM_2 (List.mem_of_getElem? (i := 5) rfl)
theorem tw_46 : Cond.selects y_Md_meet.cls y_Md_meet y_Md_meet ∈ pmTs := pmM_2 (List.mem_of_getElem? (i := 6) rfl)
theorem tw_47 : Cond.selects y_Md_isFigure.cls y_Md_isFigure y_Md_isFigure ∈ pmTs := pmM_2 (List.mem_of_getElem? (i := 7) rfl)
theorem tw_48 : Cond.selects y_Md_isNil.cls y_Md_isNil y_Md_isNil ∈ pmTs := pmM_2 (List.mem_of_getElem? (i := 8) rfl)
theorem tw_49 : Cond.selects y_Md_symbolOf.cls y_Md_symbolOf y_Md_symbolOf ∈ pmTs := pmM_2 (List.mem_of_getElem? (i := 9) rfl)
theorem tw_50 : Cond.selects y_Md_room.cls y_Md_room y_Md_room ∈ pmTs := pmM_2 (List.mem_of_getElem? (i := 10) rfl)
theorem tw_51 : Cond.selects y_Md_live.cls y_Md_live y_Md_live ∈ pmTs := pmM_2 (List.mem_of_getElem? (i := 11) rfl)
theorem tw_52 : Cond.selects y_Md_mark.cls y_Md_mark y_Md_mark ∈ pmTs := pmM_2 (List.mem_of_getElem? (i := 12) rfl)
theorem tw_53 : Cond.selects y_Md_read.cls y_Md_read y_Md_read ∈ pmTs := pmM_2 (List.mem_of_getElem? (i := 13) rfl)
theorem tw_54 : Cond.selects y_Md_arrived.cls y_Md_arrived y_Md_arrived ∈ pmTs := pmM_2 (List.mem_of_getElem? (i := 14) rfl)
theorem tw_55 : Cond.selects y_Md_pair.cls y_Md_pair y_Md_pair ∈ pmTs := pmM_2 (List.mem_of_getElem? (i := 15) rfl)
theorem tw_56 : Cond.selects y_Md_make.cls y_Md_make y_Md_make ∈ pmTs := pmM_2 (List.mem_of_getElem? (i := 16) rfl)
theorem tw_57 : Cond.selects y_Md_atom.cls y_Md_atom y_Md_atom ∈ pmTs := pmM_2 (List.mem_of_getElem? (i := 17) rfl)
theorem tw_58 : Cond.selects y_Md_figure.cls y_Md_figure y_Md_figure ∈ pmTs := pmM_2 (List.mem_of_getElem? (i := 18) rfl)
theorem tw_59 : Cond.selects y_Md_drop.cls y_Md_drop y_Md_drop ∈ pmTs := pmM_2 (List.mem_of_getElem? (i := 19) rfl)
theorem tw_60 : Cond.selects y_Md_back.cls y_Md_back y_Md_back ∈ pmTs := pmM_3 (List.mem_of_getElem? (i := 0) rfl)
theorem tw_61 : Cond.selects y_Md_print.cls y_Md_print y_Md_print ∈ pmTs := pmM_3 (List.mem_of_getElem? (i := 1) rfl)
theorem tw_62 : Cond.selects y_Md_begin.cls y_Md_begin y_Md_begin ∈ pmTs := pmM_3 (List.mem_of_getElem? (i := 2) rfl)
theorem tw_63 : Cond.selects y_Md_isPair.cls y_Md_isPair y_Md_isPair ∈ pmTs := pmM_3 (List.mem_of_getElem? (i := 3) rfl)
theorem tw_64 : Cond.selects y_Md_putPlain.cls y_Md_putPlain y_Md_putPlain ∈ pmTs := pmM_3 (List.mem_of_getElem? (i := 4) rfl)
theorem tw_65 : Cond.selects y_Md_putNumber.cls y_Md_putNumber y_Md_putNumber ∈ pmTs := pmM_3 (List.mem_of_getElem? (i := 5) rfl)
theorem tw_66 : Cond.selects y_Md_put.cls y_Md_put y_Md_put ∈ pmTs := pmM_3 (List.mem_of_getElem? (i := 6) rfl)
theorem tw_67 : Cond.selects y_Md_putName.cls y_Md_putName y_Md_putName ∈ pmTs := pmM_3 (List.mem_of_getElem? (i := 7) rfl)
theorem tw_68 : Cond.selects y_Md_putDots.cls y_Md_putDots y_Md_putDots ∈ pmTs := pmM_3 (List.mem_of_getElem? (i := 8) rfl)
theorem tw_69 : Cond.selects y_Md_further.cls y_Md_further y_Md_further ∈ pmTs := pmM_3 (List.mem_of_getElem? (i := 9) rfl)
theorem tw_70 : Cond.selects y_Md_cdr.cls y_Md_cdr y_Md_cdr ∈ pmTs := pmM_3 (List.mem_of_getElem? (i := 10) rfl)
theorem tw_71 : Cond.selects y_Md_car.cls y_Md_car y_Md_car ∈ pmTs := pmM_3 (List.mem_of_getElem? (i := 11) rfl)
theorem tw_72 : Cond.selects y_Md_clearAll.cls y_Md_clearAll y_Md_clearAll ∈ pmTs := pmM_3 (List.mem_of_getElem? (i := 12) rfl)
theorem tw_73 : Cond.selects y_Md_argument.cls y_Md_argument y_Md_argument ∈ pmTs := pmM_3 (List.mem_of_getElem? (i := 13) rfl)
theorem tw_74 : Cond.selects y_Md_apply.cls y_Md_apply y_Md_apply ∈ pmTs := pmM_3 (List.mem_of_getElem? (i := 14) rfl)
theorem tw_75 : Cond.selects y_Md_lengthOf.cls y_Md_lengthOf y_Md_lengthOf ∈ pmTs := pmM_3 (List.mem_of_getElem? (i := 15) rfl)
theorem tw_76 : Cond.selects y_Md_at.cls y_Md_at y_Md_at ∈ pmTs := pmM_3 (List.mem_of_getElem? (i := 16) rfl)
theorem tw_77 : Cond.selects y_Md_isClosure.cls y_Md_isClosure y_Md_isClosure ∈ pmTs := pmM_3 (List.mem_of_getElem? (i := 17) rfl)
theorem tw_78 : Cond.selects y_Md_enter.cls y_Md_enter y_Md_enter ∈ pmTs := pmM_3 (List.mem_of_getElem? (i := 18) rfl)
theorem tw_79 : Cond.selects y_Md_go.cls y_Md_go y_Md_go ∈ pmTs := pmM_3 (List.mem_of_getElem? (i := 19) rfl)
theorem tw_80 : Cond.selects y_Md_listed.cls y_Md_listed y_Md_listed ∈ pmTs := pmM_4 (List.mem_of_getElem? (i := 0) rfl)
theorem tw_81 : Cond.selects y_Md_done.cls y_Md_done y_Md_done ∈ pmTs := pmM_4 (List.mem_of_getElem? (i := 1) rfl)
theorem tw_82 : Cond.selects y_Md_give.cls y_Md_give y_Md_give ∈ pmTs := pmM_4 (List.mem_of_getElem? (i := 2) rfl)
theorem tw_83 : Cond.selects y_Md_binding.cls y_Md_binding y_Md_binding ∈ pmTs := pmM_4 (List.mem_of_getElem? (i := 3) rfl)
theorem tw_84 : Cond.selects y_Md_evaluate.cls y_Md_evaluate y_Md_evaluate ∈ pmTs := pmM_4 (List.mem_of_getElem? (i := 4) rfl)
theorem tw_85 : Cond.selects y_Md_lookUp.cls y_Md_lookUp y_Md_lookUp ∈ pmTs := pmM_4 (List.mem_of_getElem? (i := 5) rfl)
theorem tw_86 : Cond.selects y_Md_special.cls y_Md_special y_Md_special ∈ pmTs := pmM_4 (List.mem_of_getElem? (i := 6) rfl)
theorem tw_87 : Cond.selects y_Md_areParameters.cls y_Md_areParameters y_Md_areParameters ∈ pmTs := pmM_4 (List.mem_of_getElem? (i := 7) rfl)
theorem tw_88 : Cond.selects y_Md_push.cls y_Md_push y_Md_push ∈ pmTs := pmM_4 (List.mem_of_getElem? (i := 8) rfl)
theorem tw_89 : Cond.initialized R_Law ∈ pmTs := pmM_4 (List.mem_of_getElem? (i := 9) rfl)
theorem tw_90 : Cond.initialized R_CL ∈ pmTs := pmM_4 (List.mem_of_getElem? (i := 10) rfl)
theorem tw_91 : Cond.initialized R_Text ∈ pmTs := pmM_4 (List.mem_of_getElem? (i := 11) rfl)
theorem tw_92 : Cond.initialized R_Output ∈ pmTs := pmM_4 (List.mem_of_getElem? (i := 12) rfl)
theorem tw_93 : Cond.initialized R_Symbols ∈ pmTs := pmM_4 (List.mem_of_getElem? (i := 13) rfl)
theorem tw_94 : Cond.initialized "java/lang/String" ∈ pmTs := pmM_4 (List.mem_of_getElem? (i := 14) rfl)
theorem tw_95 : Cond.initialized "java/lang/StringLatin1" ∈ pmTs := pmM_4 (List.mem_of_getElem? (i := 15) rfl)
theorem tw_96 : Cond.initialized "jdk/internal/util/Preconditions" ∈ pmTs := pmM_4 (List.mem_of_getElem? (i := 16) rfl)
theorem tw_97 : Cond.initialized "java/lang/StringUTF16" ∈ pmTs := pmM_4 (List.mem_of_getElem? (i := 17) rfl)
theorem tw_98 : Cond.initialized R_Value ∈ pmTs := pmM_4 (List.mem_of_getElem? (i := 18) rfl)
theorem tw_99 : Cond.initialized R_State ∈ pmTs := pmM_4 (List.mem_of_getElem? (i := 19) rfl)
theorem tw_100 : Cond.initialized R_Room ∈ pmTs := pmM_5 (List.mem_of_getElem? (i := 0) rfl)
theorem tw_101 : Cond.initialized "java/lang/Math" ∈ pmTs := pmM_5 (List.mem_of_getElem? (i := 1) rfl)
theorem tw_102 : Cond.initialized R_Machine ∈ pmTs := pmM_5 (List.mem_of_getElem? (i := 2) rfl)
theorem tw_103 : Cond.initialized R_Reader ∈ pmTs := pmM_5 (List.mem_of_getElem? (i := 3) rfl)
theorem tw_104 : Cond.initialized R_Printer ∈ pmTs := pmM_5 (List.mem_of_getElem? (i := 4) rfl)
theorem tw_105 : Cond.initialized R_Md ∈ pmTs := pmM_5 (List.mem_of_getElem? (i := 5) rfl)
theorem tw_106 : Cond.classLink R_Law 7 R_CL ∈ pmTs := pmM_5 (List.mem_of_getElem? (i := 6) rfl)
theorem tw_107 : Cond.instantiable R_CL 6 ∈ pmTs := pmM_5 (List.mem_of_getElem? (i := 7) rfl)
theorem tw_108 : Cond.methodLink R_Law 15 y_CL_init ∈ pmTs := pmM_5 (List.mem_of_getElem? (i := 8) rfl)
theorem tw_109 : Cond.instanceMethod y_CL_init ∈ pmTs := pmM_5 (List.mem_of_getElem? (i := 9) rfl)
theorem tw_110 : Cond.code y_CL_init k_CL_init 2 none ∈ pmTs := pmM_5 (List.mem_of_getElem? (i := 10) rfl)
theorem tw_111 : Cond.methodLink R_CL 1 objectInit ∈ pmTs := pmM_5 (List.mem_of_getElem? (i := 11) rfl)
theorem tw_112 : Cond.instanceMethod objectInit ∈ pmTs := pmM_5 (List.mem_of_getElem? (i := 12) rfl)
theorem tw_113 : Cond.classLink R_CL 7 R_Text ∈ pmTs := pmM_5 (List.mem_of_getElem? (i := 13) rfl)
theorem tw_114 : Cond.instantiable R_Text 2 ∈ pmTs := pmM_5 (List.mem_of_getElem? (i := 14) rfl)
theorem tw_115 : Cond.methodLinkNest R_CL 9 y_Text_init R_CL ∈ pmTs := pmM_5 (List.mem_of_getElem? (i := 15) rfl)
theorem tw_116 : Cond.instanceMethod y_Text_init ∈ pmTs := pmM_5 (List.mem_of_getElem? (i := 16) rfl)
theorem tw_117 : Cond.code y_Text_init k_Text_init 1 none ∈ pmTs := pmM_5 (List.mem_of_getElem? (i := 17) rfl)
theorem tw_118 : Cond.methodLink R_Text 1 objectInit ∈ pmTs := pmM_5 (List.mem_of_getElem? (i := 18) rfl)
theorem tw_119 : Cond.fieldLink R_Text 9 R_Text "row" "[C" ∈ pmTs := pmM_5 (List.mem_of_getElem? (i := 19) rfl)
theorem tw_120 : Cond.fieldLink R_Text 13 R_Text "size" "I" ∈ pmTs := pmM_6 (List.mem_of_getElem? (i := 0) rfl)
theorem tw_121 : Cond.fieldLinkNest R_Reader 69 R_Text "size" "I" R_CL ∈ pmTs := pmM_6 (List.mem_of_getElem? (i := 1) rfl)
theorem tw_122 : Cond.fieldLinkNest R_CL 96 R_Text "size" "I" R_CL ∈ pmTs := pmM_6 (List.mem_of_getElem? (i := 2) rfl)
theorem tw_123 : Cond.classLink R_CL 16 R_Output ∈ pmTs := pmM_6 (List.mem_of_getElem? (i := 3) rfl)
theorem tw_124 : Cond.instantiable R_Output 2 ∈ pmTs := pmM_6 (List.mem_of_getElem? (i := 4) rfl)
theorem tw_125 : Cond.methodLinkNest R_CL 18 y_Output_init R_CL ∈ pmTs := pmM_6 (List.mem_of_getElem? (i := 5) rfl)
theorem tw_126 : Cond.instanceMethod y_Output_init ∈ pmTs := pmM_6 (List.mem_of_getElem? (i := 6) rfl)
theorem tw_127 : Cond.code y_Output_init k_Output_init 1 none ∈ pmTs := pmM_6 (List.mem_of_getElem? (i := 7) rfl)
theorem tw_128 : Cond.methodLink R_Output 1 objectInit ∈ pmTs := pmM_6 (List.mem_of_getElem? (i := 8) rfl)
theorem tw_129 : Cond.fieldLink R_Output 9 R_Output "row" "[C" ∈ pmTs := pmM_6 (List.mem_of_getElem? (i := 9) rfl)
theorem tw_130 : Cond.fieldLink R_Output 13 R_Output "size" "I" ∈ pmTs := pmM_6 (List.mem_of_getElem? (i := 10) rfl)
theorem tw_131 : Cond.fieldLinkNest R_CL 82 R_Output "size" "I" R_CL ∈ pmTs := pmM_6 (List.mem_of_getElem? (i := 11) rfl)
theorem tw_132 : Cond.classLink R_CL 23 R_Symbols ∈ pmTs := pmM_6 (List.mem_of_getElem? (i := 12) rfl)
theorem tw_133 : Cond.instantiable R_Symbols 3 ∈ pmTs := pmM_6 (List.mem_of_getElem? (i := 13) rfl)
theorem tw_134 : Cond.methodLink R_CL 25 y_Symbols_init ∈ pmTs := pmM_6 (List.mem_of_getElem? (i := 14) rfl)
theorem tw_135 : Cond.instanceMethod y_Symbols_init ∈ pmTs := pmM_6 (List.mem_of_getElem? (i := 15) rfl)
theorem tw_136 : Cond.code y_Symbols_init k_Symbols_init 5 none ∈ pmTs := pmM_6 (List.mem_of_getElem? (i := 16) rfl)
theorem tw_137 : Cond.methodLink R_Symbols 1 objectInit ∈ pmTs := pmM_6 (List.mem_of_getElem? (i := 17) rfl)
theorem tw_138 : Cond.methodLink R_Symbols 19 (⟨"java/lang/String", "length", "()I"⟩ : MethodName) ∈ pmTs := pmM_6 (List.mem_of_getElem? (i := 18) rfl)
theorem tw_139 : Cond.instanceMethod (⟨"java/lang/String", "length", "()I"⟩ : MethodName) ∈ pmTs := pmM_6 (List.mem_of_getElem? (i := 19) rfl)
theorem tw_140 : Cond.selects (⟨"java/lang/String", "length", "()I"⟩ : MethodName).cls (⟨"java/lang/String", "length", "()I"⟩ : MethodName) (⟨"java/lang/String", "length", "()I"⟩ : MethodName) ∈ pmTs := pmM_7 (List.mem_of_getElem? (i := 0) rfl)
theorem tw_141 : Cond.code (⟨"java/lang/String", "length", "()I"⟩ : MethodName) prog_14_method_54_code 1 (some .int) ∈ pmTs := pmM_7 (List.mem_of_getElem? (i := 1) rfl)
theorem tw_142 : Cond.methodLink "java/lang/String" 335 (⟨"java/lang/String", "coder", "()B"⟩ : MethodName) ∈ pmTs := pmM_7 (List.mem_of_getElem? (i := 2) rfl)
theorem tw_143 : Cond.instanceMethod (⟨"java/lang/String", "coder", "()B"⟩ : MethodName) ∈ pmTs := pmM_7 (List.mem_of_getElem? (i := 3) rfl)
theorem tw_144 : Cond.selects (⟨"java/lang/String", "coder", "()B"⟩ : MethodName).cls (⟨"java/lang/String", "coder", "()B"⟩ : MethodName) (⟨"java/lang/String", "coder", "()B"⟩ : MethodName) ∈ pmTs := pmM_7 (List.mem_of_getElem? (i := 4) rfl)
theorem tw_145 : Cond.code (⟨"java/lang/String", "coder", "()B"⟩ : MethodName) prog_14_method_152_code 1 (some .byte) ∈ pmTs := pmM_7 (List.mem_of_getElem? (i := 5) rfl)
theorem tw_146 : Cond.fieldLink "java/lang/String" 38 "java/lang/String" "COMPACT_STRINGS" "Z" ∈ pmTs := pmM_7 (List.mem_of_getElem? (i := 6) rfl)
theorem tw_147 : Cond.methodLink R_Symbols 25 (⟨"java/lang/String", "charAt", "(I)C"⟩ : MethodName) ∈ pmTs := pmM_7 (List.mem_of_getElem? (i := 7) rfl)
theorem tw_148 : Cond.instanceMethod (⟨"java/lang/String", "charAt", "(I)C"⟩ : MethodName) ∈ pmTs := pmM_7 (List.mem_of_getElem? (i := 8) rfl)
theorem tw_149 : Cond.selects (⟨"java/lang/String", "charAt", "(I)C"⟩ : MethodName).cls (⟨"java/lang/String", "charAt", "(I)C"⟩ : MethodName) (⟨"java/lang/String", "charAt", "(I)C"⟩ : MethodName) ∈ pmTs := pmM_7 (List.mem_of_getElem? (i := 9) rfl)
theorem tw_150 : Cond.code (⟨"java/lang/String", "charAt", "(I)C"⟩ : MethodName) prog_14_method_56_code 2 (some .char) ∈ pmTs := pmM_7 (List.mem_of_getElem? (i := 10) rfl)
theorem tw_151 : Cond.methodLink "java/lang/String" 492 (⟨"java/lang/String", "isLatin1", "()Z"⟩ : MethodName) ∈ pmTs := pmM_7 (List.mem_of_getElem? (i := 11) rfl)
theorem tw_152 : Cond.instanceMethod (⟨"java/lang/String", "isLatin1", "()Z"⟩ : MethodName) ∈ pmTs := pmM_7 (List.mem_of_getElem? (i := 12) rfl)
theorem tw_153 : Cond.selects (⟨"java/lang/String", "isLatin1", "()Z"⟩ : MethodName).cls (⟨"java/lang/String", "isLatin1", "()Z"⟩ : MethodName) (⟨"java/lang/String", "isLatin1", "()Z"⟩ : MethodName) ∈ pmTs := pmM_7 (List.mem_of_getElem? (i := 13) rfl)
theorem tw_154 : Cond.code (⟨"java/lang/String", "isLatin1", "()Z"⟩ : MethodName) prog_14_method_154_code 1 (some .boolean) ∈ pmTs := pmM_7 (List.mem_of_getElem? (i := 14) rfl)
theorem tw_155 : Cond.methodLink "java/lang/String" 495 (⟨"java/lang/StringLatin1", "charAt", "([BI)C"⟩ : MethodName) ∈ pmTs := pmM_7 (List.mem_of_getElem? (i := 15) rfl)
theorem tw_156 : Cond.static (⟨"java/lang/StringLatin1", "charAt", "([BI)C"⟩ : MethodName) ∈ pmTs := pmM_7 (List.mem_of_getElem? (i := 16) rfl)
theorem tw_157 : Cond.code (⟨"java/lang/StringLatin1", "charAt", "([BI)C"⟩ : MethodName) prog_15_method_2_code 2 (some .char) ∈ pmTs := pmM_7 (List.mem_of_getElem? (i := 17) rfl)
theorem tw_158 : Cond.methodLink "java/lang/StringLatin1" 9 (⟨"java/lang/String", "checkIndex", "(II)V"⟩ : MethodName) ∈ pmTs := pmM_7 (List.mem_of_getElem? (i := 18) rfl)
theorem tw_159 : Cond.static (⟨"java/lang/String", "checkIndex", "(II)V"⟩ : MethodName) ∈ pmTs := pmM_7 (List.mem_of_getElem? (i := 19) rfl)
theorem tw_160 : Cond.code (⟨"java/lang/String", "checkIndex", "(II)V"⟩ : MethodName) prog_14_method_155_code 2 none ∈ pmTs := pmM_8 (List.mem_of_getElem? (i := 0) rfl)
theorem tw_161 : Cond.fieldLink "java/lang/String" 1053 "jdk/internal/util/Preconditions" "SIOOBE_FORMATTER" "Ljava/util/function/BiFunction;" ∈ pmTs := pmM_8 (List.mem_of_getElem? (i := 1) rfl)
theorem tw_162 : Cond.methodLink "java/lang/String" 1059 (⟨"jdk/internal/util/Preconditions", "checkIndex", "(IILjava/util/function/BiFunction;)I"⟩ : MethodName) ∈ pmTs := pmM_8 (List.mem_of_getElem? (i := 2) rfl)
theorem tw_163 : Cond.static (⟨"jdk/internal/util/Preconditions", "checkIndex", "(IILjava/util/function/BiFunction;)I"⟩ : MethodName) ∈ pmTs := pmM_8 (List.mem_of_getElem? (i := 3) rfl)
theorem tw_164 : Cond.code (⟨"jdk/internal/util/Preconditions", "checkIndex", "(IILjava/util/function/BiFunction;)I"⟩ : MethodName) prog_17_method_11_code 3 (some .int) ∈ pmTs := pmM_8 (List.mem_of_getElem? (i := 4) rfl)
theorem tw_165 : Cond.methodLink "java/lang/String" 498 (⟨"java/lang/StringUTF16", "charAt", "([BI)C"⟩ : MethodName) ∈ pmTs := pmM_8 (List.mem_of_getElem? (i := 5) rfl)
theorem tw_166 : Cond.static (⟨"java/lang/StringUTF16", "charAt", "([BI)C"⟩ : MethodName) ∈ pmTs := pmM_8 (List.mem_of_getElem? (i := 6) rfl)
theorem tw_167 : Cond.code (⟨"java/lang/StringUTF16", "charAt", "([BI)C"⟩ : MethodName) prog_16_method_83_code 2 (some .char) ∈ pmTs := pmM_8 (List.mem_of_getElem? (i := 7) rfl)
theorem tw_168 : Cond.methodLink "java/lang/StringUTF16" 67 (⟨"java/lang/StringUTF16", "checkIndex", "(I[B)V"⟩ : MethodName) ∈ pmTs := pmM_8 (List.mem_of_getElem? (i := 8) rfl)
theorem tw_169 : Cond.static (⟨"java/lang/StringUTF16", "checkIndex", "(I[B)V"⟩ : MethodName) ∈ pmTs := pmM_8 (List.mem_of_getElem? (i := 9) rfl)
theorem tw_170 : Cond.code (⟨"java/lang/StringUTF16", "checkIndex", "(I[B)V"⟩ : MethodName) prog_16_method_91_code 2 none ∈ pmTs := pmM_8 (List.mem_of_getElem? (i := 10) rfl)
theorem tw_171 : Cond.methodLink "java/lang/StringUTF16" 48 (⟨"java/lang/StringUTF16", "length", "([B)I"⟩ : MethodName) ∈ pmTs := pmM_8 (List.mem_of_getElem? (i := 11) rfl)
theorem tw_172 : Cond.static (⟨"java/lang/StringUTF16", "length", "([B)I"⟩ : MethodName) ∈ pmTs := pmM_8 (List.mem_of_getElem? (i := 12) rfl)
theorem tw_173 : Cond.code (⟨"java/lang/StringUTF16", "length", "([B)I"⟩ : MethodName) prog_16_method_6_code 1 (some .int) ∈ pmTs := pmM_8 (List.mem_of_getElem? (i := 13) rfl)
theorem tw_174 : Cond.methodLink "java/lang/StringUTF16" 414 (⟨"java/lang/String", "checkIndex", "(II)V"⟩ : MethodName) ∈ pmTs := pmM_8 (List.mem_of_getElem? (i := 14) rfl)
theorem tw_175 : Cond.methodLink "java/lang/StringUTF16" 71 (⟨"java/lang/StringUTF16", "getChar", "([BI)C"⟩ : MethodName) ∈ pmTs := pmM_8 (List.mem_of_getElem? (i := 15) rfl)
theorem tw_176 : Cond.static (⟨"java/lang/StringUTF16", "getChar", "([BI)C"⟩ : MethodName) ∈ pmTs := pmM_8 (List.mem_of_getElem? (i := 16) rfl)
theorem tw_177 : Cond.code (⟨"java/lang/StringUTF16", "getChar", "([BI)C"⟩ : MethodName) prog_16_method_5_code 2 (some .char) ∈ pmTs := pmM_8 (List.mem_of_getElem? (i := 17) rfl)
theorem tw_178 : Cond.fieldLink "java/lang/StringUTF16" 44 "java/lang/StringUTF16" "$assertionsDisabled" "Z" ∈ pmTs := pmM_8 (List.mem_of_getElem? (i := 18) rfl)
theorem tw_179 : Cond.fieldLink "java/lang/StringUTF16" 59 "java/lang/StringUTF16" "HI_BYTE_SHIFT" "I" ∈ pmTs := pmM_8 (List.mem_of_getElem? (i := 19) rfl)
theorem tw_180 : Cond.fieldLink "java/lang/StringUTF16" 63 "java/lang/StringUTF16" "LO_BYTE_SHIFT" "I" ∈ pmTs := pmM_9 (List.mem_of_getElem? (i := 0) rfl)
theorem tw_181 : Cond.methodLink R_Symbols 29 y_Symbols_learn ∈ pmTs := pmM_9 (List.mem_of_getElem? (i := 1) rfl)
theorem tw_182 : Cond.instanceMethod y_Symbols_learn ∈ pmTs := pmM_9 (List.mem_of_getElem? (i := 2) rfl)
theorem tw_183 : Cond.selects y_Symbols_learn.cls y_Symbols_learn y_Symbols_learn ∈ pmTs := pmM_9 (List.mem_of_getElem? (i := 3) rfl)
theorem tw_184 : Cond.code y_Symbols_learn k_Symbols_learn 3 (some .boolean) ∈ pmTs := pmM_9 (List.mem_of_getElem? (i := 4) rfl)
theorem tw_185 : Cond.methodLink R_Symbols 43 y_Symbols_find ∈ pmTs := pmM_9 (List.mem_of_getElem? (i := 5) rfl)
theorem tw_186 : Cond.instanceMethod y_Symbols_find ∈ pmTs := pmM_9 (List.mem_of_getElem? (i := 6) rfl)
theorem tw_187 : Cond.selects y_Symbols_find.cls y_Symbols_find y_Symbols_find ∈ pmTs := pmM_9 (List.mem_of_getElem? (i := 7) rfl)
theorem tw_188 : Cond.code y_Symbols_find k_Symbols_find 4 (some .int) ∈ pmTs := pmM_9 (List.mem_of_getElem? (i := 8) rfl)
theorem tw_189 : Cond.methodLink R_Symbols 35 y_Value_of ∈ pmTs := pmM_9 (List.mem_of_getElem? (i := 9) rfl)
theorem tw_190 : Cond.static y_Value_of ∈ pmTs := pmM_9 (List.mem_of_getElem? (i := 10) rfl)
theorem tw_191 : Cond.code y_Value_of k_Value_of 2 (some .int) ∈ pmTs := pmM_9 (List.mem_of_getElem? (i := 11) rfl)
theorem tw_192 : Cond.fieldLink R_Symbols 9 R_Symbols "names" "[J" ∈ pmTs := pmM_9 (List.mem_of_getElem? (i := 12) rfl)
theorem tw_193 : Cond.fieldLink R_Symbols 13 R_Symbols "globals" "[I" ∈ pmTs := pmM_9 (List.mem_of_getElem? (i := 13) rfl)
theorem tw_194 : Cond.fieldLinkNest R_Room 114 R_Symbols "globals" "[I" R_CL ∈ pmTs := pmM_9 (List.mem_of_getElem? (i := 14) rfl)
theorem tw_195 : Cond.fieldLink R_Symbols 39 R_Symbols "known" "I" ∈ pmTs := pmM_9 (List.mem_of_getElem? (i := 15) rfl)
theorem tw_196 : Cond.fieldLinkNest R_CL 100 R_Symbols "known" "I" R_CL ∈ pmTs := pmM_9 (List.mem_of_getElem? (i := 16) rfl)
theorem tw_197 : Cond.fieldLinkNest R_Room 109 R_Symbols "known" "I" R_CL ∈ pmTs := pmM_9 (List.mem_of_getElem? (i := 17) rfl)
theorem tw_198 : Cond.classLink R_CL 30 R_State ∈ pmTs := pmM_9 (List.mem_of_getElem? (i := 18) rfl)
theorem tw_199 : Cond.instantiable R_State 8 ∈ pmTs := pmM_9 (List.mem_of_getElem? (i := 19) rfl)
theorem tw_200 : Cond.methodLinkNest R_CL 32 y_State_init R_CL ∈ pmTs := pmM_10 (List.mem_of_getElem? (i := 0) rfl)
theorem tw_201 : Cond.instanceMethod y_State_init ∈ pmTs := pmM_10 (List.mem_of_getElem? (i := 1) rfl)
theorem tw_202 : Cond.code y_State_init k_State_init 1 none ∈ pmTs := pmM_10 (List.mem_of_getElem? (i := 2) rfl)
theorem tw_203 : Cond.methodLink R_State 1 objectInit ∈ pmTs := pmM_10 (List.mem_of_getElem? (i := 3) rfl)
theorem tw_204 : Cond.fieldLink R_State 9 R_State "value" "I" ∈ pmTs := pmM_10 (List.mem_of_getElem? (i := 4) rfl)
theorem tw_205 : Cond.fieldLinkNest R_Machine 71 R_State "value" "I" R_CL ∈ pmTs := pmM_10 (List.mem_of_getElem? (i := 5) rfl)
theorem tw_206 : Cond.fieldLinkNest R_Room 85 R_State "value" "I" R_CL ∈ pmTs := pmM_10 (List.mem_of_getElem? (i := 6) rfl)
theorem tw_207 : Cond.fieldLink R_State 15 R_State "environment" "I" ∈ pmTs := pmM_10 (List.mem_of_getElem? (i := 7) rfl)
theorem tw_208 : Cond.fieldLinkNest R_Machine 74 R_State "environment" "I" R_CL ∈ pmTs := pmM_10 (List.mem_of_getElem? (i := 8) rfl)
theorem tw_209 : Cond.fieldLinkNest R_Room 94 R_State "environment" "I" R_CL ∈ pmTs := pmM_10 (List.mem_of_getElem? (i := 9) rfl)
theorem tw_210 : Cond.fieldLinkNest R_Machine 43 R_State "evaluating" "Z" R_CL ∈ pmTs := pmM_10 (List.mem_of_getElem? (i := 10) rfl)
theorem tw_211 : Cond.fieldLink R_State 31 R_State "depth" "I" ∈ pmTs := pmM_10 (List.mem_of_getElem? (i := 11) rfl)
theorem tw_212 : Cond.fieldLinkNest R_Machine 77 R_State "depth" "I" R_CL ∈ pmTs := pmM_10 (List.mem_of_getElem? (i := 12) rfl)
theorem tw_213 : Cond.fieldLinkNest R_CL 97 R_State "depth" "I" R_CL ∈ pmTs := pmM_10 (List.mem_of_getElem? (i := 13) rfl)
theorem tw_214 : Cond.fieldLinkNest R_Room 97 R_State "depth" "I" R_CL ∈ pmTs := pmM_10 (List.mem_of_getElem? (i := 14) rfl)
theorem tw_215 : Cond.fieldLink R_State 18 R_State "kinds" "[I" ∈ pmTs := pmM_10 (List.mem_of_getElem? (i := 15) rfl)
theorem tw_216 : Cond.fieldLink R_State 22 R_State "as" "[I" ∈ pmTs := pmM_10 (List.mem_of_getElem? (i := 16) rfl)
theorem tw_217 : Cond.fieldLinkNest R_Room 100 R_State "as" "[I" R_CL ∈ pmTs := pmM_10 (List.mem_of_getElem? (i := 17) rfl)
theorem tw_218 : Cond.fieldLink R_State 25 R_State "bs" "[I" ∈ pmTs := pmM_10 (List.mem_of_getElem? (i := 18) rfl)
theorem tw_219 : Cond.fieldLinkNest R_Room 103 R_State "bs" "[I" R_CL ∈ pmTs := pmM_10 (List.mem_of_getElem? (i := 19) rfl)
theorem tw_220 : Cond.fieldLink R_State 28 R_State "cs" "[I" ∈ pmTs := pmM_11 (List.mem_of_getElem? (i := 0) rfl)
theorem tw_221 : Cond.fieldLinkNest R_Room 106 R_State "cs" "[I" R_CL ∈ pmTs := pmM_11 (List.mem_of_getElem? (i := 1) rfl)
theorem tw_222 : Cond.classLink R_CL 37 R_Room ∈ pmTs := pmM_11 (List.mem_of_getElem? (i := 2) rfl)
theorem tw_223 : Cond.instantiable R_Room 13 ∈ pmTs := pmM_11 (List.mem_of_getElem? (i := 3) rfl)
theorem tw_224 : Cond.methodLink R_CL 39 Lib.Math.min.name ∈ pmTs := pmM_11 (List.mem_of_getElem? (i := 4) rfl)
theorem tw_225 : Cond.static Lib.Math.min.name ∈ pmTs := pmM_11 (List.mem_of_getElem? (i := 5) rfl)
theorem tw_226 : Cond.code Lib.Math.min.name Lib.Math.min.code 2 (some .int) ∈ pmTs := pmM_11 (List.mem_of_getElem? (i := 6) rfl)
theorem tw_227 : Cond.methodLink R_CL 45 Lib.Math.max.name ∈ pmTs := pmM_11 (List.mem_of_getElem? (i := 7) rfl)
theorem tw_228 : Cond.static Lib.Math.max.name ∈ pmTs := pmM_11 (List.mem_of_getElem? (i := 8) rfl)
theorem tw_229 : Cond.code Lib.Math.max.name Lib.Math.max.code 2 (some .int) ∈ pmTs := pmM_11 (List.mem_of_getElem? (i := 9) rfl)
theorem tw_230 : Cond.methodLink R_CL 48 y_Room_init ∈ pmTs := pmM_11 (List.mem_of_getElem? (i := 10) rfl)
theorem tw_231 : Cond.instanceMethod y_Room_init ∈ pmTs := pmM_11 (List.mem_of_getElem? (i := 11) rfl)
theorem tw_232 : Cond.code y_Room_init k_Room_init 5 none ∈ pmTs := pmM_11 (List.mem_of_getElem? (i := 12) rfl)
theorem tw_233 : Cond.methodLink R_Room 1 objectInit ∈ pmTs := pmM_11 (List.mem_of_getElem? (i := 13) rfl)
theorem tw_234 : Cond.methodLink R_Room 21 Lib.Math.max.name ∈ pmTs := pmM_11 (List.mem_of_getElem? (i := 14) rfl)
theorem tw_235 : Cond.fieldLink R_Room 7 R_Room "size" "I" ∈ pmTs := pmM_11 (List.mem_of_getElem? (i := 15) rfl)
theorem tw_236 : Cond.fieldLink R_Room 27 R_Room "slots" "I" ∈ pmTs := pmM_11 (List.mem_of_getElem? (i := 16) rfl)
theorem tw_237 : Cond.fieldLink R_Room 30 R_Room "firsts" "[I" ∈ pmTs := pmM_11 (List.mem_of_getElem? (i := 17) rfl)
theorem tw_238 : Cond.fieldLink R_Room 34 R_Room "seconds" "[I" ∈ pmTs := pmM_11 (List.mem_of_getElem? (i := 18) rfl)
theorem tw_239 : Cond.fieldLink R_Room 37 R_Room "thirds" "[I" ∈ pmTs := pmM_11 (List.mem_of_getElem? (i := 19) rfl)
theorem tw_240 : Cond.fieldLink R_Room 40 R_Room "reached" "[Z" ∈ pmTs := pmM_12 (List.mem_of_getElem? (i := 0) rfl)
theorem tw_241 : Cond.fieldLink R_Room 44 R_Room "waiting" "[I" ∈ pmTs := pmM_12 (List.mem_of_getElem? (i := 1) rfl)
theorem tw_242 : Cond.fieldLink R_Room 47 R_Room "free" "[I" ∈ pmTs := pmM_12 (List.mem_of_getElem? (i := 2) rfl)
theorem tw_243 : Cond.fieldLink R_Room 82 R_Room "waitingSize" "I" ∈ pmTs := pmM_12 (List.mem_of_getElem? (i := 3) rfl)
theorem tw_244 : Cond.fieldLink R_Room 50 R_Room "freeSize" "I" ∈ pmTs := pmM_12 (List.mem_of_getElem? (i := 4) rfl)
theorem tw_245 : Cond.fieldLink R_Room 53 R_Room "used" "I" ∈ pmTs := pmM_12 (List.mem_of_getElem? (i := 5) rfl)
theorem tw_246 : Cond.fieldLinkNest R_CL 93 R_Room "used" "I" R_CL ∈ pmTs := pmM_12 (List.mem_of_getElem? (i := 6) rfl)
theorem tw_247 : Cond.fieldLink R_Room 13 R_Room "state" "LCellLisp$State;" ∈ pmTs := pmM_12 (List.mem_of_getElem? (i := 7) rfl)
theorem tw_248 : Cond.fieldLink R_Room 17 R_Room "symbols" "LCellLisp$Symbols;" ∈ pmTs := pmM_12 (List.mem_of_getElem? (i := 8) rfl)
theorem tw_249 : Cond.classLink R_CL 55 R_Machine ∈ pmTs := pmM_12 (List.mem_of_getElem? (i := 9) rfl)
theorem tw_250 : Cond.instantiable R_Machine 7 ∈ pmTs := pmM_12 (List.mem_of_getElem? (i := 10) rfl)
theorem tw_251 : Cond.classLink R_CL 57 R_Reader ∈ pmTs := pmM_12 (List.mem_of_getElem? (i := 11) rfl)
theorem tw_252 : Cond.instantiable R_Reader 9 ∈ pmTs := pmM_12 (List.mem_of_getElem? (i := 12) rfl)
theorem tw_253 : Cond.methodLink R_CL 59 y_Reader_init ∈ pmTs := pmM_12 (List.mem_of_getElem? (i := 13) rfl)
theorem tw_254 : Cond.instanceMethod y_Reader_init ∈ pmTs := pmM_12 (List.mem_of_getElem? (i := 14) rfl)
theorem tw_255 : Cond.code y_Reader_init k_Reader_init 4 none ∈ pmTs := pmM_12 (List.mem_of_getElem? (i := 15) rfl)
theorem tw_256 : Cond.methodLink R_Reader 3 objectInit ∈ pmTs := pmM_12 (List.mem_of_getElem? (i := 16) rfl)
theorem tw_257 : Cond.fieldLink R_Reader 28 R_Reader "text" "LCellLisp$Text;" ∈ pmTs := pmM_12 (List.mem_of_getElem? (i := 17) rfl)
theorem tw_258 : Cond.fieldLink R_Reader 32 R_Reader "symbols" "LCellLisp$Symbols;" ∈ pmTs := pmM_12 (List.mem_of_getElem? (i := 18) rfl)
theorem tw_259 : Cond.fieldLink R_Reader 36 R_Reader "room" "LCellLisp$Room;" ∈ pmTs := pmM_12 (List.mem_of_getElem? (i := 19) rfl)
theorem tw_260 : Cond.fieldLink R_Reader 60 R_Reader "end" "I" ∈ pmTs := pmM_13 (List.mem_of_getElem? (i := 0) rfl)
theorem tw_261 : Cond.fieldLink R_Reader 48 R_Reader "cells" "I" ∈ pmTs := pmM_13 (List.mem_of_getElem? (i := 1) rfl)
theorem tw_262 : Cond.fieldLink R_Reader 11 R_Reader "form" "I" ∈ pmTs := pmM_13 (List.mem_of_getElem? (i := 2) rfl)
theorem tw_263 : Cond.fieldLinkNest R_Machine 62 R_Reader "form" "I" R_CL ∈ pmTs := pmM_13 (List.mem_of_getElem? (i := 3) rfl)
theorem tw_264 : Cond.fieldLink R_Reader 17 R_Reader "heads" "[I" ∈ pmTs := pmM_13 (List.mem_of_getElem? (i := 4) rfl)
theorem tw_265 : Cond.fieldLink R_Reader 21 R_Reader "lasts" "[I" ∈ pmTs := pmM_13 (List.mem_of_getElem? (i := 5) rfl)
theorem tw_266 : Cond.fieldLink R_Reader 24 R_Reader "quotes" "[Z" ∈ pmTs := pmM_13 (List.mem_of_getElem? (i := 6) rfl)
theorem tw_267 : Cond.classLink R_CL 62 R_Printer ∈ pmTs := pmM_13 (List.mem_of_getElem? (i := 7) rfl)
theorem tw_268 : Cond.instantiable R_Printer 3 ∈ pmTs := pmM_13 (List.mem_of_getElem? (i := 8) rfl)
theorem tw_269 : Cond.methodLink R_CL 64 y_Printer_init ∈ pmTs := pmM_13 (List.mem_of_getElem? (i := 9) rfl)
theorem tw_270 : Cond.instanceMethod y_Printer_init ∈ pmTs := pmM_13 (List.mem_of_getElem? (i := 10) rfl)
theorem tw_271 : Cond.code y_Printer_init k_Printer_init 4 none ∈ pmTs := pmM_13 (List.mem_of_getElem? (i := 11) rfl)
theorem tw_272 : Cond.methodLink R_Printer 1 objectInit ∈ pmTs := pmM_13 (List.mem_of_getElem? (i := 12) rfl)
theorem tw_273 : Cond.fieldLink R_Printer 7 R_Printer "output" "LCellLisp$Output;" ∈ pmTs := pmM_13 (List.mem_of_getElem? (i := 13) rfl)
theorem tw_274 : Cond.fieldLink R_Printer 13 R_Printer "symbols" "LCellLisp$Symbols;" ∈ pmTs := pmM_13 (List.mem_of_getElem? (i := 14) rfl)
theorem tw_275 : Cond.fieldLink R_Printer 17 R_Printer "room" "LCellLisp$Room;" ∈ pmTs := pmM_13 (List.mem_of_getElem? (i := 15) rfl)
theorem tw_276 : Cond.methodLink R_CL 67 y_Machine_init ∈ pmTs := pmM_13 (List.mem_of_getElem? (i := 16) rfl)
theorem tw_277 : Cond.instanceMethod y_Machine_init ∈ pmTs := pmM_13 (List.mem_of_getElem? (i := 17) rfl)
theorem tw_278 : Cond.code y_Machine_init k_Machine_init 6 none ∈ pmTs := pmM_13 (List.mem_of_getElem? (i := 18) rfl)
theorem tw_279 : Cond.methodLink R_Machine 3 objectInit ∈ pmTs := pmM_13 (List.mem_of_getElem? (i := 19) rfl)
theorem tw_280 : Cond.fieldLink R_Machine 9 R_Machine "state" "LCellLisp$State;" ∈ pmTs := pmM_14 (List.mem_of_getElem? (i := 0) rfl)
theorem tw_281 : Cond.fieldLink R_Machine 15 R_Machine "room" "LCellLisp$Room;" ∈ pmTs := pmM_14 (List.mem_of_getElem? (i := 1) rfl)
theorem tw_282 : Cond.fieldLink R_Machine 19 R_Machine "symbols" "LCellLisp$Symbols;" ∈ pmTs := pmM_14 (List.mem_of_getElem? (i := 2) rfl)
theorem tw_283 : Cond.fieldLink R_Machine 23 R_Machine "reader" "LCellLisp$Reader;" ∈ pmTs := pmM_14 (List.mem_of_getElem? (i := 3) rfl)
theorem tw_284 : Cond.fieldLink R_Machine 27 R_Machine "printer" "LCellLisp$Printer;" ∈ pmTs := pmM_14 (List.mem_of_getElem? (i := 4) rfl)
theorem tw_285 : Cond.fieldLink R_Machine 31 R_Machine "underWay" "Z" ∈ pmTs := pmM_14 (List.mem_of_getElem? (i := 5) rfl)
theorem tw_286 : Cond.fieldLink R_Machine 39 R_Machine "steps" "I" ∈ pmTs := pmM_14 (List.mem_of_getElem? (i := 6) rfl)
theorem tw_287 : Cond.fieldLinkNest R_CL 103 R_Machine "steps" "I" R_CL ∈ pmTs := pmM_14 (List.mem_of_getElem? (i := 7) rfl)
theorem tw_288 : Cond.fieldLink R_CL 10 R_CL "text" "LCellLisp$Text;" ∈ pmTs := pmM_14 (List.mem_of_getElem? (i := 8) rfl)
theorem tw_289 : Cond.fieldLink R_CL 19 R_CL "output" "LCellLisp$Output;" ∈ pmTs := pmM_14 (List.mem_of_getElem? (i := 9) rfl)
theorem tw_290 : Cond.fieldLink R_CL 26 R_CL "symbols" "LCellLisp$Symbols;" ∈ pmTs := pmM_14 (List.mem_of_getElem? (i := 10) rfl)
theorem tw_291 : Cond.fieldLink R_CL 33 R_CL "state" "LCellLisp$State;" ∈ pmTs := pmM_14 (List.mem_of_getElem? (i := 11) rfl)
theorem tw_292 : Cond.fieldLink R_CL 51 R_CL "room" "LCellLisp$Room;" ∈ pmTs := pmM_14 (List.mem_of_getElem? (i := 12) rfl)
theorem tw_293 : Cond.fieldLink R_CL 70 R_CL "machine" "LCellLisp$Machine;" ∈ pmTs := pmM_14 (List.mem_of_getElem? (i := 13) rfl)
theorem tw_294 : Cond.methodLink R_Law 21 y_CL_feed ∈ pmTs := pmM_14 (List.mem_of_getElem? (i := 14) rfl)
theorem tw_295 : Cond.instanceMethod y_CL_feed ∈ pmTs := pmM_14 (List.mem_of_getElem? (i := 15) rfl)
theorem tw_296 : Cond.selects y_CL_feed.cls y_CL_feed y_CL_feed ∈ pmTs := pmM_14 (List.mem_of_getElem? (i := 16) rfl)
theorem tw_297 : Cond.code y_CL_feed k_CL_feed 3 (some .boolean) ∈ pmTs := pmM_14 (List.mem_of_getElem? (i := 17) rfl)
theorem tw_298 : Cond.methodLink R_CL 74 y_Text_append ∈ pmTs := pmM_14 (List.mem_of_getElem? (i := 18) rfl)
theorem tw_299 : Cond.instanceMethod y_Text_append ∈ pmTs := pmM_14 (List.mem_of_getElem? (i := 19) rfl)
theorem tw_300 : Cond.selects y_Text_append.cls y_Text_append y_Text_append ∈ pmTs := pmM_15 (List.mem_of_getElem? (i := 0) rfl)
theorem tw_301 : Cond.code y_Text_append k_Text_append 4 (some .boolean) ∈ pmTs := pmM_15 (List.mem_of_getElem? (i := 1) rfl)
theorem tw_302 : Cond.methodLink R_Text 17 y_Text_isCharacter ∈ pmTs := pmM_15 (List.mem_of_getElem? (i := 2) rfl)
theorem tw_303 : Cond.static y_Text_isCharacter ∈ pmTs := pmM_15 (List.mem_of_getElem? (i := 3) rfl)
theorem tw_304 : Cond.code y_Text_isCharacter k_Text_isCharacter 1 (some .boolean) ∈ pmTs := pmM_15 (List.mem_of_getElem? (i := 4) rfl)
theorem tw_305 : Cond.methodLink R_Law 26 y_CL_run ∈ pmTs := pmM_15 (List.mem_of_getElem? (i := 5) rfl)
theorem tw_306 : Cond.instanceMethod y_CL_run ∈ pmTs := pmM_15 (List.mem_of_getElem? (i := 6) rfl)
theorem tw_307 : Cond.selects y_CL_run.cls y_CL_run y_CL_run ∈ pmTs := pmM_15 (List.mem_of_getElem? (i := 7) rfl)
theorem tw_308 : Cond.code y_CL_run k_CL_run 5 (some .int) ∈ pmTs := pmM_15 (List.mem_of_getElem? (i := 8) rfl)
theorem tw_309 : Cond.methodLink R_CL 78 y_Machine_step ∈ pmTs := pmM_15 (List.mem_of_getElem? (i := 9) rfl)
theorem tw_310 : Cond.instanceMethod y_Machine_step ∈ pmTs := pmM_15 (List.mem_of_getElem? (i := 10) rfl)
theorem tw_311 : Cond.selects y_Machine_step.cls y_Machine_step y_Machine_step ∈ pmTs := pmM_15 (List.mem_of_getElem? (i := 11) rfl)
theorem tw_312 : Cond.code y_Machine_step k_Machine_step 2 (some .int) ∈ pmTs := pmM_15 (List.mem_of_getElem? (i := 12) rfl)
theorem tw_313 : Cond.methodLink R_Machine 35 y_Machine_begin ∈ pmTs := pmM_15 (List.mem_of_getElem? (i := 13) rfl)
theorem tw_314 : Cond.instanceMethod y_Machine_begin ∈ pmTs := pmM_15 (List.mem_of_getElem? (i := 14) rfl)
theorem tw_315 : Cond.code y_Machine_begin k_Machine_begin 2 (some .int) ∈ pmTs := pmM_15 (List.mem_of_getElem? (i := 15) rfl)
theorem tw_316 : Cond.methodLink R_Machine 57 y_Reader_read ∈ pmTs := pmM_15 (List.mem_of_getElem? (i := 16) rfl)
theorem tw_317 : Cond.instanceMethod y_Reader_read ∈ pmTs := pmM_15 (List.mem_of_getElem? (i := 17) rfl)
theorem tw_318 : Cond.selects y_Reader_read.cls y_Reader_read y_Reader_read ∈ pmTs := pmM_15 (List.mem_of_getElem? (i := 18) rfl)
theorem tw_319 : Cond.code y_Reader_read k_Reader_read 2 (some .int) ∈ pmTs := pmM_15 (List.mem_of_getElem? (i := 19) rfl)
theorem tw_320 : Cond.methodLink R_Reader 40 y_Reader_findForm ∈ pmTs := pmM_16 (List.mem_of_getElem? (i := 0) rfl)
theorem tw_321 : Cond.instanceMethod y_Reader_findForm ∈ pmTs := pmM_16 (List.mem_of_getElem? (i := 1) rfl)
theorem tw_322 : Cond.code y_Reader_findForm k_Reader_findForm 6 (some .int) ∈ pmTs := pmM_16 (List.mem_of_getElem? (i := 2) rfl)
theorem tw_323 : Cond.methodLink R_Reader 72 y_Text_at ∈ pmTs := pmM_16 (List.mem_of_getElem? (i := 3) rfl)
theorem tw_324 : Cond.instanceMethod y_Text_at ∈ pmTs := pmM_16 (List.mem_of_getElem? (i := 4) rfl)
theorem tw_325 : Cond.selects y_Text_at.cls y_Text_at y_Text_at ∈ pmTs := pmM_16 (List.mem_of_getElem? (i := 5) rfl)
theorem tw_326 : Cond.code y_Text_at k_Text_at 2 (some .char) ∈ pmTs := pmM_16 (List.mem_of_getElem? (i := 6) rfl)
theorem tw_327 : Cond.methodLink R_Reader 76 y_Text_pieceEnd ∈ pmTs := pmM_16 (List.mem_of_getElem? (i := 7) rfl)
theorem tw_328 : Cond.instanceMethod y_Text_pieceEnd ∈ pmTs := pmM_16 (List.mem_of_getElem? (i := 8) rfl)
theorem tw_329 : Cond.selects y_Text_pieceEnd.cls y_Text_pieceEnd y_Text_pieceEnd ∈ pmTs := pmM_16 (List.mem_of_getElem? (i := 9) rfl)
theorem tw_330 : Cond.code y_Text_pieceEnd k_Text_pieceEnd 3 (some .int) ∈ pmTs := pmM_16 (List.mem_of_getElem? (i := 10) rfl)
theorem tw_331 : Cond.methodLink R_Text 30 y_Text_at ∈ pmTs := pmM_16 (List.mem_of_getElem? (i := 11) rfl)
theorem tw_332 : Cond.methodLink R_Text 34 y_Text_isOfWord ∈ pmTs := pmM_16 (List.mem_of_getElem? (i := 12) rfl)
theorem tw_333 : Cond.static y_Text_isOfWord ∈ pmTs := pmM_16 (List.mem_of_getElem? (i := 13) rfl)
theorem tw_334 : Cond.code y_Text_isOfWord k_Text_isOfWord 1 (some .boolean) ∈ pmTs := pmM_16 (List.mem_of_getElem? (i := 14) rfl)
theorem tw_335 : Cond.methodLink R_Text 38 y_Text_isBlank ∈ pmTs := pmM_16 (List.mem_of_getElem? (i := 15) rfl)
theorem tw_336 : Cond.static y_Text_isBlank ∈ pmTs := pmM_16 (List.mem_of_getElem? (i := 16) rfl)
theorem tw_337 : Cond.code y_Text_isBlank k_Text_isBlank 1 (some .boolean) ∈ pmTs := pmM_16 (List.mem_of_getElem? (i := 17) rfl)
theorem tw_338 : Cond.methodLink R_Reader 80 y_Text_isBlank ∈ pmTs := pmM_16 (List.mem_of_getElem? (i := 18) rfl)
theorem tw_339 : Cond.methodLink R_Reader 84 y_Reader_isFault ∈ pmTs := pmM_16 (List.mem_of_getElem? (i := 19) rfl)
theorem tw_340 : Cond.static y_Reader_isFault ∈ pmTs := pmM_17 (List.mem_of_getElem? (i := 0) rfl)
theorem tw_341 : Cond.code y_Reader_isFault k_Reader_isFault 3 (some .boolean) ∈ pmTs := pmM_17 (List.mem_of_getElem? (i := 1) rfl)
theorem tw_342 : Cond.methodLink R_Reader 88 y_Reader_cellsOfPiece ∈ pmTs := pmM_17 (List.mem_of_getElem? (i := 2) rfl)
theorem tw_343 : Cond.static y_Reader_cellsOfPiece ∈ pmTs := pmM_17 (List.mem_of_getElem? (i := 3) rfl)
theorem tw_344 : Cond.code y_Reader_cellsOfPiece k_Reader_cellsOfPiece 4 (some .int) ∈ pmTs := pmM_17 (List.mem_of_getElem? (i := 4) rfl)
theorem tw_345 : Cond.methodLink R_Reader 44 y_Reader_learnSymbols ∈ pmTs := pmM_17 (List.mem_of_getElem? (i := 5) rfl)
theorem tw_346 : Cond.instanceMethod y_Reader_learnSymbols ∈ pmTs := pmM_17 (List.mem_of_getElem? (i := 6) rfl)
theorem tw_347 : Cond.code y_Reader_learnSymbols k_Reader_learnSymbols 4 (some .boolean) ∈ pmTs := pmM_17 (List.mem_of_getElem? (i := 7) rfl)
theorem tw_348 : Cond.methodLink R_Reader 92 y_Reader_isSymbol ∈ pmTs := pmM_17 (List.mem_of_getElem? (i := 8) rfl)
theorem tw_349 : Cond.instanceMethod y_Reader_isSymbol ∈ pmTs := pmM_17 (List.mem_of_getElem? (i := 9) rfl)
theorem tw_350 : Cond.code y_Reader_isSymbol k_Reader_isSymbol 3 (some .boolean) ∈ pmTs := pmM_17 (List.mem_of_getElem? (i := 10) rfl)
theorem tw_351 : Cond.methodLinkNest R_Reader 106 y_Text_isOfWord R_CL ∈ pmTs := pmM_17 (List.mem_of_getElem? (i := 11) rfl)
theorem tw_352 : Cond.methodLink R_Reader 109 y_Text_isNumber ∈ pmTs := pmM_17 (List.mem_of_getElem? (i := 12) rfl)
theorem tw_353 : Cond.instanceMethod y_Text_isNumber ∈ pmTs := pmM_17 (List.mem_of_getElem? (i := 13) rfl)
theorem tw_354 : Cond.selects y_Text_isNumber.cls y_Text_isNumber y_Text_isNumber ∈ pmTs := pmM_17 (List.mem_of_getElem? (i := 14) rfl)
theorem tw_355 : Cond.code y_Text_isNumber k_Text_isNumber 5 (some .boolean) ∈ pmTs := pmM_17 (List.mem_of_getElem? (i := 15) rfl)
theorem tw_356 : Cond.methodLink R_Reader 96 y_Text_name ∈ pmTs := pmM_17 (List.mem_of_getElem? (i := 16) rfl)
theorem tw_357 : Cond.instanceMethod y_Text_name ∈ pmTs := pmM_17 (List.mem_of_getElem? (i := 17) rfl)
theorem tw_358 : Cond.selects y_Text_name.cls y_Text_name y_Text_name ∈ pmTs := pmM_17 (List.mem_of_getElem? (i := 18) rfl)
theorem tw_359 : Cond.code y_Text_name k_Text_name 6 (some .long) ∈ pmTs := pmM_17 (List.mem_of_getElem? (i := 19) rfl)
theorem tw_360 : Cond.constantLong R_Reader 112 (7235948) ∈ pmTs := pmM_18 (List.mem_of_getElem? (i := 0) rfl)
theorem tw_361 : Cond.methodLink R_Reader 100 y_Symbols_learn ∈ pmTs := pmM_18 (List.mem_of_getElem? (i := 1) rfl)
theorem tw_362 : Cond.methodLink R_Reader 51 y_Room_hasFor ∈ pmTs := pmM_18 (List.mem_of_getElem? (i := 2) rfl)
theorem tw_363 : Cond.instanceMethod y_Room_hasFor ∈ pmTs := pmM_18 (List.mem_of_getElem? (i := 3) rfl)
theorem tw_364 : Cond.selects y_Room_hasFor.cls y_Room_hasFor y_Room_hasFor ∈ pmTs := pmM_18 (List.mem_of_getElem? (i := 4) rfl)
theorem tw_365 : Cond.code y_Room_hasFor k_Room_hasFor 2 (some .boolean) ∈ pmTs := pmM_18 (List.mem_of_getElem? (i := 5) rfl)
theorem tw_366 : Cond.methodLink R_Room 56 y_Room_collect ∈ pmTs := pmM_18 (List.mem_of_getElem? (i := 6) rfl)
theorem tw_367 : Cond.instanceMethod y_Room_collect ∈ pmTs := pmM_18 (List.mem_of_getElem? (i := 7) rfl)
theorem tw_368 : Cond.selects y_Room_collect.cls y_Room_collect y_Room_collect ∈ pmTs := pmM_18 (List.mem_of_getElem? (i := 8) rfl)
theorem tw_369 : Cond.code y_Room_collect k_Room_collect 3 none ∈ pmTs := pmM_18 (List.mem_of_getElem? (i := 9) rfl)
theorem tw_370 : Cond.methodLink R_Room 90 y_Room_reach ∈ pmTs := pmM_18 (List.mem_of_getElem? (i := 10) rfl)
theorem tw_371 : Cond.instanceMethod y_Room_reach ∈ pmTs := pmM_18 (List.mem_of_getElem? (i := 11) rfl)
theorem tw_372 : Cond.code y_Room_reach k_Room_reach 5 none ∈ pmTs := pmM_18 (List.mem_of_getElem? (i := 12) rfl)
theorem tw_373 : Cond.methodLink R_Room 120 y_Value_kind ∈ pmTs := pmM_18 (List.mem_of_getElem? (i := 13) rfl)
theorem tw_374 : Cond.static y_Value_kind ∈ pmTs := pmM_18 (List.mem_of_getElem? (i := 14) rfl)
theorem tw_375 : Cond.code y_Value_kind k_Value_kind 1 (some .int) ∈ pmTs := pmM_18 (List.mem_of_getElem? (i := 15) rfl)
theorem tw_376 : Cond.methodLink R_Room 69 y_Value_content ∈ pmTs := pmM_18 (List.mem_of_getElem? (i := 16) rfl)
theorem tw_377 : Cond.static y_Value_content ∈ pmTs := pmM_18 (List.mem_of_getElem? (i := 17) rfl)
theorem tw_378 : Cond.code y_Value_content k_Value_content 1 (some .int) ∈ pmTs := pmM_18 (List.mem_of_getElem? (i := 18) rfl)
theorem tw_379 : Cond.methodLink R_Room 117 y_Room_freeUnreached ∈ pmTs := pmM_18 (List.mem_of_getElem? (i := 19) rfl)
theorem tw_380 : Cond.instanceMethod y_Room_freeUnreached ∈ pmTs := pmM_19 (List.mem_of_getElem? (i := 0) rfl)
theorem tw_381 : Cond.code y_Room_freeUnreached k_Room_freeUnreached 2 none ∈ pmTs := pmM_19 (List.mem_of_getElem? (i := 1) rfl)
theorem tw_382 : Cond.methodLink R_Reader 57 y_Reader_build ∈ pmTs := pmM_19 (List.mem_of_getElem? (i := 2) rfl)
theorem tw_383 : Cond.instanceMethod y_Reader_build ∈ pmTs := pmM_19 (List.mem_of_getElem? (i := 3) rfl)
theorem tw_384 : Cond.code y_Reader_build k_Reader_build 7 none ∈ pmTs := pmM_19 (List.mem_of_getElem? (i := 4) rfl)
theorem tw_385 : Cond.methodLink R_Reader 114 y_Reader_place ∈ pmTs := pmM_19 (List.mem_of_getElem? (i := 5) rfl)
theorem tw_386 : Cond.instanceMethod y_Reader_place ∈ pmTs := pmM_19 (List.mem_of_getElem? (i := 6) rfl)
theorem tw_387 : Cond.code y_Reader_place k_Reader_place 6 none ∈ pmTs := pmM_19 (List.mem_of_getElem? (i := 7) rfl)
theorem tw_388 : Cond.methodLink R_Reader 125 y_Value_of ∈ pmTs := pmM_19 (List.mem_of_getElem? (i := 8) rfl)
theorem tw_389 : Cond.methodLink R_Reader 132 y_Room_pair ∈ pmTs := pmM_19 (List.mem_of_getElem? (i := 9) rfl)
theorem tw_390 : Cond.instanceMethod y_Room_pair ∈ pmTs := pmM_19 (List.mem_of_getElem? (i := 10) rfl)
theorem tw_391 : Cond.selects y_Room_pair.cls y_Room_pair y_Room_pair ∈ pmTs := pmM_19 (List.mem_of_getElem? (i := 11) rfl)
theorem tw_392 : Cond.code y_Room_pair k_Room_pair 3 (some .int) ∈ pmTs := pmM_19 (List.mem_of_getElem? (i := 12) rfl)
theorem tw_393 : Cond.methodLink R_Room 61 y_Room_make ∈ pmTs := pmM_19 (List.mem_of_getElem? (i := 13) rfl)
theorem tw_394 : Cond.instanceMethod y_Room_make ∈ pmTs := pmM_19 (List.mem_of_getElem? (i := 14) rfl)
theorem tw_395 : Cond.code y_Room_make k_Room_make 6 (some .int) ∈ pmTs := pmM_19 (List.mem_of_getElem? (i := 15) rfl)
theorem tw_396 : Cond.methodLink R_Reader 135 y_Room_setSecond ∈ pmTs := pmM_19 (List.mem_of_getElem? (i := 16) rfl)
theorem tw_397 : Cond.instanceMethod y_Room_setSecond ∈ pmTs := pmM_19 (List.mem_of_getElem? (i := 17) rfl)
theorem tw_398 : Cond.selects y_Room_setSecond.cls y_Room_setSecond y_Room_setSecond ∈ pmTs := pmM_19 (List.mem_of_getElem? (i := 18) rfl)
theorem tw_399 : Cond.code y_Room_setSecond k_Room_setSecond 3 none ∈ pmTs := pmM_19 (List.mem_of_getElem? (i := 19) rfl)
theorem tw_400 : Cond.methodLink R_Room 65 y_Room_isHere ∈ pmTs := pmM_20 (List.mem_of_getElem? (i := 0) rfl)
theorem tw_401 : Cond.instanceMethod y_Room_isHere ∈ pmTs := pmM_20 (List.mem_of_getElem? (i := 1) rfl)
theorem tw_402 : Cond.code y_Room_isHere k_Room_isHere 4 (some .boolean) ∈ pmTs := pmM_20 (List.mem_of_getElem? (i := 2) rfl)
theorem tw_403 : Cond.methodLink R_Reader 118 y_Reader_wordValue ∈ pmTs := pmM_20 (List.mem_of_getElem? (i := 3) rfl)
theorem tw_404 : Cond.instanceMethod y_Reader_wordValue ∈ pmTs := pmM_20 (List.mem_of_getElem? (i := 4) rfl)
theorem tw_405 : Cond.code y_Reader_wordValue k_Reader_wordValue 4 (some .int) ∈ pmTs := pmM_20 (List.mem_of_getElem? (i := 5) rfl)
theorem tw_406 : Cond.methodLink R_Reader 122 y_Text_number ∈ pmTs := pmM_20 (List.mem_of_getElem? (i := 6) rfl)
theorem tw_407 : Cond.instanceMethod y_Text_number ∈ pmTs := pmM_20 (List.mem_of_getElem? (i := 7) rfl)
theorem tw_408 : Cond.selects y_Text_number.cls y_Text_number y_Text_number ∈ pmTs := pmM_20 (List.mem_of_getElem? (i := 8) rfl)
theorem tw_409 : Cond.code y_Text_number k_Text_number 6 (some .int) ∈ pmTs := pmM_20 (List.mem_of_getElem? (i := 9) rfl)
theorem tw_410 : Cond.methodLink R_Reader 128 y_Symbols_find ∈ pmTs := pmM_20 (List.mem_of_getElem? (i := 10) rfl)
theorem tw_411 : Cond.methodLink R_Reader 63 y_Text_drop ∈ pmTs := pmM_20 (List.mem_of_getElem? (i := 11) rfl)
theorem tw_412 : Cond.instanceMethod y_Text_drop ∈ pmTs := pmM_20 (List.mem_of_getElem? (i := 12) rfl)
theorem tw_413 : Cond.selects y_Text_drop.cls y_Text_drop y_Text_drop ∈ pmTs := pmM_20 (List.mem_of_getElem? (i := 13) rfl)
theorem tw_414 : Cond.code y_Text_drop k_Text_drop 4 none ∈ pmTs := pmM_20 (List.mem_of_getElem? (i := 14) rfl)
theorem tw_415 : Cond.methodLink R_Text 21 Lib.Math.min.name ∈ pmTs := pmM_20 (List.mem_of_getElem? (i := 15) rfl)
theorem tw_416 : Cond.methodLink R_Text 27 Lib.Math.max.name ∈ pmTs := pmM_20 (List.mem_of_getElem? (i := 16) rfl)
theorem tw_417 : Cond.methodLink R_Machine 67 y_Machine_evaluateNext ∈ pmTs := pmM_20 (List.mem_of_getElem? (i := 17) rfl)
theorem tw_418 : Cond.instanceMethod y_Machine_evaluateNext ∈ pmTs := pmM_20 (List.mem_of_getElem? (i := 18) rfl)
theorem tw_419 : Cond.code y_Machine_evaluateNext k_Machine_evaluateNext 3 (some .int) ∈ pmTs := pmM_20 (List.mem_of_getElem? (i := 19) rfl)
theorem tw_420 : Cond.methodLink R_Machine 48 y_Machine_evaluate ∈ pmTs := pmM_21 (List.mem_of_getElem? (i := 0) rfl)
theorem tw_421 : Cond.instanceMethod y_Machine_evaluate ∈ pmTs := pmM_21 (List.mem_of_getElem? (i := 1) rfl)
theorem tw_422 : Cond.code y_Machine_evaluate k_Machine_evaluate 2 (some .int) ∈ pmTs := pmM_21 (List.mem_of_getElem? (i := 2) rfl)
theorem tw_423 : Cond.methodLink R_Machine 80 y_Value_isSymbol ∈ pmTs := pmM_21 (List.mem_of_getElem? (i := 3) rfl)
theorem tw_424 : Cond.static y_Value_isSymbol ∈ pmTs := pmM_21 (List.mem_of_getElem? (i := 4) rfl)
theorem tw_425 : Cond.code y_Value_isSymbol k_Value_isSymbol 1 (some .boolean) ∈ pmTs := pmM_21 (List.mem_of_getElem? (i := 5) rfl)
theorem tw_426 : Cond.methodLink R_Value 9 y_Value_kind ∈ pmTs := pmM_21 (List.mem_of_getElem? (i := 6) rfl)
theorem tw_427 : Cond.methodLink R_Machine 84 y_Machine_evaluateSymbol ∈ pmTs := pmM_21 (List.mem_of_getElem? (i := 7) rfl)
theorem tw_428 : Cond.instanceMethod y_Machine_evaluateSymbol ∈ pmTs := pmM_21 (List.mem_of_getElem? (i := 8) rfl)
theorem tw_429 : Cond.code y_Machine_evaluateSymbol k_Machine_evaluateSymbol 3 (some .int) ∈ pmTs := pmM_21 (List.mem_of_getElem? (i := 9) rfl)
theorem tw_430 : Cond.methodLink R_Machine 121 y_Room_binding ∈ pmTs := pmM_21 (List.mem_of_getElem? (i := 10) rfl)
theorem tw_431 : Cond.instanceMethod y_Room_binding ∈ pmTs := pmM_21 (List.mem_of_getElem? (i := 11) rfl)
theorem tw_432 : Cond.selects y_Room_binding.cls y_Room_binding y_Room_binding ∈ pmTs := pmM_21 (List.mem_of_getElem? (i := 12) rfl)
theorem tw_433 : Cond.code y_Room_binding k_Room_binding 5 (some .int) ∈ pmTs := pmM_21 (List.mem_of_getElem? (i := 13) rfl)
theorem tw_434 : Cond.methodLink R_Room 73 y_Value_isPair ∈ pmTs := pmM_21 (List.mem_of_getElem? (i := 14) rfl)
theorem tw_435 : Cond.static y_Value_isPair ∈ pmTs := pmM_21 (List.mem_of_getElem? (i := 15) rfl)
theorem tw_436 : Cond.code y_Value_isPair k_Value_isPair 1 (some .boolean) ∈ pmTs := pmM_21 (List.mem_of_getElem? (i := 16) rfl)
theorem tw_437 : Cond.methodLink R_Room 79 y_Room_first ∈ pmTs := pmM_21 (List.mem_of_getElem? (i := 17) rfl)
theorem tw_438 : Cond.instanceMethod y_Room_first ∈ pmTs := pmM_21 (List.mem_of_getElem? (i := 18) rfl)
theorem tw_439 : Cond.selects y_Room_first.cls y_Room_first y_Room_first ∈ pmTs := pmM_21 (List.mem_of_getElem? (i := 19) rfl)
theorem tw_440 : Cond.code y_Room_first k_Room_first 2 (some .int) ∈ pmTs := pmM_22 (List.mem_of_getElem? (i := 0) rfl)
theorem tw_441 : Cond.methodLink R_Room 76 y_Room_second ∈ pmTs := pmM_22 (List.mem_of_getElem? (i := 1) rfl)
theorem tw_442 : Cond.instanceMethod y_Room_second ∈ pmTs := pmM_22 (List.mem_of_getElem? (i := 2) rfl)
theorem tw_443 : Cond.selects y_Room_second.cls y_Room_second y_Room_second ∈ pmTs := pmM_22 (List.mem_of_getElem? (i := 3) rfl)
theorem tw_444 : Cond.code y_Room_second k_Room_second 2 (some .int) ∈ pmTs := pmM_22 (List.mem_of_getElem? (i := 4) rfl)
theorem tw_445 : Cond.methodLink R_Machine 114 y_Room_second ∈ pmTs := pmM_22 (List.mem_of_getElem? (i := 5) rfl)
theorem tw_446 : Cond.methodLink R_Machine 90 y_Machine_returnNext ∈ pmTs := pmM_22 (List.mem_of_getElem? (i := 6) rfl)
theorem tw_447 : Cond.instanceMethod y_Machine_returnNext ∈ pmTs := pmM_22 (List.mem_of_getElem? (i := 7) rfl)
theorem tw_448 : Cond.code y_Machine_returnNext k_Machine_returnNext 2 (some .int) ∈ pmTs := pmM_22 (List.mem_of_getElem? (i := 8) rfl)
theorem tw_449 : Cond.methodLink R_Machine 99 y_Value_content ∈ pmTs := pmM_22 (List.mem_of_getElem? (i := 9) rfl)
theorem tw_450 : Cond.methodLink R_Machine 124 y_Symbols_global ∈ pmTs := pmM_22 (List.mem_of_getElem? (i := 10) rfl)
theorem tw_451 : Cond.instanceMethod y_Symbols_global ∈ pmTs := pmM_22 (List.mem_of_getElem? (i := 11) rfl)
theorem tw_452 : Cond.selects y_Symbols_global.cls y_Symbols_global y_Symbols_global ∈ pmTs := pmM_22 (List.mem_of_getElem? (i := 12) rfl)
theorem tw_453 : Cond.code y_Symbols_global k_Symbols_global 2 (some .int) ∈ pmTs := pmM_22 (List.mem_of_getElem? (i := 13) rfl)
theorem tw_454 : Cond.methodLink R_Machine 87 y_Value_isPair ∈ pmTs := pmM_22 (List.mem_of_getElem? (i := 14) rfl)
theorem tw_455 : Cond.methodLink R_Machine 94 y_Room_first ∈ pmTs := pmM_22 (List.mem_of_getElem? (i := 15) rfl)
theorem tw_456 : Cond.methodLink R_Machine 102 y_Machine_evaluateQuote ∈ pmTs := pmM_22 (List.mem_of_getElem? (i := 16) rfl)
theorem tw_457 : Cond.instanceMethod y_Machine_evaluateQuote ∈ pmTs := pmM_22 (List.mem_of_getElem? (i := 17) rfl)
theorem tw_458 : Cond.code y_Machine_evaluateQuote k_Machine_evaluateQuote 1 (some .int) ∈ pmTs := pmM_22 (List.mem_of_getElem? (i := 18) rfl)
theorem tw_459 : Cond.methodLink R_Machine 136 y_Room_length ∈ pmTs := pmM_22 (List.mem_of_getElem? (i := 19) rfl)
theorem tw_460 : Cond.instanceMethod y_Room_length ∈ pmTs := pmM_23 (List.mem_of_getElem? (i := 0) rfl)
theorem tw_461 : Cond.selects y_Room_length.cls y_Room_length y_Room_length ∈ pmTs := pmM_23 (List.mem_of_getElem? (i := 1) rfl)
theorem tw_462 : Cond.code y_Room_length k_Room_length 4 (some .int) ∈ pmTs := pmM_23 (List.mem_of_getElem? (i := 2) rfl)
theorem tw_463 : Cond.methodLink R_Machine 139 y_Machine_part ∈ pmTs := pmM_23 (List.mem_of_getElem? (i := 3) rfl)
theorem tw_464 : Cond.instanceMethod y_Machine_part ∈ pmTs := pmM_23 (List.mem_of_getElem? (i := 4) rfl)
theorem tw_465 : Cond.code y_Machine_part k_Machine_part 2 (some .int) ∈ pmTs := pmM_23 (List.mem_of_getElem? (i := 5) rfl)
theorem tw_466 : Cond.methodLink R_Machine 133 y_Room_tail ∈ pmTs := pmM_23 (List.mem_of_getElem? (i := 6) rfl)
theorem tw_467 : Cond.instanceMethod y_Room_tail ∈ pmTs := pmM_23 (List.mem_of_getElem? (i := 7) rfl)
theorem tw_468 : Cond.selects y_Room_tail.cls y_Room_tail y_Room_tail ∈ pmTs := pmM_23 (List.mem_of_getElem? (i := 8) rfl)
theorem tw_469 : Cond.code y_Room_tail k_Room_tail 5 (some .int) ∈ pmTs := pmM_23 (List.mem_of_getElem? (i := 9) rfl)
theorem tw_470 : Cond.methodLink R_Machine 105 y_Machine_evaluateIf ∈ pmTs := pmM_23 (List.mem_of_getElem? (i := 10) rfl)
theorem tw_471 : Cond.instanceMethod y_Machine_evaluateIf ∈ pmTs := pmM_23 (List.mem_of_getElem? (i := 11) rfl)
theorem tw_472 : Cond.code y_Machine_evaluateIf k_Machine_evaluateIf 2 (some .int) ∈ pmTs := pmM_23 (List.mem_of_getElem? (i := 12) rfl)
theorem tw_473 : Cond.methodLink R_Machine 117 y_Machine_evaluateUnder ∈ pmTs := pmM_23 (List.mem_of_getElem? (i := 13) rfl)
theorem tw_474 : Cond.instanceMethod y_Machine_evaluateUnder ∈ pmTs := pmM_23 (List.mem_of_getElem? (i := 14) rfl)
theorem tw_475 : Cond.code y_Machine_evaluateUnder k_Machine_evaluateUnder 5 (some .int) ∈ pmTs := pmM_23 (List.mem_of_getElem? (i := 15) rfl)
theorem tw_476 : Cond.methodLink R_Machine 129 y_State_push ∈ pmTs := pmM_23 (List.mem_of_getElem? (i := 16) rfl)
theorem tw_477 : Cond.instanceMethod y_State_push ∈ pmTs := pmM_23 (List.mem_of_getElem? (i := 17) rfl)
theorem tw_478 : Cond.selects y_State_push.cls y_State_push y_State_push ∈ pmTs := pmM_23 (List.mem_of_getElem? (i := 18) rfl)
theorem tw_479 : Cond.code y_State_push k_State_push 4 (some .boolean) ∈ pmTs := pmM_23 (List.mem_of_getElem? (i := 19) rfl)
theorem tw_480 : Cond.methodLink R_Machine 108 y_Machine_evaluateLambda ∈ pmTs := pmM_24 (List.mem_of_getElem? (i := 0) rfl)
theorem tw_481 : Cond.instanceMethod y_Machine_evaluateLambda ∈ pmTs := pmM_24 (List.mem_of_getElem? (i := 1) rfl)
theorem tw_482 : Cond.code y_Machine_evaluateLambda k_Machine_evaluateLambda 1 (some .int) ∈ pmTs := pmM_24 (List.mem_of_getElem? (i := 2) rfl)
theorem tw_483 : Cond.methodLink R_Machine 142 y_Machine_areParameters ∈ pmTs := pmM_24 (List.mem_of_getElem? (i := 3) rfl)
theorem tw_484 : Cond.instanceMethod y_Machine_areParameters ∈ pmTs := pmM_24 (List.mem_of_getElem? (i := 4) rfl)
theorem tw_485 : Cond.code y_Machine_areParameters k_Machine_areParameters 4 (some .boolean) ∈ pmTs := pmM_24 (List.mem_of_getElem? (i := 5) rfl)
theorem tw_486 : Cond.methodLink R_Machine 145 y_Room_hasFor ∈ pmTs := pmM_24 (List.mem_of_getElem? (i := 6) rfl)
theorem tw_487 : Cond.methodLink R_Machine 148 y_Room_closure ∈ pmTs := pmM_24 (List.mem_of_getElem? (i := 7) rfl)
theorem tw_488 : Cond.instanceMethod y_Room_closure ∈ pmTs := pmM_24 (List.mem_of_getElem? (i := 8) rfl)
theorem tw_489 : Cond.selects y_Room_closure.cls y_Room_closure y_Room_closure ∈ pmTs := pmM_24 (List.mem_of_getElem? (i := 9) rfl)
theorem tw_490 : Cond.code y_Room_closure k_Room_closure 4 (some .int) ∈ pmTs := pmM_24 (List.mem_of_getElem? (i := 10) rfl)
theorem tw_491 : Cond.methodLink R_Machine 111 y_Machine_evaluateNaming ∈ pmTs := pmM_24 (List.mem_of_getElem? (i := 11) rfl)
theorem tw_492 : Cond.instanceMethod y_Machine_evaluateNaming ∈ pmTs := pmM_24 (List.mem_of_getElem? (i := 12) rfl)
theorem tw_493 : Cond.code y_Machine_evaluateNaming k_Machine_evaluateNaming 3 (some .int) ∈ pmTs := pmM_24 (List.mem_of_getElem? (i := 13) rfl)
theorem tw_494 : Cond.methodLink R_Machine 51 y_Machine_giveBack ∈ pmTs := pmM_24 (List.mem_of_getElem? (i := 14) rfl)
theorem tw_495 : Cond.instanceMethod y_Machine_giveBack ∈ pmTs := pmM_24 (List.mem_of_getElem? (i := 15) rfl)
theorem tw_496 : Cond.code y_Machine_giveBack k_Machine_giveBack 1 (some .int) ∈ pmTs := pmM_24 (List.mem_of_getElem? (i := 16) rfl)
theorem tw_497 : Cond.methodLink R_Machine 152 y_State_kind ∈ pmTs := pmM_24 (List.mem_of_getElem? (i := 17) rfl)
theorem tw_498 : Cond.instanceMethod y_State_kind ∈ pmTs := pmM_24 (List.mem_of_getElem? (i := 18) rfl)
theorem tw_499 : Cond.selects y_State_kind.cls y_State_kind y_State_kind ∈ pmTs := pmM_24 (List.mem_of_getElem? (i := 19) rfl)
theorem tw_500 : Cond.code y_State_kind k_State_kind 1 (some .int) ∈ pmTs := pmM_25 (List.mem_of_getElem? (i := 0) rfl)
theorem tw_501 : Cond.methodLink R_State 34 y_State_hasTop ∈ pmTs := pmM_25 (List.mem_of_getElem? (i := 1) rfl)
theorem tw_502 : Cond.instanceMethod y_State_hasTop ∈ pmTs := pmM_25 (List.mem_of_getElem? (i := 2) rfl)
theorem tw_503 : Cond.code y_State_hasTop k_State_hasTop 1 (some .boolean) ∈ pmTs := pmM_25 (List.mem_of_getElem? (i := 3) rfl)
theorem tw_504 : Cond.methodLink R_Machine 155 y_Machine_choose ∈ pmTs := pmM_25 (List.mem_of_getElem? (i := 4) rfl)
theorem tw_505 : Cond.instanceMethod y_Machine_choose ∈ pmTs := pmM_25 (List.mem_of_getElem? (i := 5) rfl)
theorem tw_506 : Cond.code y_Machine_choose k_Machine_choose 3 (some .int) ∈ pmTs := pmM_25 (List.mem_of_getElem? (i := 6) rfl)
theorem tw_507 : Cond.methodLink R_Machine 168 y_State_a ∈ pmTs := pmM_25 (List.mem_of_getElem? (i := 7) rfl)
theorem tw_508 : Cond.instanceMethod y_State_a ∈ pmTs := pmM_25 (List.mem_of_getElem? (i := 8) rfl)
theorem tw_509 : Cond.selects y_State_a.cls y_State_a y_State_a ∈ pmTs := pmM_25 (List.mem_of_getElem? (i := 9) rfl)
theorem tw_510 : Cond.code y_State_a k_State_a 1 (some .int) ∈ pmTs := pmM_25 (List.mem_of_getElem? (i := 10) rfl)
theorem tw_511 : Cond.methodLink R_Machine 183 y_State_b ∈ pmTs := pmM_25 (List.mem_of_getElem? (i := 11) rfl)
theorem tw_512 : Cond.instanceMethod y_State_b ∈ pmTs := pmM_25 (List.mem_of_getElem? (i := 12) rfl)
theorem tw_513 : Cond.selects y_State_b.cls y_State_b y_State_b ∈ pmTs := pmM_25 (List.mem_of_getElem? (i := 13) rfl)
theorem tw_514 : Cond.code y_State_b k_State_b 1 (some .int) ∈ pmTs := pmM_25 (List.mem_of_getElem? (i := 14) rfl)
theorem tw_515 : Cond.methodLink R_Machine 186 y_State_pop ∈ pmTs := pmM_25 (List.mem_of_getElem? (i := 15) rfl)
theorem tw_516 : Cond.instanceMethod y_State_pop ∈ pmTs := pmM_25 (List.mem_of_getElem? (i := 16) rfl)
theorem tw_517 : Cond.selects y_State_pop.cls y_State_pop y_State_pop ∈ pmTs := pmM_25 (List.mem_of_getElem? (i := 17) rfl)
theorem tw_518 : Cond.code y_State_pop k_State_pop 1 none ∈ pmTs := pmM_25 (List.mem_of_getElem? (i := 18) rfl)
theorem tw_519 : Cond.methodLink R_Machine 158 y_Machine_define ∈ pmTs := pmM_25 (List.mem_of_getElem? (i := 19) rfl)
theorem tw_520 : Cond.instanceMethod y_Machine_define ∈ pmTs := pmM_26 (List.mem_of_getElem? (i := 0) rfl)
theorem tw_521 : Cond.code y_Machine_define k_Machine_define 2 (some .int) ∈ pmTs := pmM_26 (List.mem_of_getElem? (i := 1) rfl)
theorem tw_522 : Cond.methodLink R_Machine 189 y_Symbols_setGlobal ∈ pmTs := pmM_26 (List.mem_of_getElem? (i := 2) rfl)
theorem tw_523 : Cond.instanceMethod y_Symbols_setGlobal ∈ pmTs := pmM_26 (List.mem_of_getElem? (i := 3) rfl)
theorem tw_524 : Cond.selects y_Symbols_setGlobal.cls y_Symbols_setGlobal y_Symbols_setGlobal ∈ pmTs := pmM_26 (List.mem_of_getElem? (i := 4) rfl)
theorem tw_525 : Cond.code y_Symbols_setGlobal k_Symbols_setGlobal 3 none ∈ pmTs := pmM_26 (List.mem_of_getElem? (i := 5) rfl)
theorem tw_526 : Cond.methodLink R_Machine 161 y_Machine_assign ∈ pmTs := pmM_26 (List.mem_of_getElem? (i := 6) rfl)
theorem tw_527 : Cond.instanceMethod y_Machine_assign ∈ pmTs := pmM_26 (List.mem_of_getElem? (i := 7) rfl)
theorem tw_528 : Cond.code y_Machine_assign k_Machine_assign 3 (some .int) ∈ pmTs := pmM_26 (List.mem_of_getElem? (i := 8) rfl)
theorem tw_529 : Cond.methodLink R_Machine 193 y_Room_setSecond ∈ pmTs := pmM_26 (List.mem_of_getElem? (i := 9) rfl)
theorem tw_530 : Cond.methodLink R_Machine 164 y_Machine_keepValue ∈ pmTs := pmM_26 (List.mem_of_getElem? (i := 10) rfl)
theorem tw_531 : Cond.instanceMethod y_Machine_keepValue ∈ pmTs := pmM_26 (List.mem_of_getElem? (i := 11) rfl)
theorem tw_532 : Cond.code y_Machine_keepValue k_Machine_keepValue 1 (some .boolean) ∈ pmTs := pmM_26 (List.mem_of_getElem? (i := 12) rfl)
theorem tw_533 : Cond.methodLink R_Machine 196 y_State_c ∈ pmTs := pmM_26 (List.mem_of_getElem? (i := 13) rfl)
theorem tw_534 : Cond.instanceMethod y_State_c ∈ pmTs := pmM_26 (List.mem_of_getElem? (i := 14) rfl)
theorem tw_535 : Cond.selects y_State_c.cls y_State_c y_State_c ∈ pmTs := pmM_26 (List.mem_of_getElem? (i := 15) rfl)
theorem tw_536 : Cond.code y_State_c k_State_c 1 (some .int) ∈ pmTs := pmM_26 (List.mem_of_getElem? (i := 16) rfl)
theorem tw_537 : Cond.methodLink R_Machine 199 y_Room_pair ∈ pmTs := pmM_26 (List.mem_of_getElem? (i := 17) rfl)
theorem tw_538 : Cond.methodLink R_Machine 202 y_State_setC ∈ pmTs := pmM_26 (List.mem_of_getElem? (i := 18) rfl)
theorem tw_539 : Cond.instanceMethod y_State_setC ∈ pmTs := pmM_26 (List.mem_of_getElem? (i := 19) rfl)
theorem tw_540 : Cond.selects y_State_setC.cls y_State_setC y_State_setC ∈ pmTs := pmM_27 (List.mem_of_getElem? (i := 0) rfl)
theorem tw_541 : Cond.code y_State_setC k_State_setC 2 none ∈ pmTs := pmM_27 (List.mem_of_getElem? (i := 1) rfl)
theorem tw_542 : Cond.methodLink R_Machine 171 y_Machine_nextArgument ∈ pmTs := pmM_27 (List.mem_of_getElem? (i := 2) rfl)
theorem tw_543 : Cond.instanceMethod y_Machine_nextArgument ∈ pmTs := pmM_27 (List.mem_of_getElem? (i := 3) rfl)
theorem tw_544 : Cond.code y_Machine_nextArgument k_Machine_nextArgument 2 (some .int) ∈ pmTs := pmM_27 (List.mem_of_getElem? (i := 4) rfl)
theorem tw_545 : Cond.methodLink R_Machine 205 y_State_setA ∈ pmTs := pmM_27 (List.mem_of_getElem? (i := 5) rfl)
theorem tw_546 : Cond.instanceMethod y_State_setA ∈ pmTs := pmM_27 (List.mem_of_getElem? (i := 6) rfl)
theorem tw_547 : Cond.selects y_State_setA.cls y_State_setA y_State_setA ∈ pmTs := pmM_27 (List.mem_of_getElem? (i := 7) rfl)
theorem tw_548 : Cond.code y_State_setA k_State_setA 2 none ∈ pmTs := pmM_27 (List.mem_of_getElem? (i := 8) rfl)
theorem tw_549 : Cond.methodLink R_Machine 174 y_Machine_apply ∈ pmTs := pmM_27 (List.mem_of_getElem? (i := 9) rfl)
theorem tw_550 : Cond.instanceMethod y_Machine_apply ∈ pmTs := pmM_27 (List.mem_of_getElem? (i := 10) rfl)
theorem tw_551 : Cond.code y_Machine_apply k_Machine_apply 5 (some .int) ∈ pmTs := pmM_27 (List.mem_of_getElem? (i := 11) rfl)
theorem tw_552 : Cond.methodLink R_Machine 208 y_Machine_faultOfCall ∈ pmTs := pmM_27 (List.mem_of_getElem? (i := 12) rfl)
theorem tw_553 : Cond.instanceMethod y_Machine_faultOfCall ∈ pmTs := pmM_27 (List.mem_of_getElem? (i := 13) rfl)
theorem tw_554 : Cond.code y_Machine_faultOfCall k_Machine_faultOfCall 3 (some .int) ∈ pmTs := pmM_27 (List.mem_of_getElem? (i := 14) rfl)
theorem tw_555 : Cond.methodLink R_Machine 214 y_Value_kind ∈ pmTs := pmM_27 (List.mem_of_getElem? (i := 15) rfl)
theorem tw_556 : Cond.methodLink R_Machine 222 y_Machine_faultOfPrimitive ∈ pmTs := pmM_27 (List.mem_of_getElem? (i := 16) rfl)
theorem tw_557 : Cond.instanceMethod y_Machine_faultOfPrimitive ∈ pmTs := pmM_27 (List.mem_of_getElem? (i := 17) rfl)
theorem tw_558 : Cond.code y_Machine_faultOfPrimitive k_Machine_faultOfPrimitive 5 (some .int) ∈ pmTs := pmM_27 (List.mem_of_getElem? (i := 18) rfl)
theorem tw_559 : Cond.methodLink R_Machine 225 y_Value_isNumber ∈ pmTs := pmM_27 (List.mem_of_getElem? (i := 19) rfl)
theorem tw_560 : Cond.static y_Value_isNumber ∈ pmTs := pmM_28 (List.mem_of_getElem? (i := 0) rfl)
theorem tw_561 : Cond.code y_Value_isNumber k_Value_isNumber 1 (some .boolean) ∈ pmTs := pmM_28 (List.mem_of_getElem? (i := 1) rfl)
theorem tw_562 : Cond.methodLink R_Machine 211 y_Machine_cellsOfCall ∈ pmTs := pmM_28 (List.mem_of_getElem? (i := 2) rfl)
theorem tw_563 : Cond.static y_Machine_cellsOfCall ∈ pmTs := pmM_28 (List.mem_of_getElem? (i := 3) rfl)
theorem tw_564 : Cond.code y_Machine_cellsOfCall k_Machine_cellsOfCall 2 (some .int) ∈ pmTs := pmM_28 (List.mem_of_getElem? (i := 4) rfl)
theorem tw_565 : Cond.methodLink R_Machine 216 y_Machine_boundEnvironment ∈ pmTs := pmM_28 (List.mem_of_getElem? (i := 5) rfl)
theorem tw_566 : Cond.instanceMethod y_Machine_boundEnvironment ∈ pmTs := pmM_28 (List.mem_of_getElem? (i := 6) rfl)
theorem tw_567 : Cond.code y_Machine_boundEnvironment k_Machine_boundEnvironment 9 (some .int) ∈ pmTs := pmM_28 (List.mem_of_getElem? (i := 7) rfl)
theorem tw_568 : Cond.methodLink R_Machine 228 y_Room_third ∈ pmTs := pmM_28 (List.mem_of_getElem? (i := 8) rfl)
theorem tw_569 : Cond.instanceMethod y_Room_third ∈ pmTs := pmM_28 (List.mem_of_getElem? (i := 9) rfl)
theorem tw_570 : Cond.selects y_Room_third.cls y_Room_third y_Room_third ∈ pmTs := pmM_28 (List.mem_of_getElem? (i := 10) rfl)
theorem tw_571 : Cond.code y_Room_third k_Room_third 2 (some .int) ∈ pmTs := pmM_28 (List.mem_of_getElem? (i := 11) rfl)
theorem tw_572 : Cond.methodLink R_Machine 219 y_Machine_primitiveResult ∈ pmTs := pmM_28 (List.mem_of_getElem? (i := 12) rfl)
theorem tw_573 : Cond.instanceMethod y_Machine_primitiveResult ∈ pmTs := pmM_28 (List.mem_of_getElem? (i := 13) rfl)
theorem tw_574 : Cond.code y_Machine_primitiveResult k_Machine_primitiveResult 6 (some .int) ∈ pmTs := pmM_28 (List.mem_of_getElem? (i := 14) rfl)
theorem tw_575 : Cond.methodLink R_Machine 231 y_Value_of ∈ pmTs := pmM_28 (List.mem_of_getElem? (i := 15) rfl)
theorem tw_576 : Cond.methodLink R_Machine 234 y_Machine_truth ∈ pmTs := pmM_28 (List.mem_of_getElem? (i := 16) rfl)
theorem tw_577 : Cond.static y_Machine_truth ∈ pmTs := pmM_28 (List.mem_of_getElem? (i := 17) rfl)
theorem tw_578 : Cond.code y_Machine_truth k_Machine_truth 1 (some .int) ∈ pmTs := pmM_28 (List.mem_of_getElem? (i := 18) rfl)
theorem tw_579 : Cond.methodLink R_Machine 238 y_Machine_listOf ∈ pmTs := pmM_28 (List.mem_of_getElem? (i := 19) rfl)
theorem tw_580 : Cond.instanceMethod y_Machine_listOf ∈ pmTs := pmM_29 (List.mem_of_getElem? (i := 0) rfl)
theorem tw_581 : Cond.code y_Machine_listOf k_Machine_listOf 6 (some .int) ∈ pmTs := pmM_29 (List.mem_of_getElem? (i := 1) rfl)
theorem tw_582 : Cond.methodLink R_Machine 177 y_Printer_printLine ∈ pmTs := pmM_29 (List.mem_of_getElem? (i := 2) rfl)
theorem tw_583 : Cond.instanceMethod y_Printer_printLine ∈ pmTs := pmM_29 (List.mem_of_getElem? (i := 3) rfl)
theorem tw_584 : Cond.selects y_Printer_printLine.cls y_Printer_printLine y_Printer_printLine ∈ pmTs := pmM_29 (List.mem_of_getElem? (i := 4) rfl)
theorem tw_585 : Cond.code y_Printer_printLine k_Printer_printLine 2 none ∈ pmTs := pmM_29 (List.mem_of_getElem? (i := 5) rfl)
theorem tw_586 : Cond.methodLink R_Printer 21 y_Printer_print ∈ pmTs := pmM_29 (List.mem_of_getElem? (i := 6) rfl)
theorem tw_587 : Cond.instanceMethod y_Printer_print ∈ pmTs := pmM_29 (List.mem_of_getElem? (i := 7) rfl)
theorem tw_588 : Cond.code y_Printer_print k_Printer_print 3 none ∈ pmTs := pmM_29 (List.mem_of_getElem? (i := 8) rfl)
theorem tw_589 : Cond.methodLink R_Printer 31 y_Value_kind ∈ pmTs := pmM_29 (List.mem_of_getElem? (i := 9) rfl)
theorem tw_590 : Cond.methodLink R_Printer 37 y_Value_content ∈ pmTs := pmM_29 (List.mem_of_getElem? (i := 10) rfl)
theorem tw_591 : Cond.methodLink R_Printer 40 y_Printer_printNumber ∈ pmTs := pmM_29 (List.mem_of_getElem? (i := 11) rfl)
theorem tw_592 : Cond.instanceMethod y_Printer_printNumber ∈ pmTs := pmM_29 (List.mem_of_getElem? (i := 12) rfl)
theorem tw_593 : Cond.code y_Printer_printNumber k_Printer_printNumber 4 none ∈ pmTs := pmM_29 (List.mem_of_getElem? (i := 13) rfl)
theorem tw_594 : Cond.methodLink R_Printer 25 y_Output_put ∈ pmTs := pmM_29 (List.mem_of_getElem? (i := 14) rfl)
theorem tw_595 : Cond.instanceMethod y_Output_put ∈ pmTs := pmM_29 (List.mem_of_getElem? (i := 15) rfl)
theorem tw_596 : Cond.selects y_Output_put.cls y_Output_put y_Output_put ∈ pmTs := pmM_29 (List.mem_of_getElem? (i := 16) rfl)
theorem tw_597 : Cond.code y_Output_put k_Output_put 2 none ∈ pmTs := pmM_29 (List.mem_of_getElem? (i := 17) rfl)
theorem tw_598 : Cond.methodLink R_Printer 87 Lib.Math.abs.name ∈ pmTs := pmM_29 (List.mem_of_getElem? (i := 18) rfl)
theorem tw_599 : Cond.static Lib.Math.abs.name ∈ pmTs := pmM_29 (List.mem_of_getElem? (i := 19) rfl)
theorem tw_600 : Cond.code Lib.Math.abs.name Lib.Math.abs.code 1 (some .int) ∈ pmTs := pmM_30 (List.mem_of_getElem? (i := 0) rfl)
theorem tw_601 : Cond.constant R_Printer 92 (100000000) ∈ pmTs := pmM_30 (List.mem_of_getElem? (i := 1) rfl)
theorem tw_602 : Cond.methodLink R_Printer 44 y_Symbols_name ∈ pmTs := pmM_30 (List.mem_of_getElem? (i := 2) rfl)
theorem tw_603 : Cond.instanceMethod y_Symbols_name ∈ pmTs := pmM_30 (List.mem_of_getElem? (i := 3) rfl)
theorem tw_604 : Cond.selects y_Symbols_name.cls y_Symbols_name y_Symbols_name ∈ pmTs := pmM_30 (List.mem_of_getElem? (i := 4) rfl)
theorem tw_605 : Cond.code y_Symbols_name k_Symbols_name 2 (some .long) ∈ pmTs := pmM_30 (List.mem_of_getElem? (i := 5) rfl)
theorem tw_606 : Cond.methodLink R_Printer 50 y_Printer_printName ∈ pmTs := pmM_30 (List.mem_of_getElem? (i := 6) rfl)
theorem tw_607 : Cond.instanceMethod y_Printer_printName ∈ pmTs := pmM_30 (List.mem_of_getElem? (i := 7) rfl)
theorem tw_608 : Cond.code y_Printer_printName k_Printer_printName 5 none ∈ pmTs := pmM_30 (List.mem_of_getElem? (i := 8) rfl)
theorem tw_609 : Cond.constantLong R_Printer 93 (255) ∈ pmTs := pmM_30 (List.mem_of_getElem? (i := 9) rfl)
theorem tw_610 : Cond.methodLink R_Printer 56 y_Printer_printText ∈ pmTs := pmM_30 (List.mem_of_getElem? (i := 10) rfl)
theorem tw_611 : Cond.instanceMethod y_Printer_printText ∈ pmTs := pmM_30 (List.mem_of_getElem? (i := 11) rfl)
theorem tw_612 : Cond.code y_Printer_printText k_Printer_printText 3 none ∈ pmTs := pmM_30 (List.mem_of_getElem? (i := 12) rfl)
theorem tw_613 : Cond.methodLink R_Printer 95 (⟨"java/lang/String", "length", "()I"⟩ : MethodName) ∈ pmTs := pmM_30 (List.mem_of_getElem? (i := 13) rfl)
theorem tw_614 : Cond.methodLink R_Printer 101 (⟨"java/lang/String", "charAt", "(I)C"⟩ : MethodName) ∈ pmTs := pmM_30 (List.mem_of_getElem? (i := 14) rfl)
theorem tw_615 : Cond.methodLink R_Printer 60 y_Printer_printList ∈ pmTs := pmM_30 (List.mem_of_getElem? (i := 15) rfl)
theorem tw_616 : Cond.instanceMethod y_Printer_printList ∈ pmTs := pmM_30 (List.mem_of_getElem? (i := 16) rfl)
theorem tw_617 : Cond.code y_Printer_printList k_Printer_printList 5 none ∈ pmTs := pmM_30 (List.mem_of_getElem? (i := 17) rfl)
theorem tw_618 : Cond.methodLink R_Printer 67 y_Value_isPair ∈ pmTs := pmM_30 (List.mem_of_getElem? (i := 18) rfl)
theorem tw_619 : Cond.methodLink R_Printer 71 y_Output_isFull ∈ pmTs := pmM_30 (List.mem_of_getElem? (i := 19) rfl)
theorem tw_620 : Cond.instanceMethod y_Output_isFull ∈ pmTs := pmM_31 (List.mem_of_getElem? (i := 0) rfl)
theorem tw_621 : Cond.selects y_Output_isFull.cls y_Output_isFull y_Output_isFull ∈ pmTs := pmM_31 (List.mem_of_getElem? (i := 1) rfl)
theorem tw_622 : Cond.code y_Output_isFull k_Output_isFull 1 (some .boolean) ∈ pmTs := pmM_31 (List.mem_of_getElem? (i := 2) rfl)
theorem tw_623 : Cond.methodLink R_Printer 75 y_Room_first ∈ pmTs := pmM_31 (List.mem_of_getElem? (i := 3) rfl)
theorem tw_624 : Cond.methodLink R_Printer 80 y_Room_second ∈ pmTs := pmM_31 (List.mem_of_getElem? (i := 4) rfl)
theorem tw_625 : Cond.methodLink R_Machine 54 y_Machine_endForm ∈ pmTs := pmM_31 (List.mem_of_getElem? (i := 5) rfl)
theorem tw_626 : Cond.instanceMethod y_Machine_endForm ∈ pmTs := pmM_31 (List.mem_of_getElem? (i := 6) rfl)
theorem tw_627 : Cond.code y_Machine_endForm k_Machine_endForm 1 none ∈ pmTs := pmM_31 (List.mem_of_getElem? (i := 7) rfl)
theorem tw_628 : Cond.methodLink R_Law 31 y_CL_outSize ∈ pmTs := pmM_31 (List.mem_of_getElem? (i := 8) rfl)
theorem tw_629 : Cond.instanceMethod y_CL_outSize ∈ pmTs := pmM_31 (List.mem_of_getElem? (i := 9) rfl)
theorem tw_630 : Cond.selects y_CL_outSize.cls y_CL_outSize y_CL_outSize ∈ pmTs := pmM_31 (List.mem_of_getElem? (i := 10) rfl)
theorem tw_631 : Cond.code y_CL_outSize k_CL_outSize 1 (some .int) ∈ pmTs := pmM_31 (List.mem_of_getElem? (i := 11) rfl)
theorem tw_632 : Cond.methodLink R_Law 36 y_CL_out ∈ pmTs := pmM_31 (List.mem_of_getElem? (i := 12) rfl)
theorem tw_633 : Cond.instanceMethod y_CL_out ∈ pmTs := pmM_31 (List.mem_of_getElem? (i := 13) rfl)
theorem tw_634 : Cond.selects y_CL_out.cls y_CL_out y_CL_out ∈ pmTs := pmM_31 (List.mem_of_getElem? (i := 14) rfl)
theorem tw_635 : Cond.code y_CL_out k_CL_out 2 (some .int) ∈ pmTs := pmM_31 (List.mem_of_getElem? (i := 15) rfl)
theorem tw_636 : Cond.methodLink R_CL 86 y_Output_at ∈ pmTs := pmM_31 (List.mem_of_getElem? (i := 16) rfl)
theorem tw_637 : Cond.instanceMethod y_Output_at ∈ pmTs := pmM_31 (List.mem_of_getElem? (i := 17) rfl)
theorem tw_638 : Cond.selects y_Output_at.cls y_Output_at y_Output_at ∈ pmTs := pmM_31 (List.mem_of_getElem? (i := 18) rfl)
theorem tw_639 : Cond.code y_Output_at k_Output_at 2 (some .int) ∈ pmTs := pmM_31 (List.mem_of_getElem? (i := 19) rfl)
theorem tw_640 : Cond.methodLink R_Law 40 y_CL_clearOut ∈ pmTs := pmM_32 (List.mem_of_getElem? (i := 0) rfl)
theorem tw_641 : Cond.instanceMethod y_CL_clearOut ∈ pmTs := pmM_32 (List.mem_of_getElem? (i := 1) rfl)
theorem tw_642 : Cond.selects y_CL_clearOut.cls y_CL_clearOut y_CL_clearOut ∈ pmTs := pmM_32 (List.mem_of_getElem? (i := 2) rfl)
theorem tw_643 : Cond.code y_CL_clearOut k_CL_clearOut 1 none ∈ pmTs := pmM_32 (List.mem_of_getElem? (i := 3) rfl)
theorem tw_644 : Cond.methodLink R_Law 44 y_CL_liveCells ∈ pmTs := pmM_32 (List.mem_of_getElem? (i := 4) rfl)
theorem tw_645 : Cond.instanceMethod y_CL_liveCells ∈ pmTs := pmM_32 (List.mem_of_getElem? (i := 5) rfl)
theorem tw_646 : Cond.selects y_CL_liveCells.cls y_CL_liveCells y_CL_liveCells ∈ pmTs := pmM_32 (List.mem_of_getElem? (i := 6) rfl)
theorem tw_647 : Cond.code y_CL_liveCells k_CL_liveCells 1 (some .int) ∈ pmTs := pmM_32 (List.mem_of_getElem? (i := 7) rfl)
theorem tw_648 : Cond.methodLink R_CL 90 y_Room_collect ∈ pmTs := pmM_32 (List.mem_of_getElem? (i := 8) rfl)
theorem tw_649 : Cond.methodLink R_Law 48 y_CL_count ∈ pmTs := pmM_32 (List.mem_of_getElem? (i := 9) rfl)
theorem tw_650 : Cond.instanceMethod y_CL_count ∈ pmTs := pmM_32 (List.mem_of_getElem? (i := 10) rfl)
theorem tw_651 : Cond.selects y_CL_count.cls y_CL_count y_CL_count ∈ pmTs := pmM_32 (List.mem_of_getElem? (i := 11) rfl)
theorem tw_652 : Cond.code y_CL_count k_CL_count 2 (some .int) ∈ pmTs := pmM_32 (List.mem_of_getElem? (i := 12) rfl)
theorem tw_653 : Cond.methodLink R_Law 9 y_Law_cell ∈ pmTs := pmM_32 (List.mem_of_getElem? (i := 13) rfl)
theorem tw_654 : Cond.static y_Law_cell ∈ pmTs := pmM_32 (List.mem_of_getElem? (i := 14) rfl)
theorem tw_655 : Cond.code y_Law_cell k_Law_cell 2 (some .int) ∈ pmTs := pmM_32 (List.mem_of_getElem? (i := 15) rfl)
theorem tw_656 : Cond.classLink R_Law 18 R_Md ∈ pmTs := pmM_32 (List.mem_of_getElem? (i := 16) rfl)
theorem tw_657 : Cond.instantiable R_Md 31 ∈ pmTs := pmM_32 (List.mem_of_getElem? (i := 17) rfl)
theorem tw_658 : Cond.methodLink R_Law 20 y_Md_init ∈ pmTs := pmM_32 (List.mem_of_getElem? (i := 18) rfl)
theorem tw_659 : Cond.instanceMethod y_Md_init ∈ pmTs := pmM_32 (List.mem_of_getElem? (i := 19) rfl)
theorem tw_660 : Cond.code y_Md_init k_Md_init 3 none ∈ pmTs := pmM_33 (List.mem_of_getElem? (i := 0) rfl)
theorem tw_661 : Cond.methodLink R_Md 1 objectInit ∈ pmTs := pmM_33 (List.mem_of_getElem? (i := 1) rfl)
theorem tw_662 : Cond.constant R_Md 45 (536870912) ∈ pmTs := pmM_33 (List.mem_of_getElem? (i := 2) rfl)
theorem tw_663 : Cond.constant R_Md 77 (536872000) ∈ pmTs := pmM_33 (List.mem_of_getElem? (i := 3) rfl)
theorem tw_664 : Cond.constant R_Md 78 (-2147483648) ∈ pmTs := pmM_33 (List.mem_of_getElem? (i := 4) rfl)
theorem tw_665 : Cond.methodLink R_Md 79 y_Md_word ∈ pmTs := pmM_33 (List.mem_of_getElem? (i := 5) rfl)
theorem tw_666 : Cond.instanceMethod y_Md_word ∈ pmTs := pmM_33 (List.mem_of_getElem? (i := 6) rfl)
theorem tw_667 : Cond.code y_Md_word k_Md_word 7 none ∈ pmTs := pmM_33 (List.mem_of_getElem? (i := 7) rfl)
theorem tw_668 : Cond.constant R_Md 83 (536871015) ∈ pmTs := pmM_33 (List.mem_of_getElem? (i := 8) rfl)
theorem tw_669 : Cond.fieldLink R_Md 87 R_Md "thrown" "I" ∈ pmTs := pmM_33 (List.mem_of_getElem? (i := 9) rfl)
theorem tw_670 : Cond.fieldLink R_Md 74 R_Md "size" "I" ∈ pmTs := pmM_33 (List.mem_of_getElem? (i := 10) rfl)
theorem tw_671 : Cond.fieldLink R_Md 7 R_Md "cells" "[I" ∈ pmTs := pmM_33 (List.mem_of_getElem? (i := 11) rfl)
theorem tw_672 : Cond.fieldLink R_Md 13 R_Md "first" "[I" ∈ pmTs := pmM_33 (List.mem_of_getElem? (i := 12) rfl)
theorem tw_673 : Cond.fieldLink R_Md 16 R_Md "second" "[I" ∈ pmTs := pmM_33 (List.mem_of_getElem? (i := 13) rfl)
theorem tw_674 : Cond.fieldLink R_Md 19 R_Md "third" "[I" ∈ pmTs := pmM_33 (List.mem_of_getElem? (i := 14) rfl)
theorem tw_675 : Cond.fieldLink R_Md 22 R_Md "used" "[Z" ∈ pmTs := pmM_33 (List.mem_of_getElem? (i := 15) rfl)
theorem tw_676 : Cond.fieldLink R_Md 26 R_Md "kind" "[I" ∈ pmTs := pmM_33 (List.mem_of_getElem? (i := 16) rfl)
theorem tw_677 : Cond.fieldLink R_Md 29 R_Md "frameA" "[I" ∈ pmTs := pmM_33 (List.mem_of_getElem? (i := 17) rfl)
theorem tw_678 : Cond.fieldLink R_Md 32 R_Md "frameB" "[I" ∈ pmTs := pmM_33 (List.mem_of_getElem? (i := 18) rfl)
theorem tw_679 : Cond.fieldLink R_Md 35 R_Md "frameC" "[I" ∈ pmTs := pmM_33 (List.mem_of_getElem? (i := 19) rfl)
theorem tw_680 : Cond.fieldLink R_Md 100 R_Md "frames" "I" ∈ pmTs := pmM_34 (List.mem_of_getElem? (i := 0) rfl)
theorem tw_681 : Cond.fieldLink R_Md 84 R_Md "known" "I" ∈ pmTs := pmM_34 (List.mem_of_getElem? (i := 1) rfl)
theorem tw_682 : Cond.fieldLink R_Md 38 R_Md "names" "[C" ∈ pmTs := pmM_34 (List.mem_of_getElem? (i := 2) rfl)
theorem tw_683 : Cond.fieldLink R_Md 42 R_Md "globals" "[I" ∈ pmTs := pmM_34 (List.mem_of_getElem? (i := 3) rfl)
theorem tw_684 : Cond.fieldLink R_Md 46 R_Md "value" "I" ∈ pmTs := pmM_34 (List.mem_of_getElem? (i := 4) rfl)
theorem tw_685 : Cond.fieldLink R_Md 50 R_Md "scope" "I" ∈ pmTs := pmM_34 (List.mem_of_getElem? (i := 5) rfl)
theorem tw_686 : Cond.fieldLink R_Md 180 R_Md "under" "Z" ∈ pmTs := pmM_34 (List.mem_of_getElem? (i := 6) rfl)
theorem tw_687 : Cond.fieldLink R_Md 184 R_Md "returns" "Z" ∈ pmTs := pmM_34 (List.mem_of_getElem? (i := 7) rfl)
theorem tw_688 : Cond.fieldLink R_Md 165 R_Md "steps" "I" ∈ pmTs := pmM_34 (List.mem_of_getElem? (i := 8) rfl)
theorem tw_689 : Cond.fieldLink R_Md 111 R_Md "fed" "I" ∈ pmTs := pmM_34 (List.mem_of_getElem? (i := 9) rfl)
theorem tw_690 : Cond.fieldLink R_Md 53 R_Md "text" "[C" ∈ pmTs := pmM_34 (List.mem_of_getElem? (i := 10) rfl)
theorem tw_691 : Cond.fieldLink R_Md 263 R_Md "waits" "I" ∈ pmTs := pmM_34 (List.mem_of_getElem? (i := 11) rfl)
theorem tw_692 : Cond.fieldLink R_Md 56 R_Md "out" "[C" ∈ pmTs := pmM_34 (List.mem_of_getElem? (i := 12) rfl)
theorem tw_693 : Cond.fieldLink R_Md 59 R_Md "openFirst" "[I" ∈ pmTs := pmM_34 (List.mem_of_getElem? (i := 13) rfl)
theorem tw_694 : Cond.fieldLink R_Md 62 R_Md "openLast" "[I" ∈ pmTs := pmM_34 (List.mem_of_getElem? (i := 14) rfl)
theorem tw_695 : Cond.fieldLink R_Md 65 R_Md "quoted" "[Z" ∈ pmTs := pmM_34 (List.mem_of_getElem? (i := 15) rfl)
theorem tw_696 : Cond.fieldLink R_Md 68 R_Md "left" "[I" ∈ pmTs := pmM_34 (List.mem_of_getElem? (i := 16) rfl)
theorem tw_697 : Cond.fieldLink R_Md 71 R_Md "things" "[I" ∈ pmTs := pmM_34 (List.mem_of_getElem? (i := 17) rfl)
theorem tw_698 : Cond.fieldLink R_Md 148 R_Md "end" "I" ∈ pmTs := pmM_34 (List.mem_of_getElem? (i := 18) rfl)
theorem tw_699 : Cond.fieldLink R_Md 139 R_Md "needs" "I" ∈ pmTs := pmM_34 (List.mem_of_getElem? (i := 19) rfl)
theorem tw_700 : Cond.methodLink R_Law 25 y_Md_feed ∈ pmTs := pmM_35 (List.mem_of_getElem? (i := 0) rfl)
theorem tw_701 : Cond.instanceMethod y_Md_feed ∈ pmTs := pmM_35 (List.mem_of_getElem? (i := 1) rfl)
theorem tw_702 : Cond.selects y_Md_feed.cls y_Md_feed y_Md_feed ∈ pmTs := pmM_35 (List.mem_of_getElem? (i := 2) rfl)
theorem tw_703 : Cond.code y_Md_feed k_Md_feed 5 (some .boolean) ∈ pmTs := pmM_35 (List.mem_of_getElem? (i := 3) rfl)
theorem tw_704 : Cond.methodLink R_Law 30 y_Md_run ∈ pmTs := pmM_35 (List.mem_of_getElem? (i := 4) rfl)
theorem tw_705 : Cond.instanceMethod y_Md_run ∈ pmTs := pmM_35 (List.mem_of_getElem? (i := 5) rfl)
theorem tw_706 : Cond.selects y_Md_run.cls y_Md_run y_Md_run ∈ pmTs := pmM_35 (List.mem_of_getElem? (i := 6) rfl)
theorem tw_707 : Cond.code y_Md_run k_Md_run 4 (some .int) ∈ pmTs := pmM_35 (List.mem_of_getElem? (i := 7) rfl)
theorem tw_708 : Cond.methodLink R_Md 254 y_Md_reading ∈ pmTs := pmM_35 (List.mem_of_getElem? (i := 8) rfl)
theorem tw_709 : Cond.instanceMethod y_Md_reading ∈ pmTs := pmM_35 (List.mem_of_getElem? (i := 9) rfl)
theorem tw_710 : Cond.code y_Md_reading k_Md_reading 4 (some .int) ∈ pmTs := pmM_35 (List.mem_of_getElem? (i := 10) rfl)
theorem tw_711 : Cond.methodLink R_Md 162 y_Md_lookOver ∈ pmTs := pmM_35 (List.mem_of_getElem? (i := 11) rfl)
theorem tw_712 : Cond.instanceMethod y_Md_lookOver ∈ pmTs := pmM_35 (List.mem_of_getElem? (i := 12) rfl)
theorem tw_713 : Cond.code y_Md_lookOver k_Md_lookOver 5 (some .int) ∈ pmTs := pmM_35 (List.mem_of_getElem? (i := 13) rfl)
theorem tw_714 : Cond.methodLink R_Md 142 y_Md_skip ∈ pmTs := pmM_35 (List.mem_of_getElem? (i := 14) rfl)
theorem tw_715 : Cond.instanceMethod y_Md_skip ∈ pmTs := pmM_35 (List.mem_of_getElem? (i := 15) rfl)
theorem tw_716 : Cond.code y_Md_skip k_Md_skip 3 (some .int) ∈ pmTs := pmM_35 (List.mem_of_getElem? (i := 16) rfl)
theorem tw_717 : Cond.methodLink R_Md 114 y_Md_isBlank ∈ pmTs := pmM_35 (List.mem_of_getElem? (i := 17) rfl)
theorem tw_718 : Cond.static y_Md_isBlank ∈ pmTs := pmM_35 (List.mem_of_getElem? (i := 18) rfl)
theorem tw_719 : Cond.code y_Md_isBlank k_Md_isBlank 1 (some .boolean) ∈ pmTs := pmM_35 (List.mem_of_getElem? (i := 19) rfl)
theorem tw_720 : Cond.methodLink R_Md 145 y_Md_tokenEnd ∈ pmTs := pmM_36 (List.mem_of_getElem? (i := 0) rfl)
theorem tw_721 : Cond.instanceMethod y_Md_tokenEnd ∈ pmTs := pmM_36 (List.mem_of_getElem? (i := 1) rfl)
theorem tw_722 : Cond.code y_Md_tokenEnd k_Md_tokenEnd 3 (some .int) ∈ pmTs := pmM_36 (List.mem_of_getElem? (i := 2) rfl)
theorem tw_723 : Cond.methodLink R_Md 118 y_Md_isSign ∈ pmTs := pmM_36 (List.mem_of_getElem? (i := 3) rfl)
theorem tw_724 : Cond.static y_Md_isSign ∈ pmTs := pmM_36 (List.mem_of_getElem? (i := 4) rfl)
theorem tw_725 : Cond.code y_Md_isSign k_Md_isSign 1 (some .boolean) ∈ pmTs := pmM_36 (List.mem_of_getElem? (i := 5) rfl)
theorem tw_726 : Cond.methodLink R_Md 168 y_Md_meet ∈ pmTs := pmM_36 (List.mem_of_getElem? (i := 6) rfl)
theorem tw_727 : Cond.instanceMethod y_Md_meet ∈ pmTs := pmM_36 (List.mem_of_getElem? (i := 7) rfl)
theorem tw_728 : Cond.code y_Md_meet k_Md_meet 4 (some .boolean) ∈ pmTs := pmM_36 (List.mem_of_getElem? (i := 8) rfl)
theorem tw_729 : Cond.methodLink R_Md 125 y_Md_isFigure ∈ pmTs := pmM_36 (List.mem_of_getElem? (i := 9) rfl)
theorem tw_730 : Cond.instanceMethod y_Md_isFigure ∈ pmTs := pmM_36 (List.mem_of_getElem? (i := 10) rfl)
theorem tw_731 : Cond.code y_Md_isFigure k_Md_isFigure 6 (some .boolean) ∈ pmTs := pmM_36 (List.mem_of_getElem? (i := 11) rfl)
theorem tw_732 : Cond.methodLink R_Md 133 y_Md_isNil ∈ pmTs := pmM_36 (List.mem_of_getElem? (i := 12) rfl)
theorem tw_733 : Cond.instanceMethod y_Md_isNil ∈ pmTs := pmM_36 (List.mem_of_getElem? (i := 13) rfl)
theorem tw_734 : Cond.code y_Md_isNil k_Md_isNil 3 (some .boolean) ∈ pmTs := pmM_36 (List.mem_of_getElem? (i := 14) rfl)
theorem tw_735 : Cond.methodLink R_Md 136 y_Md_symbolOf ∈ pmTs := pmM_36 (List.mem_of_getElem? (i := 15) rfl)
theorem tw_736 : Cond.instanceMethod y_Md_symbolOf ∈ pmTs := pmM_36 (List.mem_of_getElem? (i := 16) rfl)
theorem tw_737 : Cond.code y_Md_symbolOf k_Md_symbolOf 6 (some .int) ∈ pmTs := pmM_36 (List.mem_of_getElem? (i := 17) rfl)
theorem tw_738 : Cond.methodLink R_Md 171 y_Md_room ∈ pmTs := pmM_36 (List.mem_of_getElem? (i := 18) rfl)
theorem tw_739 : Cond.instanceMethod y_Md_room ∈ pmTs := pmM_36 (List.mem_of_getElem? (i := 19) rfl)
theorem tw_740 : Cond.code y_Md_room k_Md_room 4 (some .boolean) ∈ pmTs := pmM_37 (List.mem_of_getElem? (i := 0) rfl)
theorem tw_741 : Cond.methodLink R_Md 103 y_Md_live ∈ pmTs := pmM_37 (List.mem_of_getElem? (i := 1) rfl)
theorem tw_742 : Cond.instanceMethod y_Md_live ∈ pmTs := pmM_37 (List.mem_of_getElem? (i := 2) rfl)
theorem tw_743 : Cond.code y_Md_live k_Md_live 4 (some .int) ∈ pmTs := pmM_37 (List.mem_of_getElem? (i := 3) rfl)
theorem tw_744 : Cond.methodLink R_Md 96 y_Md_mark ∈ pmTs := pmM_37 (List.mem_of_getElem? (i := 4) rfl)
theorem tw_745 : Cond.instanceMethod y_Md_mark ∈ pmTs := pmM_37 (List.mem_of_getElem? (i := 5) rfl)
theorem tw_746 : Cond.code y_Md_mark k_Md_mark 2 none ∈ pmTs := pmM_37 (List.mem_of_getElem? (i := 6) rfl)
theorem tw_747 : Cond.methodLink R_Md 92 y_Md_isThing ∈ pmTs := pmM_37 (List.mem_of_getElem? (i := 7) rfl)
theorem tw_748 : Cond.static y_Md_isThing ∈ pmTs := pmM_37 (List.mem_of_getElem? (i := 8) rfl)
theorem tw_749 : Cond.code y_Md_isThing k_Md_isThing 1 (some .boolean) ∈ pmTs := pmM_37 (List.mem_of_getElem? (i := 9) rfl)
theorem tw_750 : Cond.constant R_Md 91 (536873000) ∈ pmTs := pmM_37 (List.mem_of_getElem? (i := 10) rfl)
theorem tw_751 : Cond.methodLink R_Md 174 y_Md_read ∈ pmTs := pmM_37 (List.mem_of_getElem? (i := 11) rfl)
theorem tw_752 : Cond.instanceMethod y_Md_read ∈ pmTs := pmM_37 (List.mem_of_getElem? (i := 12) rfl)
theorem tw_753 : Cond.code y_Md_read k_Md_read 4 none ∈ pmTs := pmM_37 (List.mem_of_getElem? (i := 13) rfl)
theorem tw_754 : Cond.methodLink R_Md 155 y_Md_arrived ∈ pmTs := pmM_37 (List.mem_of_getElem? (i := 14) rfl)
theorem tw_755 : Cond.instanceMethod y_Md_arrived ∈ pmTs := pmM_37 (List.mem_of_getElem? (i := 15) rfl)
theorem tw_756 : Cond.code y_Md_arrived k_Md_arrived 5 none ∈ pmTs := pmM_37 (List.mem_of_getElem? (i := 16) rfl)
theorem tw_757 : Cond.constant R_Md 151 (536871010) ∈ pmTs := pmM_37 (List.mem_of_getElem? (i := 17) rfl)
theorem tw_758 : Cond.methodLink R_Md 152 y_Md_pair ∈ pmTs := pmM_37 (List.mem_of_getElem? (i := 18) rfl)
theorem tw_759 : Cond.instanceMethod y_Md_pair ∈ pmTs := pmM_37 (List.mem_of_getElem? (i := 19) rfl)
theorem tw_760 : Cond.code y_Md_pair k_Md_pair 3 (some .int) ∈ pmTs := pmM_38 (List.mem_of_getElem? (i := 0) rfl)
theorem tw_761 : Cond.methodLink R_Md 107 y_Md_make ∈ pmTs := pmM_38 (List.mem_of_getElem? (i := 1) rfl)
theorem tw_762 : Cond.instanceMethod y_Md_make ∈ pmTs := pmM_38 (List.mem_of_getElem? (i := 2) rfl)
theorem tw_763 : Cond.code y_Md_make k_Md_make 6 (some .int) ∈ pmTs := pmM_38 (List.mem_of_getElem? (i := 3) rfl)
theorem tw_764 : Cond.methodLink R_Md 159 y_Md_atom ∈ pmTs := pmM_38 (List.mem_of_getElem? (i := 4) rfl)
theorem tw_765 : Cond.instanceMethod y_Md_atom ∈ pmTs := pmM_38 (List.mem_of_getElem? (i := 5) rfl)
theorem tw_766 : Cond.code y_Md_atom k_Md_atom 3 (some .int) ∈ pmTs := pmM_38 (List.mem_of_getElem? (i := 6) rfl)
theorem tw_767 : Cond.methodLink R_Md 129 y_Md_figure ∈ pmTs := pmM_38 (List.mem_of_getElem? (i := 7) rfl)
theorem tw_768 : Cond.instanceMethod y_Md_figure ∈ pmTs := pmM_38 (List.mem_of_getElem? (i := 8) rfl)
theorem tw_769 : Cond.code y_Md_figure k_Md_figure 5 (some .int) ∈ pmTs := pmM_38 (List.mem_of_getElem? (i := 9) rfl)
theorem tw_770 : Cond.methodLink R_Md 121 y_Md_wrap ∈ pmTs := pmM_38 (List.mem_of_getElem? (i := 10) rfl)
theorem tw_771 : Cond.static y_Md_wrap ∈ pmTs := pmM_38 (List.mem_of_getElem? (i := 11) rfl)
theorem tw_772 : Cond.code y_Md_wrap k_Md_wrap 1 (some .int) ∈ pmTs := pmM_38 (List.mem_of_getElem? (i := 12) rfl)
theorem tw_773 : Cond.constant R_Md 90 (536871000) ∈ pmTs := pmM_38 (List.mem_of_getElem? (i := 13) rfl)
theorem tw_774 : Cond.methodLink R_Md 177 y_Md_drop ∈ pmTs := pmM_38 (List.mem_of_getElem? (i := 14) rfl)
theorem tw_775 : Cond.instanceMethod y_Md_drop ∈ pmTs := pmM_38 (List.mem_of_getElem? (i := 15) rfl)
theorem tw_776 : Cond.code y_Md_drop k_Md_drop 3 none ∈ pmTs := pmM_38 (List.mem_of_getElem? (i := 16) rfl)
theorem tw_777 : Cond.methodLink R_Md 257 y_Md_back ∈ pmTs := pmM_38 (List.mem_of_getElem? (i := 17) rfl)
theorem tw_778 : Cond.instanceMethod y_Md_back ∈ pmTs := pmM_38 (List.mem_of_getElem? (i := 18) rfl)
theorem tw_779 : Cond.code y_Md_back k_Md_back 5 (some .int) ∈ pmTs := pmM_38 (List.mem_of_getElem? (i := 19) rfl)
theorem tw_780 : Cond.methodLink R_Md 227 y_Md_print ∈ pmTs := pmM_39 (List.mem_of_getElem? (i := 0) rfl)
theorem tw_781 : Cond.instanceMethod y_Md_print ∈ pmTs := pmM_39 (List.mem_of_getElem? (i := 1) rfl)
theorem tw_782 : Cond.code y_Md_print k_Md_print 2 none ∈ pmTs := pmM_39 (List.mem_of_getElem? (i := 2) rfl)
theorem tw_783 : Cond.methodLink R_Md 281 y_Md_begin ∈ pmTs := pmM_39 (List.mem_of_getElem? (i := 3) rfl)
theorem tw_784 : Cond.instanceMethod y_Md_begin ∈ pmTs := pmM_39 (List.mem_of_getElem? (i := 4) rfl)
theorem tw_785 : Cond.code y_Md_begin k_Md_begin 3 (some .int) ∈ pmTs := pmM_39 (List.mem_of_getElem? (i := 5) rfl)
theorem tw_786 : Cond.methodLink R_Md 187 y_Md_isPair ∈ pmTs := pmM_39 (List.mem_of_getElem? (i := 6) rfl)
theorem tw_787 : Cond.instanceMethod y_Md_isPair ∈ pmTs := pmM_39 (List.mem_of_getElem? (i := 7) rfl)
theorem tw_788 : Cond.code y_Md_isPair k_Md_isPair 2 (some .boolean) ∈ pmTs := pmM_39 (List.mem_of_getElem? (i := 8) rfl)
theorem tw_789 : Cond.methodLink R_Md 275 y_Md_putPlain ∈ pmTs := pmM_39 (List.mem_of_getElem? (i := 9) rfl)
theorem tw_790 : Cond.instanceMethod y_Md_putPlain ∈ pmTs := pmM_39 (List.mem_of_getElem? (i := 10) rfl)
theorem tw_791 : Cond.code y_Md_putPlain k_Md_putPlain 2 none ∈ pmTs := pmM_39 (List.mem_of_getElem? (i := 11) rfl)
theorem tw_792 : Cond.methodLink R_Md 251 y_Md_isNumber ∈ pmTs := pmM_39 (List.mem_of_getElem? (i := 12) rfl)
theorem tw_793 : Cond.static y_Md_isNumber ∈ pmTs := pmM_39 (List.mem_of_getElem? (i := 13) rfl)
theorem tw_794 : Cond.code y_Md_isNumber k_Md_isNumber 1 (some .boolean) ∈ pmTs := pmM_39 (List.mem_of_getElem? (i := 14) rfl)
theorem tw_795 : Cond.methodLink R_Md 269 y_Md_putNumber ∈ pmTs := pmM_39 (List.mem_of_getElem? (i := 15) rfl)
theorem tw_796 : Cond.instanceMethod y_Md_putNumber ∈ pmTs := pmM_39 (List.mem_of_getElem? (i := 16) rfl)
theorem tw_797 : Cond.code y_Md_putNumber k_Md_putNumber 4 none ∈ pmTs := pmM_39 (List.mem_of_getElem? (i := 17) rfl)
theorem tw_798 : Cond.methodLink R_Md 266 y_Md_put ∈ pmTs := pmM_39 (List.mem_of_getElem? (i := 18) rfl)
theorem tw_799 : Cond.instanceMethod y_Md_put ∈ pmTs := pmM_39 (List.mem_of_getElem? (i := 19) rfl)
theorem tw_800 : Cond.code y_Md_put k_Md_put 2 none ∈ pmTs := pmM_40 (List.mem_of_getElem? (i := 0) rfl)
theorem tw_801 : Cond.methodLink R_Md 205 y_Md_isSymbol ∈ pmTs := pmM_40 (List.mem_of_getElem? (i := 1) rfl)
theorem tw_802 : Cond.static y_Md_isSymbol ∈ pmTs := pmM_40 (List.mem_of_getElem? (i := 2) rfl)
theorem tw_803 : Cond.code y_Md_isSymbol k_Md_isSymbol 1 (some .boolean) ∈ pmTs := pmM_40 (List.mem_of_getElem? (i := 3) rfl)
theorem tw_804 : Cond.methodLink R_Md 272 y_Md_putName ∈ pmTs := pmM_40 (List.mem_of_getElem? (i := 4) rfl)
theorem tw_805 : Cond.instanceMethod y_Md_putName ∈ pmTs := pmM_40 (List.mem_of_getElem? (i := 5) rfl)
theorem tw_806 : Cond.code y_Md_putName k_Md_putName 3 none ∈ pmTs := pmM_40 (List.mem_of_getElem? (i := 6) rfl)
theorem tw_807 : Cond.methodLink R_Md 278 y_Md_putDots ∈ pmTs := pmM_40 (List.mem_of_getElem? (i := 7) rfl)
theorem tw_808 : Cond.instanceMethod y_Md_putDots ∈ pmTs := pmM_40 (List.mem_of_getElem? (i := 8) rfl)
theorem tw_809 : Cond.code y_Md_putDots k_Md_putDots 1 none ∈ pmTs := pmM_40 (List.mem_of_getElem? (i := 9) rfl)
theorem tw_810 : Cond.methodLink R_Md 284 y_Md_further ∈ pmTs := pmM_40 (List.mem_of_getElem? (i := 10) rfl)
theorem tw_811 : Cond.instanceMethod y_Md_further ∈ pmTs := pmM_40 (List.mem_of_getElem? (i := 11) rfl)
theorem tw_812 : Cond.code y_Md_further k_Md_further 3 (some .int) ∈ pmTs := pmM_40 (List.mem_of_getElem? (i := 12) rfl)
theorem tw_813 : Cond.methodLink R_Md 190 y_Md_cdr ∈ pmTs := pmM_40 (List.mem_of_getElem? (i := 13) rfl)
theorem tw_814 : Cond.instanceMethod y_Md_cdr ∈ pmTs := pmM_40 (List.mem_of_getElem? (i := 14) rfl)
theorem tw_815 : Cond.code y_Md_cdr k_Md_cdr 2 (some .int) ∈ pmTs := pmM_40 (List.mem_of_getElem? (i := 15) rfl)
theorem tw_816 : Cond.methodLink R_Md 193 y_Md_car ∈ pmTs := pmM_40 (List.mem_of_getElem? (i := 16) rfl)
theorem tw_817 : Cond.instanceMethod y_Md_car ∈ pmTs := pmM_40 (List.mem_of_getElem? (i := 17) rfl)
theorem tw_818 : Cond.code y_Md_car k_Md_car 2 (some .int) ∈ pmTs := pmM_40 (List.mem_of_getElem? (i := 18) rfl)
theorem tw_819 : Cond.methodLink R_Md 230 y_Md_clearAll ∈ pmTs := pmM_40 (List.mem_of_getElem? (i := 19) rfl)
theorem tw_820 : Cond.instanceMethod y_Md_clearAll ∈ pmTs := pmM_41 (List.mem_of_getElem? (i := 0) rfl)
theorem tw_821 : Cond.code y_Md_clearAll k_Md_clearAll 1 none ∈ pmTs := pmM_41 (List.mem_of_getElem? (i := 1) rfl)
theorem tw_822 : Cond.methodLink R_Md 233 y_Md_argument ∈ pmTs := pmM_41 (List.mem_of_getElem? (i := 2) rfl)
theorem tw_823 : Cond.instanceMethod y_Md_argument ∈ pmTs := pmM_41 (List.mem_of_getElem? (i := 3) rfl)
theorem tw_824 : Cond.code y_Md_argument k_Md_argument 3 (some .int) ∈ pmTs := pmM_41 (List.mem_of_getElem? (i := 4) rfl)
theorem tw_825 : Cond.methodLink R_Md 236 y_Md_apply ∈ pmTs := pmM_41 (List.mem_of_getElem? (i := 5) rfl)
theorem tw_826 : Cond.instanceMethod y_Md_apply ∈ pmTs := pmM_41 (List.mem_of_getElem? (i := 6) rfl)
theorem tw_827 : Cond.code y_Md_apply k_Md_apply 8 (some .int) ∈ pmTs := pmM_41 (List.mem_of_getElem? (i := 7) rfl)
theorem tw_828 : Cond.methodLink R_Md 202 y_Md_lengthOf ∈ pmTs := pmM_41 (List.mem_of_getElem? (i := 8) rfl)
theorem tw_829 : Cond.instanceMethod y_Md_lengthOf ∈ pmTs := pmM_41 (List.mem_of_getElem? (i := 9) rfl)
theorem tw_830 : Cond.code y_Md_lengthOf k_Md_lengthOf 4 (some .int) ∈ pmTs := pmM_41 (List.mem_of_getElem? (i := 10) rfl)
theorem tw_831 : Cond.methodLink R_Md 211 y_Md_at ∈ pmTs := pmM_41 (List.mem_of_getElem? (i := 11) rfl)
theorem tw_832 : Cond.instanceMethod y_Md_at ∈ pmTs := pmM_41 (List.mem_of_getElem? (i := 12) rfl)
theorem tw_833 : Cond.code y_Md_at k_Md_at 5 (some .int) ∈ pmTs := pmM_41 (List.mem_of_getElem? (i := 13) rfl)
theorem tw_834 : Cond.methodLink R_Md 239 y_Md_isClosure ∈ pmTs := pmM_41 (List.mem_of_getElem? (i := 14) rfl)
theorem tw_835 : Cond.instanceMethod y_Md_isClosure ∈ pmTs := pmM_41 (List.mem_of_getElem? (i := 15) rfl)
theorem tw_836 : Cond.code y_Md_isClosure k_Md_isClosure 2 (some .boolean) ∈ pmTs := pmM_41 (List.mem_of_getElem? (i := 16) rfl)
theorem tw_837 : Cond.methodLink R_Md 242 y_Md_enter ∈ pmTs := pmM_41 (List.mem_of_getElem? (i := 17) rfl)
theorem tw_838 : Cond.instanceMethod y_Md_enter ∈ pmTs := pmM_41 (List.mem_of_getElem? (i := 18) rfl)
theorem tw_839 : Cond.code y_Md_enter k_Md_enter 6 (some .int) ∈ pmTs := pmM_41 (List.mem_of_getElem? (i := 19) rfl)
theorem tw_840 : Cond.methodLink R_Md 218 y_Md_go ∈ pmTs := pmM_42 (List.mem_of_getElem? (i := 0) rfl)
theorem tw_841 : Cond.instanceMethod y_Md_go ∈ pmTs := pmM_42 (List.mem_of_getElem? (i := 1) rfl)
theorem tw_842 : Cond.code y_Md_go k_Md_go 3 (some .int) ∈ pmTs := pmM_42 (List.mem_of_getElem? (i := 2) rfl)
theorem tw_843 : Cond.methodLink R_Md 245 y_Md_listed ∈ pmTs := pmM_42 (List.mem_of_getElem? (i := 3) rfl)
theorem tw_844 : Cond.instanceMethod y_Md_listed ∈ pmTs := pmM_42 (List.mem_of_getElem? (i := 4) rfl)
theorem tw_845 : Cond.code y_Md_listed k_Md_listed 5 (some .int) ∈ pmTs := pmM_42 (List.mem_of_getElem? (i := 5) rfl)
theorem tw_846 : Cond.methodLink R_Md 248 y_Md_done ∈ pmTs := pmM_42 (List.mem_of_getElem? (i := 6) rfl)
theorem tw_847 : Cond.instanceMethod y_Md_done ∈ pmTs := pmM_42 (List.mem_of_getElem? (i := 7) rfl)
theorem tw_848 : Cond.code y_Md_done k_Md_done 2 (some .int) ∈ pmTs := pmM_42 (List.mem_of_getElem? (i := 8) rfl)
theorem tw_849 : Cond.methodLink R_Md 199 y_Md_give ∈ pmTs := pmM_42 (List.mem_of_getElem? (i := 9) rfl)
theorem tw_850 : Cond.instanceMethod y_Md_give ∈ pmTs := pmM_42 (List.mem_of_getElem? (i := 10) rfl)
theorem tw_851 : Cond.code y_Md_give k_Md_give 2 (some .int) ∈ pmTs := pmM_42 (List.mem_of_getElem? (i := 11) rfl)
theorem tw_852 : Cond.methodLink R_Md 196 y_Md_binding ∈ pmTs := pmM_42 (List.mem_of_getElem? (i := 12) rfl)
theorem tw_853 : Cond.instanceMethod y_Md_binding ∈ pmTs := pmM_42 (List.mem_of_getElem? (i := 13) rfl)
theorem tw_854 : Cond.code y_Md_binding k_Md_binding 4 (some .int) ∈ pmTs := pmM_42 (List.mem_of_getElem? (i := 14) rfl)
theorem tw_855 : Cond.methodLink R_Md 260 y_Md_evaluate ∈ pmTs := pmM_42 (List.mem_of_getElem? (i := 15) rfl)
theorem tw_856 : Cond.instanceMethod y_Md_evaluate ∈ pmTs := pmM_42 (List.mem_of_getElem? (i := 16) rfl)
theorem tw_857 : Cond.code y_Md_evaluate k_Md_evaluate 2 (some .int) ∈ pmTs := pmM_42 (List.mem_of_getElem? (i := 17) rfl)
theorem tw_858 : Cond.methodLink R_Md 221 y_Md_lookUp ∈ pmTs := pmM_42 (List.mem_of_getElem? (i := 18) rfl)
theorem tw_859 : Cond.instanceMethod y_Md_lookUp ∈ pmTs := pmM_42 (List.mem_of_getElem? (i := 19) rfl)
theorem tw_860 : Cond.code y_Md_lookUp k_Md_lookUp 3 (some .int) ∈ pmTs := pmM_43 (List.mem_of_getElem? (i := 0) rfl)
theorem tw_861 : Cond.methodLink R_Md 224 y_Md_special ∈ pmTs := pmM_43 (List.mem_of_getElem? (i := 1) rfl)
theorem tw_862 : Cond.instanceMethod y_Md_special ∈ pmTs := pmM_43 (List.mem_of_getElem? (i := 2) rfl)
theorem tw_863 : Cond.code y_Md_special k_Md_special 6 (some .int) ∈ pmTs := pmM_43 (List.mem_of_getElem? (i := 3) rfl)
theorem tw_864 : Cond.methodLink R_Md 208 y_Md_areParameters ∈ pmTs := pmM_43 (List.mem_of_getElem? (i := 4) rfl)
theorem tw_865 : Cond.instanceMethod y_Md_areParameters ∈ pmTs := pmM_43 (List.mem_of_getElem? (i := 5) rfl)
theorem tw_866 : Cond.code y_Md_areParameters k_Md_areParameters 4 (some .boolean) ∈ pmTs := pmM_43 (List.mem_of_getElem? (i := 6) rfl)
theorem tw_867 : Cond.methodLink R_Md 214 y_Md_push ∈ pmTs := pmM_43 (List.mem_of_getElem? (i := 7) rfl)
theorem tw_868 : Cond.instanceMethod y_Md_push ∈ pmTs := pmM_43 (List.mem_of_getElem? (i := 8) rfl)
theorem tw_869 : Cond.code y_Md_push k_Md_push 4 (some .int) ∈ pmTs := pmM_43 (List.mem_of_getElem? (i := 9) rfl)
theorem tw_870 : Cond.methodLink R_Law 35 y_Md_outSize ∈ pmTs := pmM_43 (List.mem_of_getElem? (i := 10) rfl)
theorem tw_871 : Cond.instanceMethod y_Md_outSize ∈ pmTs := pmM_43 (List.mem_of_getElem? (i := 11) rfl)
theorem tw_872 : Cond.selects y_Md_outSize.cls y_Md_outSize y_Md_outSize ∈ pmTs := pmM_43 (List.mem_of_getElem? (i := 12) rfl)
theorem tw_873 : Cond.code y_Md_outSize k_Md_outSize 1 (some .int) ∈ pmTs := pmM_43 (List.mem_of_getElem? (i := 13) rfl)
theorem tw_874 : Cond.methodLink R_Law 39 y_Md_out ∈ pmTs := pmM_43 (List.mem_of_getElem? (i := 14) rfl)
theorem tw_875 : Cond.instanceMethod y_Md_out ∈ pmTs := pmM_43 (List.mem_of_getElem? (i := 15) rfl)
theorem tw_876 : Cond.selects y_Md_out.cls y_Md_out y_Md_out ∈ pmTs := pmM_43 (List.mem_of_getElem? (i := 16) rfl)
theorem tw_877 : Cond.code y_Md_out k_Md_out 2 (some .int) ∈ pmTs := pmM_43 (List.mem_of_getElem? (i := 17) rfl)
theorem tw_878 : Cond.methodLink R_Law 43 y_Md_clearOut ∈ pmTs := pmM_43 (List.mem_of_getElem? (i := 18) rfl)
theorem tw_879 : Cond.instanceMethod y_Md_clearOut ∈ pmTs := pmM_43 (List.mem_of_getElem? (i := 19) rfl)
theorem tw_880 : Cond.selects y_Md_clearOut.cls y_Md_clearOut y_Md_clearOut ∈ pmTs := pmM_44 (List.mem_of_getElem? (i := 0) rfl)
theorem tw_881 : Cond.code y_Md_clearOut k_Md_clearOut 1 none ∈ pmTs := pmM_44 (List.mem_of_getElem? (i := 1) rfl)
theorem tw_882 : Cond.methodLink R_Law 47 y_Md_liveCells ∈ pmTs := pmM_44 (List.mem_of_getElem? (i := 2) rfl)
theorem tw_883 : Cond.instanceMethod y_Md_liveCells ∈ pmTs := pmM_44 (List.mem_of_getElem? (i := 3) rfl)
theorem tw_884 : Cond.selects y_Md_liveCells.cls y_Md_liveCells y_Md_liveCells ∈ pmTs := pmM_44 (List.mem_of_getElem? (i := 4) rfl)
theorem tw_885 : Cond.code y_Md_liveCells k_Md_liveCells 1 (some .int) ∈ pmTs := pmM_44 (List.mem_of_getElem? (i := 5) rfl)
theorem tw_886 : Cond.methodLink R_Law 51 y_Md_count ∈ pmTs := pmM_44 (List.mem_of_getElem? (i := 6) rfl)
theorem tw_887 : Cond.instanceMethod y_Md_count ∈ pmTs := pmM_44 (List.mem_of_getElem? (i := 7) rfl)
theorem tw_888 : Cond.selects y_Md_count.cls y_Md_count y_Md_count ∈ pmTs := pmM_44 (List.mem_of_getElem? (i := 8) rfl)
theorem tw_889 : Cond.code y_Md_count k_Md_count 2 (some .int) ∈ pmTs := pmM_44 (List.mem_of_getElem? (i := 9) rfl)
theorem tw_890 : Cond.fieldLink "java/lang/String" 9 "java/lang/String" "value" "[B" ∈ pmTs := pmM_44 (List.mem_of_getElem? (i := 10) rfl)
theorem tw_891 : Cond.fieldLink "java/lang/String" 15 "java/lang/String" "coder" "B" ∈ pmTs := pmM_44 (List.mem_of_getElem? (i := 11) rfl)
theorem fc_0 : pm_cls pmTs vwCl 0 R_CL T_CL 6 t_CL := ⟨rfl, fun _ h => pmM_L0 h, t_CL_ok, n_CL⟩
theorem fc_1 : pm_cls pmTs vwCl 1 R_Text T_Text 2 t_Text := ⟨rfl, fun _ h => pmM_L1 h, t_Text_ok, n_Text⟩
theorem fc_2 : pm_cls pmTs vwCl 2 R_Output T_Output 2 t_Output := ⟨rfl, fun _ h => pmM_L2 h, t_Output_ok, n_Output⟩
theorem fc_3 : pm_cls pmTs vwCl 3 R_Symbols T_Symbols 3 t_Symbols := ⟨rfl, fun _ h => pmM_L3 h, t_Symbols_ok, n_Symbols⟩
theorem fc_4 : pm_cls pmTs vwCl 4 R_State T_State 8 t_State := ⟨rfl, fun _ h => pmM_L4 h, t_State_ok, n_State⟩
theorem fc_5 : pm_cls pmTs vwCl 5 R_Room T_Room 13 t_Room := ⟨rfl, fun _ h => pmM_L5 h, t_Room_ok, n_Room⟩
theorem fc_6 : pm_cls pmTs vwCl 6 R_Machine T_Machine 7 t_Machine := ⟨rfl, fun _ h => pmM_L6 h, t_Machine_ok, n_Machine⟩
theorem fc_7 : pm_cls pmTs vwCl 7 R_Reader T_Reader 9 t_Reader := ⟨rfl, fun _ h => pmM_L7 h, t_Reader_ok, n_Reader⟩
theorem fc_8 : pm_cls pmTs vwCl 8 R_Printer T_Printer 3 t_Printer := ⟨rfl, fun _ h => pmM_L8 h, t_Printer_ok, n_Printer⟩
theorem fc_9 : pm_cls pmTs vwCl 9 R_Md T_Md 31 t_Md := ⟨rfl, fun _ h => pmM_L9 h, t_Md_ok, n_Md⟩
theorem mi_CL_feed : pm_mi pmTs y_CL_feed k_CL_feed 3 (some .boolean) 2 := ⟨tw_297, tw_90, ⟨by decide, by decide⟩, by decide +kernel⟩
theorem mi_Text_append : pm_mi pmTs y_Text_append k_Text_append 4 (some .boolean) 2 := ⟨tw_301, tw_91, ⟨by decide, by decide⟩, by decide +kernel⟩
theorem mi_Text_isCharacter : pm_mi pmTs y_Text_isCharacter k_Text_isCharacter 1 (some .boolean) 1 := ⟨tw_304, tw_91, ⟨by decide, by decide⟩, by decide +kernel⟩
theorem mi_CL_outSize : pm_mi pmTs y_CL_outSize k_CL_outSize 1 (some .int) 0 := ⟨tw_631, tw_90, ⟨by decide, by decide⟩, by decide +kernel⟩
theorem mi_CL_out : pm_mi pmTs y_CL_out k_CL_out 2 (some .int) 1 := ⟨tw_635, tw_90, ⟨by decide, by decide⟩, by decide +kernel⟩
theorem mi_Output_at : pm_mi pmTs y_Output_at k_Output_at 2 (some .int) 1 := ⟨tw_639, tw_92, ⟨by decide, by decide⟩, by decide +kernel⟩
theorem mi_CL_clearOut : pm_mi pmTs y_CL_clearOut k_CL_clearOut 1 none 0 := ⟨tw_643, tw_90, ⟨by decide, by decide⟩, by decide +kernel⟩
theorem mi_CL_liveCells : pm_mi pmTs y_CL_liveCells k_CL_liveCells 1 (some .int) 0 := ⟨tw_647, tw_90, ⟨by decide, by decide⟩, by decide +kernel⟩
theorem mi_Room_collect : pm_mi pmTs y_Room_collect k_Room_collect 3 none 0 := ⟨tw_369, tw_100, ⟨by decide, by decide⟩, by decide +kernel⟩
theorem mi_Room_reach : pm_mi pmTs y_Room_reach k_Room_reach 5 none 1 := ⟨tw_372, tw_100, ⟨by decide, by decide⟩, by decide +kernel⟩
theorem mi_Value_kind : pm_mi pmTs y_Value_kind k_Value_kind 1 (some .int) 1 := ⟨tw_375, tw_98, ⟨by decide, by decide⟩, by decide +kernel⟩
theorem mi_Value_content : pm_mi pmTs y_Value_content k_Value_content 1 (some .int) 1 := ⟨tw_378, tw_98, ⟨by decide, by decide⟩, by decide +kernel⟩
theorem mi_Room_freeUnreached : pm_mi pmTs y_Room_freeUnreached k_Room_freeUnreached 2 none 0 := ⟨tw_381, tw_100, ⟨by decide, by decide⟩, by decide +kernel⟩
theorem mi_CL_count : pm_mi pmTs y_CL_count k_CL_count 2 (some .int) 1 := ⟨tw_652, tw_90, ⟨by decide, by decide⟩, by decide +kernel⟩
theorem mi_Text_at : pm_mi pmTs y_Text_at k_Text_at 2 (some .char) 1 := ⟨tw_326, tw_91, ⟨by decide, by decide⟩, by decide +kernel⟩
theorem mi_Text_drop : pm_mi pmTs y_Text_drop k_Text_drop 4 none 1 := ⟨tw_414, tw_91, ⟨by decide, by decide⟩, by decide +kernel⟩
theorem mi_Text_pieceEnd : pm_mi pmTs y_Text_pieceEnd k_Text_pieceEnd 3 (some .int) 1 := ⟨tw_330, tw_91, ⟨by decide, by decide⟩, by decide +kernel⟩
theorem mi_Text_isOfWord : pm_mi pmTs y_Text_isOfWord k_Text_isOfWord 1 (some .boolean) 1 := ⟨tw_334, tw_91, ⟨by decide, by decide⟩, by decide +kernel⟩
theorem mi_Text_isBlank : pm_mi pmTs y_Text_isBlank k_Text_isBlank 1 (some .boolean) 1 := ⟨tw_337, tw_91, ⟨by decide, by decide⟩, by decide +kernel⟩
theorem mi_Text_isNumber : pm_mi pmTs y_Text_isNumber k_Text_isNumber 5 (some .boolean) 2 := ⟨tw_355, tw_91, ⟨by decide, by decide⟩, by decide +kernel⟩
theorem mi_Text_number : pm_mi pmTs y_Text_number k_Text_number 6 (some .int) 2 := ⟨tw_409, tw_91, ⟨by decide, by decide⟩, by decide +kernel⟩
theorem mi_Text_name : pm_mi pmTs y_Text_name k_Text_name 6 (some .long) 2 := ⟨tw_359, tw_91, ⟨by decide, by decide⟩, by decide +kernel⟩
theorem mi_Output_isFull : pm_mi pmTs y_Output_isFull k_Output_isFull 1 (some .boolean) 0 := ⟨tw_622, tw_92, ⟨by decide, by decide⟩, by decide +kernel⟩
theorem mi_Output_put : pm_mi pmTs y_Output_put k_Output_put 2 none 1 := ⟨tw_597, tw_92, ⟨by decide, by decide⟩, by decide +kernel⟩
theorem mi_Symbols_find : pm_mi pmTs y_Symbols_find k_Symbols_find 4 (some .int) 1 := ⟨tw_188, tw_93, ⟨by decide, by decide⟩, by decide +kernel⟩
theorem mi_Symbols_learn : pm_mi pmTs y_Symbols_learn k_Symbols_learn 3 (some .boolean) 1 := ⟨tw_184, tw_93, ⟨by decide, by decide⟩, by decide +kernel⟩
theorem mi_Symbols_name : pm_mi pmTs y_Symbols_name k_Symbols_name 2 (some .long) 1 := ⟨tw_605, tw_93, ⟨by decide, by decide⟩, by decide +kernel⟩
theorem mi_Symbols_global : pm_mi pmTs y_Symbols_global k_Symbols_global 2 (some .int) 1 := ⟨tw_453, tw_93, ⟨by decide, by decide⟩, by decide +kernel⟩
theorem mi_Symbols_setGlobal : pm_mi pmTs y_Symbols_setGlobal k_Symbols_setGlobal 3 none 2 := ⟨tw_525, tw_93, ⟨by decide, by decide⟩, by decide +kernel⟩
theorem mi_State_push : pm_mi pmTs y_State_push k_State_push 4 (some .boolean) 3 := ⟨tw_479, tw_99, ⟨by decide, by decide⟩, by decide +kernel⟩
theorem mi_State_pop : pm_mi pmTs y_State_pop k_State_pop 1 none 0 := ⟨tw_518, tw_99, ⟨by decide, by decide⟩, by decide +kernel⟩
theorem mi_State_kind : pm_mi pmTs y_State_kind k_State_kind 1 (some .int) 0 := ⟨tw_500, tw_99, ⟨by decide, by decide⟩, by decide +kernel⟩
theorem mi_State_hasTop : pm_mi pmTs y_State_hasTop k_State_hasTop 1 (some .boolean) 0 := ⟨tw_503, tw_99, ⟨by decide, by decide⟩, by decide +kernel⟩
theorem mi_State_a : pm_mi pmTs y_State_a k_State_a 1 (some .int) 0 := ⟨tw_510, tw_99, ⟨by decide, by decide⟩, by decide +kernel⟩
theorem mi_State_b : pm_mi pmTs y_State_b k_State_b 1 (some .int) 0 := ⟨tw_514, tw_99, ⟨by decide, by decide⟩, by decide +kernel⟩
theorem mi_State_c : pm_mi pmTs y_State_c k_State_c 1 (some .int) 0 := ⟨tw_536, tw_99, ⟨by decide, by decide⟩, by decide +kernel⟩
theorem mi_State_setA : pm_mi pmTs y_State_setA k_State_setA 2 none 1 := ⟨tw_548, tw_99, ⟨by decide, by decide⟩, by decide +kernel⟩
theorem mi_State_setC : pm_mi pmTs y_State_setC k_State_setC 2 none 1 := ⟨tw_541, tw_99, ⟨by decide, by decide⟩, by decide +kernel⟩
theorem mi_Room_hasFor : pm_mi pmTs y_Room_hasFor k_Room_hasFor 2 (some .boolean) 1 := ⟨tw_365, tw_100, ⟨by decide, by decide⟩, by decide +kernel⟩
theorem mi_Room_pair : pm_mi pmTs y_Room_pair k_Room_pair 3 (some .int) 2 := ⟨tw_392, tw_100, ⟨by decide, by decide⟩, by decide +kernel⟩
theorem mi_Room_make : pm_mi pmTs y_Room_make k_Room_make 6 (some .int) 4 := ⟨tw_395, tw_100, ⟨by decide, by decide⟩, by decide +kernel⟩
theorem mi_Room_closure : pm_mi pmTs y_Room_closure k_Room_closure 4 (some .int) 3 := ⟨tw_490, tw_100, ⟨by decide, by decide⟩, by decide +kernel⟩
theorem mi_Room_first : pm_mi pmTs y_Room_first k_Room_first 2 (some .int) 1 := ⟨tw_440, tw_100, ⟨by decide, by decide⟩, by decide +kernel⟩
theorem mi_Room_isHere : pm_mi pmTs y_Room_isHere k_Room_isHere 4 (some .boolean) 1 := ⟨tw_402, tw_100, ⟨by decide, by decide⟩, by decide +kernel⟩
theorem mi_Room_second : pm_mi pmTs y_Room_second k_Room_second 2 (some .int) 1 := ⟨tw_444, tw_100, ⟨by decide, by decide⟩, by decide +kernel⟩
theorem mi_Room_third : pm_mi pmTs y_Room_third k_Room_third 2 (some .int) 1 := ⟨tw_571, tw_100, ⟨by decide, by decide⟩, by decide +kernel⟩
theorem mi_Room_setSecond : pm_mi pmTs y_Room_setSecond k_Room_setSecond 3 none 2 := ⟨tw_399, tw_100, ⟨by decide, by decide⟩, by decide +kernel⟩
theorem mi_Room_length : pm_mi pmTs y_Room_length k_Room_length 4 (some .int) 1 := ⟨tw_462, tw_100, ⟨by decide, by decide⟩, by decide +kernel⟩
theorem mi_Value_isPair : pm_mi pmTs y_Value_isPair k_Value_isPair 1 (some .boolean) 1 := ⟨tw_436, tw_98, ⟨by decide, by decide⟩, by decide +kernel⟩
theorem mi_Room_tail : pm_mi pmTs y_Room_tail k_Room_tail 5 (some .int) 2 := ⟨tw_469, tw_100, ⟨by decide, by decide⟩, by decide +kernel⟩
theorem mi_Room_binding : pm_mi pmTs y_Room_binding k_Room_binding 5 (some .int) 2 := ⟨tw_433, tw_100, ⟨by decide, by decide⟩, by decide +kernel⟩
theorem mi_Machine_begin : pm_mi pmTs y_Machine_begin k_Machine_begin 2 (some .int) 0 := ⟨tw_315, tw_102, ⟨by decide, by decide⟩, by decide +kernel⟩
theorem mi_Reader_read : pm_mi pmTs y_Reader_read k_Reader_read 2 (some .int) 0 := ⟨tw_319, tw_103, ⟨by decide, by decide⟩, by decide +kernel⟩
theorem mi_Reader_findForm : pm_mi pmTs y_Reader_findForm k_Reader_findForm 6 (some .int) 0 := ⟨tw_322, tw_103, ⟨by decide, by decide⟩, by decide +kernel⟩
theorem mi_Reader_isFault : pm_mi pmTs y_Reader_isFault k_Reader_isFault 3 (some .boolean) 3 := ⟨tw_341, tw_103, ⟨by decide, by decide⟩, by decide +kernel⟩
theorem mi_Reader_cellsOfPiece : pm_mi pmTs y_Reader_cellsOfPiece k_Reader_cellsOfPiece 4 (some .int) 3 := ⟨tw_344, tw_103, ⟨by decide, by decide⟩, by decide +kernel⟩
theorem mi_Reader_learnSymbols : pm_mi pmTs y_Reader_learnSymbols k_Reader_learnSymbols 4 (some .boolean) 0 := ⟨tw_347, tw_103, ⟨by decide, by decide⟩, by decide +kernel⟩
theorem mi_Reader_isSymbol : pm_mi pmTs y_Reader_isSymbol k_Reader_isSymbol 3 (some .boolean) 2 := ⟨tw_350, tw_103, ⟨by decide, by decide⟩, by decide +kernel⟩
theorem mi_Reader_build : pm_mi pmTs y_Reader_build k_Reader_build 7 none 0 := ⟨tw_384, tw_103, ⟨by decide, by decide⟩, by decide +kernel⟩
theorem mi_Reader_place : pm_mi pmTs y_Reader_place k_Reader_place 6 none 3 := ⟨tw_387, tw_103, ⟨by decide, by decide⟩, by decide +kernel⟩
theorem mi_Value_of : pm_mi pmTs y_Value_of k_Value_of 2 (some .int) 2 := ⟨tw_191, tw_98, ⟨by decide, by decide⟩, by decide +kernel⟩
theorem mi_Reader_wordValue : pm_mi pmTs y_Reader_wordValue k_Reader_wordValue 4 (some .int) 2 := ⟨tw_405, tw_103, ⟨by decide, by decide⟩, by decide +kernel⟩
theorem mi_Machine_evaluateNext : pm_mi pmTs y_Machine_evaluateNext k_Machine_evaluateNext 3 (some .int) 2 := ⟨tw_419, tw_102, ⟨by decide, by decide⟩, by decide +kernel⟩
theorem mi_Machine_endForm : pm_mi pmTs y_Machine_endForm k_Machine_endForm 1 none 0 := ⟨tw_627, tw_102, ⟨by decide, by decide⟩, by decide +kernel⟩
theorem mi_Machine_returnNext : pm_mi pmTs y_Machine_returnNext k_Machine_returnNext 2 (some .int) 1 := ⟨tw_448, tw_102, ⟨by decide, by decide⟩, by decide +kernel⟩
theorem mi_Machine_evaluate : pm_mi pmTs y_Machine_evaluate k_Machine_evaluate 2 (some .int) 0 := ⟨tw_422, tw_102, ⟨by decide, by decide⟩, by decide +kernel⟩
theorem mi_Value_isSymbol : pm_mi pmTs y_Value_isSymbol k_Value_isSymbol 1 (some .boolean) 1 := ⟨tw_425, tw_98, ⟨by decide, by decide⟩, by decide +kernel⟩
theorem mi_Machine_evaluateSymbol : pm_mi pmTs y_Machine_evaluateSymbol k_Machine_evaluateSymbol 3 (some .int) 0 := ⟨tw_429, tw_102, ⟨by decide, by decide⟩, by decide +kernel⟩
theorem mi_Machine_evaluateQuote : pm_mi pmTs y_Machine_evaluateQuote k_Machine_evaluateQuote 1 (some .int) 0 := ⟨tw_458, tw_102, ⟨by decide, by decide⟩, by decide +kernel⟩
theorem mi_Machine_part : pm_mi pmTs y_Machine_part k_Machine_part 2 (some .int) 1 := ⟨tw_465, tw_102, ⟨by decide, by decide⟩, by decide +kernel⟩
theorem mi_Machine_evaluateIf : pm_mi pmTs y_Machine_evaluateIf k_Machine_evaluateIf 2 (some .int) 0 := ⟨tw_472, tw_102, ⟨by decide, by decide⟩, by decide +kernel⟩
theorem mi_Machine_evaluateUnder : pm_mi pmTs y_Machine_evaluateUnder k_Machine_evaluateUnder 5 (some .int) 4 := ⟨tw_475, tw_102, ⟨by decide, by decide⟩, by decide +kernel⟩
theorem mi_Machine_evaluateLambda : pm_mi pmTs y_Machine_evaluateLambda k_Machine_evaluateLambda 1 (some .int) 0 := ⟨tw_482, tw_102, ⟨by decide, by decide⟩, by decide +kernel⟩
theorem mi_Machine_areParameters : pm_mi pmTs y_Machine_areParameters k_Machine_areParameters 4 (some .boolean) 1 := ⟨tw_485, tw_102, ⟨by decide, by decide⟩, by decide +kernel⟩
theorem mi_Machine_evaluateNaming : pm_mi pmTs y_Machine_evaluateNaming k_Machine_evaluateNaming 3 (some .int) 2 := ⟨tw_493, tw_102, ⟨by decide, by decide⟩, by decide +kernel⟩
theorem mi_Machine_choose : pm_mi pmTs y_Machine_choose k_Machine_choose 3 (some .int) 0 := ⟨tw_506, tw_102, ⟨by decide, by decide⟩, by decide +kernel⟩
theorem mi_Machine_define : pm_mi pmTs y_Machine_define k_Machine_define 2 (some .int) 0 := ⟨tw_521, tw_102, ⟨by decide, by decide⟩, by decide +kernel⟩
theorem mi_Machine_assign : pm_mi pmTs y_Machine_assign k_Machine_assign 3 (some .int) 0 := ⟨tw_528, tw_102, ⟨by decide, by decide⟩, by decide +kernel⟩
theorem mi_Machine_keepValue : pm_mi pmTs y_Machine_keepValue k_Machine_keepValue 1 (some .boolean) 0 := ⟨tw_532, tw_102, ⟨by decide, by decide⟩, by decide +kernel⟩
theorem mi_Machine_nextArgument : pm_mi pmTs y_Machine_nextArgument k_Machine_nextArgument 2 (some .int) 0 := ⟨tw_544, tw_102, ⟨by decide, by decide⟩, by decide +kernel⟩
theorem mi_Machine_apply : pm_mi pmTs y_Machine_apply k_Machine_apply 5 (some .int) 0 := ⟨tw_551, tw_102, ⟨by decide, by decide⟩, by decide +kernel⟩
theorem mi_Machine_faultOfCall : pm_mi pmTs y_Machine_faultOfCall k_Machine_faultOfCall 3 (some .int) 2 := ⟨tw_554, tw_102, ⟨by decide, by decide⟩, by decide +kernel⟩
theorem mi_Machine_faultOfPrimitive : pm_mi pmTs y_Machine_faultOfPrimitive k_Machine_faultOfPrimitive 5 (some .int) 2 := ⟨tw_558, tw_102, ⟨by decide, by decide⟩, by decide +kernel⟩
theorem mi_Value_isNumber : pm_mi pmTs y_Value_isNumber k_Value_isNumber 1 (some .boolean) 1 := ⟨tw_561, tw_98, ⟨by decide, by decide⟩, by decide +kernel⟩
theorem mi_Machine_cellsOfCall : pm_mi pmTs y_Machine_cellsOfCall k_Machine_cellsOfCall 2 (some .int) 2 := ⟨tw_564, tw_102, ⟨by decide, by decide⟩, by decide +kernel⟩
theorem mi_Machine_primitiveResult : pm_mi pmTs y_Machine_primitiveResult k_Machine_primitiveResult 6 (some .int) 3 := ⟨tw_574, tw_102, ⟨by decide, by decide⟩, by decide +kernel⟩
theorem mi_Machine_truth : pm_mi pmTs y_Machine_truth k_Machine_truth 1 (some .int) 1 := ⟨tw_578, tw_102, ⟨by decide, by decide⟩, by decide +kernel⟩
theorem mi_Machine_listOf : pm_mi pmTs y_Machine_listOf k_Machine_listOf 6 (some .int) 2 := ⟨tw_581, tw_102, ⟨by decide, by decide⟩, by decide +kernel⟩
theorem mi_Machine_boundEnvironment : pm_mi pmTs y_Machine_boundEnvironment k_Machine_boundEnvironment 9 (some .int) 3 := ⟨tw_567, tw_102, ⟨by decide, by decide⟩, by decide +kernel⟩
theorem mi_Printer_printNumber : pm_mi pmTs y_Printer_printNumber k_Printer_printNumber 4 none 1 := ⟨tw_593, tw_104, ⟨by decide, by decide⟩, by decide +kernel⟩
theorem mi_Printer_printName : pm_mi pmTs y_Printer_printName k_Printer_printName 5 none 1 := ⟨tw_608, tw_104, ⟨by decide, by decide⟩, by decide +kernel⟩
theorem mi_Md_isNumber : pm_mi pmTs y_Md_isNumber k_Md_isNumber 1 (some .boolean) 1 := ⟨tw_794, tw_105, ⟨by decide, by decide⟩, by decide +kernel⟩
theorem mi_Md_isSymbol : pm_mi pmTs y_Md_isSymbol k_Md_isSymbol 1 (some .boolean) 1 := ⟨tw_803, tw_105, ⟨by decide, by decide⟩, by decide +kernel⟩
theorem mi_Md_isThing : pm_mi pmTs y_Md_isThing k_Md_isThing 1 (some .boolean) 1 := ⟨tw_749, tw_105, ⟨by decide, by decide⟩, by decide +kernel⟩
theorem mi_Md_isPair : pm_mi pmTs y_Md_isPair k_Md_isPair 2 (some .boolean) 1 := ⟨tw_788, tw_105, ⟨by decide, by decide⟩, by decide +kernel⟩
theorem mi_Md_isClosure : pm_mi pmTs y_Md_isClosure k_Md_isClosure 2 (some .boolean) 1 := ⟨tw_836, tw_105, ⟨by decide, by decide⟩, by decide +kernel⟩
theorem mi_Md_wrap : pm_mi pmTs y_Md_wrap k_Md_wrap 1 (some .int) 1 := ⟨tw_772, tw_105, ⟨by decide, by decide⟩, by decide +kernel⟩
theorem mi_Md_car : pm_mi pmTs y_Md_car k_Md_car 2 (some .int) 1 := ⟨tw_818, tw_105, ⟨by decide, by decide⟩, by decide +kernel⟩
theorem mi_Md_cdr : pm_mi pmTs y_Md_cdr k_Md_cdr 2 (some .int) 1 := ⟨tw_815, tw_105, ⟨by decide, by decide⟩, by decide +kernel⟩
theorem mi_Md_mark : pm_mi pmTs y_Md_mark k_Md_mark 2 none 1 := ⟨tw_746, tw_105, ⟨by decide, by decide⟩, by decide +kernel⟩
theorem mi_Md_live : pm_mi pmTs y_Md_live k_Md_live 4 (some .int) 0 := ⟨tw_743, tw_105, ⟨by decide, by decide⟩, by decide +kernel⟩
theorem mi_Md_room : pm_mi pmTs y_Md_room k_Md_room 4 (some .boolean) 1 := ⟨tw_740, tw_105, ⟨by decide, by decide⟩, by decide +kernel⟩
theorem mi_Md_make : pm_mi pmTs y_Md_make k_Md_make 6 (some .int) 4 := ⟨tw_763, tw_105, ⟨by decide, by decide⟩, by decide +kernel⟩
theorem mi_Md_pair : pm_mi pmTs y_Md_pair k_Md_pair 3 (some .int) 2 := ⟨tw_760, tw_105, ⟨by decide, by decide⟩, by decide +kernel⟩
theorem mi_Md_feed : pm_mi pmTs y_Md_feed k_Md_feed 5 (some .boolean) 2 := ⟨tw_703, tw_105, ⟨by decide, by decide⟩, by decide +kernel⟩
theorem mi_Md_isBlank : pm_mi pmTs y_Md_isBlank k_Md_isBlank 1 (some .boolean) 1 := ⟨tw_719, tw_105, ⟨by decide, by decide⟩, by decide +kernel⟩
theorem mi_Md_isSign : pm_mi pmTs y_Md_isSign k_Md_isSign 1 (some .boolean) 1 := ⟨tw_725, tw_105, ⟨by decide, by decide⟩, by decide +kernel⟩
theorem mi_Md_skip : pm_mi pmTs y_Md_skip k_Md_skip 3 (some .int) 1 := ⟨tw_716, tw_105, ⟨by decide, by decide⟩, by decide +kernel⟩
theorem mi_Md_tokenEnd : pm_mi pmTs y_Md_tokenEnd k_Md_tokenEnd 3 (some .int) 1 := ⟨tw_722, tw_105, ⟨by decide, by decide⟩, by decide +kernel⟩
theorem mi_Md_drop : pm_mi pmTs y_Md_drop k_Md_drop 3 none 1 := ⟨tw_776, tw_105, ⟨by decide, by decide⟩, by decide +kernel⟩
theorem mi_Md_isFigure : pm_mi pmTs y_Md_isFigure k_Md_isFigure 6 (some .boolean) 2 := ⟨tw_731, tw_105, ⟨by decide, by decide⟩, by decide +kernel⟩
theorem mi_Md_figure : pm_mi pmTs y_Md_figure k_Md_figure 5 (some .int) 2 := ⟨tw_769, tw_105, ⟨by decide, by decide⟩, by decide +kernel⟩
theorem mi_Md_isNil : pm_mi pmTs y_Md_isNil k_Md_isNil 3 (some .boolean) 2 := ⟨tw_734, tw_105, ⟨by decide, by decide⟩, by decide +kernel⟩
theorem mi_Md_symbolOf : pm_mi pmTs y_Md_symbolOf k_Md_symbolOf 6 (some .int) 2 := ⟨tw_737, tw_105, ⟨by decide, by decide⟩, by decide +kernel⟩
theorem mi_Md_atom : pm_mi pmTs y_Md_atom k_Md_atom 3 (some .int) 2 := ⟨tw_766, tw_105, ⟨by decide, by decide⟩, by decide +kernel⟩
theorem mi_Md_meet : pm_mi pmTs y_Md_meet k_Md_meet 4 (some .boolean) 2 := ⟨tw_728, tw_105, ⟨by decide, by decide⟩, by decide +kernel⟩
theorem mi_Md_lookOver : pm_mi pmTs y_Md_lookOver k_Md_lookOver 5 (some .int) 0 := ⟨tw_713, tw_105, ⟨by decide, by decide⟩, by decide +kernel⟩
theorem mi_Md_arrived : pm_mi pmTs y_Md_arrived k_Md_arrived 5 none 2 := ⟨tw_756, tw_105, ⟨by decide, by decide⟩, by decide +kernel⟩
theorem mi_Md_read : pm_mi pmTs y_Md_read k_Md_read 4 none 0 := ⟨tw_753, tw_105, ⟨by decide, by decide⟩, by decide +kernel⟩
theorem mi_Md_reading : pm_mi pmTs y_Md_reading k_Md_reading 4 (some .int) 0 := ⟨tw_710, tw_105, ⟨by decide, by decide⟩, by decide +kernel⟩
theorem mi_Md_push : pm_mi pmTs y_Md_push k_Md_push 4 (some .int) 3 := ⟨tw_869, tw_105, ⟨by decide, by decide⟩, by decide +kernel⟩
theorem mi_Md_give : pm_mi pmTs y_Md_give k_Md_give 2 (some .int) 1 := ⟨tw_851, tw_105, ⟨by decide, by decide⟩, by decide +kernel⟩
theorem mi_Md_go : pm_mi pmTs y_Md_go k_Md_go 3 (some .int) 2 := ⟨tw_842, tw_105, ⟨by decide, by decide⟩, by decide +kernel⟩
theorem mi_Md_lengthOf : pm_mi pmTs y_Md_lengthOf k_Md_lengthOf 4 (some .int) 1 := ⟨tw_830, tw_105, ⟨by decide, by decide⟩, by decide +kernel⟩
theorem mi_Md_at : pm_mi pmTs y_Md_at k_Md_at 5 (some .int) 2 := ⟨tw_833, tw_105, ⟨by decide, by decide⟩, by decide +kernel⟩
theorem mi_Md_binding : pm_mi pmTs y_Md_binding k_Md_binding 4 (some .int) 2 := ⟨tw_854, tw_105, ⟨by decide, by decide⟩, by decide +kernel⟩
theorem mi_Md_lookUp : pm_mi pmTs y_Md_lookUp k_Md_lookUp 3 (some .int) 0 := ⟨tw_860, tw_105, ⟨by decide, by decide⟩, by decide +kernel⟩
theorem mi_Md_areParameters : pm_mi pmTs y_Md_areParameters k_Md_areParameters 4 (some .boolean) 1 := ⟨tw_866, tw_105, ⟨by decide, by decide⟩, by decide +kernel⟩
theorem mi_Md_special : pm_mi pmTs y_Md_special k_Md_special 6 (some .int) 1 := ⟨tw_863, tw_105, ⟨by decide, by decide⟩, by decide +kernel⟩
theorem mi_Md_evaluate : pm_mi pmTs y_Md_evaluate k_Md_evaluate 2 (some .int) 0 := ⟨tw_857, tw_105, ⟨by decide, by decide⟩, by decide +kernel⟩
theorem mi_Md_back : pm_mi pmTs y_Md_back k_Md_back 5 (some .int) 0 := ⟨tw_779, tw_105, ⟨by decide, by decide⟩, by decide +kernel⟩
theorem mi_Md_argument : pm_mi pmTs y_Md_argument k_Md_argument 3 (some .int) 1 := ⟨tw_824, tw_105, ⟨by decide, by decide⟩, by decide +kernel⟩
theorem mi_Md_apply : pm_mi pmTs y_Md_apply k_Md_apply 8 (some .int) 1 := ⟨tw_827, tw_105, ⟨by decide, by decide⟩, by decide +kernel⟩
theorem mi_Md_listed : pm_mi pmTs y_Md_listed k_Md_listed 5 (some .int) 2 := ⟨tw_845, tw_105, ⟨by decide, by decide⟩, by decide +kernel⟩
theorem mi_Md_done : pm_mi pmTs y_Md_done k_Md_done 2 (some .int) 1 := ⟨tw_848, tw_105, ⟨by decide, by decide⟩, by decide +kernel⟩
theorem mi_Md_enter : pm_mi pmTs y_Md_enter k_Md_enter 6 (some .int) 3 := ⟨tw_839, tw_105, ⟨by decide, by decide⟩, by decide +kernel⟩
theorem mi_Md_print : pm_mi pmTs y_Md_print k_Md_print 2 none 0 := ⟨tw_782, tw_105, ⟨by decide, by decide⟩, by decide +kernel⟩
theorem mi_Md_begin : pm_mi pmTs y_Md_begin k_Md_begin 3 (some .int) 2 := ⟨tw_785, tw_105, ⟨by decide, by decide⟩, by decide +kernel⟩
theorem mi_Md_put : pm_mi pmTs y_Md_put k_Md_put 2 none 1 := ⟨tw_800, tw_105, ⟨by decide, by decide⟩, by decide +kernel⟩
theorem mi_Md_putDots : pm_mi pmTs y_Md_putDots k_Md_putDots 1 none 0 := ⟨tw_809, tw_105, ⟨by decide, by decide⟩, by decide +kernel⟩
theorem mi_Md_putPlain : pm_mi pmTs y_Md_putPlain k_Md_putPlain 2 none 1 := ⟨tw_791, tw_105, ⟨by decide, by decide⟩, by decide +kernel⟩
theorem mi_Md_putName : pm_mi pmTs y_Md_putName k_Md_putName 3 none 1 := ⟨tw_806, tw_105, ⟨by decide, by decide⟩, by decide +kernel⟩
theorem mi_Md_putNumber : pm_mi pmTs y_Md_putNumber k_Md_putNumber 4 none 1 := ⟨tw_797, tw_105, ⟨by decide, by decide⟩, by decide +kernel⟩
theorem mi_Md_further : pm_mi pmTs y_Md_further k_Md_further 3 (some .int) 1 := ⟨tw_812, tw_105, ⟨by decide, by decide⟩, by decide +kernel⟩
theorem mi_Md_clearAll : pm_mi pmTs y_Md_clearAll k_Md_clearAll 1 none 0 := ⟨tw_821, tw_105, ⟨by decide, by decide⟩, by decide +kernel⟩
theorem mi_Md_run : pm_mi pmTs y_Md_run k_Md_run 4 (some .int) 1 := ⟨tw_707, tw_105, ⟨by decide, by decide⟩, by decide +kernel⟩
theorem mi_Md_outSize : pm_mi pmTs y_Md_outSize k_Md_outSize 1 (some .int) 0 := ⟨tw_873, tw_105, ⟨by decide, by decide⟩, by decide +kernel⟩
theorem mi_Md_out : pm_mi pmTs y_Md_out k_Md_out 2 (some .int) 1 := ⟨tw_877, tw_105, ⟨by decide, by decide⟩, by decide +kernel⟩
theorem mi_Md_clearOut : pm_mi pmTs y_Md_clearOut k_Md_clearOut 1 none 0 := ⟨tw_881, tw_105, ⟨by decide, by decide⟩, by decide +kernel⟩
theorem mi_Md_liveCells : pm_mi pmTs y_Md_liveCells k_Md_liveCells 1 (some .int) 0 := ⟨tw_885, tw_105, ⟨by decide, by decide⟩, by decide +kernel⟩
theorem mi_Md_count : pm_mi pmTs y_Md_count k_Md_count 2 (some .int) 1 := ⟨tw_889, tw_105, ⟨by decide, by decide⟩, by decide +kernel⟩
end
section
theorem d_CL_feed_0 : decode k_CL_feed 0 = .ok (.aload_n 0, 1) := by decide +kernel
theorem d_CL_feed_1 : decode k_CL_feed 1 = .ok (.getfield 10, 3) := by decide +kernel
theorem d_CL_feed_4 : decode k_CL_feed 4 = .ok (.iload_n 1, 1) := by decide +kernel
theorem d_CL_feed_5 : decode k_CL_feed 5 = .ok (.iload_n 2, 1) := by decide +kernel
theorem d_CL_feed_6 : decode k_CL_feed 6 = .ok (.invokevirtual 74, 3) := by decide +kernel
theorem d_CL_feed_9 : decode k_CL_feed 9 = .ok (.ireturn, 1) := by decide +kernel
theorem d_CL_outSize_0 : decode k_CL_outSize 0 = .ok (.aload_n 0, 1) := by decide +kernel
theorem d_CL_outSize_1 : decode k_CL_outSize 1 = .ok (.getfield 19, 3) := by decide +kernel
theorem d_CL_outSize_4 : decode k_CL_outSize 4 = .ok (.getfield 82, 3) := by decide +kernel
theorem d_CL_outSize_7 : decode k_CL_outSize 7 = .ok (.ireturn, 1) := by decide +kernel
theorem d_CL_out_0 : decode k_CL_out 0 = .ok (.aload_n 0, 1) := by decide +kernel
theorem d_CL_out_1 : decode k_CL_out 1 = .ok (.getfield 19, 3) := by decide +kernel
theorem d_CL_out_4 : decode k_CL_out 4 = .ok (.iload_n 1, 1) := by decide +kernel
theorem d_CL_out_5 : decode k_CL_out 5 = .ok (.invokevirtual 86, 3) := by decide +kernel
theorem d_CL_out_8 : decode k_CL_out 8 = .ok (.ireturn, 1) := by decide +kernel
theorem d_CL_clearOut_0 : decode k_CL_clearOut 0 = .ok (.aload_n 0, 1) := by decide +kernel
theorem d_CL_clearOut_1 : decode k_CL_clearOut 1 = .ok (.getfield 19, 3) := by decide +kernel
theorem d_CL_clearOut_4 : decode k_CL_clearOut 4 = .ok (.iconst 0, 1) := by decide +kernel
theorem d_CL_clearOut_5 : decode k_CL_clearOut 5 = .ok (.putfield 82, 3) := by decide +kernel
theorem d_CL_clearOut_8 : decode k_CL_clearOut 8 = .ok (.return_, 1) := by decide +kernel
theorem d_CL_liveCells_0 : decode k_CL_liveCells 0 = .ok (.aload_n 0, 1) := by decide +kernel
theorem d_CL_liveCells_1 : decode k_CL_liveCells 1 = .ok (.getfield 51, 3) := by decide +kernel
theorem d_CL_liveCells_4 : decode k_CL_liveCells 4 = .ok (.invokevirtual 90, 3) := by decide +kernel
theorem d_CL_liveCells_7 : decode k_CL_liveCells 7 = .ok (.aload_n 0, 1) := by decide +kernel
theorem d_CL_liveCells_8 : decode k_CL_liveCells 8 = .ok (.getfield 51, 3) := by decide +kernel
theorem d_CL_liveCells_11 : decode k_CL_liveCells 11 = .ok (.getfield 93, 3) := by decide +kernel
theorem d_CL_liveCells_14 : decode k_CL_liveCells 14 = .ok (.ireturn, 1) := by decide +kernel
theorem d_CL_count_0 : decode k_CL_count 0 = .ok (.iload_n 1, 1) := by decide +kernel
theorem d_CL_count_1 : decode k_CL_count 1 = .ok (.tableswitch (63) (0) (3) #[31, 39, 47, 55], 31) := by decide +kernel
theorem d_CL_count_32 : decode k_CL_count 32 = .ok (.aload_n 0, 1) := by decide +kernel
theorem d_CL_count_33 : decode k_CL_count 33 = .ok (.getfield 10, 3) := by decide +kernel
theorem d_CL_count_36 : decode k_CL_count 36 = .ok (.getfield 96, 3) := by decide +kernel
theorem d_CL_count_39 : decode k_CL_count 39 = .ok (.ireturn, 1) := by decide +kernel
theorem d_CL_count_40 : decode k_CL_count 40 = .ok (.aload_n 0, 1) := by decide +kernel
theorem d_CL_count_41 : decode k_CL_count 41 = .ok (.getfield 33, 3) := by decide +kernel
theorem d_CL_count_44 : decode k_CL_count 44 = .ok (.getfield 97, 3) := by decide +kernel
theorem d_CL_count_47 : decode k_CL_count 47 = .ok (.ireturn, 1) := by decide +kernel
theorem d_CL_count_48 : decode k_CL_count 48 = .ok (.aload_n 0, 1) := by decide +kernel
theorem d_CL_count_49 : decode k_CL_count 49 = .ok (.getfield 26, 3) := by decide +kernel
theorem d_CL_count_52 : decode k_CL_count 52 = .ok (.getfield 100, 3) := by decide +kernel
theorem d_CL_count_55 : decode k_CL_count 55 = .ok (.ireturn, 1) := by decide +kernel
theorem d_CL_count_56 : decode k_CL_count 56 = .ok (.aload_n 0, 1) := by decide +kernel
theorem d_CL_count_57 : decode k_CL_count 57 = .ok (.getfield 70, 3) := by decide +kernel
theorem d_CL_count_60 : decode k_CL_count 60 = .ok (.getfield 103, 3) := by decide +kernel
theorem d_CL_count_63 : decode k_CL_count 63 = .ok (.ireturn, 1) := by decide +kernel
theorem d_CL_count_64 : decode k_CL_count 64 = .ok (.iconst (-1), 1) := by decide +kernel
theorem d_CL_count_65 : decode k_CL_count 65 = .ok (.ireturn, 1) := by decide +kernel
theorem d_Text_append_0 : decode k_Text_append 0 = .ok (.iload_n 2, 1) := by decide +kernel
theorem d_Text_append_1 : decode k_Text_append 1 = .ok (.iconst 1, 1) := by decide +kernel
theorem d_Text_append_2 : decode k_Text_append 2 = .ok (.if_icmp .lt (19), 3) := by decide +kernel
theorem d_Text_append_5 : decode k_Text_append 5 = .ok (.iload_n 2, 1) := by decide +kernel
theorem d_Text_append_6 : decode k_Text_append 6 = .ok (.iconst 4, 1) := by decide +kernel
theorem d_Text_append_7 : decode k_Text_append 7 = .ok (.if_icmp .gt (14), 3) := by decide +kernel
theorem d_Text_append_10 : decode k_Text_append 10 = .ok (.aload_n 0, 1) := by decide +kernel
theorem d_Text_append_11 : decode k_Text_append 11 = .ok (.getfield 13, 3) := by decide +kernel
theorem d_Text_append_14 : decode k_Text_append 14 = .ok (.iload_n 2, 1) := by decide +kernel
theorem d_Text_append_15 : decode k_Text_append 15 = .ok (.iadd, 1) := by decide +kernel
theorem d_Text_append_16 : decode k_Text_append 16 = .ok (.bipush 120, 2) := by decide +kernel
theorem d_Text_append_18 : decode k_Text_append 18 = .ok (.if_icmp .le (5), 3) := by decide +kernel
theorem d_Text_append_21 : decode k_Text_append 21 = .ok (.iconst 0, 1) := by decide +kernel
theorem d_Text_append_22 : decode k_Text_append 22 = .ok (.ireturn, 1) := by decide +kernel
theorem d_Text_append_23 : decode k_Text_append 23 = .ok (.iconst 0, 1) := by decide +kernel
theorem d_Text_append_24 : decode k_Text_append 24 = .ok (.istore_n 3, 1) := by decide +kernel
theorem d_Text_append_25 : decode k_Text_append 25 = .ok (.iload_n 3, 1) := by decide +kernel
theorem d_Text_append_26 : decode k_Text_append 26 = .ok (.iload_n 2, 1) := by decide +kernel
theorem d_Text_append_27 : decode k_Text_append 27 = .ok (.if_icmp .ge (27), 3) := by decide +kernel
theorem d_Text_append_30 : decode k_Text_append 30 = .ok (.iload_n 1, 1) := by decide +kernel
theorem d_Text_append_31 : decode k_Text_append 31 = .ok (.bipush 8, 2) := by decide +kernel
theorem d_Text_append_33 : decode k_Text_append 33 = .ok (.iload_n 3, 1) := by decide +kernel
theorem d_Text_append_34 : decode k_Text_append 34 = .ok (.imul, 1) := by decide +kernel
theorem d_Text_append_35 : decode k_Text_append 35 = .ok (.iushr, 1) := by decide +kernel
theorem d_Text_append_36 : decode k_Text_append 36 = .ok (.sipush 255, 3) := by decide +kernel
theorem d_Text_append_39 : decode k_Text_append 39 = .ok (.iand, 1) := by decide +kernel
theorem d_Text_append_40 : decode k_Text_append 40 = .ok (.invokestatic 17, 3) := by decide +kernel
theorem d_Text_append_43 : decode k_Text_append 43 = .ok (.ifCond .ne (5), 3) := by decide +kernel
theorem d_Text_append_46 : decode k_Text_append 46 = .ok (.iconst 0, 1) := by decide +kernel
theorem d_Text_append_47 : decode k_Text_append 47 = .ok (.ireturn, 1) := by decide +kernel
theorem d_Text_append_48 : decode k_Text_append 48 = .ok (.iinc 3 1, 3) := by decide +kernel
theorem d_Text_append_51 : decode k_Text_append 51 = .ok (.goto (-26), 3) := by decide +kernel
theorem d_Text_append_54 : decode k_Text_append 54 = .ok (.iload_n 2, 1) := by decide +kernel
theorem d_Text_append_55 : decode k_Text_append 55 = .ok (.iconst 1, 1) := by decide +kernel
theorem d_Text_append_56 : decode k_Text_append 56 = .ok (.isub, 1) := by decide +kernel
theorem d_Text_append_57 : decode k_Text_append 57 = .ok (.istore_n 3, 1) := by decide +kernel
theorem d_Text_append_58 : decode k_Text_append 58 = .ok (.iload_n 3, 1) := by decide +kernel
theorem d_Text_append_59 : decode k_Text_append 59 = .ok (.ifCond .lt (48), 3) := by decide +kernel
theorem d_Text_append_62 : decode k_Text_append 62 = .ok (.aload_n 0, 1) := by decide +kernel
theorem d_Text_append_63 : decode k_Text_append 63 = .ok (.getfield 13, 3) := by decide +kernel
theorem d_Text_append_66 : decode k_Text_append 66 = .ok (.bipush 120, 2) := by decide +kernel
theorem d_Text_append_68 : decode k_Text_append 68 = .ok (.if_icmp .ge (39), 3) := by decide +kernel
theorem d_Text_append_71 : decode k_Text_append 71 = .ok (.aload_n 0, 1) := by decide +kernel
theorem d_Text_append_72 : decode k_Text_append 72 = .ok (.getfield 9, 3) := by decide +kernel
theorem d_Text_append_75 : decode k_Text_append 75 = .ok (.aload_n 0, 1) := by decide +kernel
theorem d_Text_append_76 : decode k_Text_append 76 = .ok (.getfield 13, 3) := by decide +kernel
theorem d_Text_append_79 : decode k_Text_append 79 = .ok (.iload_n 1, 1) := by decide +kernel
theorem d_Text_append_80 : decode k_Text_append 80 = .ok (.bipush 8, 2) := by decide +kernel
theorem d_Text_append_82 : decode k_Text_append 82 = .ok (.iload_n 3, 1) := by decide +kernel
theorem d_Text_append_83 : decode k_Text_append 83 = .ok (.imul, 1) := by decide +kernel
theorem d_Text_append_84 : decode k_Text_append 84 = .ok (.iushr, 1) := by decide +kernel
theorem d_Text_append_85 : decode k_Text_append 85 = .ok (.sipush 255, 3) := by decide +kernel
theorem d_Text_append_88 : decode k_Text_append 88 = .ok (.iand, 1) := by decide +kernel
theorem d_Text_append_89 : decode k_Text_append 89 = .ok (.i2c, 1) := by decide +kernel
theorem d_Text_append_90 : decode k_Text_append 90 = .ok (.castore, 1) := by decide +kernel
theorem d_Text_append_91 : decode k_Text_append 91 = .ok (.aload_n 0, 1) := by decide +kernel
theorem d_Text_append_92 : decode k_Text_append 92 = .ok (.dup, 1) := by decide +kernel
theorem d_Text_append_93 : decode k_Text_append 93 = .ok (.getfield 13, 3) := by decide +kernel
theorem d_Text_append_96 : decode k_Text_append 96 = .ok (.iconst 1, 1) := by decide +kernel
theorem d_Text_append_97 : decode k_Text_append 97 = .ok (.iadd, 1) := by decide +kernel
theorem d_Text_append_98 : decode k_Text_append 98 = .ok (.putfield 13, 3) := by decide +kernel
theorem d_Text_append_101 : decode k_Text_append 101 = .ok (.iinc 3 (-1), 3) := by decide +kernel
theorem d_Text_append_104 : decode k_Text_append 104 = .ok (.goto (-46), 3) := by decide +kernel
theorem d_Text_append_107 : decode k_Text_append 107 = .ok (.iconst 1, 1) := by decide +kernel
theorem d_Text_append_108 : decode k_Text_append 108 = .ok (.ireturn, 1) := by decide +kernel
theorem d_Text_at_0 : decode k_Text_at 0 = .ok (.iload_n 1, 1) := by decide +kernel
theorem d_Text_at_1 : decode k_Text_at 1 = .ok (.ifCond .lt (20), 3) := by decide +kernel
theorem d_Text_at_4 : decode k_Text_at 4 = .ok (.iload_n 1, 1) := by decide +kernel
theorem d_Text_at_5 : decode k_Text_at 5 = .ok (.aload_n 0, 1) := by decide +kernel
theorem d_Text_at_6 : decode k_Text_at 6 = .ok (.getfield 13, 3) := by decide +kernel
theorem d_Text_at_9 : decode k_Text_at 9 = .ok (.if_icmp .ge (12), 3) := by decide +kernel
theorem d_Text_at_12 : decode k_Text_at 12 = .ok (.aload_n 0, 1) := by decide +kernel
theorem d_Text_at_13 : decode k_Text_at 13 = .ok (.getfield 9, 3) := by decide +kernel
theorem d_Text_at_16 : decode k_Text_at 16 = .ok (.iload_n 1, 1) := by decide +kernel
theorem d_Text_at_17 : decode k_Text_at 17 = .ok (.caload, 1) := by decide +kernel
theorem d_Text_at_18 : decode k_Text_at 18 = .ok (.goto (5), 3) := by decide +kernel
theorem d_Text_at_21 : decode k_Text_at 21 = .ok (.bipush 32, 2) := by decide +kernel
theorem d_Text_at_23 : decode k_Text_at 23 = .ok (.ireturn, 1) := by decide +kernel
theorem d_Text_drop_0 : decode k_Text_drop 0 = .ok (.iconst 0, 1) := by decide +kernel
theorem d_Text_drop_1 : decode k_Text_drop 1 = .ok (.iload_n 1, 1) := by decide +kernel
theorem d_Text_drop_2 : decode k_Text_drop 2 = .ok (.aload_n 0, 1) := by decide +kernel
theorem d_Text_drop_3 : decode k_Text_drop 3 = .ok (.getfield 13, 3) := by decide +kernel
theorem d_Text_drop_6 : decode k_Text_drop 6 = .ok (.invokestatic 21, 3) := by decide +kernel
theorem d_Text_drop_9 : decode k_Text_drop 9 = .ok (.invokestatic 27, 3) := by decide +kernel
theorem d_Text_drop_12 : decode k_Text_drop 12 = .ok (.istore_n 2, 1) := by decide +kernel
theorem d_Text_drop_13 : decode k_Text_drop 13 = .ok (.iload_n 2, 1) := by decide +kernel
theorem d_Text_drop_14 : decode k_Text_drop 14 = .ok (.istore_n 3, 1) := by decide +kernel
theorem d_Text_drop_15 : decode k_Text_drop 15 = .ok (.iload_n 3, 1) := by decide +kernel
theorem d_Text_drop_16 : decode k_Text_drop 16 = .ok (.aload_n 0, 1) := by decide +kernel
theorem d_Text_drop_17 : decode k_Text_drop 17 = .ok (.getfield 13, 3) := by decide +kernel
theorem d_Text_drop_20 : decode k_Text_drop 20 = .ok (.if_icmp .ge (23), 3) := by decide +kernel
theorem d_Text_drop_23 : decode k_Text_drop 23 = .ok (.aload_n 0, 1) := by decide +kernel
theorem d_Text_drop_24 : decode k_Text_drop 24 = .ok (.getfield 9, 3) := by decide +kernel
theorem d_Text_drop_27 : decode k_Text_drop 27 = .ok (.iload_n 3, 1) := by decide +kernel
theorem d_Text_drop_28 : decode k_Text_drop 28 = .ok (.iload_n 2, 1) := by decide +kernel
theorem d_Text_drop_29 : decode k_Text_drop 29 = .ok (.isub, 1) := by decide +kernel
theorem d_Text_drop_30 : decode k_Text_drop 30 = .ok (.aload_n 0, 1) := by decide +kernel
theorem d_Text_drop_31 : decode k_Text_drop 31 = .ok (.getfield 9, 3) := by decide +kernel
theorem d_Text_drop_34 : decode k_Text_drop 34 = .ok (.iload_n 3, 1) := by decide +kernel
theorem d_Text_drop_35 : decode k_Text_drop 35 = .ok (.caload, 1) := by decide +kernel
theorem d_Text_drop_36 : decode k_Text_drop 36 = .ok (.castore, 1) := by decide +kernel
theorem d_Text_drop_37 : decode k_Text_drop 37 = .ok (.iinc 3 1, 3) := by decide +kernel
theorem d_Text_drop_40 : decode k_Text_drop 40 = .ok (.goto (-25), 3) := by decide +kernel
theorem d_Text_drop_43 : decode k_Text_drop 43 = .ok (.aload_n 0, 1) := by decide +kernel
theorem d_Text_drop_44 : decode k_Text_drop 44 = .ok (.dup, 1) := by decide +kernel
theorem d_Text_drop_45 : decode k_Text_drop 45 = .ok (.getfield 13, 3) := by decide +kernel
theorem d_Text_drop_48 : decode k_Text_drop 48 = .ok (.iload_n 2, 1) := by decide +kernel
theorem d_Text_drop_49 : decode k_Text_drop 49 = .ok (.isub, 1) := by decide +kernel
theorem d_Text_drop_50 : decode k_Text_drop 50 = .ok (.putfield 13, 3) := by decide +kernel
theorem d_Text_drop_53 : decode k_Text_drop 53 = .ok (.return_, 1) := by decide +kernel
theorem d_Text_pieceEnd_0 : decode k_Text_pieceEnd 0 = .ok (.iload_n 1, 1) := by decide +kernel
theorem d_Text_pieceEnd_1 : decode k_Text_pieceEnd 1 = .ok (.iconst 1, 1) := by decide +kernel
theorem d_Text_pieceEnd_2 : decode k_Text_pieceEnd 2 = .ok (.iadd, 1) := by decide +kernel
theorem d_Text_pieceEnd_3 : decode k_Text_pieceEnd 3 = .ok (.istore_n 2, 1) := by decide +kernel
theorem d_Text_pieceEnd_4 : decode k_Text_pieceEnd 4 = .ok (.aload_n 0, 1) := by decide +kernel
theorem d_Text_pieceEnd_5 : decode k_Text_pieceEnd 5 = .ok (.iload_n 1, 1) := by decide +kernel
theorem d_Text_pieceEnd_6 : decode k_Text_pieceEnd 6 = .ok (.invokevirtual 30, 3) := by decide +kernel
theorem d_Text_pieceEnd_9 : decode k_Text_pieceEnd 9 = .ok (.invokestatic 34, 3) := by decide +kernel
theorem d_Text_pieceEnd_12 : decode k_Text_pieceEnd 12 = .ok (.ifCond .eq (28), 3) := by decide +kernel
theorem d_Text_pieceEnd_15 : decode k_Text_pieceEnd 15 = .ok (.iload_n 2, 1) := by decide +kernel
theorem d_Text_pieceEnd_16 : decode k_Text_pieceEnd 16 = .ok (.aload_n 0, 1) := by decide +kernel
theorem d_Text_pieceEnd_17 : decode k_Text_pieceEnd 17 = .ok (.getfield 13, 3) := by decide +kernel
theorem d_Text_pieceEnd_20 : decode k_Text_pieceEnd 20 = .ok (.if_icmp .ge (20), 3) := by decide +kernel
theorem d_Text_pieceEnd_23 : decode k_Text_pieceEnd 23 = .ok (.aload_n 0, 1) := by decide +kernel
theorem d_Text_pieceEnd_24 : decode k_Text_pieceEnd 24 = .ok (.iload_n 2, 1) := by decide +kernel
theorem d_Text_pieceEnd_25 : decode k_Text_pieceEnd 25 = .ok (.invokevirtual 30, 3) := by decide +kernel
theorem d_Text_pieceEnd_28 : decode k_Text_pieceEnd 28 = .ok (.invokestatic 34, 3) := by decide +kernel
theorem d_Text_pieceEnd_31 : decode k_Text_pieceEnd 31 = .ok (.ifCond .eq (9), 3) := by decide +kernel
theorem d_Text_pieceEnd_34 : decode k_Text_pieceEnd 34 = .ok (.iinc 2 1, 3) := by decide +kernel
theorem d_Text_pieceEnd_37 : decode k_Text_pieceEnd 37 = .ok (.goto (-22), 3) := by decide +kernel
theorem d_Text_pieceEnd_40 : decode k_Text_pieceEnd 40 = .ok (.iload_n 2, 1) := by decide +kernel
theorem d_Text_pieceEnd_41 : decode k_Text_pieceEnd 41 = .ok (.ireturn, 1) := by decide +kernel
theorem d_Text_isNumber_0 : decode k_Text_isNumber 0 = .ok (.aload_n 0, 1) := by decide +kernel
theorem d_Text_isNumber_1 : decode k_Text_isNumber 1 = .ok (.iload_n 1, 1) := by decide +kernel
theorem d_Text_isNumber_2 : decode k_Text_isNumber 2 = .ok (.invokevirtual 30, 3) := by decide +kernel
theorem d_Text_isNumber_5 : decode k_Text_isNumber 5 = .ok (.bipush 45, 2) := by decide +kernel
theorem d_Text_isNumber_7 : decode k_Text_isNumber 7 = .ok (.if_icmp .ne (9), 3) := by decide +kernel
theorem d_Text_isNumber_10 : decode k_Text_isNumber 10 = .ok (.iload_n 1, 1) := by decide +kernel
theorem d_Text_isNumber_11 : decode k_Text_isNumber 11 = .ok (.iconst 1, 1) := by decide +kernel
theorem d_Text_isNumber_12 : decode k_Text_isNumber 12 = .ok (.iadd, 1) := by decide +kernel
theorem d_Text_isNumber_13 : decode k_Text_isNumber 13 = .ok (.goto (4), 3) := by decide +kernel
theorem d_Text_isNumber_16 : decode k_Text_isNumber 16 = .ok (.iload_n 1, 1) := by decide +kernel
theorem d_Text_isNumber_17 : decode k_Text_isNumber 17 = .ok (.istore_n 3, 1) := by decide +kernel
theorem d_Text_isNumber_18 : decode k_Text_isNumber 18 = .ok (.iload_n 2, 1) := by decide +kernel
theorem d_Text_isNumber_19 : decode k_Text_isNumber 19 = .ok (.iload_n 3, 1) := by decide +kernel
theorem d_Text_isNumber_20 : decode k_Text_isNumber 20 = .ok (.isub, 1) := by decide +kernel
theorem d_Text_isNumber_21 : decode k_Text_isNumber 21 = .ok (.iconst 1, 1) := by decide +kernel
theorem d_Text_isNumber_22 : decode k_Text_isNumber 22 = .ok (.if_icmp .lt (11), 3) := by decide +kernel
theorem d_Text_isNumber_25 : decode k_Text_isNumber 25 = .ok (.iload_n 2, 1) := by decide +kernel
theorem d_Text_isNumber_26 : decode k_Text_isNumber 26 = .ok (.iload_n 3, 1) := by decide +kernel
theorem d_Text_isNumber_27 : decode k_Text_isNumber 27 = .ok (.isub, 1) := by decide +kernel
theorem d_Text_isNumber_28 : decode k_Text_isNumber 28 = .ok (.bipush 9, 2) := by decide +kernel
theorem d_Text_isNumber_30 : decode k_Text_isNumber 30 = .ok (.if_icmp .le (5), 3) := by decide +kernel
theorem d_Text_isNumber_33 : decode k_Text_isNumber 33 = .ok (.iconst 0, 1) := by decide +kernel
theorem d_Text_isNumber_34 : decode k_Text_isNumber 34 = .ok (.ireturn, 1) := by decide +kernel
theorem d_Text_isNumber_35 : decode k_Text_isNumber 35 = .ok (.iload_n 3, 1) := by decide +kernel
theorem d_Text_isNumber_36 : decode k_Text_isNumber 36 = .ok (.istore 4, 2) := by decide +kernel
theorem d_Text_isNumber_38 : decode k_Text_isNumber 38 = .ok (.iload 4, 2) := by decide +kernel
theorem d_Text_isNumber_40 : decode k_Text_isNumber 40 = .ok (.iload_n 2, 1) := by decide +kernel
theorem d_Text_isNumber_41 : decode k_Text_isNumber 41 = .ok (.if_icmp .ge (33), 3) := by decide +kernel
theorem d_Text_isNumber_44 : decode k_Text_isNumber 44 = .ok (.aload_n 0, 1) := by decide +kernel
theorem d_Text_isNumber_45 : decode k_Text_isNumber 45 = .ok (.iload 4, 2) := by decide +kernel
theorem d_Text_isNumber_47 : decode k_Text_isNumber 47 = .ok (.invokevirtual 30, 3) := by decide +kernel
theorem d_Text_isNumber_50 : decode k_Text_isNumber 50 = .ok (.bipush 48, 2) := by decide +kernel
theorem d_Text_isNumber_52 : decode k_Text_isNumber 52 = .ok (.if_icmp .lt (14), 3) := by decide +kernel
theorem d_Text_isNumber_55 : decode k_Text_isNumber 55 = .ok (.aload_n 0, 1) := by decide +kernel
theorem d_Text_isNumber_56 : decode k_Text_isNumber 56 = .ok (.iload 4, 2) := by decide +kernel
theorem d_Text_isNumber_58 : decode k_Text_isNumber 58 = .ok (.invokevirtual 30, 3) := by decide +kernel
theorem d_Text_isNumber_61 : decode k_Text_isNumber 61 = .ok (.bipush 57, 2) := by decide +kernel
theorem d_Text_isNumber_63 : decode k_Text_isNumber 63 = .ok (.if_icmp .le (5), 3) := by decide +kernel
theorem d_Text_isNumber_66 : decode k_Text_isNumber 66 = .ok (.iconst 0, 1) := by decide +kernel
theorem d_Text_isNumber_67 : decode k_Text_isNumber 67 = .ok (.ireturn, 1) := by decide +kernel
theorem d_Text_isNumber_68 : decode k_Text_isNumber 68 = .ok (.iinc 4 1, 3) := by decide +kernel
theorem d_Text_isNumber_71 : decode k_Text_isNumber 71 = .ok (.goto (-33), 3) := by decide +kernel
theorem d_Text_isNumber_74 : decode k_Text_isNumber 74 = .ok (.iconst 1, 1) := by decide +kernel
theorem d_Text_isNumber_75 : decode k_Text_isNumber 75 = .ok (.ireturn, 1) := by decide +kernel
theorem d_Text_number_0 : decode k_Text_number 0 = .ok (.aload_n 0, 1) := by decide +kernel
theorem d_Text_number_1 : decode k_Text_number 1 = .ok (.iload_n 1, 1) := by decide +kernel
theorem d_Text_number_2 : decode k_Text_number 2 = .ok (.invokevirtual 30, 3) := by decide +kernel
theorem d_Text_number_5 : decode k_Text_number 5 = .ok (.bipush 45, 2) := by decide +kernel
theorem d_Text_number_7 : decode k_Text_number 7 = .ok (.if_icmp .ne (7), 3) := by decide +kernel
theorem d_Text_number_10 : decode k_Text_number 10 = .ok (.iconst 1, 1) := by decide +kernel
theorem d_Text_number_11 : decode k_Text_number 11 = .ok (.goto (4), 3) := by decide +kernel
theorem d_Text_number_14 : decode k_Text_number 14 = .ok (.iconst 0, 1) := by decide +kernel
theorem d_Text_number_15 : decode k_Text_number 15 = .ok (.istore_n 3, 1) := by decide +kernel
theorem d_Text_number_16 : decode k_Text_number 16 = .ok (.iconst 0, 1) := by decide +kernel
theorem d_Text_number_17 : decode k_Text_number 17 = .ok (.istore 4, 2) := by decide +kernel
theorem d_Text_number_19 : decode k_Text_number 19 = .ok (.iload_n 3, 1) := by decide +kernel
theorem d_Text_number_20 : decode k_Text_number 20 = .ok (.ifCond .eq (9), 3) := by decide +kernel
theorem d_Text_number_23 : decode k_Text_number 23 = .ok (.iload_n 1, 1) := by decide +kernel
theorem d_Text_number_24 : decode k_Text_number 24 = .ok (.iconst 1, 1) := by decide +kernel
theorem d_Text_number_25 : decode k_Text_number 25 = .ok (.iadd, 1) := by decide +kernel
theorem d_Text_number_26 : decode k_Text_number 26 = .ok (.goto (4), 3) := by decide +kernel
theorem d_Text_number_29 : decode k_Text_number 29 = .ok (.iload_n 1, 1) := by decide +kernel
theorem d_Text_number_30 : decode k_Text_number 30 = .ok (.istore 5, 2) := by decide +kernel
theorem d_Text_number_32 : decode k_Text_number 32 = .ok (.iload 5, 2) := by decide +kernel
theorem d_Text_number_34 : decode k_Text_number 34 = .ok (.iload_n 2, 1) := by decide +kernel
theorem d_Text_number_35 : decode k_Text_number 35 = .ok (.if_icmp .ge (26), 3) := by decide +kernel
theorem d_Text_number_38 : decode k_Text_number 38 = .ok (.bipush 10, 2) := by decide +kernel
theorem d_Text_number_40 : decode k_Text_number 40 = .ok (.iload 4, 2) := by decide +kernel
theorem d_Text_number_42 : decode k_Text_number 42 = .ok (.imul, 1) := by decide +kernel
theorem d_Text_number_43 : decode k_Text_number 43 = .ok (.aload_n 0, 1) := by decide +kernel
theorem d_Text_number_44 : decode k_Text_number 44 = .ok (.iload 5, 2) := by decide +kernel
theorem d_Text_number_46 : decode k_Text_number 46 = .ok (.invokevirtual 30, 3) := by decide +kernel
theorem d_Text_number_49 : decode k_Text_number 49 = .ok (.bipush 48, 2) := by decide +kernel
theorem d_Text_number_51 : decode k_Text_number 51 = .ok (.isub, 1) := by decide +kernel
theorem d_Text_number_52 : decode k_Text_number 52 = .ok (.iadd, 1) := by decide +kernel
theorem d_Text_number_53 : decode k_Text_number 53 = .ok (.istore 4, 2) := by decide +kernel
theorem d_Text_number_55 : decode k_Text_number 55 = .ok (.iinc 5 1, 3) := by decide +kernel
theorem d_Text_number_58 : decode k_Text_number 58 = .ok (.goto (-26), 3) := by decide +kernel
theorem d_Text_number_61 : decode k_Text_number 61 = .ok (.iload_n 3, 1) := by decide +kernel
theorem d_Text_number_62 : decode k_Text_number 62 = .ok (.ifCond .eq (9), 3) := by decide +kernel
theorem d_Text_number_65 : decode k_Text_number 65 = .ok (.iload 4, 2) := by decide +kernel
theorem d_Text_number_67 : decode k_Text_number 67 = .ok (.ineg, 1) := by decide +kernel
theorem d_Text_number_68 : decode k_Text_number 68 = .ok (.goto (5), 3) := by decide +kernel
theorem d_Text_number_71 : decode k_Text_number 71 = .ok (.iload 4, 2) := by decide +kernel
theorem d_Text_number_73 : decode k_Text_number 73 = .ok (.ireturn, 1) := by decide +kernel
theorem d_Text_name_0 : decode k_Text_name 0 = .ok (.lconst 0, 1) := by decide +kernel
theorem d_Text_name_1 : decode k_Text_name 1 = .ok (.lstore_n 3, 1) := by decide +kernel
theorem d_Text_name_2 : decode k_Text_name 2 = .ok (.iload_n 1, 1) := by decide +kernel
theorem d_Text_name_3 : decode k_Text_name 3 = .ok (.istore 5, 2) := by decide +kernel
theorem d_Text_name_5 : decode k_Text_name 5 = .ok (.iload 5, 2) := by decide +kernel
theorem d_Text_name_7 : decode k_Text_name 7 = .ok (.iload_n 2, 1) := by decide +kernel
theorem d_Text_name_8 : decode k_Text_name 8 = .ok (.if_icmp .ge (31), 3) := by decide +kernel
theorem d_Text_name_11 : decode k_Text_name 11 = .ok (.iload 5, 2) := by decide +kernel
theorem d_Text_name_13 : decode k_Text_name 13 = .ok (.iload_n 1, 1) := by decide +kernel
theorem d_Text_name_14 : decode k_Text_name 14 = .ok (.bipush 8, 2) := by decide +kernel
theorem d_Text_name_16 : decode k_Text_name 16 = .ok (.iadd, 1) := by decide +kernel
theorem d_Text_name_17 : decode k_Text_name 17 = .ok (.if_icmp .ge (22), 3) := by decide +kernel
theorem d_Text_name_20 : decode k_Text_name 20 = .ok (.lload_n 3, 1) := by decide +kernel
theorem d_Text_name_21 : decode k_Text_name 21 = .ok (.bipush 8, 2) := by decide +kernel
theorem d_Text_name_23 : decode k_Text_name 23 = .ok (.lshl, 1) := by decide +kernel
theorem d_Text_name_24 : decode k_Text_name 24 = .ok (.aload_n 0, 1) := by decide +kernel
theorem d_Text_name_25 : decode k_Text_name 25 = .ok (.iload 5, 2) := by decide +kernel
theorem d_Text_name_27 : decode k_Text_name 27 = .ok (.invokevirtual 30, 3) := by decide +kernel
theorem d_Text_name_30 : decode k_Text_name 30 = .ok (.i2l, 1) := by decide +kernel
theorem d_Text_name_31 : decode k_Text_name 31 = .ok (.lor, 1) := by decide +kernel
theorem d_Text_name_32 : decode k_Text_name 32 = .ok (.lstore_n 3, 1) := by decide +kernel
theorem d_Text_name_33 : decode k_Text_name 33 = .ok (.iinc 5 1, 3) := by decide +kernel
theorem d_Text_name_36 : decode k_Text_name 36 = .ok (.goto (-31), 3) := by decide +kernel
theorem d_Text_name_39 : decode k_Text_name 39 = .ok (.lload_n 3, 1) := by decide +kernel
theorem d_Text_name_40 : decode k_Text_name 40 = .ok (.lreturn, 1) := by decide +kernel
theorem d_Text_isBlank_0 : decode k_Text_isBlank 0 = .ok (.iload_n 0, 1) := by decide +kernel
theorem d_Text_isBlank_1 : decode k_Text_isBlank 1 = .ok (.bipush 10, 2) := by decide +kernel
theorem d_Text_isBlank_3 : decode k_Text_isBlank 3 = .ok (.if_icmp .eq (9), 3) := by decide +kernel
theorem d_Text_isBlank_6 : decode k_Text_isBlank 6 = .ok (.iload_n 0, 1) := by decide +kernel
theorem d_Text_isBlank_7 : decode k_Text_isBlank 7 = .ok (.bipush 32, 2) := by decide +kernel
theorem d_Text_isBlank_9 : decode k_Text_isBlank 9 = .ok (.if_icmp .ne (7), 3) := by decide +kernel
theorem d_Text_isBlank_12 : decode k_Text_isBlank 12 = .ok (.iconst 1, 1) := by decide +kernel
theorem d_Text_isBlank_13 : decode k_Text_isBlank 13 = .ok (.goto (4), 3) := by decide +kernel
theorem d_Text_isBlank_16 : decode k_Text_isBlank 16 = .ok (.iconst 0, 1) := by decide +kernel
theorem d_Text_isBlank_17 : decode k_Text_isBlank 17 = .ok (.ireturn, 1) := by decide +kernel
theorem d_Text_isOfWord_0 : decode k_Text_isOfWord 0 = .ok (.iload_n 0, 1) := by decide +kernel
theorem d_Text_isOfWord_1 : decode k_Text_isOfWord 1 = .ok (.invokestatic 38, 3) := by decide +kernel
theorem d_Text_isOfWord_4 : decode k_Text_isOfWord 4 = .ok (.ifCond .ne (25), 3) := by decide +kernel
theorem d_Text_isOfWord_7 : decode k_Text_isOfWord 7 = .ok (.iload_n 0, 1) := by decide +kernel
theorem d_Text_isOfWord_8 : decode k_Text_isOfWord 8 = .ok (.bipush 40, 2) := by decide +kernel
theorem d_Text_isOfWord_10 : decode k_Text_isOfWord 10 = .ok (.if_icmp .eq (19), 3) := by decide +kernel
theorem d_Text_isOfWord_13 : decode k_Text_isOfWord 13 = .ok (.iload_n 0, 1) := by decide +kernel
theorem d_Text_isOfWord_14 : decode k_Text_isOfWord 14 = .ok (.bipush 41, 2) := by decide +kernel
theorem d_Text_isOfWord_16 : decode k_Text_isOfWord 16 = .ok (.if_icmp .eq (13), 3) := by decide +kernel
theorem d_Text_isOfWord_19 : decode k_Text_isOfWord 19 = .ok (.iload_n 0, 1) := by decide +kernel
theorem d_Text_isOfWord_20 : decode k_Text_isOfWord 20 = .ok (.bipush 39, 2) := by decide +kernel
theorem d_Text_isOfWord_22 : decode k_Text_isOfWord 22 = .ok (.if_icmp .eq (7), 3) := by decide +kernel
theorem d_Text_isOfWord_25 : decode k_Text_isOfWord 25 = .ok (.iconst 1, 1) := by decide +kernel
theorem d_Text_isOfWord_26 : decode k_Text_isOfWord 26 = .ok (.goto (4), 3) := by decide +kernel
theorem d_Text_isOfWord_29 : decode k_Text_isOfWord 29 = .ok (.iconst 0, 1) := by decide +kernel
theorem d_Text_isOfWord_30 : decode k_Text_isOfWord 30 = .ok (.ireturn, 1) := by decide +kernel
theorem d_Text_isCharacter_0 : decode k_Text_isCharacter 0 = .ok (.iload_n 0, 1) := by decide +kernel
theorem d_Text_isCharacter_1 : decode k_Text_isCharacter 1 = .ok (.bipush 10, 2) := by decide +kernel
theorem d_Text_isCharacter_3 : decode k_Text_isCharacter 3 = .ok (.if_icmp .eq (15), 3) := by decide +kernel
theorem d_Text_isCharacter_6 : decode k_Text_isCharacter 6 = .ok (.iload_n 0, 1) := by decide +kernel
theorem d_Text_isCharacter_7 : decode k_Text_isCharacter 7 = .ok (.bipush 32, 2) := by decide +kernel
theorem d_Text_isCharacter_9 : decode k_Text_isCharacter 9 = .ok (.if_icmp .lt (13), 3) := by decide +kernel
theorem d_Text_isCharacter_12 : decode k_Text_isCharacter 12 = .ok (.iload_n 0, 1) := by decide +kernel
theorem d_Text_isCharacter_13 : decode k_Text_isCharacter 13 = .ok (.bipush 126, 2) := by decide +kernel
theorem d_Text_isCharacter_15 : decode k_Text_isCharacter 15 = .ok (.if_icmp .gt (7), 3) := by decide +kernel
theorem d_Text_isCharacter_18 : decode k_Text_isCharacter 18 = .ok (.iconst 1, 1) := by decide +kernel
theorem d_Text_isCharacter_19 : decode k_Text_isCharacter 19 = .ok (.goto (4), 3) := by decide +kernel
theorem d_Text_isCharacter_22 : decode k_Text_isCharacter 22 = .ok (.iconst 0, 1) := by decide +kernel
theorem d_Text_isCharacter_23 : decode k_Text_isCharacter 23 = .ok (.ireturn, 1) := by decide +kernel
theorem d_Output_isFull_0 : decode k_Output_isFull 0 = .ok (.aload_n 0, 1) := by decide +kernel
theorem d_Output_isFull_1 : decode k_Output_isFull 1 = .ok (.getfield 13, 3) := by decide +kernel
theorem d_Output_isFull_4 : decode k_Output_isFull 4 = .ok (.sipush 200, 3) := by decide +kernel
theorem d_Output_isFull_7 : decode k_Output_isFull 7 = .ok (.if_icmp .lt (7), 3) := by decide +kernel
theorem d_Output_isFull_10 : decode k_Output_isFull 10 = .ok (.iconst 1, 1) := by decide +kernel
theorem d_Output_isFull_11 : decode k_Output_isFull 11 = .ok (.goto (4), 3) := by decide +kernel
theorem d_Output_isFull_14 : decode k_Output_isFull 14 = .ok (.iconst 0, 1) := by decide +kernel
theorem d_Output_isFull_15 : decode k_Output_isFull 15 = .ok (.ireturn, 1) := by decide +kernel
theorem d_Output_put_0 : decode k_Output_put 0 = .ok (.aload_n 0, 1) := by decide +kernel
theorem d_Output_put_1 : decode k_Output_put 1 = .ok (.getfield 13, 3) := by decide +kernel
theorem d_Output_put_4 : decode k_Output_put 4 = .ok (.ifCond .lt (33), 3) := by decide +kernel
theorem d_Output_put_7 : decode k_Output_put 7 = .ok (.aload_n 0, 1) := by decide +kernel
theorem d_Output_put_8 : decode k_Output_put 8 = .ok (.getfield 13, 3) := by decide +kernel
theorem d_Output_put_11 : decode k_Output_put 11 = .ok (.sipush 200, 3) := by decide +kernel
theorem d_Output_put_14 : decode k_Output_put 14 = .ok (.if_icmp .ge (23), 3) := by decide +kernel
theorem d_Output_put_17 : decode k_Output_put 17 = .ok (.aload_n 0, 1) := by decide +kernel
theorem d_Output_put_18 : decode k_Output_put 18 = .ok (.getfield 9, 3) := by decide +kernel
theorem d_Output_put_21 : decode k_Output_put 21 = .ok (.aload_n 0, 1) := by decide +kernel
theorem d_Output_put_22 : decode k_Output_put 22 = .ok (.getfield 13, 3) := by decide +kernel
theorem d_Output_put_25 : decode k_Output_put 25 = .ok (.iload_n 1, 1) := by decide +kernel
theorem d_Output_put_26 : decode k_Output_put 26 = .ok (.castore, 1) := by decide +kernel
theorem d_Output_put_27 : decode k_Output_put 27 = .ok (.aload_n 0, 1) := by decide +kernel
theorem d_Output_put_28 : decode k_Output_put 28 = .ok (.dup, 1) := by decide +kernel
theorem d_Output_put_29 : decode k_Output_put 29 = .ok (.getfield 13, 3) := by decide +kernel
theorem d_Output_put_32 : decode k_Output_put 32 = .ok (.iconst 1, 1) := by decide +kernel
theorem d_Output_put_33 : decode k_Output_put 33 = .ok (.iadd, 1) := by decide +kernel
theorem d_Output_put_34 : decode k_Output_put 34 = .ok (.putfield 13, 3) := by decide +kernel
theorem d_Output_put_37 : decode k_Output_put 37 = .ok (.return_, 1) := by decide +kernel
theorem d_Output_at_0 : decode k_Output_at 0 = .ok (.iload_n 1, 1) := by decide +kernel
theorem d_Output_at_1 : decode k_Output_at 1 = .ok (.ifCond .lt (27), 3) := by decide +kernel
theorem d_Output_at_4 : decode k_Output_at 4 = .ok (.iload_n 1, 1) := by decide +kernel
theorem d_Output_at_5 : decode k_Output_at 5 = .ok (.aload_n 0, 1) := by decide +kernel
theorem d_Output_at_6 : decode k_Output_at 6 = .ok (.getfield 13, 3) := by decide +kernel
theorem d_Output_at_9 : decode k_Output_at 9 = .ok (.if_icmp .ge (19), 3) := by decide +kernel
theorem d_Output_at_12 : decode k_Output_at 12 = .ok (.iload_n 1, 1) := by decide +kernel
theorem d_Output_at_13 : decode k_Output_at 13 = .ok (.sipush 200, 3) := by decide +kernel
theorem d_Output_at_16 : decode k_Output_at 16 = .ok (.if_icmp .ge (12), 3) := by decide +kernel
theorem d_Output_at_19 : decode k_Output_at 19 = .ok (.aload_n 0, 1) := by decide +kernel
theorem d_Output_at_20 : decode k_Output_at 20 = .ok (.getfield 9, 3) := by decide +kernel
theorem d_Output_at_23 : decode k_Output_at 23 = .ok (.iload_n 1, 1) := by decide +kernel
theorem d_Output_at_24 : decode k_Output_at 24 = .ok (.caload, 1) := by decide +kernel
theorem d_Output_at_25 : decode k_Output_at 25 = .ok (.goto (4), 3) := by decide +kernel
theorem d_Output_at_28 : decode k_Output_at 28 = .ok (.iconst (-1), 1) := by decide +kernel
theorem d_Output_at_29 : decode k_Output_at 29 = .ok (.ireturn, 1) := by decide +kernel
theorem d_Symbols_find_0 : decode k_Symbols_find 0 = .ok (.iconst 0, 1) := by decide +kernel
theorem d_Symbols_find_1 : decode k_Symbols_find 1 = .ok (.istore_n 3, 1) := by decide +kernel
theorem d_Symbols_find_2 : decode k_Symbols_find 2 = .ok (.iload_n 3, 1) := by decide +kernel
theorem d_Symbols_find_3 : decode k_Symbols_find 3 = .ok (.aload_n 0, 1) := by decide +kernel
theorem d_Symbols_find_4 : decode k_Symbols_find 4 = .ok (.getfield 39, 3) := by decide +kernel
theorem d_Symbols_find_7 : decode k_Symbols_find 7 = .ok (.if_icmp .ge (28), 3) := by decide +kernel
theorem d_Symbols_find_10 : decode k_Symbols_find 10 = .ok (.iload_n 3, 1) := by decide +kernel
theorem d_Symbols_find_11 : decode k_Symbols_find 11 = .ok (.bipush 40, 2) := by decide +kernel
theorem d_Symbols_find_13 : decode k_Symbols_find 13 = .ok (.if_icmp .ge (22), 3) := by decide +kernel
theorem d_Symbols_find_16 : decode k_Symbols_find 16 = .ok (.aload_n 0, 1) := by decide +kernel
theorem d_Symbols_find_17 : decode k_Symbols_find 17 = .ok (.getfield 9, 3) := by decide +kernel
theorem d_Symbols_find_20 : decode k_Symbols_find 20 = .ok (.iload_n 3, 1) := by decide +kernel
theorem d_Symbols_find_21 : decode k_Symbols_find 21 = .ok (.laload, 1) := by decide +kernel
theorem d_Symbols_find_22 : decode k_Symbols_find 22 = .ok (.lload_n 1, 1) := by decide +kernel
theorem d_Symbols_find_23 : decode k_Symbols_find 23 = .ok (.lcmp, 1) := by decide +kernel
theorem d_Symbols_find_24 : decode k_Symbols_find 24 = .ok (.ifCond .ne (5), 3) := by decide +kernel
theorem d_Symbols_find_27 : decode k_Symbols_find 27 = .ok (.iload_n 3, 1) := by decide +kernel
theorem d_Symbols_find_28 : decode k_Symbols_find 28 = .ok (.ireturn, 1) := by decide +kernel
theorem d_Symbols_find_29 : decode k_Symbols_find 29 = .ok (.iinc 3 1, 3) := by decide +kernel
theorem d_Symbols_find_32 : decode k_Symbols_find 32 = .ok (.goto (-30), 3) := by decide +kernel
theorem d_Symbols_find_35 : decode k_Symbols_find 35 = .ok (.iconst (-1), 1) := by decide +kernel
theorem d_Symbols_find_36 : decode k_Symbols_find 36 = .ok (.ireturn, 1) := by decide +kernel
theorem d_Symbols_learn_0 : decode k_Symbols_learn 0 = .ok (.aload_n 0, 1) := by decide +kernel
theorem d_Symbols_learn_1 : decode k_Symbols_learn 1 = .ok (.lload_n 1, 1) := by decide +kernel
theorem d_Symbols_learn_2 : decode k_Symbols_learn 2 = .ok (.invokevirtual 43, 3) := by decide +kernel
theorem d_Symbols_learn_5 : decode k_Symbols_learn 5 = .ok (.ifCond .lt (5), 3) := by decide +kernel
theorem d_Symbols_learn_8 : decode k_Symbols_learn 8 = .ok (.iconst 1, 1) := by decide +kernel
theorem d_Symbols_learn_9 : decode k_Symbols_learn 9 = .ok (.ireturn, 1) := by decide +kernel
theorem d_Symbols_learn_10 : decode k_Symbols_learn 10 = .ok (.aload_n 0, 1) := by decide +kernel
theorem d_Symbols_learn_11 : decode k_Symbols_learn 11 = .ok (.getfield 39, 3) := by decide +kernel
theorem d_Symbols_learn_14 : decode k_Symbols_learn 14 = .ok (.bipush 40, 2) := by decide +kernel
theorem d_Symbols_learn_16 : decode k_Symbols_learn 16 = .ok (.if_icmp .lt (5), 3) := by decide +kernel
theorem d_Symbols_learn_19 : decode k_Symbols_learn 19 = .ok (.iconst 0, 1) := by decide +kernel
theorem d_Symbols_learn_20 : decode k_Symbols_learn 20 = .ok (.ireturn, 1) := by decide +kernel
theorem d_Symbols_learn_21 : decode k_Symbols_learn 21 = .ok (.aload_n 0, 1) := by decide +kernel
theorem d_Symbols_learn_22 : decode k_Symbols_learn 22 = .ok (.getfield 9, 3) := by decide +kernel
theorem d_Symbols_learn_25 : decode k_Symbols_learn 25 = .ok (.aload_n 0, 1) := by decide +kernel
theorem d_Symbols_learn_26 : decode k_Symbols_learn 26 = .ok (.getfield 39, 3) := by decide +kernel
theorem d_Symbols_learn_29 : decode k_Symbols_learn 29 = .ok (.lload_n 1, 1) := by decide +kernel
theorem d_Symbols_learn_30 : decode k_Symbols_learn 30 = .ok (.lastore, 1) := by decide +kernel
theorem d_Symbols_learn_31 : decode k_Symbols_learn 31 = .ok (.aload_n 0, 1) := by decide +kernel
theorem d_Symbols_learn_32 : decode k_Symbols_learn 32 = .ok (.getfield 13, 3) := by decide +kernel
theorem d_Symbols_learn_35 : decode k_Symbols_learn 35 = .ok (.aload_n 0, 1) := by decide +kernel
theorem d_Symbols_learn_36 : decode k_Symbols_learn 36 = .ok (.getfield 39, 3) := by decide +kernel
theorem d_Symbols_learn_39 : decode k_Symbols_learn 39 = .ok (.bipush 6, 2) := by decide +kernel
theorem d_Symbols_learn_41 : decode k_Symbols_learn 41 = .ok (.iastore, 1) := by decide +kernel
theorem d_Symbols_learn_42 : decode k_Symbols_learn 42 = .ok (.aload_n 0, 1) := by decide +kernel
theorem d_Symbols_learn_43 : decode k_Symbols_learn 43 = .ok (.dup, 1) := by decide +kernel
theorem d_Symbols_learn_44 : decode k_Symbols_learn 44 = .ok (.getfield 39, 3) := by decide +kernel
theorem d_Symbols_learn_47 : decode k_Symbols_learn 47 = .ok (.iconst 1, 1) := by decide +kernel
theorem d_Symbols_learn_48 : decode k_Symbols_learn 48 = .ok (.iadd, 1) := by decide +kernel
theorem d_Symbols_learn_49 : decode k_Symbols_learn 49 = .ok (.putfield 39, 3) := by decide +kernel
theorem d_Symbols_learn_52 : decode k_Symbols_learn 52 = .ok (.iconst 1, 1) := by decide +kernel
theorem d_Symbols_learn_53 : decode k_Symbols_learn 53 = .ok (.ireturn, 1) := by decide +kernel
theorem d_Symbols_name_0 : decode k_Symbols_name 0 = .ok (.iload_n 1, 1) := by decide +kernel
theorem d_Symbols_name_1 : decode k_Symbols_name 1 = .ok (.ifCond .lt (18), 3) := by decide +kernel
theorem d_Symbols_name_4 : decode k_Symbols_name 4 = .ok (.iload_n 1, 1) := by decide +kernel
theorem d_Symbols_name_5 : decode k_Symbols_name 5 = .ok (.bipush 40, 2) := by decide +kernel
theorem d_Symbols_name_7 : decode k_Symbols_name 7 = .ok (.if_icmp .ge (12), 3) := by decide +kernel
theorem d_Symbols_name_10 : decode k_Symbols_name 10 = .ok (.aload_n 0, 1) := by decide +kernel
theorem d_Symbols_name_11 : decode k_Symbols_name 11 = .ok (.getfield 9, 3) := by decide +kernel
theorem d_Symbols_name_14 : decode k_Symbols_name 14 = .ok (.iload_n 1, 1) := by decide +kernel
theorem d_Symbols_name_15 : decode k_Symbols_name 15 = .ok (.laload, 1) := by decide +kernel
theorem d_Symbols_name_16 : decode k_Symbols_name 16 = .ok (.goto (4), 3) := by decide +kernel
theorem d_Symbols_name_19 : decode k_Symbols_name 19 = .ok (.lconst 0, 1) := by decide +kernel
theorem d_Symbols_name_20 : decode k_Symbols_name 20 = .ok (.lreturn, 1) := by decide +kernel
theorem d_Symbols_global_0 : decode k_Symbols_global 0 = .ok (.iload_n 1, 1) := by decide +kernel
theorem d_Symbols_global_1 : decode k_Symbols_global 1 = .ok (.ifCond .lt (18), 3) := by decide +kernel
theorem d_Symbols_global_4 : decode k_Symbols_global 4 = .ok (.iload_n 1, 1) := by decide +kernel
theorem d_Symbols_global_5 : decode k_Symbols_global 5 = .ok (.bipush 40, 2) := by decide +kernel
theorem d_Symbols_global_7 : decode k_Symbols_global 7 = .ok (.if_icmp .ge (12), 3) := by decide +kernel
theorem d_Symbols_global_10 : decode k_Symbols_global 10 = .ok (.aload_n 0, 1) := by decide +kernel
theorem d_Symbols_global_11 : decode k_Symbols_global 11 = .ok (.getfield 13, 3) := by decide +kernel
theorem d_Symbols_global_14 : decode k_Symbols_global 14 = .ok (.iload_n 1, 1) := by decide +kernel
theorem d_Symbols_global_15 : decode k_Symbols_global 15 = .ok (.iaload, 1) := by decide +kernel
theorem d_Symbols_global_16 : decode k_Symbols_global 16 = .ok (.goto (5), 3) := by decide +kernel
theorem d_Symbols_global_19 : decode k_Symbols_global 19 = .ok (.bipush 6, 2) := by decide +kernel
theorem d_Symbols_global_21 : decode k_Symbols_global 21 = .ok (.ireturn, 1) := by decide +kernel
theorem d_Symbols_setGlobal_0 : decode k_Symbols_setGlobal 0 = .ok (.iload_n 1, 1) := by decide +kernel
theorem d_Symbols_setGlobal_1 : decode k_Symbols_setGlobal 1 = .ok (.ifCond .lt (16), 3) := by decide +kernel
theorem d_Symbols_setGlobal_4 : decode k_Symbols_setGlobal 4 = .ok (.iload_n 1, 1) := by decide +kernel
theorem d_Symbols_setGlobal_5 : decode k_Symbols_setGlobal 5 = .ok (.bipush 40, 2) := by decide +kernel
theorem d_Symbols_setGlobal_7 : decode k_Symbols_setGlobal 7 = .ok (.if_icmp .ge (10), 3) := by decide +kernel
theorem d_Symbols_setGlobal_10 : decode k_Symbols_setGlobal 10 = .ok (.aload_n 0, 1) := by decide +kernel
theorem d_Symbols_setGlobal_11 : decode k_Symbols_setGlobal 11 = .ok (.getfield 13, 3) := by decide +kernel
theorem d_Symbols_setGlobal_14 : decode k_Symbols_setGlobal 14 = .ok (.iload_n 1, 1) := by decide +kernel
theorem d_Symbols_setGlobal_15 : decode k_Symbols_setGlobal 15 = .ok (.iload_n 2, 1) := by decide +kernel
theorem d_Symbols_setGlobal_16 : decode k_Symbols_setGlobal 16 = .ok (.iastore, 1) := by decide +kernel
theorem d_Symbols_setGlobal_17 : decode k_Symbols_setGlobal 17 = .ok (.return_, 1) := by decide +kernel
theorem d_State_push_0 : decode k_State_push 0 = .ok (.aload_n 0, 1) := by decide +kernel
theorem d_State_push_1 : decode k_State_push 1 = .ok (.getfield 31, 3) := by decide +kernel
theorem d_State_push_4 : decode k_State_push 4 = .ok (.ifCond .lt (12), 3) := by decide +kernel
theorem d_State_push_7 : decode k_State_push 7 = .ok (.aload_n 0, 1) := by decide +kernel
theorem d_State_push_8 : decode k_State_push 8 = .ok (.getfield 31, 3) := by decide +kernel
theorem d_State_push_11 : decode k_State_push 11 = .ok (.bipush 30, 2) := by decide +kernel
theorem d_State_push_13 : decode k_State_push 13 = .ok (.if_icmp .lt (5), 3) := by decide +kernel
theorem d_State_push_16 : decode k_State_push 16 = .ok (.iconst 0, 1) := by decide +kernel
theorem d_State_push_17 : decode k_State_push 17 = .ok (.ireturn, 1) := by decide +kernel
theorem d_State_push_18 : decode k_State_push 18 = .ok (.aload_n 0, 1) := by decide +kernel
theorem d_State_push_19 : decode k_State_push 19 = .ok (.getfield 18, 3) := by decide +kernel
theorem d_State_push_22 : decode k_State_push 22 = .ok (.aload_n 0, 1) := by decide +kernel
theorem d_State_push_23 : decode k_State_push 23 = .ok (.getfield 31, 3) := by decide +kernel
theorem d_State_push_26 : decode k_State_push 26 = .ok (.iload_n 1, 1) := by decide +kernel
theorem d_State_push_27 : decode k_State_push 27 = .ok (.iastore, 1) := by decide +kernel
theorem d_State_push_28 : decode k_State_push 28 = .ok (.aload_n 0, 1) := by decide +kernel
theorem d_State_push_29 : decode k_State_push 29 = .ok (.getfield 22, 3) := by decide +kernel
theorem d_State_push_32 : decode k_State_push 32 = .ok (.aload_n 0, 1) := by decide +kernel
theorem d_State_push_33 : decode k_State_push 33 = .ok (.getfield 31, 3) := by decide +kernel
theorem d_State_push_36 : decode k_State_push 36 = .ok (.iload_n 2, 1) := by decide +kernel
theorem d_State_push_37 : decode k_State_push 37 = .ok (.iastore, 1) := by decide +kernel
theorem d_State_push_38 : decode k_State_push 38 = .ok (.aload_n 0, 1) := by decide +kernel
theorem d_State_push_39 : decode k_State_push 39 = .ok (.getfield 25, 3) := by decide +kernel
theorem d_State_push_42 : decode k_State_push 42 = .ok (.aload_n 0, 1) := by decide +kernel
theorem d_State_push_43 : decode k_State_push 43 = .ok (.getfield 31, 3) := by decide +kernel
theorem d_State_push_46 : decode k_State_push 46 = .ok (.iload_n 3, 1) := by decide +kernel
theorem d_State_push_47 : decode k_State_push 47 = .ok (.iastore, 1) := by decide +kernel
theorem d_State_push_48 : decode k_State_push 48 = .ok (.aload_n 0, 1) := by decide +kernel
theorem d_State_push_49 : decode k_State_push 49 = .ok (.getfield 28, 3) := by decide +kernel
theorem d_State_push_52 : decode k_State_push 52 = .ok (.aload_n 0, 1) := by decide +kernel
theorem d_State_push_53 : decode k_State_push 53 = .ok (.getfield 31, 3) := by decide +kernel
theorem d_State_push_56 : decode k_State_push 56 = .ok (.iconst 2, 1) := by decide +kernel
theorem d_State_push_57 : decode k_State_push 57 = .ok (.iastore, 1) := by decide +kernel
theorem d_State_push_58 : decode k_State_push 58 = .ok (.aload_n 0, 1) := by decide +kernel
theorem d_State_push_59 : decode k_State_push 59 = .ok (.dup, 1) := by decide +kernel
theorem d_State_push_60 : decode k_State_push 60 = .ok (.getfield 31, 3) := by decide +kernel
theorem d_State_push_63 : decode k_State_push 63 = .ok (.iconst 1, 1) := by decide +kernel
theorem d_State_push_64 : decode k_State_push 64 = .ok (.iadd, 1) := by decide +kernel
theorem d_State_push_65 : decode k_State_push 65 = .ok (.putfield 31, 3) := by decide +kernel
theorem d_State_push_68 : decode k_State_push 68 = .ok (.iconst 1, 1) := by decide +kernel
theorem d_State_push_69 : decode k_State_push 69 = .ok (.ireturn, 1) := by decide +kernel
theorem d_State_pop_0 : decode k_State_pop 0 = .ok (.aload_n 0, 1) := by decide +kernel
theorem d_State_pop_1 : decode k_State_pop 1 = .ok (.getfield 31, 3) := by decide +kernel
theorem d_State_pop_4 : decode k_State_pop 4 = .ok (.ifCond .le (13), 3) := by decide +kernel
theorem d_State_pop_7 : decode k_State_pop 7 = .ok (.aload_n 0, 1) := by decide +kernel
theorem d_State_pop_8 : decode k_State_pop 8 = .ok (.dup, 1) := by decide +kernel
theorem d_State_pop_9 : decode k_State_pop 9 = .ok (.getfield 31, 3) := by decide +kernel
theorem d_State_pop_12 : decode k_State_pop 12 = .ok (.iconst 1, 1) := by decide +kernel
theorem d_State_pop_13 : decode k_State_pop 13 = .ok (.isub, 1) := by decide +kernel
theorem d_State_pop_14 : decode k_State_pop 14 = .ok (.putfield 31, 3) := by decide +kernel
theorem d_State_pop_17 : decode k_State_pop 17 = .ok (.return_, 1) := by decide +kernel
theorem d_State_kind_0 : decode k_State_kind 0 = .ok (.aload_n 0, 1) := by decide +kernel
theorem d_State_kind_1 : decode k_State_kind 1 = .ok (.invokevirtual 34, 3) := by decide +kernel
theorem d_State_kind_4 : decode k_State_kind 4 = .ok (.ifCond .eq (17), 3) := by decide +kernel
theorem d_State_kind_7 : decode k_State_kind 7 = .ok (.aload_n 0, 1) := by decide +kernel
theorem d_State_kind_8 : decode k_State_kind 8 = .ok (.getfield 18, 3) := by decide +kernel
theorem d_State_kind_11 : decode k_State_kind 11 = .ok (.aload_n 0, 1) := by decide +kernel
theorem d_State_kind_12 : decode k_State_kind 12 = .ok (.getfield 31, 3) := by decide +kernel
theorem d_State_kind_15 : decode k_State_kind 15 = .ok (.iconst 1, 1) := by decide +kernel
theorem d_State_kind_16 : decode k_State_kind 16 = .ok (.isub, 1) := by decide +kernel
theorem d_State_kind_17 : decode k_State_kind 17 = .ok (.iaload, 1) := by decide +kernel
theorem d_State_kind_18 : decode k_State_kind 18 = .ok (.goto (4), 3) := by decide +kernel
theorem d_State_kind_21 : decode k_State_kind 21 = .ok (.iconst 0, 1) := by decide +kernel
theorem d_State_kind_22 : decode k_State_kind 22 = .ok (.ireturn, 1) := by decide +kernel
theorem d_State_a_0 : decode k_State_a 0 = .ok (.aload_n 0, 1) := by decide +kernel
theorem d_State_a_1 : decode k_State_a 1 = .ok (.invokevirtual 34, 3) := by decide +kernel
theorem d_State_a_4 : decode k_State_a 4 = .ok (.ifCond .eq (17), 3) := by decide +kernel
theorem d_State_a_7 : decode k_State_a 7 = .ok (.aload_n 0, 1) := by decide +kernel
theorem d_State_a_8 : decode k_State_a 8 = .ok (.getfield 22, 3) := by decide +kernel
theorem d_State_a_11 : decode k_State_a 11 = .ok (.aload_n 0, 1) := by decide +kernel
theorem d_State_a_12 : decode k_State_a 12 = .ok (.getfield 31, 3) := by decide +kernel
theorem d_State_a_15 : decode k_State_a 15 = .ok (.iconst 1, 1) := by decide +kernel
theorem d_State_a_16 : decode k_State_a 16 = .ok (.isub, 1) := by decide +kernel
theorem d_State_a_17 : decode k_State_a 17 = .ok (.iaload, 1) := by decide +kernel
theorem d_State_a_18 : decode k_State_a 18 = .ok (.goto (4), 3) := by decide +kernel
theorem d_State_a_21 : decode k_State_a 21 = .ok (.iconst 2, 1) := by decide +kernel
theorem d_State_a_22 : decode k_State_a 22 = .ok (.ireturn, 1) := by decide +kernel
theorem d_State_b_0 : decode k_State_b 0 = .ok (.aload_n 0, 1) := by decide +kernel
theorem d_State_b_1 : decode k_State_b 1 = .ok (.invokevirtual 34, 3) := by decide +kernel
theorem d_State_b_4 : decode k_State_b 4 = .ok (.ifCond .eq (17), 3) := by decide +kernel
theorem d_State_b_7 : decode k_State_b 7 = .ok (.aload_n 0, 1) := by decide +kernel
theorem d_State_b_8 : decode k_State_b 8 = .ok (.getfield 25, 3) := by decide +kernel
theorem d_State_b_11 : decode k_State_b 11 = .ok (.aload_n 0, 1) := by decide +kernel
theorem d_State_b_12 : decode k_State_b 12 = .ok (.getfield 31, 3) := by decide +kernel
theorem d_State_b_15 : decode k_State_b 15 = .ok (.iconst 1, 1) := by decide +kernel
theorem d_State_b_16 : decode k_State_b 16 = .ok (.isub, 1) := by decide +kernel
theorem d_State_b_17 : decode k_State_b 17 = .ok (.iaload, 1) := by decide +kernel
theorem d_State_b_18 : decode k_State_b 18 = .ok (.goto (4), 3) := by decide +kernel
theorem d_State_b_21 : decode k_State_b 21 = .ok (.iconst 2, 1) := by decide +kernel
theorem d_State_b_22 : decode k_State_b 22 = .ok (.ireturn, 1) := by decide +kernel
theorem d_State_c_0 : decode k_State_c 0 = .ok (.aload_n 0, 1) := by decide +kernel
theorem d_State_c_1 : decode k_State_c 1 = .ok (.invokevirtual 34, 3) := by decide +kernel
theorem d_State_c_4 : decode k_State_c 4 = .ok (.ifCond .eq (17), 3) := by decide +kernel
theorem d_State_c_7 : decode k_State_c 7 = .ok (.aload_n 0, 1) := by decide +kernel
theorem d_State_c_8 : decode k_State_c 8 = .ok (.getfield 28, 3) := by decide +kernel
theorem d_State_c_11 : decode k_State_c 11 = .ok (.aload_n 0, 1) := by decide +kernel
theorem d_State_c_12 : decode k_State_c 12 = .ok (.getfield 31, 3) := by decide +kernel
theorem d_State_c_15 : decode k_State_c 15 = .ok (.iconst 1, 1) := by decide +kernel
theorem d_State_c_16 : decode k_State_c 16 = .ok (.isub, 1) := by decide +kernel
theorem d_State_c_17 : decode k_State_c 17 = .ok (.iaload, 1) := by decide +kernel
theorem d_State_c_18 : decode k_State_c 18 = .ok (.goto (4), 3) := by decide +kernel
theorem d_State_c_21 : decode k_State_c 21 = .ok (.iconst 2, 1) := by decide +kernel
theorem d_State_c_22 : decode k_State_c 22 = .ok (.ireturn, 1) := by decide +kernel
theorem d_State_setA_0 : decode k_State_setA 0 = .ok (.aload_n 0, 1) := by decide +kernel
theorem d_State_setA_1 : decode k_State_setA 1 = .ok (.invokevirtual 34, 3) := by decide +kernel
theorem d_State_setA_4 : decode k_State_setA 4 = .ok (.ifCond .eq (15), 3) := by decide +kernel
theorem d_State_setA_7 : decode k_State_setA 7 = .ok (.aload_n 0, 1) := by decide +kernel
theorem d_State_setA_8 : decode k_State_setA 8 = .ok (.getfield 22, 3) := by decide +kernel
theorem d_State_setA_11 : decode k_State_setA 11 = .ok (.aload_n 0, 1) := by decide +kernel
theorem d_State_setA_12 : decode k_State_setA 12 = .ok (.getfield 31, 3) := by decide +kernel
theorem d_State_setA_15 : decode k_State_setA 15 = .ok (.iconst 1, 1) := by decide +kernel
theorem d_State_setA_16 : decode k_State_setA 16 = .ok (.isub, 1) := by decide +kernel
theorem d_State_setA_17 : decode k_State_setA 17 = .ok (.iload_n 1, 1) := by decide +kernel
theorem d_State_setA_18 : decode k_State_setA 18 = .ok (.iastore, 1) := by decide +kernel
theorem d_State_setA_19 : decode k_State_setA 19 = .ok (.return_, 1) := by decide +kernel
theorem d_State_setC_0 : decode k_State_setC 0 = .ok (.aload_n 0, 1) := by decide +kernel
theorem d_State_setC_1 : decode k_State_setC 1 = .ok (.invokevirtual 34, 3) := by decide +kernel
theorem d_State_setC_4 : decode k_State_setC 4 = .ok (.ifCond .eq (15), 3) := by decide +kernel
theorem d_State_setC_7 : decode k_State_setC 7 = .ok (.aload_n 0, 1) := by decide +kernel
theorem d_State_setC_8 : decode k_State_setC 8 = .ok (.getfield 28, 3) := by decide +kernel
theorem d_State_setC_11 : decode k_State_setC 11 = .ok (.aload_n 0, 1) := by decide +kernel
theorem d_State_setC_12 : decode k_State_setC 12 = .ok (.getfield 31, 3) := by decide +kernel
theorem d_State_setC_15 : decode k_State_setC 15 = .ok (.iconst 1, 1) := by decide +kernel
theorem d_State_setC_16 : decode k_State_setC 16 = .ok (.isub, 1) := by decide +kernel
theorem d_State_setC_17 : decode k_State_setC 17 = .ok (.iload_n 1, 1) := by decide +kernel
theorem d_State_setC_18 : decode k_State_setC 18 = .ok (.iastore, 1) := by decide +kernel
theorem d_State_setC_19 : decode k_State_setC 19 = .ok (.return_, 1) := by decide +kernel
theorem d_State_hasTop_0 : decode k_State_hasTop 0 = .ok (.aload_n 0, 1) := by decide +kernel
theorem d_State_hasTop_1 : decode k_State_hasTop 1 = .ok (.getfield 31, 3) := by decide +kernel
theorem d_State_hasTop_4 : decode k_State_hasTop 4 = .ok (.iconst 1, 1) := by decide +kernel
theorem d_State_hasTop_5 : decode k_State_hasTop 5 = .ok (.if_icmp .lt (16), 3) := by decide +kernel
theorem d_State_hasTop_8 : decode k_State_hasTop 8 = .ok (.aload_n 0, 1) := by decide +kernel
theorem d_State_hasTop_9 : decode k_State_hasTop 9 = .ok (.getfield 31, 3) := by decide +kernel
theorem d_State_hasTop_12 : decode k_State_hasTop 12 = .ok (.bipush 30, 2) := by decide +kernel
theorem d_State_hasTop_14 : decode k_State_hasTop 14 = .ok (.if_icmp .gt (7), 3) := by decide +kernel
theorem d_State_hasTop_17 : decode k_State_hasTop 17 = .ok (.iconst 1, 1) := by decide +kernel
theorem d_State_hasTop_18 : decode k_State_hasTop 18 = .ok (.goto (4), 3) := by decide +kernel
theorem d_State_hasTop_21 : decode k_State_hasTop 21 = .ok (.iconst 0, 1) := by decide +kernel
theorem d_State_hasTop_22 : decode k_State_hasTop 22 = .ok (.ireturn, 1) := by decide +kernel
theorem d_Room_hasFor_0 : decode k_Room_hasFor 0 = .ok (.aload_n 0, 1) := by decide +kernel
theorem d_Room_hasFor_1 : decode k_Room_hasFor 1 = .ok (.getfield 53, 3) := by decide +kernel
theorem d_Room_hasFor_4 : decode k_Room_hasFor 4 = .ok (.iload_n 1, 1) := by decide +kernel
theorem d_Room_hasFor_5 : decode k_Room_hasFor 5 = .ok (.iadd, 1) := by decide +kernel
theorem d_Room_hasFor_6 : decode k_Room_hasFor 6 = .ok (.aload_n 0, 1) := by decide +kernel
theorem d_Room_hasFor_7 : decode k_Room_hasFor 7 = .ok (.getfield 7, 3) := by decide +kernel
theorem d_Room_hasFor_10 : decode k_Room_hasFor 10 = .ok (.if_icmp .le (7), 3) := by decide +kernel
theorem d_Room_hasFor_13 : decode k_Room_hasFor 13 = .ok (.aload_n 0, 1) := by decide +kernel
theorem d_Room_hasFor_14 : decode k_Room_hasFor 14 = .ok (.invokevirtual 56, 3) := by decide +kernel
theorem d_Room_hasFor_17 : decode k_Room_hasFor 17 = .ok (.aload_n 0, 1) := by decide +kernel
theorem d_Room_hasFor_18 : decode k_Room_hasFor 18 = .ok (.getfield 53, 3) := by decide +kernel
theorem d_Room_hasFor_21 : decode k_Room_hasFor 21 = .ok (.iload_n 1, 1) := by decide +kernel
theorem d_Room_hasFor_22 : decode k_Room_hasFor 22 = .ok (.iadd, 1) := by decide +kernel
theorem d_Room_hasFor_23 : decode k_Room_hasFor 23 = .ok (.aload_n 0, 1) := by decide +kernel
theorem d_Room_hasFor_24 : decode k_Room_hasFor 24 = .ok (.getfield 7, 3) := by decide +kernel
theorem d_Room_hasFor_27 : decode k_Room_hasFor 27 = .ok (.if_icmp .gt (7), 3) := by decide +kernel
theorem d_Room_hasFor_30 : decode k_Room_hasFor 30 = .ok (.iconst 1, 1) := by decide +kernel
theorem d_Room_hasFor_31 : decode k_Room_hasFor 31 = .ok (.goto (4), 3) := by decide +kernel
theorem d_Room_hasFor_34 : decode k_Room_hasFor 34 = .ok (.iconst 0, 1) := by decide +kernel
theorem d_Room_hasFor_35 : decode k_Room_hasFor 35 = .ok (.ireturn, 1) := by decide +kernel
theorem d_Room_pair_0 : decode k_Room_pair 0 = .ok (.aload_n 0, 1) := by decide +kernel
theorem d_Room_pair_1 : decode k_Room_pair 1 = .ok (.dup, 1) := by decide +kernel
theorem d_Room_pair_2 : decode k_Room_pair 2 = .ok (.getfield 53, 3) := by decide +kernel
theorem d_Room_pair_5 : decode k_Room_pair 5 = .ok (.iconst 2, 1) := by decide +kernel
theorem d_Room_pair_6 : decode k_Room_pair 6 = .ok (.iadd, 1) := by decide +kernel
theorem d_Room_pair_7 : decode k_Room_pair 7 = .ok (.putfield 53, 3) := by decide +kernel
theorem d_Room_pair_10 : decode k_Room_pair 10 = .ok (.aload_n 0, 1) := by decide +kernel
theorem d_Room_pair_11 : decode k_Room_pair 11 = .ok (.iconst 4, 1) := by decide +kernel
theorem d_Room_pair_12 : decode k_Room_pair 12 = .ok (.iload_n 1, 1) := by decide +kernel
theorem d_Room_pair_13 : decode k_Room_pair 13 = .ok (.iload_n 2, 1) := by decide +kernel
theorem d_Room_pair_14 : decode k_Room_pair 14 = .ok (.iconst 2, 1) := by decide +kernel
theorem d_Room_pair_15 : decode k_Room_pair 15 = .ok (.invokevirtual 61, 3) := by decide +kernel
theorem d_Room_pair_18 : decode k_Room_pair 18 = .ok (.ireturn, 1) := by decide +kernel
theorem d_Room_closure_0 : decode k_Room_closure 0 = .ok (.aload_n 0, 1) := by decide +kernel
theorem d_Room_closure_1 : decode k_Room_closure 1 = .ok (.dup, 1) := by decide +kernel
theorem d_Room_closure_2 : decode k_Room_closure 2 = .ok (.getfield 53, 3) := by decide +kernel
theorem d_Room_closure_5 : decode k_Room_closure 5 = .ok (.iconst 3, 1) := by decide +kernel
theorem d_Room_closure_6 : decode k_Room_closure 6 = .ok (.iadd, 1) := by decide +kernel
theorem d_Room_closure_7 : decode k_Room_closure 7 = .ok (.putfield 53, 3) := by decide +kernel
theorem d_Room_closure_10 : decode k_Room_closure 10 = .ok (.aload_n 0, 1) := by decide +kernel
theorem d_Room_closure_11 : decode k_Room_closure 11 = .ok (.iconst 5, 1) := by decide +kernel
theorem d_Room_closure_12 : decode k_Room_closure 12 = .ok (.iload_n 1, 1) := by decide +kernel
theorem d_Room_closure_13 : decode k_Room_closure 13 = .ok (.iload_n 2, 1) := by decide +kernel
theorem d_Room_closure_14 : decode k_Room_closure 14 = .ok (.iload_n 3, 1) := by decide +kernel
theorem d_Room_closure_15 : decode k_Room_closure 15 = .ok (.invokevirtual 61, 3) := by decide +kernel
theorem d_Room_closure_18 : decode k_Room_closure 18 = .ok (.ireturn, 1) := by decide +kernel
theorem d_Room_first_0 : decode k_Room_first 0 = .ok (.aload_n 0, 1) := by decide +kernel
theorem d_Room_first_1 : decode k_Room_first 1 = .ok (.iload_n 1, 1) := by decide +kernel
theorem d_Room_first_2 : decode k_Room_first 2 = .ok (.invokevirtual 65, 3) := by decide +kernel
theorem d_Room_first_5 : decode k_Room_first 5 = .ok (.ifCond .eq (15), 3) := by decide +kernel
theorem d_Room_first_8 : decode k_Room_first 8 = .ok (.aload_n 0, 1) := by decide +kernel
theorem d_Room_first_9 : decode k_Room_first 9 = .ok (.getfield 30, 3) := by decide +kernel
theorem d_Room_first_12 : decode k_Room_first 12 = .ok (.iload_n 1, 1) := by decide +kernel
theorem d_Room_first_13 : decode k_Room_first 13 = .ok (.invokestatic 69, 3) := by decide +kernel
theorem d_Room_first_16 : decode k_Room_first 16 = .ok (.iaload, 1) := by decide +kernel
theorem d_Room_first_17 : decode k_Room_first 17 = .ok (.goto (4), 3) := by decide +kernel
theorem d_Room_first_20 : decode k_Room_first 20 = .ok (.iconst 2, 1) := by decide +kernel
theorem d_Room_first_21 : decode k_Room_first 21 = .ok (.ireturn, 1) := by decide +kernel
theorem d_Room_second_0 : decode k_Room_second 0 = .ok (.aload_n 0, 1) := by decide +kernel
theorem d_Room_second_1 : decode k_Room_second 1 = .ok (.iload_n 1, 1) := by decide +kernel
theorem d_Room_second_2 : decode k_Room_second 2 = .ok (.invokevirtual 65, 3) := by decide +kernel
theorem d_Room_second_5 : decode k_Room_second 5 = .ok (.ifCond .eq (15), 3) := by decide +kernel
theorem d_Room_second_8 : decode k_Room_second 8 = .ok (.aload_n 0, 1) := by decide +kernel
theorem d_Room_second_9 : decode k_Room_second 9 = .ok (.getfield 34, 3) := by decide +kernel
theorem d_Room_second_12 : decode k_Room_second 12 = .ok (.iload_n 1, 1) := by decide +kernel
theorem d_Room_second_13 : decode k_Room_second 13 = .ok (.invokestatic 69, 3) := by decide +kernel
theorem d_Room_second_16 : decode k_Room_second 16 = .ok (.iaload, 1) := by decide +kernel
theorem d_Room_second_17 : decode k_Room_second 17 = .ok (.goto (4), 3) := by decide +kernel
theorem d_Room_second_20 : decode k_Room_second 20 = .ok (.iconst 2, 1) := by decide +kernel
theorem d_Room_second_21 : decode k_Room_second 21 = .ok (.ireturn, 1) := by decide +kernel
theorem d_Room_third_0 : decode k_Room_third 0 = .ok (.aload_n 0, 1) := by decide +kernel
theorem d_Room_third_1 : decode k_Room_third 1 = .ok (.iload_n 1, 1) := by decide +kernel
theorem d_Room_third_2 : decode k_Room_third 2 = .ok (.invokevirtual 65, 3) := by decide +kernel
theorem d_Room_third_5 : decode k_Room_third 5 = .ok (.ifCond .eq (15), 3) := by decide +kernel
theorem d_Room_third_8 : decode k_Room_third 8 = .ok (.aload_n 0, 1) := by decide +kernel
theorem d_Room_third_9 : decode k_Room_third 9 = .ok (.getfield 37, 3) := by decide +kernel
theorem d_Room_third_12 : decode k_Room_third 12 = .ok (.iload_n 1, 1) := by decide +kernel
theorem d_Room_third_13 : decode k_Room_third 13 = .ok (.invokestatic 69, 3) := by decide +kernel
theorem d_Room_third_16 : decode k_Room_third 16 = .ok (.iaload, 1) := by decide +kernel
theorem d_Room_third_17 : decode k_Room_third 17 = .ok (.goto (4), 3) := by decide +kernel
theorem d_Room_third_20 : decode k_Room_third 20 = .ok (.iconst 2, 1) := by decide +kernel
theorem d_Room_third_21 : decode k_Room_third 21 = .ok (.ireturn, 1) := by decide +kernel
theorem d_Room_setSecond_0 : decode k_Room_setSecond 0 = .ok (.aload_n 0, 1) := by decide +kernel
theorem d_Room_setSecond_1 : decode k_Room_setSecond 1 = .ok (.iload_n 1, 1) := by decide +kernel
theorem d_Room_setSecond_2 : decode k_Room_setSecond 2 = .ok (.invokevirtual 65, 3) := by decide +kernel
theorem d_Room_setSecond_5 : decode k_Room_setSecond 5 = .ok (.ifCond .eq (13), 3) := by decide +kernel
theorem d_Room_setSecond_8 : decode k_Room_setSecond 8 = .ok (.aload_n 0, 1) := by decide +kernel
theorem d_Room_setSecond_9 : decode k_Room_setSecond 9 = .ok (.getfield 34, 3) := by decide +kernel
theorem d_Room_setSecond_12 : decode k_Room_setSecond 12 = .ok (.iload_n 1, 1) := by decide +kernel
theorem d_Room_setSecond_13 : decode k_Room_setSecond 13 = .ok (.invokestatic 69, 3) := by decide +kernel
theorem d_Room_setSecond_16 : decode k_Room_setSecond 16 = .ok (.iload_n 2, 1) := by decide +kernel
theorem d_Room_setSecond_17 : decode k_Room_setSecond 17 = .ok (.iastore, 1) := by decide +kernel
theorem d_Room_setSecond_18 : decode k_Room_setSecond 18 = .ok (.return_, 1) := by decide +kernel
theorem d_Room_length_0 : decode k_Room_length 0 = .ok (.iload_n 1, 1) := by decide +kernel
theorem d_Room_length_1 : decode k_Room_length 1 = .ok (.istore_n 2, 1) := by decide +kernel
theorem d_Room_length_2 : decode k_Room_length 2 = .ok (.iconst 0, 1) := by decide +kernel
theorem d_Room_length_3 : decode k_Room_length 3 = .ok (.istore_n 3, 1) := by decide +kernel
theorem d_Room_length_4 : decode k_Room_length 4 = .ok (.iload_n 3, 1) := by decide +kernel
theorem d_Room_length_5 : decode k_Room_length 5 = .ok (.aload_n 0, 1) := by decide +kernel
theorem d_Room_length_6 : decode k_Room_length 6 = .ok (.getfield 27, 3) := by decide +kernel
end
section
theorem d_Room_length_9 : decode k_Room_length 9 = .ok (.if_icmp .ge (22), 3) := by decide +kernel
theorem d_Room_length_12 : decode k_Room_length 12 = .ok (.iload_n 2, 1) := by decide +kernel
theorem d_Room_length_13 : decode k_Room_length 13 = .ok (.invokestatic 73, 3) := by decide +kernel
theorem d_Room_length_16 : decode k_Room_length 16 = .ok (.ifCond .eq (15), 3) := by decide +kernel
theorem d_Room_length_19 : decode k_Room_length 19 = .ok (.aload_n 0, 1) := by decide +kernel
theorem d_Room_length_20 : decode k_Room_length 20 = .ok (.iload_n 2, 1) := by decide +kernel
theorem d_Room_length_21 : decode k_Room_length 21 = .ok (.invokevirtual 76, 3) := by decide +kernel
theorem d_Room_length_24 : decode k_Room_length 24 = .ok (.istore_n 2, 1) := by decide +kernel
theorem d_Room_length_25 : decode k_Room_length 25 = .ok (.iinc 3 1, 3) := by decide +kernel
theorem d_Room_length_28 : decode k_Room_length 28 = .ok (.goto (-24), 3) := by decide +kernel
theorem d_Room_length_31 : decode k_Room_length 31 = .ok (.iload_n 3, 1) := by decide +kernel
theorem d_Room_length_32 : decode k_Room_length 32 = .ok (.ireturn, 1) := by decide +kernel
theorem d_Room_tail_0 : decode k_Room_tail 0 = .ok (.iload_n 1, 1) := by decide +kernel
theorem d_Room_tail_1 : decode k_Room_tail 1 = .ok (.istore_n 3, 1) := by decide +kernel
theorem d_Room_tail_2 : decode k_Room_tail 2 = .ok (.iconst 0, 1) := by decide +kernel
theorem d_Room_tail_3 : decode k_Room_tail 3 = .ok (.istore 4, 2) := by decide +kernel
theorem d_Room_tail_5 : decode k_Room_tail 5 = .ok (.iload 4, 2) := by decide +kernel
theorem d_Room_tail_7 : decode k_Room_tail 7 = .ok (.iload_n 2, 1) := by decide +kernel
theorem d_Room_tail_8 : decode k_Room_tail 8 = .ok (.if_icmp .ge (22), 3) := by decide +kernel
theorem d_Room_tail_11 : decode k_Room_tail 11 = .ok (.iload_n 3, 1) := by decide +kernel
theorem d_Room_tail_12 : decode k_Room_tail 12 = .ok (.invokestatic 73, 3) := by decide +kernel
theorem d_Room_tail_15 : decode k_Room_tail 15 = .ok (.ifCond .eq (15), 3) := by decide +kernel
theorem d_Room_tail_18 : decode k_Room_tail 18 = .ok (.aload_n 0, 1) := by decide +kernel
theorem d_Room_tail_19 : decode k_Room_tail 19 = .ok (.iload_n 3, 1) := by decide +kernel
theorem d_Room_tail_20 : decode k_Room_tail 20 = .ok (.invokevirtual 76, 3) := by decide +kernel
theorem d_Room_tail_23 : decode k_Room_tail 23 = .ok (.istore_n 3, 1) := by decide +kernel
theorem d_Room_tail_24 : decode k_Room_tail 24 = .ok (.iinc 4 1, 3) := by decide +kernel
theorem d_Room_tail_27 : decode k_Room_tail 27 = .ok (.goto (-22), 3) := by decide +kernel
theorem d_Room_tail_30 : decode k_Room_tail 30 = .ok (.iload_n 3, 1) := by decide +kernel
theorem d_Room_tail_31 : decode k_Room_tail 31 = .ok (.ireturn, 1) := by decide +kernel
theorem d_Room_binding_0 : decode k_Room_binding 0 = .ok (.iload_n 2, 1) := by decide +kernel
theorem d_Room_binding_1 : decode k_Room_binding 1 = .ok (.istore_n 3, 1) := by decide +kernel
theorem d_Room_binding_2 : decode k_Room_binding 2 = .ok (.iconst 0, 1) := by decide +kernel
theorem d_Room_binding_3 : decode k_Room_binding 3 = .ok (.istore 4, 2) := by decide +kernel
theorem d_Room_binding_5 : decode k_Room_binding 5 = .ok (.iload 4, 2) := by decide +kernel
theorem d_Room_binding_7 : decode k_Room_binding 7 = .ok (.aload_n 0, 1) := by decide +kernel
theorem d_Room_binding_8 : decode k_Room_binding 8 = .ok (.getfield 27, 3) := by decide +kernel
theorem d_Room_binding_11 : decode k_Room_binding 11 = .ok (.if_icmp .ge (41), 3) := by decide +kernel
theorem d_Room_binding_14 : decode k_Room_binding 14 = .ok (.iload_n 3, 1) := by decide +kernel
theorem d_Room_binding_15 : decode k_Room_binding 15 = .ok (.invokestatic 73, 3) := by decide +kernel
theorem d_Room_binding_18 : decode k_Room_binding 18 = .ok (.ifCond .eq (34), 3) := by decide +kernel
theorem d_Room_binding_21 : decode k_Room_binding 21 = .ok (.aload_n 0, 1) := by decide +kernel
theorem d_Room_binding_22 : decode k_Room_binding 22 = .ok (.aload_n 0, 1) := by decide +kernel
theorem d_Room_binding_23 : decode k_Room_binding 23 = .ok (.iload_n 3, 1) := by decide +kernel
theorem d_Room_binding_24 : decode k_Room_binding 24 = .ok (.invokevirtual 79, 3) := by decide +kernel
theorem d_Room_binding_27 : decode k_Room_binding 27 = .ok (.invokevirtual 79, 3) := by decide +kernel
theorem d_Room_binding_30 : decode k_Room_binding 30 = .ok (.iload_n 1, 1) := by decide +kernel
theorem d_Room_binding_31 : decode k_Room_binding 31 = .ok (.if_icmp .ne (9), 3) := by decide +kernel
theorem d_Room_binding_34 : decode k_Room_binding 34 = .ok (.aload_n 0, 1) := by decide +kernel
theorem d_Room_binding_35 : decode k_Room_binding 35 = .ok (.iload_n 3, 1) := by decide +kernel
theorem d_Room_binding_36 : decode k_Room_binding 36 = .ok (.invokevirtual 79, 3) := by decide +kernel
theorem d_Room_binding_39 : decode k_Room_binding 39 = .ok (.ireturn, 1) := by decide +kernel
theorem d_Room_binding_40 : decode k_Room_binding 40 = .ok (.aload_n 0, 1) := by decide +kernel
theorem d_Room_binding_41 : decode k_Room_binding 41 = .ok (.iload_n 3, 1) := by decide +kernel
theorem d_Room_binding_42 : decode k_Room_binding 42 = .ok (.invokevirtual 76, 3) := by decide +kernel
theorem d_Room_binding_45 : decode k_Room_binding 45 = .ok (.istore_n 3, 1) := by decide +kernel
theorem d_Room_binding_46 : decode k_Room_binding 46 = .ok (.iinc 4 1, 3) := by decide +kernel
theorem d_Room_binding_49 : decode k_Room_binding 49 = .ok (.goto (-44), 3) := by decide +kernel
theorem d_Room_binding_52 : decode k_Room_binding 52 = .ok (.iconst 2, 1) := by decide +kernel
theorem d_Room_binding_53 : decode k_Room_binding 53 = .ok (.ireturn, 1) := by decide +kernel
theorem d_Room_collect_0 : decode k_Room_collect 0 = .ok (.aload_n 0, 1) := by decide +kernel
theorem d_Room_collect_1 : decode k_Room_collect 1 = .ok (.iconst 0, 1) := by decide +kernel
theorem d_Room_collect_2 : decode k_Room_collect 2 = .ok (.putfield 53, 3) := by decide +kernel
theorem d_Room_collect_5 : decode k_Room_collect 5 = .ok (.aload_n 0, 1) := by decide +kernel
theorem d_Room_collect_6 : decode k_Room_collect 6 = .ok (.iconst 0, 1) := by decide +kernel
theorem d_Room_collect_7 : decode k_Room_collect 7 = .ok (.putfield 82, 3) := by decide +kernel
theorem d_Room_collect_10 : decode k_Room_collect 10 = .ok (.aload_n 0, 1) := by decide +kernel
theorem d_Room_collect_11 : decode k_Room_collect 11 = .ok (.aload_n 0, 1) := by decide +kernel
theorem d_Room_collect_12 : decode k_Room_collect 12 = .ok (.getfield 13, 3) := by decide +kernel
theorem d_Room_collect_15 : decode k_Room_collect 15 = .ok (.getfield 85, 3) := by decide +kernel
theorem d_Room_collect_18 : decode k_Room_collect 18 = .ok (.invokevirtual 90, 3) := by decide +kernel
theorem d_Room_collect_21 : decode k_Room_collect 21 = .ok (.aload_n 0, 1) := by decide +kernel
theorem d_Room_collect_22 : decode k_Room_collect 22 = .ok (.aload_n 0, 1) := by decide +kernel
theorem d_Room_collect_23 : decode k_Room_collect 23 = .ok (.getfield 13, 3) := by decide +kernel
theorem d_Room_collect_26 : decode k_Room_collect 26 = .ok (.getfield 94, 3) := by decide +kernel
theorem d_Room_collect_29 : decode k_Room_collect 29 = .ok (.invokevirtual 90, 3) := by decide +kernel
theorem d_Room_collect_32 : decode k_Room_collect 32 = .ok (.iconst 0, 1) := by decide +kernel
theorem d_Room_collect_33 : decode k_Room_collect 33 = .ok (.istore_n 1, 1) := by decide +kernel
theorem d_Room_collect_34 : decode k_Room_collect 34 = .ok (.iload_n 1, 1) := by decide +kernel
theorem d_Room_collect_35 : decode k_Room_collect 35 = .ok (.aload_n 0, 1) := by decide +kernel
theorem d_Room_collect_36 : decode k_Room_collect 36 = .ok (.getfield 13, 3) := by decide +kernel
theorem d_Room_collect_39 : decode k_Room_collect 39 = .ok (.getfield 97, 3) := by decide +kernel
theorem d_Room_collect_42 : decode k_Room_collect 42 = .ok (.if_icmp .ge (54), 3) := by decide +kernel
theorem d_Room_collect_45 : decode k_Room_collect 45 = .ok (.iload_n 1, 1) := by decide +kernel
theorem d_Room_collect_46 : decode k_Room_collect 46 = .ok (.bipush 30, 2) := by decide +kernel
theorem d_Room_collect_48 : decode k_Room_collect 48 = .ok (.if_icmp .ge (48), 3) := by decide +kernel
theorem d_Room_collect_51 : decode k_Room_collect 51 = .ok (.aload_n 0, 1) := by decide +kernel
theorem d_Room_collect_52 : decode k_Room_collect 52 = .ok (.aload_n 0, 1) := by decide +kernel
theorem d_Room_collect_53 : decode k_Room_collect 53 = .ok (.getfield 13, 3) := by decide +kernel
theorem d_Room_collect_56 : decode k_Room_collect 56 = .ok (.getfield 100, 3) := by decide +kernel
theorem d_Room_collect_59 : decode k_Room_collect 59 = .ok (.iload_n 1, 1) := by decide +kernel
theorem d_Room_collect_60 : decode k_Room_collect 60 = .ok (.iaload, 1) := by decide +kernel
theorem d_Room_collect_61 : decode k_Room_collect 61 = .ok (.invokevirtual 90, 3) := by decide +kernel
theorem d_Room_collect_64 : decode k_Room_collect 64 = .ok (.aload_n 0, 1) := by decide +kernel
theorem d_Room_collect_65 : decode k_Room_collect 65 = .ok (.aload_n 0, 1) := by decide +kernel
theorem d_Room_collect_66 : decode k_Room_collect 66 = .ok (.getfield 13, 3) := by decide +kernel
theorem d_Room_collect_69 : decode k_Room_collect 69 = .ok (.getfield 103, 3) := by decide +kernel
theorem d_Room_collect_72 : decode k_Room_collect 72 = .ok (.iload_n 1, 1) := by decide +kernel
theorem d_Room_collect_73 : decode k_Room_collect 73 = .ok (.iaload, 1) := by decide +kernel
theorem d_Room_collect_74 : decode k_Room_collect 74 = .ok (.invokevirtual 90, 3) := by decide +kernel
theorem d_Room_collect_77 : decode k_Room_collect 77 = .ok (.aload_n 0, 1) := by decide +kernel
theorem d_Room_collect_78 : decode k_Room_collect 78 = .ok (.aload_n 0, 1) := by decide +kernel
theorem d_Room_collect_79 : decode k_Room_collect 79 = .ok (.getfield 13, 3) := by decide +kernel
theorem d_Room_collect_82 : decode k_Room_collect 82 = .ok (.getfield 106, 3) := by decide +kernel
theorem d_Room_collect_85 : decode k_Room_collect 85 = .ok (.iload_n 1, 1) := by decide +kernel
theorem d_Room_collect_86 : decode k_Room_collect 86 = .ok (.iaload, 1) := by decide +kernel
theorem d_Room_collect_87 : decode k_Room_collect 87 = .ok (.invokevirtual 90, 3) := by decide +kernel
theorem d_Room_collect_90 : decode k_Room_collect 90 = .ok (.iinc 1 1, 3) := by decide +kernel
theorem d_Room_collect_93 : decode k_Room_collect 93 = .ok (.goto (-59), 3) := by decide +kernel
theorem d_Room_collect_96 : decode k_Room_collect 96 = .ok (.iconst 0, 1) := by decide +kernel
theorem d_Room_collect_97 : decode k_Room_collect 97 = .ok (.istore_n 1, 1) := by decide +kernel
theorem d_Room_collect_98 : decode k_Room_collect 98 = .ok (.iload_n 1, 1) := by decide +kernel
theorem d_Room_collect_99 : decode k_Room_collect 99 = .ok (.aload_n 0, 1) := by decide +kernel
theorem d_Room_collect_100 : decode k_Room_collect 100 = .ok (.getfield 17, 3) := by decide +kernel
theorem d_Room_collect_103 : decode k_Room_collect 103 = .ok (.getfield 109, 3) := by decide +kernel
theorem d_Room_collect_106 : decode k_Room_collect 106 = .ok (.if_icmp .ge (28), 3) := by decide +kernel
theorem d_Room_collect_109 : decode k_Room_collect 109 = .ok (.iload_n 1, 1) := by decide +kernel
theorem d_Room_collect_110 : decode k_Room_collect 110 = .ok (.bipush 40, 2) := by decide +kernel
theorem d_Room_collect_112 : decode k_Room_collect 112 = .ok (.if_icmp .ge (22), 3) := by decide +kernel
theorem d_Room_collect_115 : decode k_Room_collect 115 = .ok (.aload_n 0, 1) := by decide +kernel
theorem d_Room_collect_116 : decode k_Room_collect 116 = .ok (.aload_n 0, 1) := by decide +kernel
theorem d_Room_collect_117 : decode k_Room_collect 117 = .ok (.getfield 17, 3) := by decide +kernel
theorem d_Room_collect_120 : decode k_Room_collect 120 = .ok (.getfield 114, 3) := by decide +kernel
theorem d_Room_collect_123 : decode k_Room_collect 123 = .ok (.iload_n 1, 1) := by decide +kernel
theorem d_Room_collect_124 : decode k_Room_collect 124 = .ok (.iaload, 1) := by decide +kernel
theorem d_Room_collect_125 : decode k_Room_collect 125 = .ok (.invokevirtual 90, 3) := by decide +kernel
theorem d_Room_collect_128 : decode k_Room_collect 128 = .ok (.iinc 1 1, 3) := by decide +kernel
theorem d_Room_collect_131 : decode k_Room_collect 131 = .ok (.goto (-33), 3) := by decide +kernel
theorem d_Room_collect_134 : decode k_Room_collect 134 = .ok (.iconst 0, 1) := by decide +kernel
theorem d_Room_collect_135 : decode k_Room_collect 135 = .ok (.istore_n 1, 1) := by decide +kernel
theorem d_Room_collect_136 : decode k_Room_collect 136 = .ok (.iload_n 1, 1) := by decide +kernel
theorem d_Room_collect_137 : decode k_Room_collect 137 = .ok (.aload_n 0, 1) := by decide +kernel
theorem d_Room_collect_138 : decode k_Room_collect 138 = .ok (.getfield 82, 3) := by decide +kernel
theorem d_Room_collect_141 : decode k_Room_collect 141 = .ok (.if_icmp .ge (66), 3) := by decide +kernel
theorem d_Room_collect_144 : decode k_Room_collect 144 = .ok (.iload_n 1, 1) := by decide +kernel
theorem d_Room_collect_145 : decode k_Room_collect 145 = .ok (.aload_n 0, 1) := by decide +kernel
theorem d_Room_collect_146 : decode k_Room_collect 146 = .ok (.getfield 27, 3) := by decide +kernel
theorem d_Room_collect_149 : decode k_Room_collect 149 = .ok (.if_icmp .ge (58), 3) := by decide +kernel
theorem d_Room_collect_152 : decode k_Room_collect 152 = .ok (.aload_n 0, 1) := by decide +kernel
theorem d_Room_collect_153 : decode k_Room_collect 153 = .ok (.getfield 44, 3) := by decide +kernel
theorem d_Room_collect_156 : decode k_Room_collect 156 = .ok (.iload_n 1, 1) := by decide +kernel
theorem d_Room_collect_157 : decode k_Room_collect 157 = .ok (.iaload, 1) := by decide +kernel
theorem d_Room_collect_158 : decode k_Room_collect 158 = .ok (.istore_n 2, 1) := by decide +kernel
theorem d_Room_collect_159 : decode k_Room_collect 159 = .ok (.iload_n 2, 1) := by decide +kernel
theorem d_Room_collect_160 : decode k_Room_collect 160 = .ok (.ifCond .lt (41), 3) := by decide +kernel
theorem d_Room_collect_163 : decode k_Room_collect 163 = .ok (.iload_n 2, 1) := by decide +kernel
theorem d_Room_collect_164 : decode k_Room_collect 164 = .ok (.aload_n 0, 1) := by decide +kernel
theorem d_Room_collect_165 : decode k_Room_collect 165 = .ok (.getfield 27, 3) := by decide +kernel
theorem d_Room_collect_168 : decode k_Room_collect 168 = .ok (.if_icmp .ge (33), 3) := by decide +kernel
theorem d_Room_collect_171 : decode k_Room_collect 171 = .ok (.aload_n 0, 1) := by decide +kernel
theorem d_Room_collect_172 : decode k_Room_collect 172 = .ok (.aload_n 0, 1) := by decide +kernel
theorem d_Room_collect_173 : decode k_Room_collect 173 = .ok (.getfield 30, 3) := by decide +kernel
theorem d_Room_collect_176 : decode k_Room_collect 176 = .ok (.iload_n 2, 1) := by decide +kernel
theorem d_Room_collect_177 : decode k_Room_collect 177 = .ok (.iaload, 1) := by decide +kernel
theorem d_Room_collect_178 : decode k_Room_collect 178 = .ok (.invokevirtual 90, 3) := by decide +kernel
theorem d_Room_collect_181 : decode k_Room_collect 181 = .ok (.aload_n 0, 1) := by decide +kernel
theorem d_Room_collect_182 : decode k_Room_collect 182 = .ok (.aload_n 0, 1) := by decide +kernel
theorem d_Room_collect_183 : decode k_Room_collect 183 = .ok (.getfield 34, 3) := by decide +kernel
theorem d_Room_collect_186 : decode k_Room_collect 186 = .ok (.iload_n 2, 1) := by decide +kernel
theorem d_Room_collect_187 : decode k_Room_collect 187 = .ok (.iaload, 1) := by decide +kernel
theorem d_Room_collect_188 : decode k_Room_collect 188 = .ok (.invokevirtual 90, 3) := by decide +kernel
theorem d_Room_collect_191 : decode k_Room_collect 191 = .ok (.aload_n 0, 1) := by decide +kernel
theorem d_Room_collect_192 : decode k_Room_collect 192 = .ok (.aload_n 0, 1) := by decide +kernel
theorem d_Room_collect_193 : decode k_Room_collect 193 = .ok (.getfield 37, 3) := by decide +kernel
theorem d_Room_collect_196 : decode k_Room_collect 196 = .ok (.iload_n 2, 1) := by decide +kernel
theorem d_Room_collect_197 : decode k_Room_collect 197 = .ok (.iaload, 1) := by decide +kernel
theorem d_Room_collect_198 : decode k_Room_collect 198 = .ok (.invokevirtual 90, 3) := by decide +kernel
theorem d_Room_collect_201 : decode k_Room_collect 201 = .ok (.iinc 1 1, 3) := by decide +kernel
theorem d_Room_collect_204 : decode k_Room_collect 204 = .ok (.goto (-68), 3) := by decide +kernel
theorem d_Room_collect_207 : decode k_Room_collect 207 = .ok (.aload_n 0, 1) := by decide +kernel
theorem d_Room_collect_208 : decode k_Room_collect 208 = .ok (.invokevirtual 117, 3) := by decide +kernel
theorem d_Room_collect_211 : decode k_Room_collect 211 = .ok (.return_, 1) := by decide +kernel
theorem d_Room_reach_0 : decode k_Room_reach 0 = .ok (.iload_n 1, 1) := by decide +kernel
theorem d_Room_reach_1 : decode k_Room_reach 1 = .ok (.invokestatic 120, 3) := by decide +kernel
theorem d_Room_reach_4 : decode k_Room_reach 4 = .ok (.istore_n 2, 1) := by decide +kernel
theorem d_Room_reach_5 : decode k_Room_reach 5 = .ok (.iload_n 1, 1) := by decide +kernel
theorem d_Room_reach_6 : decode k_Room_reach 6 = .ok (.invokestatic 69, 3) := by decide +kernel
theorem d_Room_reach_9 : decode k_Room_reach 9 = .ok (.istore_n 3, 1) := by decide +kernel
theorem d_Room_reach_10 : decode k_Room_reach 10 = .ok (.iload_n 2, 1) := by decide +kernel
theorem d_Room_reach_11 : decode k_Room_reach 11 = .ok (.iconst 4, 1) := by decide +kernel
theorem d_Room_reach_12 : decode k_Room_reach 12 = .ok (.if_icmp .eq (8), 3) := by decide +kernel
theorem d_Room_reach_15 : decode k_Room_reach 15 = .ok (.iload_n 2, 1) := by decide +kernel
theorem d_Room_reach_16 : decode k_Room_reach 16 = .ok (.iconst 5, 1) := by decide +kernel
theorem d_Room_reach_17 : decode k_Room_reach 17 = .ok (.if_icmp .ne (7), 3) := by decide +kernel
theorem d_Room_reach_20 : decode k_Room_reach 20 = .ok (.iconst 1, 1) := by decide +kernel
theorem d_Room_reach_21 : decode k_Room_reach 21 = .ok (.goto (4), 3) := by decide +kernel
theorem d_Room_reach_24 : decode k_Room_reach 24 = .ok (.iconst 0, 1) := by decide +kernel
theorem d_Room_reach_25 : decode k_Room_reach 25 = .ok (.istore 4, 2) := by decide +kernel
theorem d_Room_reach_27 : decode k_Room_reach 27 = .ok (.iload 4, 2) := by decide +kernel
theorem d_Room_reach_29 : decode k_Room_reach 29 = .ok (.ifCond .eq (35), 3) := by decide +kernel
theorem d_Room_reach_32 : decode k_Room_reach 32 = .ok (.iload_n 3, 1) := by decide +kernel
theorem d_Room_reach_33 : decode k_Room_reach 33 = .ok (.ifCond .lt (31), 3) := by decide +kernel
theorem d_Room_reach_36 : decode k_Room_reach 36 = .ok (.iload_n 3, 1) := by decide +kernel
theorem d_Room_reach_37 : decode k_Room_reach 37 = .ok (.aload_n 0, 1) := by decide +kernel
theorem d_Room_reach_38 : decode k_Room_reach 38 = .ok (.getfield 27, 3) := by decide +kernel
theorem d_Room_reach_41 : decode k_Room_reach 41 = .ok (.if_icmp .ge (23), 3) := by decide +kernel
theorem d_Room_reach_44 : decode k_Room_reach 44 = .ok (.aload_n 0, 1) := by decide +kernel
theorem d_Room_reach_45 : decode k_Room_reach 45 = .ok (.getfield 40, 3) := by decide +kernel
theorem d_Room_reach_48 : decode k_Room_reach 48 = .ok (.iload_n 3, 1) := by decide +kernel
theorem d_Room_reach_49 : decode k_Room_reach 49 = .ok (.baload, 1) := by decide +kernel
theorem d_Room_reach_50 : decode k_Room_reach 50 = .ok (.ifCond .ne (14), 3) := by decide +kernel
theorem d_Room_reach_53 : decode k_Room_reach 53 = .ok (.aload_n 0, 1) := by decide +kernel
theorem d_Room_reach_54 : decode k_Room_reach 54 = .ok (.getfield 82, 3) := by decide +kernel
theorem d_Room_reach_57 : decode k_Room_reach 57 = .ok (.aload_n 0, 1) := by decide +kernel
theorem d_Room_reach_58 : decode k_Room_reach 58 = .ok (.getfield 27, 3) := by decide +kernel
theorem d_Room_reach_61 : decode k_Room_reach 61 = .ok (.if_icmp .lt (4), 3) := by decide +kernel
theorem d_Room_reach_64 : decode k_Room_reach 64 = .ok (.return_, 1) := by decide +kernel
theorem d_Room_reach_65 : decode k_Room_reach 65 = .ok (.aload_n 0, 1) := by decide +kernel
theorem d_Room_reach_66 : decode k_Room_reach 66 = .ok (.getfield 40, 3) := by decide +kernel
theorem d_Room_reach_69 : decode k_Room_reach 69 = .ok (.iload_n 3, 1) := by decide +kernel
theorem d_Room_reach_70 : decode k_Room_reach 70 = .ok (.iconst 1, 1) := by decide +kernel
theorem d_Room_reach_71 : decode k_Room_reach 71 = .ok (.bastore, 1) := by decide +kernel
theorem d_Room_reach_72 : decode k_Room_reach 72 = .ok (.aload_n 0, 1) := by decide +kernel
theorem d_Room_reach_73 : decode k_Room_reach 73 = .ok (.dup, 1) := by decide +kernel
theorem d_Room_reach_74 : decode k_Room_reach 74 = .ok (.getfield 53, 3) := by decide +kernel
theorem d_Room_reach_77 : decode k_Room_reach 77 = .ok (.iload_n 2, 1) := by decide +kernel
theorem d_Room_reach_78 : decode k_Room_reach 78 = .ok (.iconst 4, 1) := by decide +kernel
theorem d_Room_reach_79 : decode k_Room_reach 79 = .ok (.if_icmp .ne (7), 3) := by decide +kernel
theorem d_Room_reach_82 : decode k_Room_reach 82 = .ok (.iconst 2, 1) := by decide +kernel
theorem d_Room_reach_83 : decode k_Room_reach 83 = .ok (.goto (4), 3) := by decide +kernel
theorem d_Room_reach_86 : decode k_Room_reach 86 = .ok (.iconst 3, 1) := by decide +kernel
theorem d_Room_reach_87 : decode k_Room_reach 87 = .ok (.iadd, 1) := by decide +kernel
theorem d_Room_reach_88 : decode k_Room_reach 88 = .ok (.putfield 53, 3) := by decide +kernel
theorem d_Room_reach_91 : decode k_Room_reach 91 = .ok (.aload_n 0, 1) := by decide +kernel
theorem d_Room_reach_92 : decode k_Room_reach 92 = .ok (.getfield 44, 3) := by decide +kernel
theorem d_Room_reach_95 : decode k_Room_reach 95 = .ok (.aload_n 0, 1) := by decide +kernel
theorem d_Room_reach_96 : decode k_Room_reach 96 = .ok (.getfield 82, 3) := by decide +kernel
theorem d_Room_reach_99 : decode k_Room_reach 99 = .ok (.iload_n 3, 1) := by decide +kernel
theorem d_Room_reach_100 : decode k_Room_reach 100 = .ok (.iastore, 1) := by decide +kernel
theorem d_Room_reach_101 : decode k_Room_reach 101 = .ok (.aload_n 0, 1) := by decide +kernel
theorem d_Room_reach_102 : decode k_Room_reach 102 = .ok (.dup, 1) := by decide +kernel
theorem d_Room_reach_103 : decode k_Room_reach 103 = .ok (.getfield 82, 3) := by decide +kernel
theorem d_Room_reach_106 : decode k_Room_reach 106 = .ok (.iconst 1, 1) := by decide +kernel
theorem d_Room_reach_107 : decode k_Room_reach 107 = .ok (.iadd, 1) := by decide +kernel
theorem d_Room_reach_108 : decode k_Room_reach 108 = .ok (.putfield 82, 3) := by decide +kernel
theorem d_Room_reach_111 : decode k_Room_reach 111 = .ok (.return_, 1) := by decide +kernel
theorem d_Room_freeUnreached_0 : decode k_Room_freeUnreached 0 = .ok (.aload_n 0, 1) := by decide +kernel
theorem d_Room_freeUnreached_1 : decode k_Room_freeUnreached 1 = .ok (.iconst 0, 1) := by decide +kernel
theorem d_Room_freeUnreached_2 : decode k_Room_freeUnreached 2 = .ok (.putfield 50, 3) := by decide +kernel
theorem d_Room_freeUnreached_5 : decode k_Room_freeUnreached 5 = .ok (.iconst 0, 1) := by decide +kernel
theorem d_Room_freeUnreached_6 : decode k_Room_freeUnreached 6 = .ok (.istore_n 1, 1) := by decide +kernel
theorem d_Room_freeUnreached_7 : decode k_Room_freeUnreached 7 = .ok (.iload_n 1, 1) := by decide +kernel
theorem d_Room_freeUnreached_8 : decode k_Room_freeUnreached 8 = .ok (.aload_n 0, 1) := by decide +kernel
theorem d_Room_freeUnreached_9 : decode k_Room_freeUnreached 9 = .ok (.getfield 27, 3) := by decide +kernel
theorem d_Room_freeUnreached_12 : decode k_Room_freeUnreached 12 = .ok (.if_icmp .ge (56), 3) := by decide +kernel
theorem d_Room_freeUnreached_15 : decode k_Room_freeUnreached 15 = .ok (.aload_n 0, 1) := by decide +kernel
theorem d_Room_freeUnreached_16 : decode k_Room_freeUnreached 16 = .ok (.getfield 40, 3) := by decide +kernel
theorem d_Room_freeUnreached_19 : decode k_Room_freeUnreached 19 = .ok (.iload_n 1, 1) := by decide +kernel
theorem d_Room_freeUnreached_20 : decode k_Room_freeUnreached 20 = .ok (.baload, 1) := by decide +kernel
theorem d_Room_freeUnreached_21 : decode k_Room_freeUnreached 21 = .ok (.ifCond .ne (34), 3) := by decide +kernel
theorem d_Room_freeUnreached_24 : decode k_Room_freeUnreached 24 = .ok (.aload_n 0, 1) := by decide +kernel
theorem d_Room_freeUnreached_25 : decode k_Room_freeUnreached 25 = .ok (.getfield 50, 3) := by decide +kernel
theorem d_Room_freeUnreached_28 : decode k_Room_freeUnreached 28 = .ok (.aload_n 0, 1) := by decide +kernel
theorem d_Room_freeUnreached_29 : decode k_Room_freeUnreached 29 = .ok (.getfield 27, 3) := by decide +kernel
theorem d_Room_freeUnreached_32 : decode k_Room_freeUnreached 32 = .ok (.if_icmp .ge (23), 3) := by decide +kernel
theorem d_Room_freeUnreached_35 : decode k_Room_freeUnreached 35 = .ok (.aload_n 0, 1) := by decide +kernel
theorem d_Room_freeUnreached_36 : decode k_Room_freeUnreached 36 = .ok (.getfield 47, 3) := by decide +kernel
theorem d_Room_freeUnreached_39 : decode k_Room_freeUnreached 39 = .ok (.aload_n 0, 1) := by decide +kernel
theorem d_Room_freeUnreached_40 : decode k_Room_freeUnreached 40 = .ok (.getfield 50, 3) := by decide +kernel
theorem d_Room_freeUnreached_43 : decode k_Room_freeUnreached 43 = .ok (.iload_n 1, 1) := by decide +kernel
theorem d_Room_freeUnreached_44 : decode k_Room_freeUnreached 44 = .ok (.iastore, 1) := by decide +kernel
theorem d_Room_freeUnreached_45 : decode k_Room_freeUnreached 45 = .ok (.aload_n 0, 1) := by decide +kernel
theorem d_Room_freeUnreached_46 : decode k_Room_freeUnreached 46 = .ok (.dup, 1) := by decide +kernel
theorem d_Room_freeUnreached_47 : decode k_Room_freeUnreached 47 = .ok (.getfield 50, 3) := by decide +kernel
theorem d_Room_freeUnreached_50 : decode k_Room_freeUnreached 50 = .ok (.iconst 1, 1) := by decide +kernel
theorem d_Room_freeUnreached_51 : decode k_Room_freeUnreached 51 = .ok (.iadd, 1) := by decide +kernel
theorem d_Room_freeUnreached_52 : decode k_Room_freeUnreached 52 = .ok (.putfield 50, 3) := by decide +kernel
theorem d_Room_freeUnreached_55 : decode k_Room_freeUnreached 55 = .ok (.aload_n 0, 1) := by decide +kernel
theorem d_Room_freeUnreached_56 : decode k_Room_freeUnreached 56 = .ok (.getfield 40, 3) := by decide +kernel
theorem d_Room_freeUnreached_59 : decode k_Room_freeUnreached 59 = .ok (.iload_n 1, 1) := by decide +kernel
theorem d_Room_freeUnreached_60 : decode k_Room_freeUnreached 60 = .ok (.iconst 0, 1) := by decide +kernel
theorem d_Room_freeUnreached_61 : decode k_Room_freeUnreached 61 = .ok (.bastore, 1) := by decide +kernel
theorem d_Room_freeUnreached_62 : decode k_Room_freeUnreached 62 = .ok (.iinc 1 1, 3) := by decide +kernel
theorem d_Room_freeUnreached_65 : decode k_Room_freeUnreached 65 = .ok (.goto (-58), 3) := by decide +kernel
theorem d_Room_freeUnreached_68 : decode k_Room_freeUnreached 68 = .ok (.return_, 1) := by decide +kernel
theorem d_Room_make_0 : decode k_Room_make 0 = .ok (.aload_n 0, 1) := by decide +kernel
theorem d_Room_make_1 : decode k_Room_make 1 = .ok (.getfield 50, 3) := by decide +kernel
theorem d_Room_make_4 : decode k_Room_make 4 = .ok (.iconst 1, 1) := by decide +kernel
theorem d_Room_make_5 : decode k_Room_make 5 = .ok (.if_icmp .lt (14), 3) := by decide +kernel
theorem d_Room_make_8 : decode k_Room_make 8 = .ok (.aload_n 0, 1) := by decide +kernel
theorem d_Room_make_9 : decode k_Room_make 9 = .ok (.getfield 50, 3) := by decide +kernel
theorem d_Room_make_12 : decode k_Room_make 12 = .ok (.aload_n 0, 1) := by decide +kernel
theorem d_Room_make_13 : decode k_Room_make 13 = .ok (.getfield 27, 3) := by decide +kernel
theorem d_Room_make_16 : decode k_Room_make 16 = .ok (.if_icmp .le (5), 3) := by decide +kernel
theorem d_Room_make_19 : decode k_Room_make 19 = .ok (.iconst 2, 1) := by decide +kernel
theorem d_Room_make_20 : decode k_Room_make 20 = .ok (.ireturn, 1) := by decide +kernel
theorem d_Room_make_21 : decode k_Room_make 21 = .ok (.aload_n 0, 1) := by decide +kernel
theorem d_Room_make_22 : decode k_Room_make 22 = .ok (.dup, 1) := by decide +kernel
theorem d_Room_make_23 : decode k_Room_make 23 = .ok (.getfield 50, 3) := by decide +kernel
theorem d_Room_make_26 : decode k_Room_make 26 = .ok (.iconst 1, 1) := by decide +kernel
theorem d_Room_make_27 : decode k_Room_make 27 = .ok (.isub, 1) := by decide +kernel
theorem d_Room_make_28 : decode k_Room_make 28 = .ok (.putfield 50, 3) := by decide +kernel
theorem d_Room_make_31 : decode k_Room_make 31 = .ok (.aload_n 0, 1) := by decide +kernel
theorem d_Room_make_32 : decode k_Room_make 32 = .ok (.getfield 47, 3) := by decide +kernel
theorem d_Room_make_35 : decode k_Room_make 35 = .ok (.aload_n 0, 1) := by decide +kernel
theorem d_Room_make_36 : decode k_Room_make 36 = .ok (.getfield 50, 3) := by decide +kernel
theorem d_Room_make_39 : decode k_Room_make 39 = .ok (.iaload, 1) := by decide +kernel
theorem d_Room_make_40 : decode k_Room_make 40 = .ok (.istore 5, 2) := by decide +kernel
theorem d_Room_make_42 : decode k_Room_make 42 = .ok (.iload 5, 2) := by decide +kernel
theorem d_Room_make_44 : decode k_Room_make 44 = .ok (.ifCond .lt (12), 3) := by decide +kernel
theorem d_Room_make_47 : decode k_Room_make 47 = .ok (.iload 5, 2) := by decide +kernel
theorem d_Room_make_49 : decode k_Room_make 49 = .ok (.aload_n 0, 1) := by decide +kernel
theorem d_Room_make_50 : decode k_Room_make 50 = .ok (.getfield 27, 3) := by decide +kernel
theorem d_Room_make_53 : decode k_Room_make 53 = .ok (.if_icmp .lt (5), 3) := by decide +kernel
theorem d_Room_make_56 : decode k_Room_make 56 = .ok (.iconst 2, 1) := by decide +kernel
theorem d_Room_make_57 : decode k_Room_make 57 = .ok (.ireturn, 1) := by decide +kernel
theorem d_Room_make_58 : decode k_Room_make 58 = .ok (.aload_n 0, 1) := by decide +kernel
theorem d_Room_make_59 : decode k_Room_make 59 = .ok (.getfield 30, 3) := by decide +kernel
theorem d_Room_make_62 : decode k_Room_make 62 = .ok (.iload 5, 2) := by decide +kernel
theorem d_Room_make_64 : decode k_Room_make 64 = .ok (.iload_n 2, 1) := by decide +kernel
theorem d_Room_make_65 : decode k_Room_make 65 = .ok (.iastore, 1) := by decide +kernel
theorem d_Room_make_66 : decode k_Room_make 66 = .ok (.aload_n 0, 1) := by decide +kernel
theorem d_Room_make_67 : decode k_Room_make 67 = .ok (.getfield 34, 3) := by decide +kernel
theorem d_Room_make_70 : decode k_Room_make 70 = .ok (.iload 5, 2) := by decide +kernel
theorem d_Room_make_72 : decode k_Room_make 72 = .ok (.iload_n 3, 1) := by decide +kernel
theorem d_Room_make_73 : decode k_Room_make 73 = .ok (.iastore, 1) := by decide +kernel
theorem d_Room_make_74 : decode k_Room_make 74 = .ok (.aload_n 0, 1) := by decide +kernel
theorem d_Room_make_75 : decode k_Room_make 75 = .ok (.getfield 37, 3) := by decide +kernel
theorem d_Room_make_78 : decode k_Room_make 78 = .ok (.iload 5, 2) := by decide +kernel
theorem d_Room_make_80 : decode k_Room_make 80 = .ok (.iload 4, 2) := by decide +kernel
theorem d_Room_make_82 : decode k_Room_make 82 = .ok (.iastore, 1) := by decide +kernel
theorem d_Room_make_83 : decode k_Room_make 83 = .ok (.iload 5, 2) := by decide +kernel
theorem d_Room_make_85 : decode k_Room_make 85 = .ok (.iconst 3, 1) := by decide +kernel
theorem d_Room_make_86 : decode k_Room_make 86 = .ok (.ishl, 1) := by decide +kernel
theorem d_Room_make_87 : decode k_Room_make 87 = .ok (.iload_n 1, 1) := by decide +kernel
theorem d_Room_make_88 : decode k_Room_make 88 = .ok (.ior, 1) := by decide +kernel
theorem d_Room_make_89 : decode k_Room_make 89 = .ok (.ireturn, 1) := by decide +kernel
theorem d_Room_isHere_0 : decode k_Room_isHere 0 = .ok (.iload_n 1, 1) := by decide +kernel
theorem d_Room_isHere_1 : decode k_Room_isHere 1 = .ok (.bipush 7, 2) := by decide +kernel
theorem d_Room_isHere_3 : decode k_Room_isHere 3 = .ok (.iand, 1) := by decide +kernel
theorem d_Room_isHere_4 : decode k_Room_isHere 4 = .ok (.istore_n 2, 1) := by decide +kernel
theorem d_Room_isHere_5 : decode k_Room_isHere 5 = .ok (.iload_n 1, 1) := by decide +kernel
theorem d_Room_isHere_6 : decode k_Room_isHere 6 = .ok (.iconst 3, 1) := by decide +kernel
theorem d_Room_isHere_7 : decode k_Room_isHere 7 = .ok (.ishr, 1) := by decide +kernel
theorem d_Room_isHere_8 : decode k_Room_isHere 8 = .ok (.istore_n 3, 1) := by decide +kernel
theorem d_Room_isHere_9 : decode k_Room_isHere 9 = .ok (.iload_n 2, 1) := by decide +kernel
theorem d_Room_isHere_10 : decode k_Room_isHere 10 = .ok (.iconst 4, 1) := by decide +kernel
theorem d_Room_isHere_11 : decode k_Room_isHere 11 = .ok (.if_icmp .eq (8), 3) := by decide +kernel
theorem d_Room_isHere_14 : decode k_Room_isHere 14 = .ok (.iload_n 2, 1) := by decide +kernel
theorem d_Room_isHere_15 : decode k_Room_isHere 15 = .ok (.iconst 5, 1) := by decide +kernel
theorem d_Room_isHere_16 : decode k_Room_isHere 16 = .ok (.if_icmp .ne (19), 3) := by decide +kernel
theorem d_Room_isHere_19 : decode k_Room_isHere 19 = .ok (.iload_n 3, 1) := by decide +kernel
theorem d_Room_isHere_20 : decode k_Room_isHere 20 = .ok (.ifCond .lt (15), 3) := by decide +kernel
theorem d_Room_isHere_23 : decode k_Room_isHere 23 = .ok (.iload_n 3, 1) := by decide +kernel
theorem d_Room_isHere_24 : decode k_Room_isHere 24 = .ok (.aload_n 0, 1) := by decide +kernel
theorem d_Room_isHere_25 : decode k_Room_isHere 25 = .ok (.getfield 27, 3) := by decide +kernel
theorem d_Room_isHere_28 : decode k_Room_isHere 28 = .ok (.if_icmp .ge (7), 3) := by decide +kernel
theorem d_Room_isHere_31 : decode k_Room_isHere 31 = .ok (.iconst 1, 1) := by decide +kernel
theorem d_Room_isHere_32 : decode k_Room_isHere 32 = .ok (.goto (4), 3) := by decide +kernel
theorem d_Room_isHere_35 : decode k_Room_isHere 35 = .ok (.iconst 0, 1) := by decide +kernel
theorem d_Room_isHere_36 : decode k_Room_isHere 36 = .ok (.ireturn, 1) := by decide +kernel
theorem d_Machine_begin_0 : decode k_Machine_begin 0 = .ok (.aload_n 0, 1) := by decide +kernel
theorem d_Machine_begin_1 : decode k_Machine_begin 1 = .ok (.getfield 23, 3) := by decide +kernel
theorem d_Machine_begin_4 : decode k_Machine_begin 4 = .ok (.invokevirtual 57, 3) := by decide +kernel
theorem d_Machine_begin_7 : decode k_Machine_begin 7 = .ok (.istore_n 1, 1) := by decide +kernel
theorem d_Machine_begin_8 : decode k_Machine_begin 8 = .ok (.iload_n 1, 1) := by decide +kernel
theorem d_Machine_begin_9 : decode k_Machine_begin 9 = .ok (.iconst 2, 1) := by decide +kernel
theorem d_Machine_begin_10 : decode k_Machine_begin 10 = .ok (.if_icmp .ne (5), 3) := by decide +kernel
theorem d_Machine_begin_13 : decode k_Machine_begin 13 = .ok (.iconst 2, 1) := by decide +kernel
theorem d_Machine_begin_14 : decode k_Machine_begin 14 = .ok (.ireturn, 1) := by decide +kernel
theorem d_Machine_begin_15 : decode k_Machine_begin 15 = .ok (.aload_n 0, 1) := by decide +kernel
theorem d_Machine_begin_16 : decode k_Machine_begin 16 = .ok (.iconst 1, 1) := by decide +kernel
theorem d_Machine_begin_17 : decode k_Machine_begin 17 = .ok (.putfield 39, 3) := by decide +kernel
theorem d_Machine_begin_20 : decode k_Machine_begin 20 = .ok (.iload_n 1, 1) := by decide +kernel
theorem d_Machine_begin_21 : decode k_Machine_begin 21 = .ok (.ifCond .eq (5), 3) := by decide +kernel
theorem d_Machine_begin_24 : decode k_Machine_begin 24 = .ok (.iload_n 1, 1) := by decide +kernel
theorem d_Machine_begin_25 : decode k_Machine_begin 25 = .ok (.ireturn, 1) := by decide +kernel
theorem d_Machine_begin_26 : decode k_Machine_begin 26 = .ok (.aload_n 0, 1) := by decide +kernel
theorem d_Machine_begin_27 : decode k_Machine_begin 27 = .ok (.iconst 1, 1) := by decide +kernel
theorem d_Machine_begin_28 : decode k_Machine_begin 28 = .ok (.putfield 31, 3) := by decide +kernel
theorem d_Machine_begin_31 : decode k_Machine_begin 31 = .ok (.aload_n 0, 1) := by decide +kernel
theorem d_Machine_begin_32 : decode k_Machine_begin 32 = .ok (.aload_n 0, 1) := by decide +kernel
theorem d_Machine_begin_33 : decode k_Machine_begin 33 = .ok (.getfield 23, 3) := by decide +kernel
theorem d_Machine_begin_36 : decode k_Machine_begin 36 = .ok (.getfield 62, 3) := by decide +kernel
theorem d_Machine_begin_39 : decode k_Machine_begin 39 = .ok (.iconst 2, 1) := by decide +kernel
theorem d_Machine_begin_40 : decode k_Machine_begin 40 = .ok (.invokevirtual 67, 3) := by decide +kernel
theorem d_Machine_begin_43 : decode k_Machine_begin 43 = .ok (.ireturn, 1) := by decide +kernel
theorem d_Machine_endForm_0 : decode k_Machine_endForm 0 = .ok (.aload_n 0, 1) := by decide +kernel
theorem d_Machine_endForm_1 : decode k_Machine_endForm 1 = .ok (.iconst 0, 1) := by decide +kernel
theorem d_Machine_endForm_2 : decode k_Machine_endForm 2 = .ok (.putfield 31, 3) := by decide +kernel
theorem d_Machine_endForm_5 : decode k_Machine_endForm 5 = .ok (.aload_n 0, 1) := by decide +kernel
theorem d_Machine_endForm_6 : decode k_Machine_endForm 6 = .ok (.getfield 9, 3) := by decide +kernel
theorem d_Machine_endForm_9 : decode k_Machine_endForm 9 = .ok (.iconst 2, 1) := by decide +kernel
theorem d_Machine_endForm_10 : decode k_Machine_endForm 10 = .ok (.putfield 71, 3) := by decide +kernel
theorem d_Machine_endForm_13 : decode k_Machine_endForm 13 = .ok (.aload_n 0, 1) := by decide +kernel
theorem d_Machine_endForm_14 : decode k_Machine_endForm 14 = .ok (.getfield 9, 3) := by decide +kernel
theorem d_Machine_endForm_17 : decode k_Machine_endForm 17 = .ok (.iconst 2, 1) := by decide +kernel
theorem d_Machine_endForm_18 : decode k_Machine_endForm 18 = .ok (.putfield 74, 3) := by decide +kernel
theorem d_Machine_endForm_21 : decode k_Machine_endForm 21 = .ok (.aload_n 0, 1) := by decide +kernel
theorem d_Machine_endForm_22 : decode k_Machine_endForm 22 = .ok (.getfield 9, 3) := by decide +kernel
theorem d_Machine_endForm_25 : decode k_Machine_endForm 25 = .ok (.iconst 0, 1) := by decide +kernel
theorem d_Machine_endForm_26 : decode k_Machine_endForm 26 = .ok (.putfield 77, 3) := by decide +kernel
theorem d_Machine_endForm_29 : decode k_Machine_endForm 29 = .ok (.return_, 1) := by decide +kernel
theorem d_Machine_evaluateNext_0 : decode k_Machine_evaluateNext 0 = .ok (.aload_n 0, 1) := by decide +kernel
theorem d_Machine_evaluateNext_1 : decode k_Machine_evaluateNext 1 = .ok (.getfield 9, 3) := by decide +kernel
theorem d_Machine_evaluateNext_4 : decode k_Machine_evaluateNext 4 = .ok (.iload_n 1, 1) := by decide +kernel
theorem d_Machine_evaluateNext_5 : decode k_Machine_evaluateNext 5 = .ok (.putfield 71, 3) := by decide +kernel
theorem d_Machine_evaluateNext_8 : decode k_Machine_evaluateNext 8 = .ok (.aload_n 0, 1) := by decide +kernel
theorem d_Machine_evaluateNext_9 : decode k_Machine_evaluateNext 9 = .ok (.getfield 9, 3) := by decide +kernel
theorem d_Machine_evaluateNext_12 : decode k_Machine_evaluateNext 12 = .ok (.iload_n 2, 1) := by decide +kernel
theorem d_Machine_evaluateNext_13 : decode k_Machine_evaluateNext 13 = .ok (.putfield 74, 3) := by decide +kernel
theorem d_Machine_evaluateNext_16 : decode k_Machine_evaluateNext 16 = .ok (.aload_n 0, 1) := by decide +kernel
theorem d_Machine_evaluateNext_17 : decode k_Machine_evaluateNext 17 = .ok (.getfield 9, 3) := by decide +kernel
theorem d_Machine_evaluateNext_20 : decode k_Machine_evaluateNext 20 = .ok (.iconst 1, 1) := by decide +kernel
theorem d_Machine_evaluateNext_21 : decode k_Machine_evaluateNext 21 = .ok (.putfield 43, 3) := by decide +kernel
theorem d_Machine_evaluateNext_24 : decode k_Machine_evaluateNext 24 = .ok (.iconst 1, 1) := by decide +kernel
theorem d_Machine_evaluateNext_25 : decode k_Machine_evaluateNext 25 = .ok (.ireturn, 1) := by decide +kernel
theorem d_Machine_returnNext_0 : decode k_Machine_returnNext 0 = .ok (.aload_n 0, 1) := by decide +kernel
theorem d_Machine_returnNext_1 : decode k_Machine_returnNext 1 = .ok (.getfield 9, 3) := by decide +kernel
theorem d_Machine_returnNext_4 : decode k_Machine_returnNext 4 = .ok (.iload_n 1, 1) := by decide +kernel
theorem d_Machine_returnNext_5 : decode k_Machine_returnNext 5 = .ok (.putfield 71, 3) := by decide +kernel
theorem d_Machine_returnNext_8 : decode k_Machine_returnNext 8 = .ok (.aload_n 0, 1) := by decide +kernel
theorem d_Machine_returnNext_9 : decode k_Machine_returnNext 9 = .ok (.getfield 9, 3) := by decide +kernel
theorem d_Machine_returnNext_12 : decode k_Machine_returnNext 12 = .ok (.iconst 0, 1) := by decide +kernel
theorem d_Machine_returnNext_13 : decode k_Machine_returnNext 13 = .ok (.putfield 43, 3) := by decide +kernel
theorem d_Machine_returnNext_16 : decode k_Machine_returnNext 16 = .ok (.iconst 1, 1) := by decide +kernel
theorem d_Machine_returnNext_17 : decode k_Machine_returnNext 17 = .ok (.ireturn, 1) := by decide +kernel
theorem d_Machine_evaluate_0 : decode k_Machine_evaluate 0 = .ok (.aload_n 0, 1) := by decide +kernel
theorem d_Machine_evaluate_1 : decode k_Machine_evaluate 1 = .ok (.getfield 9, 3) := by decide +kernel
theorem d_Machine_evaluate_4 : decode k_Machine_evaluate 4 = .ok (.getfield 71, 3) := by decide +kernel
theorem d_Machine_evaluate_7 : decode k_Machine_evaluate 7 = .ok (.invokestatic 80, 3) := by decide +kernel
theorem d_Machine_evaluate_10 : decode k_Machine_evaluate 10 = .ok (.ifCond .eq (8), 3) := by decide +kernel
theorem d_Machine_evaluate_13 : decode k_Machine_evaluate 13 = .ok (.aload_n 0, 1) := by decide +kernel
theorem d_Machine_evaluate_14 : decode k_Machine_evaluate 14 = .ok (.invokevirtual 84, 3) := by decide +kernel
theorem d_Machine_evaluate_17 : decode k_Machine_evaluate 17 = .ok (.ireturn, 1) := by decide +kernel
theorem d_Machine_evaluate_18 : decode k_Machine_evaluate 18 = .ok (.aload_n 0, 1) := by decide +kernel
theorem d_Machine_evaluate_19 : decode k_Machine_evaluate 19 = .ok (.getfield 9, 3) := by decide +kernel
theorem d_Machine_evaluate_22 : decode k_Machine_evaluate 22 = .ok (.getfield 71, 3) := by decide +kernel
theorem d_Machine_evaluate_25 : decode k_Machine_evaluate 25 = .ok (.invokestatic 87, 3) := by decide +kernel
theorem d_Machine_evaluate_28 : decode k_Machine_evaluate 28 = .ok (.ifCond .ne (15), 3) := by decide +kernel
theorem d_Machine_evaluate_31 : decode k_Machine_evaluate 31 = .ok (.aload_n 0, 1) := by decide +kernel
theorem d_Machine_evaluate_32 : decode k_Machine_evaluate 32 = .ok (.aload_n 0, 1) := by decide +kernel
theorem d_Machine_evaluate_33 : decode k_Machine_evaluate 33 = .ok (.getfield 9, 3) := by decide +kernel
theorem d_Machine_evaluate_36 : decode k_Machine_evaluate 36 = .ok (.getfield 71, 3) := by decide +kernel
theorem d_Machine_evaluate_39 : decode k_Machine_evaluate 39 = .ok (.invokevirtual 90, 3) := by decide +kernel
theorem d_Machine_evaluate_42 : decode k_Machine_evaluate 42 = .ok (.ireturn, 1) := by decide +kernel
theorem d_Machine_evaluate_43 : decode k_Machine_evaluate 43 = .ok (.aload_n 0, 1) := by decide +kernel
theorem d_Machine_evaluate_44 : decode k_Machine_evaluate 44 = .ok (.getfield 15, 3) := by decide +kernel
theorem d_Machine_evaluate_47 : decode k_Machine_evaluate 47 = .ok (.aload_n 0, 1) := by decide +kernel
theorem d_Machine_evaluate_48 : decode k_Machine_evaluate 48 = .ok (.getfield 9, 3) := by decide +kernel
theorem d_Machine_evaluate_51 : decode k_Machine_evaluate 51 = .ok (.getfield 71, 3) := by decide +kernel
theorem d_Machine_evaluate_54 : decode k_Machine_evaluate 54 = .ok (.invokevirtual 94, 3) := by decide +kernel
theorem d_Machine_evaluate_57 : decode k_Machine_evaluate 57 = .ok (.istore_n 1, 1) := by decide +kernel
theorem d_Machine_evaluate_58 : decode k_Machine_evaluate 58 = .ok (.iload_n 1, 1) := by decide +kernel
theorem d_Machine_evaluate_59 : decode k_Machine_evaluate 59 = .ok (.invokestatic 80, 3) := by decide +kernel
theorem d_Machine_evaluate_62 : decode k_Machine_evaluate 62 = .ok (.ifCond .eq (10), 3) := by decide +kernel
theorem d_Machine_evaluate_65 : decode k_Machine_evaluate 65 = .ok (.iload_n 1, 1) := by decide +kernel
theorem d_Machine_evaluate_66 : decode k_Machine_evaluate 66 = .ok (.invokestatic 99, 3) := by decide +kernel
theorem d_Machine_evaluate_69 : decode k_Machine_evaluate 69 = .ok (.goto (4), 3) := by decide +kernel
theorem d_Machine_evaluate_72 : decode k_Machine_evaluate 72 = .ok (.iconst (-1), 1) := by decide +kernel
theorem d_Machine_evaluate_73 : decode k_Machine_evaluate 73 = .ok (.tableswitch (70) (10) (14) #[35, 40, 45, 50, 57], 35) := by decide +kernel
theorem d_Machine_evaluate_108 : decode k_Machine_evaluate 108 = .ok (.aload_n 0, 1) := by decide +kernel
theorem d_Machine_evaluate_109 : decode k_Machine_evaluate 109 = .ok (.invokevirtual 102, 3) := by decide +kernel
theorem d_Machine_evaluate_112 : decode k_Machine_evaluate 112 = .ok (.ireturn, 1) := by decide +kernel
theorem d_Machine_evaluate_113 : decode k_Machine_evaluate 113 = .ok (.aload_n 0, 1) := by decide +kernel
theorem d_Machine_evaluate_114 : decode k_Machine_evaluate 114 = .ok (.invokevirtual 105, 3) := by decide +kernel
theorem d_Machine_evaluate_117 : decode k_Machine_evaluate 117 = .ok (.ireturn, 1) := by decide +kernel
theorem d_Machine_evaluate_118 : decode k_Machine_evaluate 118 = .ok (.aload_n 0, 1) := by decide +kernel
theorem d_Machine_evaluate_119 : decode k_Machine_evaluate 119 = .ok (.invokevirtual 108, 3) := by decide +kernel
theorem d_Machine_evaluate_122 : decode k_Machine_evaluate 122 = .ok (.ireturn, 1) := by decide +kernel
theorem d_Machine_evaluate_123 : decode k_Machine_evaluate 123 = .ok (.aload_n 0, 1) := by decide +kernel
theorem d_Machine_evaluate_124 : decode k_Machine_evaluate 124 = .ok (.iconst 2, 1) := by decide +kernel
theorem d_Machine_evaluate_125 : decode k_Machine_evaluate 125 = .ok (.iconst 2, 1) := by decide +kernel
theorem d_Machine_evaluate_126 : decode k_Machine_evaluate 126 = .ok (.invokevirtual 111, 3) := by decide +kernel
theorem d_Machine_evaluate_129 : decode k_Machine_evaluate 129 = .ok (.ireturn, 1) := by decide +kernel
theorem d_Machine_evaluate_130 : decode k_Machine_evaluate 130 = .ok (.aload_n 0, 1) := by decide +kernel
theorem d_Machine_evaluate_131 : decode k_Machine_evaluate 131 = .ok (.iconst 3, 1) := by decide +kernel
theorem d_Machine_evaluate_132 : decode k_Machine_evaluate 132 = .ok (.aload_n 0, 1) := by decide +kernel
theorem d_Machine_evaluate_133 : decode k_Machine_evaluate 133 = .ok (.getfield 9, 3) := by decide +kernel
theorem d_Machine_evaluate_136 : decode k_Machine_evaluate 136 = .ok (.getfield 74, 3) := by decide +kernel
theorem d_Machine_evaluate_139 : decode k_Machine_evaluate 139 = .ok (.invokevirtual 111, 3) := by decide +kernel
theorem d_Machine_evaluate_142 : decode k_Machine_evaluate 142 = .ok (.ireturn, 1) := by decide +kernel
theorem d_Machine_evaluate_143 : decode k_Machine_evaluate 143 = .ok (.aload_n 0, 1) := by decide +kernel
theorem d_Machine_evaluate_144 : decode k_Machine_evaluate 144 = .ok (.iconst 4, 1) := by decide +kernel
theorem d_Machine_evaluate_145 : decode k_Machine_evaluate 145 = .ok (.aload_n 0, 1) := by decide +kernel
theorem d_Machine_evaluate_146 : decode k_Machine_evaluate 146 = .ok (.getfield 15, 3) := by decide +kernel
theorem d_Machine_evaluate_149 : decode k_Machine_evaluate 149 = .ok (.aload_n 0, 1) := by decide +kernel
theorem d_Machine_evaluate_150 : decode k_Machine_evaluate 150 = .ok (.getfield 9, 3) := by decide +kernel
theorem d_Machine_evaluate_153 : decode k_Machine_evaluate 153 = .ok (.getfield 71, 3) := by decide +kernel
theorem d_Machine_evaluate_156 : decode k_Machine_evaluate 156 = .ok (.invokevirtual 114, 3) := by decide +kernel
theorem d_Machine_evaluate_159 : decode k_Machine_evaluate 159 = .ok (.aload_n 0, 1) := by decide +kernel
theorem d_Machine_evaluate_160 : decode k_Machine_evaluate 160 = .ok (.getfield 9, 3) := by decide +kernel
theorem d_Machine_evaluate_163 : decode k_Machine_evaluate 163 = .ok (.getfield 74, 3) := by decide +kernel
theorem d_Machine_evaluate_166 : decode k_Machine_evaluate 166 = .ok (.iload_n 1, 1) := by decide +kernel
theorem d_Machine_evaluate_167 : decode k_Machine_evaluate 167 = .ok (.invokevirtual 117, 3) := by decide +kernel
theorem d_Machine_evaluate_170 : decode k_Machine_evaluate 170 = .ok (.ireturn, 1) := by decide +kernel
theorem d_Machine_evaluateSymbol_0 : decode k_Machine_evaluateSymbol 0 = .ok (.aload_n 0, 1) := by decide +kernel
theorem d_Machine_evaluateSymbol_1 : decode k_Machine_evaluateSymbol 1 = .ok (.getfield 15, 3) := by decide +kernel
theorem d_Machine_evaluateSymbol_4 : decode k_Machine_evaluateSymbol 4 = .ok (.aload_n 0, 1) := by decide +kernel
theorem d_Machine_evaluateSymbol_5 : decode k_Machine_evaluateSymbol 5 = .ok (.getfield 9, 3) := by decide +kernel
theorem d_Machine_evaluateSymbol_8 : decode k_Machine_evaluateSymbol 8 = .ok (.getfield 71, 3) := by decide +kernel
theorem d_Machine_evaluateSymbol_11 : decode k_Machine_evaluateSymbol 11 = .ok (.aload_n 0, 1) := by decide +kernel
theorem d_Machine_evaluateSymbol_12 : decode k_Machine_evaluateSymbol 12 = .ok (.getfield 9, 3) := by decide +kernel
theorem d_Machine_evaluateSymbol_15 : decode k_Machine_evaluateSymbol 15 = .ok (.getfield 74, 3) := by decide +kernel
theorem d_Machine_evaluateSymbol_18 : decode k_Machine_evaluateSymbol 18 = .ok (.invokevirtual 121, 3) := by decide +kernel
theorem d_Machine_evaluateSymbol_21 : decode k_Machine_evaluateSymbol 21 = .ok (.istore_n 1, 1) := by decide +kernel
theorem d_Machine_evaluateSymbol_22 : decode k_Machine_evaluateSymbol 22 = .ok (.iload_n 1, 1) := by decide +kernel
theorem d_Machine_evaluateSymbol_23 : decode k_Machine_evaluateSymbol 23 = .ok (.iconst 2, 1) := by decide +kernel
theorem d_Machine_evaluateSymbol_24 : decode k_Machine_evaluateSymbol 24 = .ok (.if_icmp .eq (16), 3) := by decide +kernel
theorem d_Machine_evaluateSymbol_27 : decode k_Machine_evaluateSymbol 27 = .ok (.aload_n 0, 1) := by decide +kernel
theorem d_Machine_evaluateSymbol_28 : decode k_Machine_evaluateSymbol 28 = .ok (.aload_n 0, 1) := by decide +kernel
theorem d_Machine_evaluateSymbol_29 : decode k_Machine_evaluateSymbol 29 = .ok (.getfield 15, 3) := by decide +kernel
theorem d_Machine_evaluateSymbol_32 : decode k_Machine_evaluateSymbol 32 = .ok (.iload_n 1, 1) := by decide +kernel
theorem d_Machine_evaluateSymbol_33 : decode k_Machine_evaluateSymbol 33 = .ok (.invokevirtual 114, 3) := by decide +kernel
theorem d_Machine_evaluateSymbol_36 : decode k_Machine_evaluateSymbol 36 = .ok (.invokevirtual 90, 3) := by decide +kernel
theorem d_Machine_evaluateSymbol_39 : decode k_Machine_evaluateSymbol 39 = .ok (.ireturn, 1) := by decide +kernel
theorem d_Machine_evaluateSymbol_40 : decode k_Machine_evaluateSymbol 40 = .ok (.aload_n 0, 1) := by decide +kernel
theorem d_Machine_evaluateSymbol_41 : decode k_Machine_evaluateSymbol 41 = .ok (.getfield 19, 3) := by decide +kernel
theorem d_Machine_evaluateSymbol_44 : decode k_Machine_evaluateSymbol 44 = .ok (.aload_n 0, 1) := by decide +kernel
theorem d_Machine_evaluateSymbol_45 : decode k_Machine_evaluateSymbol 45 = .ok (.getfield 9, 3) := by decide +kernel
theorem d_Machine_evaluateSymbol_48 : decode k_Machine_evaluateSymbol 48 = .ok (.getfield 71, 3) := by decide +kernel
theorem d_Machine_evaluateSymbol_51 : decode k_Machine_evaluateSymbol 51 = .ok (.invokestatic 99, 3) := by decide +kernel
theorem d_Machine_evaluateSymbol_54 : decode k_Machine_evaluateSymbol 54 = .ok (.invokevirtual 124, 3) := by decide +kernel
theorem d_Machine_evaluateSymbol_57 : decode k_Machine_evaluateSymbol 57 = .ok (.istore_n 2, 1) := by decide +kernel
theorem d_Machine_evaluateSymbol_58 : decode k_Machine_evaluateSymbol 58 = .ok (.iload_n 2, 1) := by decide +kernel
theorem d_Machine_evaluateSymbol_59 : decode k_Machine_evaluateSymbol 59 = .ok (.bipush 6, 2) := by decide +kernel
theorem d_Machine_evaluateSymbol_61 : decode k_Machine_evaluateSymbol 61 = .ok (.if_icmp .ne (8), 3) := by decide +kernel
theorem d_Machine_evaluateSymbol_64 : decode k_Machine_evaluateSymbol 64 = .ok (.bipush (-2), 2) := by decide +kernel
theorem d_Machine_evaluateSymbol_66 : decode k_Machine_evaluateSymbol 66 = .ok (.goto (8), 3) := by decide +kernel
theorem d_Machine_evaluateSymbol_69 : decode k_Machine_evaluateSymbol 69 = .ok (.aload_n 0, 1) := by decide +kernel
theorem d_Machine_evaluateSymbol_70 : decode k_Machine_evaluateSymbol 70 = .ok (.iload_n 2, 1) := by decide +kernel
theorem d_Machine_evaluateSymbol_71 : decode k_Machine_evaluateSymbol 71 = .ok (.invokevirtual 90, 3) := by decide +kernel
theorem d_Machine_evaluateSymbol_74 : decode k_Machine_evaluateSymbol 74 = .ok (.ireturn, 1) := by decide +kernel
theorem d_Machine_evaluateUnder_0 : decode k_Machine_evaluateUnder 0 = .ok (.aload_n 0, 1) := by decide +kernel
theorem d_Machine_evaluateUnder_1 : decode k_Machine_evaluateUnder 1 = .ok (.getfield 9, 3) := by decide +kernel
theorem d_Machine_evaluateUnder_4 : decode k_Machine_evaluateUnder 4 = .ok (.iload_n 1, 1) := by decide +kernel
theorem d_Machine_evaluateUnder_5 : decode k_Machine_evaluateUnder 5 = .ok (.iload_n 2, 1) := by decide +kernel
theorem d_Machine_evaluateUnder_6 : decode k_Machine_evaluateUnder 6 = .ok (.iload_n 3, 1) := by decide +kernel
theorem d_Machine_evaluateUnder_7 : decode k_Machine_evaluateUnder 7 = .ok (.invokevirtual 129, 3) := by decide +kernel
theorem d_Machine_evaluateUnder_10 : decode k_Machine_evaluateUnder 10 = .ok (.ifCond .ne (6), 3) := by decide +kernel
theorem d_Machine_evaluateUnder_13 : decode k_Machine_evaluateUnder 13 = .ok (.bipush (-6), 2) := by decide +kernel
theorem d_Machine_evaluateUnder_15 : decode k_Machine_evaluateUnder 15 = .ok (.ireturn, 1) := by decide +kernel
theorem d_Machine_evaluateUnder_16 : decode k_Machine_evaluateUnder 16 = .ok (.aload_n 0, 1) := by decide +kernel
theorem d_Machine_evaluateUnder_17 : decode k_Machine_evaluateUnder 17 = .ok (.iload 4, 2) := by decide +kernel
theorem d_Machine_evaluateUnder_19 : decode k_Machine_evaluateUnder 19 = .ok (.aload_n 0, 1) := by decide +kernel
theorem d_Machine_evaluateUnder_20 : decode k_Machine_evaluateUnder 20 = .ok (.getfield 9, 3) := by decide +kernel
theorem d_Machine_evaluateUnder_23 : decode k_Machine_evaluateUnder 23 = .ok (.getfield 74, 3) := by decide +kernel
theorem d_Machine_evaluateUnder_26 : decode k_Machine_evaluateUnder 26 = .ok (.invokevirtual 67, 3) := by decide +kernel
theorem d_Machine_evaluateUnder_29 : decode k_Machine_evaluateUnder 29 = .ok (.ireturn, 1) := by decide +kernel
theorem d_Machine_part_0 : decode k_Machine_part 0 = .ok (.aload_n 0, 1) := by decide +kernel
theorem d_Machine_part_1 : decode k_Machine_part 1 = .ok (.getfield 15, 3) := by decide +kernel
theorem d_Machine_part_4 : decode k_Machine_part 4 = .ok (.aload_n 0, 1) := by decide +kernel
theorem d_Machine_part_5 : decode k_Machine_part 5 = .ok (.getfield 15, 3) := by decide +kernel
theorem d_Machine_part_8 : decode k_Machine_part 8 = .ok (.aload_n 0, 1) := by decide +kernel
theorem d_Machine_part_9 : decode k_Machine_part 9 = .ok (.getfield 9, 3) := by decide +kernel
theorem d_Machine_part_12 : decode k_Machine_part 12 = .ok (.getfield 71, 3) := by decide +kernel
theorem d_Machine_part_15 : decode k_Machine_part 15 = .ok (.iload_n 1, 1) := by decide +kernel
theorem d_Machine_part_16 : decode k_Machine_part 16 = .ok (.invokevirtual 133, 3) := by decide +kernel
theorem d_Machine_part_19 : decode k_Machine_part 19 = .ok (.invokevirtual 94, 3) := by decide +kernel
theorem d_Machine_part_22 : decode k_Machine_part 22 = .ok (.ireturn, 1) := by decide +kernel
theorem d_Machine_evaluateQuote_0 : decode k_Machine_evaluateQuote 0 = .ok (.aload_n 0, 1) := by decide +kernel
theorem d_Machine_evaluateQuote_1 : decode k_Machine_evaluateQuote 1 = .ok (.getfield 15, 3) := by decide +kernel
theorem d_Machine_evaluateQuote_4 : decode k_Machine_evaluateQuote 4 = .ok (.aload_n 0, 1) := by decide +kernel
theorem d_Machine_evaluateQuote_5 : decode k_Machine_evaluateQuote 5 = .ok (.getfield 9, 3) := by decide +kernel
theorem d_Machine_evaluateQuote_8 : decode k_Machine_evaluateQuote 8 = .ok (.getfield 71, 3) := by decide +kernel
theorem d_Machine_evaluateQuote_11 : decode k_Machine_evaluateQuote 11 = .ok (.invokevirtual 136, 3) := by decide +kernel
theorem d_Machine_evaluateQuote_14 : decode k_Machine_evaluateQuote 14 = .ok (.iconst 2, 1) := by decide +kernel
theorem d_Machine_evaluateQuote_15 : decode k_Machine_evaluateQuote 15 = .ok (.if_icmp .ne (15), 3) := by decide +kernel
theorem d_Machine_evaluateQuote_18 : decode k_Machine_evaluateQuote 18 = .ok (.aload_n 0, 1) := by decide +kernel
theorem d_Machine_evaluateQuote_19 : decode k_Machine_evaluateQuote 19 = .ok (.aload_n 0, 1) := by decide +kernel
theorem d_Machine_evaluateQuote_20 : decode k_Machine_evaluateQuote 20 = .ok (.iconst 1, 1) := by decide +kernel
theorem d_Machine_evaluateQuote_21 : decode k_Machine_evaluateQuote 21 = .ok (.invokevirtual 139, 3) := by decide +kernel
theorem d_Machine_evaluateQuote_24 : decode k_Machine_evaluateQuote 24 = .ok (.invokevirtual 90, 3) := by decide +kernel
theorem d_Machine_evaluateQuote_27 : decode k_Machine_evaluateQuote 27 = .ok (.goto (5), 3) := by decide +kernel
theorem d_Machine_evaluateQuote_30 : decode k_Machine_evaluateQuote 30 = .ok (.bipush (-3), 2) := by decide +kernel
theorem d_Machine_evaluateQuote_32 : decode k_Machine_evaluateQuote 32 = .ok (.ireturn, 1) := by decide +kernel
theorem d_Machine_evaluateIf_0 : decode k_Machine_evaluateIf 0 = .ok (.aload_n 0, 1) := by decide +kernel
theorem d_Machine_evaluateIf_1 : decode k_Machine_evaluateIf 1 = .ok (.getfield 15, 3) := by decide +kernel
theorem d_Machine_evaluateIf_4 : decode k_Machine_evaluateIf 4 = .ok (.aload_n 0, 1) := by decide +kernel
theorem d_Machine_evaluateIf_5 : decode k_Machine_evaluateIf 5 = .ok (.getfield 9, 3) := by decide +kernel
theorem d_Machine_evaluateIf_8 : decode k_Machine_evaluateIf 8 = .ok (.getfield 71, 3) := by decide +kernel
theorem d_Machine_evaluateIf_11 : decode k_Machine_evaluateIf 11 = .ok (.invokevirtual 136, 3) := by decide +kernel
theorem d_Machine_evaluateIf_14 : decode k_Machine_evaluateIf 14 = .ok (.istore_n 1, 1) := by decide +kernel
theorem d_Machine_evaluateIf_15 : decode k_Machine_evaluateIf 15 = .ok (.iload_n 1, 1) := by decide +kernel
theorem d_Machine_evaluateIf_16 : decode k_Machine_evaluateIf 16 = .ok (.iconst 3, 1) := by decide +kernel
theorem d_Machine_evaluateIf_17 : decode k_Machine_evaluateIf 17 = .ok (.if_icmp .eq (11), 3) := by decide +kernel
theorem d_Machine_evaluateIf_20 : decode k_Machine_evaluateIf 20 = .ok (.iload_n 1, 1) := by decide +kernel
theorem d_Machine_evaluateIf_21 : decode k_Machine_evaluateIf 21 = .ok (.iconst 4, 1) := by decide +kernel
theorem d_Machine_evaluateIf_22 : decode k_Machine_evaluateIf 22 = .ok (.if_icmp .eq (6), 3) := by decide +kernel
theorem d_Machine_evaluateIf_25 : decode k_Machine_evaluateIf 25 = .ok (.bipush (-3), 2) := by decide +kernel
theorem d_Machine_evaluateIf_27 : decode k_Machine_evaluateIf 27 = .ok (.ireturn, 1) := by decide +kernel
theorem d_Machine_evaluateIf_28 : decode k_Machine_evaluateIf 28 = .ok (.aload_n 0, 1) := by decide +kernel
theorem d_Machine_evaluateIf_29 : decode k_Machine_evaluateIf 29 = .ok (.iconst 1, 1) := by decide +kernel
theorem d_Machine_evaluateIf_30 : decode k_Machine_evaluateIf 30 = .ok (.aload_n 0, 1) := by decide +kernel
theorem d_Machine_evaluateIf_31 : decode k_Machine_evaluateIf 31 = .ok (.getfield 15, 3) := by decide +kernel
theorem d_Machine_evaluateIf_34 : decode k_Machine_evaluateIf 34 = .ok (.aload_n 0, 1) := by decide +kernel
theorem d_Machine_evaluateIf_35 : decode k_Machine_evaluateIf 35 = .ok (.getfield 9, 3) := by decide +kernel
theorem d_Machine_evaluateIf_38 : decode k_Machine_evaluateIf 38 = .ok (.getfield 71, 3) := by decide +kernel
theorem d_Machine_evaluateIf_41 : decode k_Machine_evaluateIf 41 = .ok (.iconst 2, 1) := by decide +kernel
theorem d_Machine_evaluateIf_42 : decode k_Machine_evaluateIf 42 = .ok (.invokevirtual 133, 3) := by decide +kernel
theorem d_Machine_evaluateIf_45 : decode k_Machine_evaluateIf 45 = .ok (.aload_n 0, 1) := by decide +kernel
theorem d_Machine_evaluateIf_46 : decode k_Machine_evaluateIf 46 = .ok (.getfield 9, 3) := by decide +kernel
theorem d_Machine_evaluateIf_49 : decode k_Machine_evaluateIf 49 = .ok (.getfield 74, 3) := by decide +kernel
theorem d_Machine_evaluateIf_52 : decode k_Machine_evaluateIf 52 = .ok (.aload_n 0, 1) := by decide +kernel
theorem d_Machine_evaluateIf_53 : decode k_Machine_evaluateIf 53 = .ok (.iconst 1, 1) := by decide +kernel
theorem d_Machine_evaluateIf_54 : decode k_Machine_evaluateIf 54 = .ok (.invokevirtual 139, 3) := by decide +kernel
theorem d_Machine_evaluateIf_57 : decode k_Machine_evaluateIf 57 = .ok (.invokevirtual 117, 3) := by decide +kernel
theorem d_Machine_evaluateIf_60 : decode k_Machine_evaluateIf 60 = .ok (.ireturn, 1) := by decide +kernel
theorem d_Machine_evaluateLambda_0 : decode k_Machine_evaluateLambda 0 = .ok (.aload_n 0, 1) := by decide +kernel
theorem d_Machine_evaluateLambda_1 : decode k_Machine_evaluateLambda 1 = .ok (.getfield 15, 3) := by decide +kernel
theorem d_Machine_evaluateLambda_4 : decode k_Machine_evaluateLambda 4 = .ok (.aload_n 0, 1) := by decide +kernel
theorem d_Machine_evaluateLambda_5 : decode k_Machine_evaluateLambda 5 = .ok (.getfield 9, 3) := by decide +kernel
theorem d_Machine_evaluateLambda_8 : decode k_Machine_evaluateLambda 8 = .ok (.getfield 71, 3) := by decide +kernel
theorem d_Machine_evaluateLambda_11 : decode k_Machine_evaluateLambda 11 = .ok (.invokevirtual 136, 3) := by decide +kernel
theorem d_Machine_evaluateLambda_14 : decode k_Machine_evaluateLambda 14 = .ok (.iconst 3, 1) := by decide +kernel
theorem d_Machine_evaluateLambda_15 : decode k_Machine_evaluateLambda 15 = .ok (.if_icmp .ne (15), 3) := by decide +kernel
theorem d_Machine_evaluateLambda_18 : decode k_Machine_evaluateLambda 18 = .ok (.aload_n 0, 1) := by decide +kernel
theorem d_Machine_evaluateLambda_19 : decode k_Machine_evaluateLambda 19 = .ok (.aload_n 0, 1) := by decide +kernel
theorem d_Machine_evaluateLambda_20 : decode k_Machine_evaluateLambda 20 = .ok (.iconst 1, 1) := by decide +kernel
theorem d_Machine_evaluateLambda_21 : decode k_Machine_evaluateLambda 21 = .ok (.invokevirtual 139, 3) := by decide +kernel
theorem d_Machine_evaluateLambda_24 : decode k_Machine_evaluateLambda 24 = .ok (.invokevirtual 142, 3) := by decide +kernel
theorem d_Machine_evaluateLambda_27 : decode k_Machine_evaluateLambda 27 = .ok (.ifCond .ne (6), 3) := by decide +kernel
theorem d_Machine_evaluateLambda_30 : decode k_Machine_evaluateLambda 30 = .ok (.bipush (-3), 2) := by decide +kernel
theorem d_Machine_evaluateLambda_32 : decode k_Machine_evaluateLambda 32 = .ok (.ireturn, 1) := by decide +kernel
theorem d_Machine_evaluateLambda_33 : decode k_Machine_evaluateLambda 33 = .ok (.aload_n 0, 1) := by decide +kernel
theorem d_Machine_evaluateLambda_34 : decode k_Machine_evaluateLambda 34 = .ok (.getfield 15, 3) := by decide +kernel
theorem d_Machine_evaluateLambda_37 : decode k_Machine_evaluateLambda 37 = .ok (.iconst 3, 1) := by decide +kernel
theorem d_Machine_evaluateLambda_38 : decode k_Machine_evaluateLambda 38 = .ok (.invokevirtual 145, 3) := by decide +kernel
theorem d_Machine_evaluateLambda_41 : decode k_Machine_evaluateLambda 41 = .ok (.ifCond .ne (6), 3) := by decide +kernel
theorem d_Machine_evaluateLambda_44 : decode k_Machine_evaluateLambda 44 = .ok (.bipush (-7), 2) := by decide +kernel
theorem d_Machine_evaluateLambda_46 : decode k_Machine_evaluateLambda 46 = .ok (.ireturn, 1) := by decide +kernel
theorem d_Machine_evaluateLambda_47 : decode k_Machine_evaluateLambda 47 = .ok (.aload_n 0, 1) := by decide +kernel
theorem d_Machine_evaluateLambda_48 : decode k_Machine_evaluateLambda 48 = .ok (.aload_n 0, 1) := by decide +kernel
theorem d_Machine_evaluateLambda_49 : decode k_Machine_evaluateLambda 49 = .ok (.getfield 15, 3) := by decide +kernel
theorem d_Machine_evaluateLambda_52 : decode k_Machine_evaluateLambda 52 = .ok (.aload_n 0, 1) := by decide +kernel
theorem d_Machine_evaluateLambda_53 : decode k_Machine_evaluateLambda 53 = .ok (.iconst 1, 1) := by decide +kernel
theorem d_Machine_evaluateLambda_54 : decode k_Machine_evaluateLambda 54 = .ok (.invokevirtual 139, 3) := by decide +kernel
theorem d_Machine_evaluateLambda_57 : decode k_Machine_evaluateLambda 57 = .ok (.aload_n 0, 1) := by decide +kernel
theorem d_Machine_evaluateLambda_58 : decode k_Machine_evaluateLambda 58 = .ok (.iconst 2, 1) := by decide +kernel
theorem d_Machine_evaluateLambda_59 : decode k_Machine_evaluateLambda 59 = .ok (.invokevirtual 139, 3) := by decide +kernel
theorem d_Machine_evaluateLambda_62 : decode k_Machine_evaluateLambda 62 = .ok (.aload_n 0, 1) := by decide +kernel
theorem d_Machine_evaluateLambda_63 : decode k_Machine_evaluateLambda 63 = .ok (.getfield 9, 3) := by decide +kernel
theorem d_Machine_evaluateLambda_66 : decode k_Machine_evaluateLambda 66 = .ok (.getfield 74, 3) := by decide +kernel
theorem d_Machine_evaluateLambda_69 : decode k_Machine_evaluateLambda 69 = .ok (.invokevirtual 148, 3) := by decide +kernel
theorem d_Machine_evaluateLambda_72 : decode k_Machine_evaluateLambda 72 = .ok (.invokevirtual 90, 3) := by decide +kernel
theorem d_Machine_evaluateLambda_75 : decode k_Machine_evaluateLambda 75 = .ok (.ireturn, 1) := by decide +kernel
theorem d_Machine_areParameters_0 : decode k_Machine_areParameters 0 = .ok (.iload_n 1, 1) := by decide +kernel
theorem d_Machine_areParameters_1 : decode k_Machine_areParameters 1 = .ok (.istore_n 2, 1) := by decide +kernel
theorem d_Machine_areParameters_2 : decode k_Machine_areParameters 2 = .ok (.iconst 0, 1) := by decide +kernel
theorem d_Machine_areParameters_3 : decode k_Machine_areParameters 3 = .ok (.istore_n 3, 1) := by decide +kernel
theorem d_Machine_areParameters_4 : decode k_Machine_areParameters 4 = .ok (.iload_n 3, 1) := by decide +kernel
theorem d_Machine_areParameters_5 : decode k_Machine_areParameters 5 = .ok (.iconst 4, 1) := by decide +kernel
theorem d_Machine_areParameters_6 : decode k_Machine_areParameters 6 = .ok (.if_icmp .ge (41), 3) := by decide +kernel
theorem d_Machine_areParameters_9 : decode k_Machine_areParameters 9 = .ok (.iload_n 2, 1) := by decide +kernel
theorem d_Machine_areParameters_10 : decode k_Machine_areParameters 10 = .ok (.invokestatic 87, 3) := by decide +kernel
theorem d_Machine_areParameters_13 : decode k_Machine_areParameters 13 = .ok (.ifCond .eq (34), 3) := by decide +kernel
theorem d_Machine_areParameters_16 : decode k_Machine_areParameters 16 = .ok (.aload_n 0, 1) := by decide +kernel
theorem d_Machine_areParameters_17 : decode k_Machine_areParameters 17 = .ok (.getfield 15, 3) := by decide +kernel
theorem d_Machine_areParameters_20 : decode k_Machine_areParameters 20 = .ok (.iload_n 2, 1) := by decide +kernel
theorem d_Machine_areParameters_21 : decode k_Machine_areParameters 21 = .ok (.invokevirtual 94, 3) := by decide +kernel
theorem d_Machine_areParameters_24 : decode k_Machine_areParameters 24 = .ok (.invokestatic 80, 3) := by decide +kernel
theorem d_Machine_areParameters_27 : decode k_Machine_areParameters 27 = .ok (.ifCond .ne (5), 3) := by decide +kernel
theorem d_Machine_areParameters_30 : decode k_Machine_areParameters 30 = .ok (.iconst 0, 1) := by decide +kernel
theorem d_Machine_areParameters_31 : decode k_Machine_areParameters 31 = .ok (.ireturn, 1) := by decide +kernel
theorem d_Machine_areParameters_32 : decode k_Machine_areParameters 32 = .ok (.aload_n 0, 1) := by decide +kernel
theorem d_Machine_areParameters_33 : decode k_Machine_areParameters 33 = .ok (.getfield 15, 3) := by decide +kernel
theorem d_Machine_areParameters_36 : decode k_Machine_areParameters 36 = .ok (.iload_n 2, 1) := by decide +kernel
theorem d_Machine_areParameters_37 : decode k_Machine_areParameters 37 = .ok (.invokevirtual 114, 3) := by decide +kernel
theorem d_Machine_areParameters_40 : decode k_Machine_areParameters 40 = .ok (.istore_n 2, 1) := by decide +kernel
theorem d_Machine_areParameters_41 : decode k_Machine_areParameters 41 = .ok (.iinc 3 1, 3) := by decide +kernel
theorem d_Machine_areParameters_44 : decode k_Machine_areParameters 44 = .ok (.goto (-40), 3) := by decide +kernel
theorem d_Machine_areParameters_47 : decode k_Machine_areParameters 47 = .ok (.iload_n 2, 1) := by decide +kernel
theorem d_Machine_areParameters_48 : decode k_Machine_areParameters 48 = .ok (.iconst 2, 1) := by decide +kernel
theorem d_Machine_areParameters_49 : decode k_Machine_areParameters 49 = .ok (.if_icmp .ne (7), 3) := by decide +kernel
theorem d_Machine_areParameters_52 : decode k_Machine_areParameters 52 = .ok (.iconst 1, 1) := by decide +kernel
theorem d_Machine_areParameters_53 : decode k_Machine_areParameters 53 = .ok (.goto (4), 3) := by decide +kernel
theorem d_Machine_areParameters_56 : decode k_Machine_areParameters 56 = .ok (.iconst 0, 1) := by decide +kernel
theorem d_Machine_areParameters_57 : decode k_Machine_areParameters 57 = .ok (.ireturn, 1) := by decide +kernel
theorem d_Machine_evaluateNaming_0 : decode k_Machine_evaluateNaming 0 = .ok (.aload_n 0, 1) := by decide +kernel
theorem d_Machine_evaluateNaming_1 : decode k_Machine_evaluateNaming 1 = .ok (.getfield 15, 3) := by decide +kernel
theorem d_Machine_evaluateNaming_4 : decode k_Machine_evaluateNaming 4 = .ok (.aload_n 0, 1) := by decide +kernel
theorem d_Machine_evaluateNaming_5 : decode k_Machine_evaluateNaming 5 = .ok (.getfield 9, 3) := by decide +kernel
theorem d_Machine_evaluateNaming_8 : decode k_Machine_evaluateNaming 8 = .ok (.getfield 71, 3) := by decide +kernel
theorem d_Machine_evaluateNaming_11 : decode k_Machine_evaluateNaming 11 = .ok (.invokevirtual 136, 3) := by decide +kernel
theorem d_Machine_evaluateNaming_14 : decode k_Machine_evaluateNaming 14 = .ok (.iconst 3, 1) := by decide +kernel
theorem d_Machine_evaluateNaming_15 : decode k_Machine_evaluateNaming 15 = .ok (.if_icmp .ne (14), 3) := by decide +kernel
theorem d_Machine_evaluateNaming_18 : decode k_Machine_evaluateNaming 18 = .ok (.aload_n 0, 1) := by decide +kernel
theorem d_Machine_evaluateNaming_19 : decode k_Machine_evaluateNaming 19 = .ok (.iconst 1, 1) := by decide +kernel
theorem d_Machine_evaluateNaming_20 : decode k_Machine_evaluateNaming 20 = .ok (.invokevirtual 139, 3) := by decide +kernel
theorem d_Machine_evaluateNaming_23 : decode k_Machine_evaluateNaming 23 = .ok (.invokestatic 80, 3) := by decide +kernel
theorem d_Machine_evaluateNaming_26 : decode k_Machine_evaluateNaming 26 = .ok (.ifCond .ne (6), 3) := by decide +kernel
theorem d_Machine_evaluateNaming_29 : decode k_Machine_evaluateNaming 29 = .ok (.bipush (-3), 2) := by decide +kernel
theorem d_Machine_evaluateNaming_31 : decode k_Machine_evaluateNaming 31 = .ok (.ireturn, 1) := by decide +kernel
theorem d_Machine_evaluateNaming_32 : decode k_Machine_evaluateNaming 32 = .ok (.aload_n 0, 1) := by decide +kernel
theorem d_Machine_evaluateNaming_33 : decode k_Machine_evaluateNaming 33 = .ok (.iload_n 1, 1) := by decide +kernel
theorem d_Machine_evaluateNaming_34 : decode k_Machine_evaluateNaming 34 = .ok (.aload_n 0, 1) := by decide +kernel
theorem d_Machine_evaluateNaming_35 : decode k_Machine_evaluateNaming 35 = .ok (.iconst 1, 1) := by decide +kernel
theorem d_Machine_evaluateNaming_36 : decode k_Machine_evaluateNaming 36 = .ok (.invokevirtual 139, 3) := by decide +kernel
theorem d_Machine_evaluateNaming_39 : decode k_Machine_evaluateNaming 39 = .ok (.iload_n 2, 1) := by decide +kernel
theorem d_Machine_evaluateNaming_40 : decode k_Machine_evaluateNaming 40 = .ok (.aload_n 0, 1) := by decide +kernel
theorem d_Machine_evaluateNaming_41 : decode k_Machine_evaluateNaming 41 = .ok (.iconst 2, 1) := by decide +kernel
theorem d_Machine_evaluateNaming_42 : decode k_Machine_evaluateNaming 42 = .ok (.invokevirtual 139, 3) := by decide +kernel
theorem d_Machine_evaluateNaming_45 : decode k_Machine_evaluateNaming 45 = .ok (.invokevirtual 117, 3) := by decide +kernel
theorem d_Machine_evaluateNaming_48 : decode k_Machine_evaluateNaming 48 = .ok (.ireturn, 1) := by decide +kernel
theorem d_Machine_choose_0 : decode k_Machine_choose 0 = .ok (.aload_n 0, 1) := by decide +kernel
theorem d_Machine_choose_1 : decode k_Machine_choose 1 = .ok (.getfield 9, 3) := by decide +kernel
theorem d_Machine_choose_4 : decode k_Machine_choose 4 = .ok (.getfield 71, 3) := by decide +kernel
theorem d_Machine_choose_7 : decode k_Machine_choose 7 = .ok (.iconst 2, 1) := by decide +kernel
theorem d_Machine_choose_8 : decode k_Machine_choose 8 = .ok (.if_icmp .ne (20), 3) := by decide +kernel
theorem d_Machine_choose_11 : decode k_Machine_choose 11 = .ok (.aload_n 0, 1) := by decide +kernel
end
section
theorem d_Machine_choose_12 : decode k_Machine_choose 12 = .ok (.getfield 15, 3) := by decide +kernel
theorem d_Machine_choose_15 : decode k_Machine_choose 15 = .ok (.aload_n 0, 1) := by decide +kernel
theorem d_Machine_choose_16 : decode k_Machine_choose 16 = .ok (.getfield 9, 3) := by decide +kernel
theorem d_Machine_choose_19 : decode k_Machine_choose 19 = .ok (.invokevirtual 168, 3) := by decide +kernel
theorem d_Machine_choose_22 : decode k_Machine_choose 22 = .ok (.invokevirtual 114, 3) := by decide +kernel
theorem d_Machine_choose_25 : decode k_Machine_choose 25 = .ok (.goto (10), 3) := by decide +kernel
theorem d_Machine_choose_28 : decode k_Machine_choose 28 = .ok (.aload_n 0, 1) := by decide +kernel
theorem d_Machine_choose_29 : decode k_Machine_choose 29 = .ok (.getfield 9, 3) := by decide +kernel
theorem d_Machine_choose_32 : decode k_Machine_choose 32 = .ok (.invokevirtual 168, 3) := by decide +kernel
theorem d_Machine_choose_35 : decode k_Machine_choose 35 = .ok (.istore_n 1, 1) := by decide +kernel
theorem d_Machine_choose_36 : decode k_Machine_choose 36 = .ok (.aload_n 0, 1) := by decide +kernel
theorem d_Machine_choose_37 : decode k_Machine_choose 37 = .ok (.getfield 9, 3) := by decide +kernel
theorem d_Machine_choose_40 : decode k_Machine_choose 40 = .ok (.invokevirtual 183, 3) := by decide +kernel
theorem d_Machine_choose_43 : decode k_Machine_choose 43 = .ok (.istore_n 2, 1) := by decide +kernel
theorem d_Machine_choose_44 : decode k_Machine_choose 44 = .ok (.aload_n 0, 1) := by decide +kernel
theorem d_Machine_choose_45 : decode k_Machine_choose 45 = .ok (.getfield 9, 3) := by decide +kernel
theorem d_Machine_choose_48 : decode k_Machine_choose 48 = .ok (.invokevirtual 186, 3) := by decide +kernel
theorem d_Machine_choose_51 : decode k_Machine_choose 51 = .ok (.iload_n 1, 1) := by decide +kernel
theorem d_Machine_choose_52 : decode k_Machine_choose 52 = .ok (.invokestatic 87, 3) := by decide +kernel
theorem d_Machine_choose_55 : decode k_Machine_choose 55 = .ok (.ifCond .ne (9), 3) := by decide +kernel
theorem d_Machine_choose_58 : decode k_Machine_choose 58 = .ok (.aload_n 0, 1) := by decide +kernel
theorem d_Machine_choose_59 : decode k_Machine_choose 59 = .ok (.iconst 2, 1) := by decide +kernel
theorem d_Machine_choose_60 : decode k_Machine_choose 60 = .ok (.invokevirtual 90, 3) := by decide +kernel
theorem d_Machine_choose_63 : decode k_Machine_choose 63 = .ok (.ireturn, 1) := by decide +kernel
theorem d_Machine_choose_64 : decode k_Machine_choose 64 = .ok (.aload_n 0, 1) := by decide +kernel
theorem d_Machine_choose_65 : decode k_Machine_choose 65 = .ok (.aload_n 0, 1) := by decide +kernel
theorem d_Machine_choose_66 : decode k_Machine_choose 66 = .ok (.getfield 15, 3) := by decide +kernel
theorem d_Machine_choose_69 : decode k_Machine_choose 69 = .ok (.iload_n 1, 1) := by decide +kernel
theorem d_Machine_choose_70 : decode k_Machine_choose 70 = .ok (.invokevirtual 94, 3) := by decide +kernel
theorem d_Machine_choose_73 : decode k_Machine_choose 73 = .ok (.iload_n 2, 1) := by decide +kernel
theorem d_Machine_choose_74 : decode k_Machine_choose 74 = .ok (.invokevirtual 67, 3) := by decide +kernel
theorem d_Machine_choose_77 : decode k_Machine_choose 77 = .ok (.ireturn, 1) := by decide +kernel
theorem d_Machine_define_0 : decode k_Machine_define 0 = .ok (.aload_n 0, 1) := by decide +kernel
theorem d_Machine_define_1 : decode k_Machine_define 1 = .ok (.getfield 9, 3) := by decide +kernel
theorem d_Machine_define_4 : decode k_Machine_define 4 = .ok (.invokevirtual 168, 3) := by decide +kernel
theorem d_Machine_define_7 : decode k_Machine_define 7 = .ok (.istore_n 1, 1) := by decide +kernel
theorem d_Machine_define_8 : decode k_Machine_define 8 = .ok (.aload_n 0, 1) := by decide +kernel
theorem d_Machine_define_9 : decode k_Machine_define 9 = .ok (.getfield 19, 3) := by decide +kernel
theorem d_Machine_define_12 : decode k_Machine_define 12 = .ok (.iload_n 1, 1) := by decide +kernel
theorem d_Machine_define_13 : decode k_Machine_define 13 = .ok (.invokestatic 99, 3) := by decide +kernel
theorem d_Machine_define_16 : decode k_Machine_define 16 = .ok (.aload_n 0, 1) := by decide +kernel
theorem d_Machine_define_17 : decode k_Machine_define 17 = .ok (.getfield 9, 3) := by decide +kernel
theorem d_Machine_define_20 : decode k_Machine_define 20 = .ok (.getfield 71, 3) := by decide +kernel
theorem d_Machine_define_23 : decode k_Machine_define 23 = .ok (.invokevirtual 189, 3) := by decide +kernel
theorem d_Machine_define_26 : decode k_Machine_define 26 = .ok (.aload_n 0, 1) := by decide +kernel
theorem d_Machine_define_27 : decode k_Machine_define 27 = .ok (.getfield 9, 3) := by decide +kernel
theorem d_Machine_define_30 : decode k_Machine_define 30 = .ok (.invokevirtual 186, 3) := by decide +kernel
theorem d_Machine_define_33 : decode k_Machine_define 33 = .ok (.aload_n 0, 1) := by decide +kernel
theorem d_Machine_define_34 : decode k_Machine_define 34 = .ok (.iload_n 1, 1) := by decide +kernel
theorem d_Machine_define_35 : decode k_Machine_define 35 = .ok (.invokevirtual 90, 3) := by decide +kernel
theorem d_Machine_define_38 : decode k_Machine_define 38 = .ok (.ireturn, 1) := by decide +kernel
theorem d_Machine_assign_0 : decode k_Machine_assign 0 = .ok (.aload_n 0, 1) := by decide +kernel
theorem d_Machine_assign_1 : decode k_Machine_assign 1 = .ok (.getfield 15, 3) := by decide +kernel
theorem d_Machine_assign_4 : decode k_Machine_assign 4 = .ok (.aload_n 0, 1) := by decide +kernel
theorem d_Machine_assign_5 : decode k_Machine_assign 5 = .ok (.getfield 9, 3) := by decide +kernel
theorem d_Machine_assign_8 : decode k_Machine_assign 8 = .ok (.invokevirtual 168, 3) := by decide +kernel
theorem d_Machine_assign_11 : decode k_Machine_assign 11 = .ok (.aload_n 0, 1) := by decide +kernel
theorem d_Machine_assign_12 : decode k_Machine_assign 12 = .ok (.getfield 9, 3) := by decide +kernel
theorem d_Machine_assign_15 : decode k_Machine_assign 15 = .ok (.invokevirtual 183, 3) := by decide +kernel
theorem d_Machine_assign_18 : decode k_Machine_assign 18 = .ok (.invokevirtual 121, 3) := by decide +kernel
theorem d_Machine_assign_21 : decode k_Machine_assign 21 = .ok (.istore_n 1, 1) := by decide +kernel
theorem d_Machine_assign_22 : decode k_Machine_assign 22 = .ok (.aload_n 0, 1) := by decide +kernel
theorem d_Machine_assign_23 : decode k_Machine_assign 23 = .ok (.getfield 9, 3) := by decide +kernel
theorem d_Machine_assign_26 : decode k_Machine_assign 26 = .ok (.invokevirtual 168, 3) := by decide +kernel
theorem d_Machine_assign_29 : decode k_Machine_assign 29 = .ok (.invokestatic 99, 3) := by decide +kernel
theorem d_Machine_assign_32 : decode k_Machine_assign 32 = .ok (.istore_n 2, 1) := by decide +kernel
theorem d_Machine_assign_33 : decode k_Machine_assign 33 = .ok (.iload_n 1, 1) := by decide +kernel
theorem d_Machine_assign_34 : decode k_Machine_assign 34 = .ok (.iconst 2, 1) := by decide +kernel
theorem d_Machine_assign_35 : decode k_Machine_assign 35 = .ok (.if_icmp .eq (21), 3) := by decide +kernel
theorem d_Machine_assign_38 : decode k_Machine_assign 38 = .ok (.aload_n 0, 1) := by decide +kernel
theorem d_Machine_assign_39 : decode k_Machine_assign 39 = .ok (.getfield 15, 3) := by decide +kernel
theorem d_Machine_assign_42 : decode k_Machine_assign 42 = .ok (.iload_n 1, 1) := by decide +kernel
theorem d_Machine_assign_43 : decode k_Machine_assign 43 = .ok (.aload_n 0, 1) := by decide +kernel
theorem d_Machine_assign_44 : decode k_Machine_assign 44 = .ok (.getfield 9, 3) := by decide +kernel
theorem d_Machine_assign_47 : decode k_Machine_assign 47 = .ok (.getfield 71, 3) := by decide +kernel
theorem d_Machine_assign_50 : decode k_Machine_assign 50 = .ok (.invokevirtual 193, 3) := by decide +kernel
theorem d_Machine_assign_53 : decode k_Machine_assign 53 = .ok (.goto (37), 3) := by decide +kernel
theorem d_Machine_assign_56 : decode k_Machine_assign 56 = .ok (.aload_n 0, 1) := by decide +kernel
theorem d_Machine_assign_57 : decode k_Machine_assign 57 = .ok (.getfield 19, 3) := by decide +kernel
theorem d_Machine_assign_60 : decode k_Machine_assign 60 = .ok (.iload_n 2, 1) := by decide +kernel
theorem d_Machine_assign_61 : decode k_Machine_assign 61 = .ok (.invokevirtual 124, 3) := by decide +kernel
theorem d_Machine_assign_64 : decode k_Machine_assign 64 = .ok (.bipush 6, 2) := by decide +kernel
theorem d_Machine_assign_66 : decode k_Machine_assign 66 = .ok (.if_icmp .eq (21), 3) := by decide +kernel
theorem d_Machine_assign_69 : decode k_Machine_assign 69 = .ok (.aload_n 0, 1) := by decide +kernel
theorem d_Machine_assign_70 : decode k_Machine_assign 70 = .ok (.getfield 19, 3) := by decide +kernel
theorem d_Machine_assign_73 : decode k_Machine_assign 73 = .ok (.iload_n 2, 1) := by decide +kernel
theorem d_Machine_assign_74 : decode k_Machine_assign 74 = .ok (.aload_n 0, 1) := by decide +kernel
theorem d_Machine_assign_75 : decode k_Machine_assign 75 = .ok (.getfield 9, 3) := by decide +kernel
theorem d_Machine_assign_78 : decode k_Machine_assign 78 = .ok (.getfield 71, 3) := by decide +kernel
theorem d_Machine_assign_81 : decode k_Machine_assign 81 = .ok (.invokevirtual 189, 3) := by decide +kernel
theorem d_Machine_assign_84 : decode k_Machine_assign 84 = .ok (.goto (6), 3) := by decide +kernel
theorem d_Machine_assign_87 : decode k_Machine_assign 87 = .ok (.bipush (-2), 2) := by decide +kernel
theorem d_Machine_assign_89 : decode k_Machine_assign 89 = .ok (.ireturn, 1) := by decide +kernel
theorem d_Machine_assign_90 : decode k_Machine_assign 90 = .ok (.aload_n 0, 1) := by decide +kernel
theorem d_Machine_assign_91 : decode k_Machine_assign 91 = .ok (.getfield 9, 3) := by decide +kernel
theorem d_Machine_assign_94 : decode k_Machine_assign 94 = .ok (.invokevirtual 186, 3) := by decide +kernel
theorem d_Machine_assign_97 : decode k_Machine_assign 97 = .ok (.aload_n 0, 1) := by decide +kernel
theorem d_Machine_assign_98 : decode k_Machine_assign 98 = .ok (.aload_n 0, 1) := by decide +kernel
theorem d_Machine_assign_99 : decode k_Machine_assign 99 = .ok (.getfield 9, 3) := by decide +kernel
theorem d_Machine_assign_102 : decode k_Machine_assign 102 = .ok (.getfield 71, 3) := by decide +kernel
theorem d_Machine_assign_105 : decode k_Machine_assign 105 = .ok (.invokevirtual 90, 3) := by decide +kernel
theorem d_Machine_assign_108 : decode k_Machine_assign 108 = .ok (.ireturn, 1) := by decide +kernel
theorem d_Machine_keepValue_0 : decode k_Machine_keepValue 0 = .ok (.aload_n 0, 1) := by decide +kernel
theorem d_Machine_keepValue_1 : decode k_Machine_keepValue 1 = .ok (.getfield 15, 3) := by decide +kernel
theorem d_Machine_keepValue_4 : decode k_Machine_keepValue 4 = .ok (.iconst 2, 1) := by decide +kernel
theorem d_Machine_keepValue_5 : decode k_Machine_keepValue 5 = .ok (.invokevirtual 145, 3) := by decide +kernel
theorem d_Machine_keepValue_8 : decode k_Machine_keepValue 8 = .ok (.ifCond .ne (5), 3) := by decide +kernel
theorem d_Machine_keepValue_11 : decode k_Machine_keepValue 11 = .ok (.iconst 0, 1) := by decide +kernel
theorem d_Machine_keepValue_12 : decode k_Machine_keepValue 12 = .ok (.ireturn, 1) := by decide +kernel
theorem d_Machine_keepValue_13 : decode k_Machine_keepValue 13 = .ok (.aload_n 0, 1) := by decide +kernel
theorem d_Machine_keepValue_14 : decode k_Machine_keepValue 14 = .ok (.getfield 9, 3) := by decide +kernel
theorem d_Machine_keepValue_17 : decode k_Machine_keepValue 17 = .ok (.aload_n 0, 1) := by decide +kernel
theorem d_Machine_keepValue_18 : decode k_Machine_keepValue 18 = .ok (.getfield 15, 3) := by decide +kernel
theorem d_Machine_keepValue_21 : decode k_Machine_keepValue 21 = .ok (.aload_n 0, 1) := by decide +kernel
theorem d_Machine_keepValue_22 : decode k_Machine_keepValue 22 = .ok (.getfield 9, 3) := by decide +kernel
theorem d_Machine_keepValue_25 : decode k_Machine_keepValue 25 = .ok (.getfield 71, 3) := by decide +kernel
theorem d_Machine_keepValue_28 : decode k_Machine_keepValue 28 = .ok (.aload_n 0, 1) := by decide +kernel
theorem d_Machine_keepValue_29 : decode k_Machine_keepValue 29 = .ok (.getfield 9, 3) := by decide +kernel
theorem d_Machine_keepValue_32 : decode k_Machine_keepValue 32 = .ok (.invokevirtual 196, 3) := by decide +kernel
theorem d_Machine_keepValue_35 : decode k_Machine_keepValue 35 = .ok (.invokevirtual 199, 3) := by decide +kernel
theorem d_Machine_keepValue_38 : decode k_Machine_keepValue 38 = .ok (.invokevirtual 202, 3) := by decide +kernel
theorem d_Machine_keepValue_41 : decode k_Machine_keepValue 41 = .ok (.iconst 1, 1) := by decide +kernel
theorem d_Machine_keepValue_42 : decode k_Machine_keepValue 42 = .ok (.ireturn, 1) := by decide +kernel
theorem d_Machine_nextArgument_0 : decode k_Machine_nextArgument 0 = .ok (.aload_n 0, 1) := by decide +kernel
theorem d_Machine_nextArgument_1 : decode k_Machine_nextArgument 1 = .ok (.getfield 9, 3) := by decide +kernel
theorem d_Machine_nextArgument_4 : decode k_Machine_nextArgument 4 = .ok (.invokevirtual 168, 3) := by decide +kernel
theorem d_Machine_nextArgument_7 : decode k_Machine_nextArgument 7 = .ok (.istore_n 1, 1) := by decide +kernel
theorem d_Machine_nextArgument_8 : decode k_Machine_nextArgument 8 = .ok (.aload_n 0, 1) := by decide +kernel
theorem d_Machine_nextArgument_9 : decode k_Machine_nextArgument 9 = .ok (.getfield 9, 3) := by decide +kernel
theorem d_Machine_nextArgument_12 : decode k_Machine_nextArgument 12 = .ok (.aload_n 0, 1) := by decide +kernel
theorem d_Machine_nextArgument_13 : decode k_Machine_nextArgument 13 = .ok (.getfield 15, 3) := by decide +kernel
theorem d_Machine_nextArgument_16 : decode k_Machine_nextArgument 16 = .ok (.iload_n 1, 1) := by decide +kernel
theorem d_Machine_nextArgument_17 : decode k_Machine_nextArgument 17 = .ok (.invokevirtual 114, 3) := by decide +kernel
theorem d_Machine_nextArgument_20 : decode k_Machine_nextArgument 20 = .ok (.invokevirtual 205, 3) := by decide +kernel
theorem d_Machine_nextArgument_23 : decode k_Machine_nextArgument 23 = .ok (.aload_n 0, 1) := by decide +kernel
theorem d_Machine_nextArgument_24 : decode k_Machine_nextArgument 24 = .ok (.aload_n 0, 1) := by decide +kernel
theorem d_Machine_nextArgument_25 : decode k_Machine_nextArgument 25 = .ok (.getfield 15, 3) := by decide +kernel
theorem d_Machine_nextArgument_28 : decode k_Machine_nextArgument 28 = .ok (.iload_n 1, 1) := by decide +kernel
theorem d_Machine_nextArgument_29 : decode k_Machine_nextArgument 29 = .ok (.invokevirtual 94, 3) := by decide +kernel
theorem d_Machine_nextArgument_32 : decode k_Machine_nextArgument 32 = .ok (.aload_n 0, 1) := by decide +kernel
theorem d_Machine_nextArgument_33 : decode k_Machine_nextArgument 33 = .ok (.getfield 9, 3) := by decide +kernel
theorem d_Machine_nextArgument_36 : decode k_Machine_nextArgument 36 = .ok (.invokevirtual 183, 3) := by decide +kernel
theorem d_Machine_nextArgument_39 : decode k_Machine_nextArgument 39 = .ok (.invokevirtual 67, 3) := by decide +kernel
theorem d_Machine_nextArgument_42 : decode k_Machine_nextArgument 42 = .ok (.ireturn, 1) := by decide +kernel
theorem d_Machine_apply_0 : decode k_Machine_apply 0 = .ok (.aload_n 0, 1) := by decide +kernel
theorem d_Machine_apply_1 : decode k_Machine_apply 1 = .ok (.getfield 9, 3) := by decide +kernel
theorem d_Machine_apply_4 : decode k_Machine_apply 4 = .ok (.invokevirtual 196, 3) := by decide +kernel
theorem d_Machine_apply_7 : decode k_Machine_apply 7 = .ok (.istore_n 1, 1) := by decide +kernel
theorem d_Machine_apply_8 : decode k_Machine_apply 8 = .ok (.aload_n 0, 1) := by decide +kernel
theorem d_Machine_apply_9 : decode k_Machine_apply 9 = .ok (.getfield 15, 3) := by decide +kernel
theorem d_Machine_apply_12 : decode k_Machine_apply 12 = .ok (.iload_n 1, 1) := by decide +kernel
theorem d_Machine_apply_13 : decode k_Machine_apply 13 = .ok (.invokevirtual 136, 3) := by decide +kernel
theorem d_Machine_apply_16 : decode k_Machine_apply 16 = .ok (.iconst 1, 1) := by decide +kernel
theorem d_Machine_apply_17 : decode k_Machine_apply 17 = .ok (.isub, 1) := by decide +kernel
theorem d_Machine_apply_18 : decode k_Machine_apply 18 = .ok (.istore_n 2, 1) := by decide +kernel
theorem d_Machine_apply_19 : decode k_Machine_apply 19 = .ok (.aload_n 0, 1) := by decide +kernel
theorem d_Machine_apply_20 : decode k_Machine_apply 20 = .ok (.getfield 15, 3) := by decide +kernel
theorem d_Machine_apply_23 : decode k_Machine_apply 23 = .ok (.aload_n 0, 1) := by decide +kernel
theorem d_Machine_apply_24 : decode k_Machine_apply 24 = .ok (.getfield 15, 3) := by decide +kernel
theorem d_Machine_apply_27 : decode k_Machine_apply 27 = .ok (.iload_n 1, 1) := by decide +kernel
theorem d_Machine_apply_28 : decode k_Machine_apply 28 = .ok (.iload_n 2, 1) := by decide +kernel
theorem d_Machine_apply_29 : decode k_Machine_apply 29 = .ok (.invokevirtual 133, 3) := by decide +kernel
theorem d_Machine_apply_32 : decode k_Machine_apply 32 = .ok (.invokevirtual 94, 3) := by decide +kernel
theorem d_Machine_apply_35 : decode k_Machine_apply 35 = .ok (.istore_n 3, 1) := by decide +kernel
theorem d_Machine_apply_36 : decode k_Machine_apply 36 = .ok (.aload_n 0, 1) := by decide +kernel
theorem d_Machine_apply_37 : decode k_Machine_apply 37 = .ok (.iload_n 3, 1) := by decide +kernel
theorem d_Machine_apply_38 : decode k_Machine_apply 38 = .ok (.iload_n 2, 1) := by decide +kernel
theorem d_Machine_apply_39 : decode k_Machine_apply 39 = .ok (.invokevirtual 208, 3) := by decide +kernel
theorem d_Machine_apply_42 : decode k_Machine_apply 42 = .ok (.istore 4, 2) := by decide +kernel
theorem d_Machine_apply_44 : decode k_Machine_apply 44 = .ok (.iload 4, 2) := by decide +kernel
theorem d_Machine_apply_46 : decode k_Machine_apply 46 = .ok (.iconst 1, 1) := by decide +kernel
theorem d_Machine_apply_47 : decode k_Machine_apply 47 = .ok (.if_icmp .eq (6), 3) := by decide +kernel
theorem d_Machine_apply_50 : decode k_Machine_apply 50 = .ok (.iload 4, 2) := by decide +kernel
theorem d_Machine_apply_52 : decode k_Machine_apply 52 = .ok (.ireturn, 1) := by decide +kernel
theorem d_Machine_apply_53 : decode k_Machine_apply 53 = .ok (.aload_n 0, 1) := by decide +kernel
theorem d_Machine_apply_54 : decode k_Machine_apply 54 = .ok (.getfield 15, 3) := by decide +kernel
theorem d_Machine_apply_57 : decode k_Machine_apply 57 = .ok (.iload_n 3, 1) := by decide +kernel
theorem d_Machine_apply_58 : decode k_Machine_apply 58 = .ok (.iload_n 2, 1) := by decide +kernel
theorem d_Machine_apply_59 : decode k_Machine_apply 59 = .ok (.invokestatic 211, 3) := by decide +kernel
theorem d_Machine_apply_62 : decode k_Machine_apply 62 = .ok (.invokevirtual 145, 3) := by decide +kernel
theorem d_Machine_apply_65 : decode k_Machine_apply 65 = .ok (.ifCond .ne (6), 3) := by decide +kernel
theorem d_Machine_apply_68 : decode k_Machine_apply 68 = .ok (.bipush (-7), 2) := by decide +kernel
theorem d_Machine_apply_70 : decode k_Machine_apply 70 = .ok (.ireturn, 1) := by decide +kernel
theorem d_Machine_apply_71 : decode k_Machine_apply 71 = .ok (.aload_n 0, 1) := by decide +kernel
theorem d_Machine_apply_72 : decode k_Machine_apply 72 = .ok (.getfield 9, 3) := by decide +kernel
theorem d_Machine_apply_75 : decode k_Machine_apply 75 = .ok (.invokevirtual 186, 3) := by decide +kernel
theorem d_Machine_apply_78 : decode k_Machine_apply 78 = .ok (.iload_n 3, 1) := by decide +kernel
theorem d_Machine_apply_79 : decode k_Machine_apply 79 = .ok (.invokestatic 214, 3) := by decide +kernel
theorem d_Machine_apply_82 : decode k_Machine_apply 82 = .ok (.iconst 5, 1) := by decide +kernel
theorem d_Machine_apply_83 : decode k_Machine_apply 83 = .ok (.if_icmp .ne (23), 3) := by decide +kernel
theorem d_Machine_apply_86 : decode k_Machine_apply 86 = .ok (.aload_n 0, 1) := by decide +kernel
theorem d_Machine_apply_87 : decode k_Machine_apply 87 = .ok (.aload_n 0, 1) := by decide +kernel
theorem d_Machine_apply_88 : decode k_Machine_apply 88 = .ok (.getfield 15, 3) := by decide +kernel
theorem d_Machine_apply_91 : decode k_Machine_apply 91 = .ok (.iload_n 3, 1) := by decide +kernel
theorem d_Machine_apply_92 : decode k_Machine_apply 92 = .ok (.invokevirtual 114, 3) := by decide +kernel
theorem d_Machine_apply_95 : decode k_Machine_apply 95 = .ok (.aload_n 0, 1) := by decide +kernel
theorem d_Machine_apply_96 : decode k_Machine_apply 96 = .ok (.iload_n 3, 1) := by decide +kernel
theorem d_Machine_apply_97 : decode k_Machine_apply 97 = .ok (.iload_n 1, 1) := by decide +kernel
theorem d_Machine_apply_98 : decode k_Machine_apply 98 = .ok (.iload_n 2, 1) := by decide +kernel
theorem d_Machine_apply_99 : decode k_Machine_apply 99 = .ok (.invokevirtual 216, 3) := by decide +kernel
theorem d_Machine_apply_102 : decode k_Machine_apply 102 = .ok (.invokevirtual 67, 3) := by decide +kernel
theorem d_Machine_apply_105 : decode k_Machine_apply 105 = .ok (.ireturn, 1) := by decide +kernel
theorem d_Machine_apply_106 : decode k_Machine_apply 106 = .ok (.aload_n 0, 1) := by decide +kernel
theorem d_Machine_apply_107 : decode k_Machine_apply 107 = .ok (.aload_n 0, 1) := by decide +kernel
theorem d_Machine_apply_108 : decode k_Machine_apply 108 = .ok (.iload_n 3, 1) := by decide +kernel
theorem d_Machine_apply_109 : decode k_Machine_apply 109 = .ok (.invokestatic 99, 3) := by decide +kernel
theorem d_Machine_apply_112 : decode k_Machine_apply 112 = .ok (.iload_n 1, 1) := by decide +kernel
theorem d_Machine_apply_113 : decode k_Machine_apply 113 = .ok (.iload_n 2, 1) := by decide +kernel
theorem d_Machine_apply_114 : decode k_Machine_apply 114 = .ok (.invokevirtual 219, 3) := by decide +kernel
theorem d_Machine_apply_117 : decode k_Machine_apply 117 = .ok (.invokevirtual 90, 3) := by decide +kernel
theorem d_Machine_apply_120 : decode k_Machine_apply 120 = .ok (.ireturn, 1) := by decide +kernel
theorem d_Machine_faultOfCall_0 : decode k_Machine_faultOfCall 0 = .ok (.iload_n 1, 1) := by decide +kernel
theorem d_Machine_faultOfCall_1 : decode k_Machine_faultOfCall 1 = .ok (.invokestatic 214, 3) := by decide +kernel
theorem d_Machine_faultOfCall_4 : decode k_Machine_faultOfCall 4 = .ok (.lookupswitch (64) #[(3, 54), (5, 28)], 28) := by decide +kernel
theorem d_Machine_faultOfCall_32 : decode k_Machine_faultOfCall 32 = .ok (.iload_n 2, 1) := by decide +kernel
theorem d_Machine_faultOfCall_33 : decode k_Machine_faultOfCall 33 = .ok (.aload_n 0, 1) := by decide +kernel
theorem d_Machine_faultOfCall_34 : decode k_Machine_faultOfCall 34 = .ok (.getfield 15, 3) := by decide +kernel
theorem d_Machine_faultOfCall_37 : decode k_Machine_faultOfCall 37 = .ok (.aload_n 0, 1) := by decide +kernel
theorem d_Machine_faultOfCall_38 : decode k_Machine_faultOfCall 38 = .ok (.getfield 15, 3) := by decide +kernel
theorem d_Machine_faultOfCall_41 : decode k_Machine_faultOfCall 41 = .ok (.iload_n 1, 1) := by decide +kernel
theorem d_Machine_faultOfCall_42 : decode k_Machine_faultOfCall 42 = .ok (.invokevirtual 94, 3) := by decide +kernel
theorem d_Machine_faultOfCall_45 : decode k_Machine_faultOfCall 45 = .ok (.invokevirtual 136, 3) := by decide +kernel
theorem d_Machine_faultOfCall_48 : decode k_Machine_faultOfCall 48 = .ok (.if_icmp .ne (7), 3) := by decide +kernel
theorem d_Machine_faultOfCall_51 : decode k_Machine_faultOfCall 51 = .ok (.iconst 1, 1) := by decide +kernel
theorem d_Machine_faultOfCall_52 : decode k_Machine_faultOfCall 52 = .ok (.goto (5), 3) := by decide +kernel
theorem d_Machine_faultOfCall_55 : decode k_Machine_faultOfCall 55 = .ok (.bipush (-4), 2) := by decide +kernel
theorem d_Machine_faultOfCall_57 : decode k_Machine_faultOfCall 57 = .ok (.ireturn, 1) := by decide +kernel
theorem d_Machine_faultOfCall_58 : decode k_Machine_faultOfCall 58 = .ok (.aload_n 0, 1) := by decide +kernel
theorem d_Machine_faultOfCall_59 : decode k_Machine_faultOfCall 59 = .ok (.iload_n 1, 1) := by decide +kernel
theorem d_Machine_faultOfCall_60 : decode k_Machine_faultOfCall 60 = .ok (.invokestatic 99, 3) := by decide +kernel
theorem d_Machine_faultOfCall_63 : decode k_Machine_faultOfCall 63 = .ok (.iload_n 2, 1) := by decide +kernel
theorem d_Machine_faultOfCall_64 : decode k_Machine_faultOfCall 64 = .ok (.invokevirtual 222, 3) := by decide +kernel
theorem d_Machine_faultOfCall_67 : decode k_Machine_faultOfCall 67 = .ok (.ireturn, 1) := by decide +kernel
theorem d_Machine_faultOfCall_68 : decode k_Machine_faultOfCall 68 = .ok (.bipush (-5), 2) := by decide +kernel
theorem d_Machine_faultOfCall_70 : decode k_Machine_faultOfCall 70 = .ok (.ireturn, 1) := by decide +kernel
theorem d_Machine_faultOfPrimitive_0 : decode k_Machine_faultOfPrimitive 0 = .ok (.aload_n 0, 1) := by decide +kernel
theorem d_Machine_faultOfPrimitive_1 : decode k_Machine_faultOfPrimitive 1 = .ok (.getfield 15, 3) := by decide +kernel
theorem d_Machine_faultOfPrimitive_4 : decode k_Machine_faultOfPrimitive 4 = .ok (.aload_n 0, 1) := by decide +kernel
theorem d_Machine_faultOfPrimitive_5 : decode k_Machine_faultOfPrimitive 5 = .ok (.getfield 9, 3) := by decide +kernel
theorem d_Machine_faultOfPrimitive_8 : decode k_Machine_faultOfPrimitive 8 = .ok (.invokevirtual 196, 3) := by decide +kernel
theorem d_Machine_faultOfPrimitive_11 : decode k_Machine_faultOfPrimitive 11 = .ok (.invokevirtual 94, 3) := by decide +kernel
theorem d_Machine_faultOfPrimitive_14 : decode k_Machine_faultOfPrimitive 14 = .ok (.istore_n 3, 1) := by decide +kernel
theorem d_Machine_faultOfPrimitive_15 : decode k_Machine_faultOfPrimitive 15 = .ok (.aload_n 0, 1) := by decide +kernel
theorem d_Machine_faultOfPrimitive_16 : decode k_Machine_faultOfPrimitive 16 = .ok (.getfield 15, 3) := by decide +kernel
theorem d_Machine_faultOfPrimitive_19 : decode k_Machine_faultOfPrimitive 19 = .ok (.aload_n 0, 1) := by decide +kernel
theorem d_Machine_faultOfPrimitive_20 : decode k_Machine_faultOfPrimitive 20 = .ok (.getfield 15, 3) := by decide +kernel
theorem d_Machine_faultOfPrimitive_23 : decode k_Machine_faultOfPrimitive 23 = .ok (.aload_n 0, 1) := by decide +kernel
theorem d_Machine_faultOfPrimitive_24 : decode k_Machine_faultOfPrimitive 24 = .ok (.getfield 9, 3) := by decide +kernel
theorem d_Machine_faultOfPrimitive_27 : decode k_Machine_faultOfPrimitive 27 = .ok (.invokevirtual 196, 3) := by decide +kernel
theorem d_Machine_faultOfPrimitive_30 : decode k_Machine_faultOfPrimitive 30 = .ok (.invokevirtual 114, 3) := by decide +kernel
theorem d_Machine_faultOfPrimitive_33 : decode k_Machine_faultOfPrimitive 33 = .ok (.invokevirtual 94, 3) := by decide +kernel
theorem d_Machine_faultOfPrimitive_36 : decode k_Machine_faultOfPrimitive 36 = .ok (.istore 4, 2) := by decide +kernel
theorem d_Machine_faultOfPrimitive_38 : decode k_Machine_faultOfPrimitive 38 = .ok (.iload_n 1, 1) := by decide +kernel
theorem d_Machine_faultOfPrimitive_39 : decode k_Machine_faultOfPrimitive 39 = .ok (.tableswitch (85) (4) (9) #[73, 39, 73, 51, 51, 37], 37) := by decide +kernel
theorem d_Machine_faultOfPrimitive_76 : decode k_Machine_faultOfPrimitive 76 = .ok (.iconst 1, 1) := by decide +kernel
theorem d_Machine_faultOfPrimitive_77 : decode k_Machine_faultOfPrimitive 77 = .ok (.ireturn, 1) := by decide +kernel
theorem d_Machine_faultOfPrimitive_78 : decode k_Machine_faultOfPrimitive 78 = .ok (.iload_n 2, 1) := by decide +kernel
theorem d_Machine_faultOfPrimitive_79 : decode k_Machine_faultOfPrimitive 79 = .ok (.iconst 1, 1) := by decide +kernel
theorem d_Machine_faultOfPrimitive_80 : decode k_Machine_faultOfPrimitive 80 = .ok (.if_icmp .ne (7), 3) := by decide +kernel
theorem d_Machine_faultOfPrimitive_83 : decode k_Machine_faultOfPrimitive 83 = .ok (.iconst 1, 1) := by decide +kernel
theorem d_Machine_faultOfPrimitive_84 : decode k_Machine_faultOfPrimitive 84 = .ok (.goto (5), 3) := by decide +kernel
theorem d_Machine_faultOfPrimitive_87 : decode k_Machine_faultOfPrimitive 87 = .ok (.bipush (-4), 2) := by decide +kernel
theorem d_Machine_faultOfPrimitive_89 : decode k_Machine_faultOfPrimitive 89 = .ok (.ireturn, 1) := by decide +kernel
theorem d_Machine_faultOfPrimitive_90 : decode k_Machine_faultOfPrimitive 90 = .ok (.iload_n 2, 1) := by decide +kernel
theorem d_Machine_faultOfPrimitive_91 : decode k_Machine_faultOfPrimitive 91 = .ok (.iconst 1, 1) := by decide +kernel
theorem d_Machine_faultOfPrimitive_92 : decode k_Machine_faultOfPrimitive 92 = .ok (.if_icmp .eq (6), 3) := by decide +kernel
theorem d_Machine_faultOfPrimitive_95 : decode k_Machine_faultOfPrimitive 95 = .ok (.bipush (-4), 2) := by decide +kernel
theorem d_Machine_faultOfPrimitive_97 : decode k_Machine_faultOfPrimitive 97 = .ok (.ireturn, 1) := by decide +kernel
theorem d_Machine_faultOfPrimitive_98 : decode k_Machine_faultOfPrimitive 98 = .ok (.iload_n 3, 1) := by decide +kernel
theorem d_Machine_faultOfPrimitive_99 : decode k_Machine_faultOfPrimitive 99 = .ok (.invokestatic 87, 3) := by decide +kernel
theorem d_Machine_faultOfPrimitive_102 : decode k_Machine_faultOfPrimitive 102 = .ok (.ifCond .eq (7), 3) := by decide +kernel
theorem d_Machine_faultOfPrimitive_105 : decode k_Machine_faultOfPrimitive 105 = .ok (.iconst 1, 1) := by decide +kernel
theorem d_Machine_faultOfPrimitive_106 : decode k_Machine_faultOfPrimitive 106 = .ok (.goto (5), 3) := by decide +kernel
theorem d_Machine_faultOfPrimitive_109 : decode k_Machine_faultOfPrimitive 109 = .ok (.bipush (-5), 2) := by decide +kernel
theorem d_Machine_faultOfPrimitive_111 : decode k_Machine_faultOfPrimitive 111 = .ok (.ireturn, 1) := by decide +kernel
theorem d_Machine_faultOfPrimitive_112 : decode k_Machine_faultOfPrimitive 112 = .ok (.iload_n 2, 1) := by decide +kernel
theorem d_Machine_faultOfPrimitive_113 : decode k_Machine_faultOfPrimitive 113 = .ok (.iconst 2, 1) := by decide +kernel
theorem d_Machine_faultOfPrimitive_114 : decode k_Machine_faultOfPrimitive 114 = .ok (.if_icmp .ne (7), 3) := by decide +kernel
theorem d_Machine_faultOfPrimitive_117 : decode k_Machine_faultOfPrimitive 117 = .ok (.iconst 1, 1) := by decide +kernel
theorem d_Machine_faultOfPrimitive_118 : decode k_Machine_faultOfPrimitive 118 = .ok (.goto (5), 3) := by decide +kernel
theorem d_Machine_faultOfPrimitive_121 : decode k_Machine_faultOfPrimitive 121 = .ok (.bipush (-4), 2) := by decide +kernel
theorem d_Machine_faultOfPrimitive_123 : decode k_Machine_faultOfPrimitive 123 = .ok (.ireturn, 1) := by decide +kernel
theorem d_Machine_faultOfPrimitive_124 : decode k_Machine_faultOfPrimitive 124 = .ok (.iload_n 2, 1) := by decide +kernel
theorem d_Machine_faultOfPrimitive_125 : decode k_Machine_faultOfPrimitive 125 = .ok (.iconst 2, 1) := by decide +kernel
theorem d_Machine_faultOfPrimitive_126 : decode k_Machine_faultOfPrimitive 126 = .ok (.if_icmp .eq (6), 3) := by decide +kernel
theorem d_Machine_faultOfPrimitive_129 : decode k_Machine_faultOfPrimitive 129 = .ok (.bipush (-4), 2) := by decide +kernel
theorem d_Machine_faultOfPrimitive_131 : decode k_Machine_faultOfPrimitive 131 = .ok (.ireturn, 1) := by decide +kernel
theorem d_Machine_faultOfPrimitive_132 : decode k_Machine_faultOfPrimitive 132 = .ok (.iload_n 3, 1) := by decide +kernel
theorem d_Machine_faultOfPrimitive_133 : decode k_Machine_faultOfPrimitive 133 = .ok (.invokestatic 225, 3) := by decide +kernel
theorem d_Machine_faultOfPrimitive_136 : decode k_Machine_faultOfPrimitive 136 = .ok (.ifCond .eq (15), 3) := by decide +kernel
theorem d_Machine_faultOfPrimitive_139 : decode k_Machine_faultOfPrimitive 139 = .ok (.iload 4, 2) := by decide +kernel
theorem d_Machine_faultOfPrimitive_141 : decode k_Machine_faultOfPrimitive 141 = .ok (.invokestatic 225, 3) := by decide +kernel
theorem d_Machine_faultOfPrimitive_144 : decode k_Machine_faultOfPrimitive 144 = .ok (.ifCond .eq (7), 3) := by decide +kernel
theorem d_Machine_faultOfPrimitive_147 : decode k_Machine_faultOfPrimitive 147 = .ok (.iconst 1, 1) := by decide +kernel
theorem d_Machine_faultOfPrimitive_148 : decode k_Machine_faultOfPrimitive 148 = .ok (.goto (5), 3) := by decide +kernel
theorem d_Machine_faultOfPrimitive_151 : decode k_Machine_faultOfPrimitive 151 = .ok (.bipush (-5), 2) := by decide +kernel
theorem d_Machine_faultOfPrimitive_153 : decode k_Machine_faultOfPrimitive 153 = .ok (.ireturn, 1) := by decide +kernel
theorem d_Machine_cellsOfCall_0 : decode k_Machine_cellsOfCall 0 = .ok (.iload_n 0, 1) := by decide +kernel
theorem d_Machine_cellsOfCall_1 : decode k_Machine_cellsOfCall 1 = .ok (.invokestatic 214, 3) := by decide +kernel
theorem d_Machine_cellsOfCall_4 : decode k_Machine_cellsOfCall 4 = .ok (.iconst 5, 1) := by decide +kernel
theorem d_Machine_cellsOfCall_5 : decode k_Machine_cellsOfCall 5 = .ok (.if_icmp .ne (9), 3) := by decide +kernel
theorem d_Machine_cellsOfCall_8 : decode k_Machine_cellsOfCall 8 = .ok (.iconst 2, 1) := by decide +kernel
theorem d_Machine_cellsOfCall_9 : decode k_Machine_cellsOfCall 9 = .ok (.iload_n 1, 1) := by decide +kernel
theorem d_Machine_cellsOfCall_10 : decode k_Machine_cellsOfCall 10 = .ok (.imul, 1) := by decide +kernel
theorem d_Machine_cellsOfCall_11 : decode k_Machine_cellsOfCall 11 = .ok (.iconst 2, 1) := by decide +kernel
theorem d_Machine_cellsOfCall_12 : decode k_Machine_cellsOfCall 12 = .ok (.imul, 1) := by decide +kernel
theorem d_Machine_cellsOfCall_13 : decode k_Machine_cellsOfCall 13 = .ok (.ireturn, 1) := by decide +kernel
theorem d_Machine_cellsOfCall_14 : decode k_Machine_cellsOfCall 14 = .ok (.iload_n 0, 1) := by decide +kernel
theorem d_Machine_cellsOfCall_15 : decode k_Machine_cellsOfCall 15 = .ok (.invokestatic 99, 3) := by decide +kernel
theorem d_Machine_cellsOfCall_18 : decode k_Machine_cellsOfCall 18 = .ok (.lookupswitch (32) #[(6, 26), (9, 28)], 26) := by decide +kernel
theorem d_Machine_cellsOfCall_44 : decode k_Machine_cellsOfCall 44 = .ok (.iconst 2, 1) := by decide +kernel
theorem d_Machine_cellsOfCall_45 : decode k_Machine_cellsOfCall 45 = .ok (.ireturn, 1) := by decide +kernel
theorem d_Machine_cellsOfCall_46 : decode k_Machine_cellsOfCall 46 = .ok (.iload_n 1, 1) := by decide +kernel
theorem d_Machine_cellsOfCall_47 : decode k_Machine_cellsOfCall 47 = .ok (.iconst 2, 1) := by decide +kernel
theorem d_Machine_cellsOfCall_48 : decode k_Machine_cellsOfCall 48 = .ok (.imul, 1) := by decide +kernel
theorem d_Machine_cellsOfCall_49 : decode k_Machine_cellsOfCall 49 = .ok (.ireturn, 1) := by decide +kernel
theorem d_Machine_cellsOfCall_50 : decode k_Machine_cellsOfCall 50 = .ok (.iconst 0, 1) := by decide +kernel
theorem d_Machine_cellsOfCall_51 : decode k_Machine_cellsOfCall 51 = .ok (.ireturn, 1) := by decide +kernel
theorem d_Machine_boundEnvironment_0 : decode k_Machine_boundEnvironment 0 = .ok (.aload_n 0, 1) := by decide +kernel
theorem d_Machine_boundEnvironment_1 : decode k_Machine_boundEnvironment 1 = .ok (.getfield 15, 3) := by decide +kernel
theorem d_Machine_boundEnvironment_4 : decode k_Machine_boundEnvironment 4 = .ok (.iload_n 1, 1) := by decide +kernel
theorem d_Machine_boundEnvironment_5 : decode k_Machine_boundEnvironment 5 = .ok (.invokevirtual 228, 3) := by decide +kernel
theorem d_Machine_boundEnvironment_8 : decode k_Machine_boundEnvironment 8 = .ok (.istore 4, 2) := by decide +kernel
theorem d_Machine_boundEnvironment_10 : decode k_Machine_boundEnvironment 10 = .ok (.aload_n 0, 1) := by decide +kernel
theorem d_Machine_boundEnvironment_11 : decode k_Machine_boundEnvironment 11 = .ok (.getfield 15, 3) := by decide +kernel
theorem d_Machine_boundEnvironment_14 : decode k_Machine_boundEnvironment 14 = .ok (.iload_n 1, 1) := by decide +kernel
theorem d_Machine_boundEnvironment_15 : decode k_Machine_boundEnvironment 15 = .ok (.invokevirtual 94, 3) := by decide +kernel
theorem d_Machine_boundEnvironment_18 : decode k_Machine_boundEnvironment 18 = .ok (.istore 5, 2) := by decide +kernel
theorem d_Machine_boundEnvironment_20 : decode k_Machine_boundEnvironment 20 = .ok (.iconst 0, 1) := by decide +kernel
theorem d_Machine_boundEnvironment_21 : decode k_Machine_boundEnvironment 21 = .ok (.istore 6, 2) := by decide +kernel
theorem d_Machine_boundEnvironment_23 : decode k_Machine_boundEnvironment 23 = .ok (.iload 6, 2) := by decide +kernel
theorem d_Machine_boundEnvironment_25 : decode k_Machine_boundEnvironment 25 = .ok (.iload_n 3, 1) := by decide +kernel
theorem d_Machine_boundEnvironment_26 : decode k_Machine_boundEnvironment 26 = .ok (.if_icmp .ge (76), 3) := by decide +kernel
theorem d_Machine_boundEnvironment_29 : decode k_Machine_boundEnvironment 29 = .ok (.aload_n 0, 1) := by decide +kernel
theorem d_Machine_boundEnvironment_30 : decode k_Machine_boundEnvironment 30 = .ok (.getfield 15, 3) := by decide +kernel
theorem d_Machine_boundEnvironment_33 : decode k_Machine_boundEnvironment 33 = .ok (.aload_n 0, 1) := by decide +kernel
theorem d_Machine_boundEnvironment_34 : decode k_Machine_boundEnvironment 34 = .ok (.getfield 15, 3) := by decide +kernel
theorem d_Machine_boundEnvironment_37 : decode k_Machine_boundEnvironment 37 = .ok (.iload_n 2, 1) := by decide +kernel
theorem d_Machine_boundEnvironment_38 : decode k_Machine_boundEnvironment 38 = .ok (.iload_n 3, 1) := by decide +kernel
theorem d_Machine_boundEnvironment_39 : decode k_Machine_boundEnvironment 39 = .ok (.iconst 1, 1) := by decide +kernel
theorem d_Machine_boundEnvironment_40 : decode k_Machine_boundEnvironment 40 = .ok (.isub, 1) := by decide +kernel
theorem d_Machine_boundEnvironment_41 : decode k_Machine_boundEnvironment 41 = .ok (.iload 6, 2) := by decide +kernel
theorem d_Machine_boundEnvironment_43 : decode k_Machine_boundEnvironment 43 = .ok (.isub, 1) := by decide +kernel
theorem d_Machine_boundEnvironment_44 : decode k_Machine_boundEnvironment 44 = .ok (.invokevirtual 133, 3) := by decide +kernel
theorem d_Machine_boundEnvironment_47 : decode k_Machine_boundEnvironment 47 = .ok (.invokevirtual 94, 3) := by decide +kernel
theorem d_Machine_boundEnvironment_50 : decode k_Machine_boundEnvironment 50 = .ok (.istore 7, 2) := by decide +kernel
theorem d_Machine_boundEnvironment_52 : decode k_Machine_boundEnvironment 52 = .ok (.aload_n 0, 1) := by decide +kernel
theorem d_Machine_boundEnvironment_53 : decode k_Machine_boundEnvironment 53 = .ok (.getfield 15, 3) := by decide +kernel
theorem d_Machine_boundEnvironment_56 : decode k_Machine_boundEnvironment 56 = .ok (.aload_n 0, 1) := by decide +kernel
theorem d_Machine_boundEnvironment_57 : decode k_Machine_boundEnvironment 57 = .ok (.getfield 15, 3) := by decide +kernel
theorem d_Machine_boundEnvironment_60 : decode k_Machine_boundEnvironment 60 = .ok (.iload 5, 2) := by decide +kernel
theorem d_Machine_boundEnvironment_62 : decode k_Machine_boundEnvironment 62 = .ok (.invokevirtual 94, 3) := by decide +kernel
theorem d_Machine_boundEnvironment_65 : decode k_Machine_boundEnvironment 65 = .ok (.iload 7, 2) := by decide +kernel
theorem d_Machine_boundEnvironment_67 : decode k_Machine_boundEnvironment 67 = .ok (.invokevirtual 199, 3) := by decide +kernel
theorem d_Machine_boundEnvironment_70 : decode k_Machine_boundEnvironment 70 = .ok (.istore 8, 2) := by decide +kernel
theorem d_Machine_boundEnvironment_72 : decode k_Machine_boundEnvironment 72 = .ok (.aload_n 0, 1) := by decide +kernel
theorem d_Machine_boundEnvironment_73 : decode k_Machine_boundEnvironment 73 = .ok (.getfield 15, 3) := by decide +kernel
theorem d_Machine_boundEnvironment_76 : decode k_Machine_boundEnvironment 76 = .ok (.iload 8, 2) := by decide +kernel
theorem d_Machine_boundEnvironment_78 : decode k_Machine_boundEnvironment 78 = .ok (.iload 4, 2) := by decide +kernel
theorem d_Machine_boundEnvironment_80 : decode k_Machine_boundEnvironment 80 = .ok (.invokevirtual 199, 3) := by decide +kernel
theorem d_Machine_boundEnvironment_83 : decode k_Machine_boundEnvironment 83 = .ok (.istore 4, 2) := by decide +kernel
theorem d_Machine_boundEnvironment_85 : decode k_Machine_boundEnvironment 85 = .ok (.aload_n 0, 1) := by decide +kernel
theorem d_Machine_boundEnvironment_86 : decode k_Machine_boundEnvironment 86 = .ok (.getfield 15, 3) := by decide +kernel
theorem d_Machine_boundEnvironment_89 : decode k_Machine_boundEnvironment 89 = .ok (.iload 5, 2) := by decide +kernel
theorem d_Machine_boundEnvironment_91 : decode k_Machine_boundEnvironment 91 = .ok (.invokevirtual 114, 3) := by decide +kernel
theorem d_Machine_boundEnvironment_94 : decode k_Machine_boundEnvironment 94 = .ok (.istore 5, 2) := by decide +kernel
theorem d_Machine_boundEnvironment_96 : decode k_Machine_boundEnvironment 96 = .ok (.iinc 6 1, 3) := by decide +kernel
theorem d_Machine_boundEnvironment_99 : decode k_Machine_boundEnvironment 99 = .ok (.goto (-76), 3) := by decide +kernel
theorem d_Machine_boundEnvironment_102 : decode k_Machine_boundEnvironment 102 = .ok (.iload 4, 2) := by decide +kernel
theorem d_Machine_boundEnvironment_104 : decode k_Machine_boundEnvironment 104 = .ok (.ireturn, 1) := by decide +kernel
theorem d_Machine_primitiveResult_0 : decode k_Machine_primitiveResult 0 = .ok (.aload_n 0, 1) := by decide +kernel
theorem d_Machine_primitiveResult_1 : decode k_Machine_primitiveResult 1 = .ok (.getfield 15, 3) := by decide +kernel
theorem d_Machine_primitiveResult_4 : decode k_Machine_primitiveResult 4 = .ok (.iload_n 2, 1) := by decide +kernel
theorem d_Machine_primitiveResult_5 : decode k_Machine_primitiveResult 5 = .ok (.invokevirtual 94, 3) := by decide +kernel
theorem d_Machine_primitiveResult_8 : decode k_Machine_primitiveResult 8 = .ok (.istore 4, 2) := by decide +kernel
theorem d_Machine_primitiveResult_10 : decode k_Machine_primitiveResult 10 = .ok (.aload_n 0, 1) := by decide +kernel
theorem d_Machine_primitiveResult_11 : decode k_Machine_primitiveResult 11 = .ok (.getfield 15, 3) := by decide +kernel
theorem d_Machine_primitiveResult_14 : decode k_Machine_primitiveResult 14 = .ok (.aload_n 0, 1) := by decide +kernel
theorem d_Machine_primitiveResult_15 : decode k_Machine_primitiveResult 15 = .ok (.getfield 15, 3) := by decide +kernel
theorem d_Machine_primitiveResult_18 : decode k_Machine_primitiveResult 18 = .ok (.iload_n 2, 1) := by decide +kernel
theorem d_Machine_primitiveResult_19 : decode k_Machine_primitiveResult 19 = .ok (.invokevirtual 114, 3) := by decide +kernel
theorem d_Machine_primitiveResult_22 : decode k_Machine_primitiveResult 22 = .ok (.invokevirtual 94, 3) := by decide +kernel
theorem d_Machine_primitiveResult_25 : decode k_Machine_primitiveResult 25 = .ok (.istore 5, 2) := by decide +kernel
theorem d_Machine_primitiveResult_27 : decode k_Machine_primitiveResult 27 = .ok (.iload_n 1, 1) := by decide +kernel
theorem d_Machine_primitiveResult_28 : decode k_Machine_primitiveResult 28 = .ok (.tableswitch (187) (0) (8) #[52, 68, 84, 100, 122, 138, 155, 167, 177], 52) := by decide +kernel
theorem d_Machine_primitiveResult_80 : decode k_Machine_primitiveResult 80 = .ok (.iconst 0, 1) := by decide +kernel
theorem d_Machine_primitiveResult_81 : decode k_Machine_primitiveResult 81 = .ok (.iload 5, 2) := by decide +kernel
theorem d_Machine_primitiveResult_83 : decode k_Machine_primitiveResult 83 = .ok (.invokestatic 99, 3) := by decide +kernel
theorem d_Machine_primitiveResult_86 : decode k_Machine_primitiveResult 86 = .ok (.iload 4, 2) := by decide +kernel
theorem d_Machine_primitiveResult_88 : decode k_Machine_primitiveResult 88 = .ok (.invokestatic 99, 3) := by decide +kernel
theorem d_Machine_primitiveResult_91 : decode k_Machine_primitiveResult 91 = .ok (.iadd, 1) := by decide +kernel
theorem d_Machine_primitiveResult_92 : decode k_Machine_primitiveResult 92 = .ok (.invokestatic 231, 3) := by decide +kernel
theorem d_Machine_primitiveResult_95 : decode k_Machine_primitiveResult 95 = .ok (.ireturn, 1) := by decide +kernel
theorem d_Machine_primitiveResult_96 : decode k_Machine_primitiveResult 96 = .ok (.iconst 0, 1) := by decide +kernel
theorem d_Machine_primitiveResult_97 : decode k_Machine_primitiveResult 97 = .ok (.iload 5, 2) := by decide +kernel
theorem d_Machine_primitiveResult_99 : decode k_Machine_primitiveResult 99 = .ok (.invokestatic 99, 3) := by decide +kernel
theorem d_Machine_primitiveResult_102 : decode k_Machine_primitiveResult 102 = .ok (.iload 4, 2) := by decide +kernel
theorem d_Machine_primitiveResult_104 : decode k_Machine_primitiveResult 104 = .ok (.invokestatic 99, 3) := by decide +kernel
theorem d_Machine_primitiveResult_107 : decode k_Machine_primitiveResult 107 = .ok (.isub, 1) := by decide +kernel
theorem d_Machine_primitiveResult_108 : decode k_Machine_primitiveResult 108 = .ok (.invokestatic 231, 3) := by decide +kernel
theorem d_Machine_primitiveResult_111 : decode k_Machine_primitiveResult 111 = .ok (.ireturn, 1) := by decide +kernel
theorem d_Machine_primitiveResult_112 : decode k_Machine_primitiveResult 112 = .ok (.iconst 0, 1) := by decide +kernel
theorem d_Machine_primitiveResult_113 : decode k_Machine_primitiveResult 113 = .ok (.iload 5, 2) := by decide +kernel
theorem d_Machine_primitiveResult_115 : decode k_Machine_primitiveResult 115 = .ok (.invokestatic 99, 3) := by decide +kernel
theorem d_Machine_primitiveResult_118 : decode k_Machine_primitiveResult 118 = .ok (.iload 4, 2) := by decide +kernel
theorem d_Machine_primitiveResult_120 : decode k_Machine_primitiveResult 120 = .ok (.invokestatic 99, 3) := by decide +kernel
theorem d_Machine_primitiveResult_123 : decode k_Machine_primitiveResult 123 = .ok (.imul, 1) := by decide +kernel
theorem d_Machine_primitiveResult_124 : decode k_Machine_primitiveResult 124 = .ok (.invokestatic 231, 3) := by decide +kernel
theorem d_Machine_primitiveResult_127 : decode k_Machine_primitiveResult 127 = .ok (.ireturn, 1) := by decide +kernel
theorem d_Machine_primitiveResult_128 : decode k_Machine_primitiveResult 128 = .ok (.iload 5, 2) := by decide +kernel
theorem d_Machine_primitiveResult_130 : decode k_Machine_primitiveResult 130 = .ok (.invokestatic 99, 3) := by decide +kernel
theorem d_Machine_primitiveResult_133 : decode k_Machine_primitiveResult 133 = .ok (.iload 4, 2) := by decide +kernel
theorem d_Machine_primitiveResult_135 : decode k_Machine_primitiveResult 135 = .ok (.invokestatic 99, 3) := by decide +kernel
theorem d_Machine_primitiveResult_138 : decode k_Machine_primitiveResult 138 = .ok (.if_icmp .ge (7), 3) := by decide +kernel
theorem d_Machine_primitiveResult_141 : decode k_Machine_primitiveResult 141 = .ok (.iconst 1, 1) := by decide +kernel
theorem d_Machine_primitiveResult_142 : decode k_Machine_primitiveResult 142 = .ok (.goto (4), 3) := by decide +kernel
theorem d_Machine_primitiveResult_145 : decode k_Machine_primitiveResult 145 = .ok (.iconst 0, 1) := by decide +kernel
theorem d_Machine_primitiveResult_146 : decode k_Machine_primitiveResult 146 = .ok (.invokestatic 234, 3) := by decide +kernel
theorem d_Machine_primitiveResult_149 : decode k_Machine_primitiveResult 149 = .ok (.ireturn, 1) := by decide +kernel
theorem d_Machine_primitiveResult_150 : decode k_Machine_primitiveResult 150 = .ok (.iload 5, 2) := by decide +kernel
theorem d_Machine_primitiveResult_152 : decode k_Machine_primitiveResult 152 = .ok (.iload 4, 2) := by decide +kernel
theorem d_Machine_primitiveResult_154 : decode k_Machine_primitiveResult 154 = .ok (.if_icmp .ne (7), 3) := by decide +kernel
theorem d_Machine_primitiveResult_157 : decode k_Machine_primitiveResult 157 = .ok (.iconst 1, 1) := by decide +kernel
theorem d_Machine_primitiveResult_158 : decode k_Machine_primitiveResult 158 = .ok (.goto (4), 3) := by decide +kernel
theorem d_Machine_primitiveResult_161 : decode k_Machine_primitiveResult 161 = .ok (.iconst 0, 1) := by decide +kernel
theorem d_Machine_primitiveResult_162 : decode k_Machine_primitiveResult 162 = .ok (.invokestatic 234, 3) := by decide +kernel
theorem d_Machine_primitiveResult_165 : decode k_Machine_primitiveResult 165 = .ok (.ireturn, 1) := by decide +kernel
theorem d_Machine_primitiveResult_166 : decode k_Machine_primitiveResult 166 = .ok (.iload 4, 2) := by decide +kernel
theorem d_Machine_primitiveResult_168 : decode k_Machine_primitiveResult 168 = .ok (.invokestatic 87, 3) := by decide +kernel
theorem d_Machine_primitiveResult_171 : decode k_Machine_primitiveResult 171 = .ok (.ifCond .ne (7), 3) := by decide +kernel
theorem d_Machine_primitiveResult_174 : decode k_Machine_primitiveResult 174 = .ok (.iconst 1, 1) := by decide +kernel
theorem d_Machine_primitiveResult_175 : decode k_Machine_primitiveResult 175 = .ok (.goto (4), 3) := by decide +kernel
theorem d_Machine_primitiveResult_178 : decode k_Machine_primitiveResult 178 = .ok (.iconst 0, 1) := by decide +kernel
theorem d_Machine_primitiveResult_179 : decode k_Machine_primitiveResult 179 = .ok (.invokestatic 234, 3) := by decide +kernel
theorem d_Machine_primitiveResult_182 : decode k_Machine_primitiveResult 182 = .ok (.ireturn, 1) := by decide +kernel
theorem d_Machine_primitiveResult_183 : decode k_Machine_primitiveResult 183 = .ok (.aload_n 0, 1) := by decide +kernel
theorem d_Machine_primitiveResult_184 : decode k_Machine_primitiveResult 184 = .ok (.getfield 15, 3) := by decide +kernel
theorem d_Machine_primitiveResult_187 : decode k_Machine_primitiveResult 187 = .ok (.iload 5, 2) := by decide +kernel
theorem d_Machine_primitiveResult_189 : decode k_Machine_primitiveResult 189 = .ok (.iload 4, 2) := by decide +kernel
theorem d_Machine_primitiveResult_191 : decode k_Machine_primitiveResult 191 = .ok (.invokevirtual 199, 3) := by decide +kernel
theorem d_Machine_primitiveResult_194 : decode k_Machine_primitiveResult 194 = .ok (.ireturn, 1) := by decide +kernel
theorem d_Machine_primitiveResult_195 : decode k_Machine_primitiveResult 195 = .ok (.aload_n 0, 1) := by decide +kernel
theorem d_Machine_primitiveResult_196 : decode k_Machine_primitiveResult 196 = .ok (.getfield 15, 3) := by decide +kernel
theorem d_Machine_primitiveResult_199 : decode k_Machine_primitiveResult 199 = .ok (.iload 4, 2) := by decide +kernel
theorem d_Machine_primitiveResult_201 : decode k_Machine_primitiveResult 201 = .ok (.invokevirtual 94, 3) := by decide +kernel
theorem d_Machine_primitiveResult_204 : decode k_Machine_primitiveResult 204 = .ok (.ireturn, 1) := by decide +kernel
theorem d_Machine_primitiveResult_205 : decode k_Machine_primitiveResult 205 = .ok (.aload_n 0, 1) := by decide +kernel
theorem d_Machine_primitiveResult_206 : decode k_Machine_primitiveResult 206 = .ok (.getfield 15, 3) := by decide +kernel
theorem d_Machine_primitiveResult_209 : decode k_Machine_primitiveResult 209 = .ok (.iload 4, 2) := by decide +kernel
theorem d_Machine_primitiveResult_211 : decode k_Machine_primitiveResult 211 = .ok (.invokevirtual 114, 3) := by decide +kernel
theorem d_Machine_primitiveResult_214 : decode k_Machine_primitiveResult 214 = .ok (.ireturn, 1) := by decide +kernel
theorem d_Machine_primitiveResult_215 : decode k_Machine_primitiveResult 215 = .ok (.aload_n 0, 1) := by decide +kernel
theorem d_Machine_primitiveResult_216 : decode k_Machine_primitiveResult 216 = .ok (.iload_n 2, 1) := by decide +kernel
theorem d_Machine_primitiveResult_217 : decode k_Machine_primitiveResult 217 = .ok (.iload_n 3, 1) := by decide +kernel
theorem d_Machine_primitiveResult_218 : decode k_Machine_primitiveResult 218 = .ok (.invokevirtual 238, 3) := by decide +kernel
theorem d_Machine_primitiveResult_221 : decode k_Machine_primitiveResult 221 = .ok (.ireturn, 1) := by decide +kernel
theorem d_Machine_truth_0 : decode k_Machine_truth 0 = .ok (.iload_n 0, 1) := by decide +kernel
theorem d_Machine_truth_1 : decode k_Machine_truth 1 = .ok (.ifCond .eq (12), 3) := by decide +kernel
theorem d_Machine_truth_4 : decode k_Machine_truth 4 = .ok (.iconst 1, 1) := by decide +kernel
theorem d_Machine_truth_5 : decode k_Machine_truth 5 = .ok (.bipush 15, 2) := by decide +kernel
theorem d_Machine_truth_7 : decode k_Machine_truth 7 = .ok (.invokestatic 231, 3) := by decide +kernel
theorem d_Machine_truth_10 : decode k_Machine_truth 10 = .ok (.goto (4), 3) := by decide +kernel
theorem d_Machine_truth_13 : decode k_Machine_truth 13 = .ok (.iconst 2, 1) := by decide +kernel
theorem d_Machine_truth_14 : decode k_Machine_truth 14 = .ok (.ireturn, 1) := by decide +kernel
theorem d_Machine_listOf_0 : decode k_Machine_listOf 0 = .ok (.iconst 2, 1) := by decide +kernel
theorem d_Machine_listOf_1 : decode k_Machine_listOf 1 = .ok (.istore_n 3, 1) := by decide +kernel
theorem d_Machine_listOf_2 : decode k_Machine_listOf 2 = .ok (.iload_n 1, 1) := by decide +kernel
theorem d_Machine_listOf_3 : decode k_Machine_listOf 3 = .ok (.istore 4, 2) := by decide +kernel
theorem d_Machine_listOf_5 : decode k_Machine_listOf 5 = .ok (.iconst 0, 1) := by decide +kernel
theorem d_Machine_listOf_6 : decode k_Machine_listOf 6 = .ok (.istore 5, 2) := by decide +kernel
theorem d_Machine_listOf_8 : decode k_Machine_listOf 8 = .ok (.iload 5, 2) := by decide +kernel
theorem d_Machine_listOf_10 : decode k_Machine_listOf 10 = .ok (.iload_n 2, 1) := by decide +kernel
theorem d_Machine_listOf_11 : decode k_Machine_listOf 11 = .ok (.if_icmp .ge (46), 3) := by decide +kernel
theorem d_Machine_listOf_14 : decode k_Machine_listOf 14 = .ok (.iload 4, 2) := by decide +kernel
theorem d_Machine_listOf_16 : decode k_Machine_listOf 16 = .ok (.invokestatic 87, 3) := by decide +kernel
theorem d_Machine_listOf_19 : decode k_Machine_listOf 19 = .ok (.ifCond .eq (38), 3) := by decide +kernel
theorem d_Machine_listOf_22 : decode k_Machine_listOf 22 = .ok (.aload_n 0, 1) := by decide +kernel
theorem d_Machine_listOf_23 : decode k_Machine_listOf 23 = .ok (.getfield 15, 3) := by decide +kernel
theorem d_Machine_listOf_26 : decode k_Machine_listOf 26 = .ok (.aload_n 0, 1) := by decide +kernel
theorem d_Machine_listOf_27 : decode k_Machine_listOf 27 = .ok (.getfield 15, 3) := by decide +kernel
theorem d_Machine_listOf_30 : decode k_Machine_listOf 30 = .ok (.iload 4, 2) := by decide +kernel
theorem d_Machine_listOf_32 : decode k_Machine_listOf 32 = .ok (.invokevirtual 94, 3) := by decide +kernel
theorem d_Machine_listOf_35 : decode k_Machine_listOf 35 = .ok (.iload_n 3, 1) := by decide +kernel
theorem d_Machine_listOf_36 : decode k_Machine_listOf 36 = .ok (.invokevirtual 199, 3) := by decide +kernel
theorem d_Machine_listOf_39 : decode k_Machine_listOf 39 = .ok (.istore_n 3, 1) := by decide +kernel
theorem d_Machine_listOf_40 : decode k_Machine_listOf 40 = .ok (.aload_n 0, 1) := by decide +kernel
theorem d_Machine_listOf_41 : decode k_Machine_listOf 41 = .ok (.getfield 15, 3) := by decide +kernel
theorem d_Machine_listOf_44 : decode k_Machine_listOf 44 = .ok (.iload 4, 2) := by decide +kernel
theorem d_Machine_listOf_46 : decode k_Machine_listOf 46 = .ok (.invokevirtual 114, 3) := by decide +kernel
theorem d_Machine_listOf_49 : decode k_Machine_listOf 49 = .ok (.istore 4, 2) := by decide +kernel
theorem d_Machine_listOf_51 : decode k_Machine_listOf 51 = .ok (.iinc 5 1, 3) := by decide +kernel
theorem d_Machine_listOf_54 : decode k_Machine_listOf 54 = .ok (.goto (-46), 3) := by decide +kernel
theorem d_Machine_listOf_57 : decode k_Machine_listOf 57 = .ok (.iload_n 3, 1) := by decide +kernel
theorem d_Machine_listOf_58 : decode k_Machine_listOf 58 = .ok (.ireturn, 1) := by decide +kernel
theorem d_Reader_read_0 : decode k_Reader_read 0 = .ok (.aload_n 0, 1) := by decide +kernel
theorem d_Reader_read_1 : decode k_Reader_read 1 = .ok (.invokevirtual 40, 3) := by decide +kernel
theorem d_Reader_read_4 : decode k_Reader_read 4 = .ok (.istore_n 1, 1) := by decide +kernel
theorem d_Reader_read_5 : decode k_Reader_read 5 = .ok (.iload_n 1, 1) := by decide +kernel
theorem d_Reader_read_6 : decode k_Reader_read 6 = .ok (.ifCond .ne (13), 3) := by decide +kernel
theorem d_Reader_read_9 : decode k_Reader_read 9 = .ok (.aload_n 0, 1) := by decide +kernel
theorem d_Reader_read_10 : decode k_Reader_read 10 = .ok (.invokevirtual 44, 3) := by decide +kernel
theorem d_Reader_read_13 : decode k_Reader_read 13 = .ok (.ifCond .ne (6), 3) := by decide +kernel
theorem d_Reader_read_16 : decode k_Reader_read 16 = .ok (.bipush (-8), 2) := by decide +kernel
theorem d_Reader_read_18 : decode k_Reader_read 18 = .ok (.istore_n 1, 1) := by decide +kernel
theorem d_Reader_read_19 : decode k_Reader_read 19 = .ok (.iload_n 1, 1) := by decide +kernel
theorem d_Reader_read_20 : decode k_Reader_read 20 = .ok (.ifCond .ne (20), 3) := by decide +kernel
theorem d_Reader_read_23 : decode k_Reader_read 23 = .ok (.aload_n 0, 1) := by decide +kernel
theorem d_Reader_read_24 : decode k_Reader_read 24 = .ok (.getfield 36, 3) := by decide +kernel
theorem d_Reader_read_27 : decode k_Reader_read 27 = .ok (.aload_n 0, 1) := by decide +kernel
theorem d_Reader_read_28 : decode k_Reader_read 28 = .ok (.getfield 48, 3) := by decide +kernel
theorem d_Reader_read_31 : decode k_Reader_read 31 = .ok (.invokevirtual 51, 3) := by decide +kernel
theorem d_Reader_read_34 : decode k_Reader_read 34 = .ok (.ifCond .ne (6), 3) := by decide +kernel
theorem d_Reader_read_37 : decode k_Reader_read 37 = .ok (.bipush (-7), 2) := by decide +kernel
theorem d_Reader_read_39 : decode k_Reader_read 39 = .ok (.istore_n 1, 1) := by decide +kernel
theorem d_Reader_read_40 : decode k_Reader_read 40 = .ok (.iload_n 1, 1) := by decide +kernel
theorem d_Reader_read_41 : decode k_Reader_read 41 = .ok (.ifCond .ne (7), 3) := by decide +kernel
theorem d_Reader_read_44 : decode k_Reader_read 44 = .ok (.aload_n 0, 1) := by decide +kernel
theorem d_Reader_read_45 : decode k_Reader_read 45 = .ok (.invokevirtual 57, 3) := by decide +kernel
theorem d_Reader_read_48 : decode k_Reader_read 48 = .ok (.iload_n 1, 1) := by decide +kernel
theorem d_Reader_read_49 : decode k_Reader_read 49 = .ok (.iconst 2, 1) := by decide +kernel
theorem d_Reader_read_50 : decode k_Reader_read 50 = .ok (.if_icmp .eq (14), 3) := by decide +kernel
theorem d_Reader_read_53 : decode k_Reader_read 53 = .ok (.aload_n 0, 1) := by decide +kernel
theorem d_Reader_read_54 : decode k_Reader_read 54 = .ok (.getfield 28, 3) := by decide +kernel
theorem d_Reader_read_57 : decode k_Reader_read 57 = .ok (.aload_n 0, 1) := by decide +kernel
theorem d_Reader_read_58 : decode k_Reader_read 58 = .ok (.getfield 60, 3) := by decide +kernel
theorem d_Reader_read_61 : decode k_Reader_read 61 = .ok (.invokevirtual 63, 3) := by decide +kernel
theorem d_Reader_read_64 : decode k_Reader_read 64 = .ok (.iload_n 1, 1) := by decide +kernel
theorem d_Reader_read_65 : decode k_Reader_read 65 = .ok (.ireturn, 1) := by decide +kernel
theorem d_Reader_findForm_0 : decode k_Reader_findForm 0 = .ok (.iconst 0, 1) := by decide +kernel
theorem d_Reader_findForm_1 : decode k_Reader_findForm 1 = .ok (.istore_n 1, 1) := by decide +kernel
theorem d_Reader_findForm_2 : decode k_Reader_findForm 2 = .ok (.iconst 0, 1) := by decide +kernel
theorem d_Reader_findForm_3 : decode k_Reader_findForm 3 = .ok (.istore_n 2, 1) := by decide +kernel
theorem d_Reader_findForm_4 : decode k_Reader_findForm 4 = .ok (.iconst 0, 1) := by decide +kernel
theorem d_Reader_findForm_5 : decode k_Reader_findForm 5 = .ok (.istore_n 3, 1) := by decide +kernel
theorem d_Reader_findForm_6 : decode k_Reader_findForm 6 = .ok (.aload_n 0, 1) := by decide +kernel
theorem d_Reader_findForm_7 : decode k_Reader_findForm 7 = .ok (.iconst 0, 1) := by decide +kernel
theorem d_Reader_findForm_8 : decode k_Reader_findForm 8 = .ok (.putfield 48, 3) := by decide +kernel
theorem d_Reader_findForm_11 : decode k_Reader_findForm 11 = .ok (.iconst 0, 1) := by decide +kernel
theorem d_Reader_findForm_12 : decode k_Reader_findForm 12 = .ok (.istore 4, 2) := by decide +kernel
theorem d_Reader_findForm_14 : decode k_Reader_findForm 14 = .ok (.iload 4, 2) := by decide +kernel
theorem d_Reader_findForm_16 : decode k_Reader_findForm 16 = .ok (.bipush 120, 2) := by decide +kernel
theorem d_Reader_findForm_18 : decode k_Reader_findForm 18 = .ok (.if_icmp .ge (155), 3) := by decide +kernel
theorem d_Reader_findForm_21 : decode k_Reader_findForm 21 = .ok (.iload_n 3, 1) := by decide +kernel
theorem d_Reader_findForm_22 : decode k_Reader_findForm 22 = .ok (.aload_n 0, 1) := by decide +kernel
theorem d_Reader_findForm_23 : decode k_Reader_findForm 23 = .ok (.getfield 28, 3) := by decide +kernel
theorem d_Reader_findForm_26 : decode k_Reader_findForm 26 = .ok (.getfield 69, 3) := by decide +kernel
theorem d_Reader_findForm_29 : decode k_Reader_findForm 29 = .ok (.if_icmp .ge (144), 3) := by decide +kernel
theorem d_Reader_findForm_32 : decode k_Reader_findForm 32 = .ok (.aload_n 0, 1) := by decide +kernel
theorem d_Reader_findForm_33 : decode k_Reader_findForm 33 = .ok (.getfield 28, 3) := by decide +kernel
theorem d_Reader_findForm_36 : decode k_Reader_findForm 36 = .ok (.iload_n 3, 1) := by decide +kernel
theorem d_Reader_findForm_37 : decode k_Reader_findForm 37 = .ok (.invokevirtual 72, 3) := by decide +kernel
theorem d_Reader_findForm_40 : decode k_Reader_findForm 40 = .ok (.istore 5, 2) := by decide +kernel
theorem d_Reader_findForm_42 : decode k_Reader_findForm 42 = .ok (.aload_n 0, 1) := by decide +kernel
theorem d_Reader_findForm_43 : decode k_Reader_findForm 43 = .ok (.aload_n 0, 1) := by decide +kernel
theorem d_Reader_findForm_44 : decode k_Reader_findForm 44 = .ok (.getfield 28, 3) := by decide +kernel
theorem d_Reader_findForm_47 : decode k_Reader_findForm 47 = .ok (.iload_n 3, 1) := by decide +kernel
theorem d_Reader_findForm_48 : decode k_Reader_findForm 48 = .ok (.invokevirtual 76, 3) := by decide +kernel
theorem d_Reader_findForm_51 : decode k_Reader_findForm 51 = .ok (.putfield 60, 3) := by decide +kernel
theorem d_Reader_findForm_54 : decode k_Reader_findForm 54 = .ok (.aload_n 0, 1) := by decide +kernel
theorem d_Reader_findForm_55 : decode k_Reader_findForm 55 = .ok (.getfield 60, 3) := by decide +kernel
theorem d_Reader_findForm_58 : decode k_Reader_findForm 58 = .ok (.istore_n 3, 1) := by decide +kernel
theorem d_Reader_findForm_59 : decode k_Reader_findForm 59 = .ok (.iload 5, 2) := by decide +kernel
theorem d_Reader_findForm_61 : decode k_Reader_findForm 61 = .ok (.invokestatic 80, 3) := by decide +kernel
theorem d_Reader_findForm_64 : decode k_Reader_findForm 64 = .ok (.ifCond .eq (6), 3) := by decide +kernel
theorem d_Reader_findForm_67 : decode k_Reader_findForm 67 = .ok (.goto (100), 3) := by decide +kernel
theorem d_Reader_findForm_70 : decode k_Reader_findForm 70 = .ok (.iload 5, 2) := by decide +kernel
theorem d_Reader_findForm_72 : decode k_Reader_findForm 72 = .ok (.iload_n 1, 1) := by decide +kernel
theorem d_Reader_findForm_73 : decode k_Reader_findForm 73 = .ok (.iload_n 2, 1) := by decide +kernel
theorem d_Reader_findForm_74 : decode k_Reader_findForm 74 = .ok (.invokestatic 84, 3) := by decide +kernel
theorem d_Reader_findForm_77 : decode k_Reader_findForm 77 = .ok (.ifCond .eq (5), 3) := by decide +kernel
theorem d_Reader_findForm_80 : decode k_Reader_findForm 80 = .ok (.iconst (-1), 1) := by decide +kernel
theorem d_Reader_findForm_81 : decode k_Reader_findForm 81 = .ok (.ireturn, 1) := by decide +kernel
theorem d_Reader_findForm_82 : decode k_Reader_findForm 82 = .ok (.aload_n 0, 1) := by decide +kernel
theorem d_Reader_findForm_83 : decode k_Reader_findForm 83 = .ok (.dup, 1) := by decide +kernel
theorem d_Reader_findForm_84 : decode k_Reader_findForm 84 = .ok (.getfield 48, 3) := by decide +kernel
theorem d_Reader_findForm_87 : decode k_Reader_findForm 87 = .ok (.iload 5, 2) := by decide +kernel
theorem d_Reader_findForm_89 : decode k_Reader_findForm 89 = .ok (.iload_n 1, 1) := by decide +kernel
theorem d_Reader_findForm_90 : decode k_Reader_findForm 90 = .ok (.iload_n 2, 1) := by decide +kernel
theorem d_Reader_findForm_91 : decode k_Reader_findForm 91 = .ok (.invokestatic 88, 3) := by decide +kernel
theorem d_Reader_findForm_94 : decode k_Reader_findForm 94 = .ok (.iadd, 1) := by decide +kernel
theorem d_Reader_findForm_95 : decode k_Reader_findForm 95 = .ok (.putfield 48, 3) := by decide +kernel
theorem d_Reader_findForm_98 : decode k_Reader_findForm 98 = .ok (.iload 5, 2) := by decide +kernel
theorem d_Reader_findForm_100 : decode k_Reader_findForm 100 = .ok (.bipush 39, 2) := by decide +kernel
theorem d_Reader_findForm_102 : decode k_Reader_findForm 102 = .ok (.if_icmp .ne (7), 3) := by decide +kernel
theorem d_Reader_findForm_105 : decode k_Reader_findForm 105 = .ok (.iconst 1, 1) := by decide +kernel
theorem d_Reader_findForm_106 : decode k_Reader_findForm 106 = .ok (.goto (4), 3) := by decide +kernel
theorem d_Reader_findForm_109 : decode k_Reader_findForm 109 = .ok (.iconst 0, 1) := by decide +kernel
theorem d_Reader_findForm_110 : decode k_Reader_findForm 110 = .ok (.istore_n 2, 1) := by decide +kernel
theorem d_Reader_findForm_111 : decode k_Reader_findForm 111 = .ok (.iload 5, 2) := by decide +kernel
theorem d_Reader_findForm_113 : decode k_Reader_findForm 113 = .ok (.bipush 40, 2) := by decide +kernel
theorem d_Reader_findForm_115 : decode k_Reader_findForm 115 = .ok (.if_icmp .ne (9), 3) := by decide +kernel
theorem d_Reader_findForm_118 : decode k_Reader_findForm 118 = .ok (.iinc 1 1, 3) := by decide +kernel
theorem d_Reader_findForm_121 : decode k_Reader_findForm 121 = .ok (.goto (36), 3) := by decide +kernel
theorem d_Reader_findForm_124 : decode k_Reader_findForm 124 = .ok (.iload 5, 2) := by decide +kernel
theorem d_Reader_findForm_126 : decode k_Reader_findForm 126 = .ok (.bipush 41, 2) := by decide +kernel
theorem d_Reader_findForm_128 : decode k_Reader_findForm 128 = .ok (.if_icmp .ne (9), 3) := by decide +kernel
theorem d_Reader_findForm_131 : decode k_Reader_findForm 131 = .ok (.iinc 1 (-1), 3) := by decide +kernel
theorem d_Reader_findForm_134 : decode k_Reader_findForm 134 = .ok (.goto (23), 3) := by decide +kernel
theorem d_Reader_findForm_137 : decode k_Reader_findForm 137 = .ok (.iload_n 2, 1) := by decide +kernel
theorem d_Reader_findForm_138 : decode k_Reader_findForm 138 = .ok (.ifCond .ne (19), 3) := by decide +kernel
theorem d_Reader_findForm_141 : decode k_Reader_findForm 141 = .ok (.aload_n 0, 1) := by decide +kernel
theorem d_Reader_findForm_142 : decode k_Reader_findForm 142 = .ok (.getfield 60, 3) := by decide +kernel
theorem d_Reader_findForm_145 : decode k_Reader_findForm 145 = .ok (.aload_n 0, 1) := by decide +kernel
theorem d_Reader_findForm_146 : decode k_Reader_findForm 146 = .ok (.getfield 28, 3) := by decide +kernel
theorem d_Reader_findForm_149 : decode k_Reader_findForm 149 = .ok (.getfield 69, 3) := by decide +kernel
theorem d_Reader_findForm_152 : decode k_Reader_findForm 152 = .ok (.if_icmp .lt (5), 3) := by decide +kernel
theorem d_Reader_findForm_155 : decode k_Reader_findForm 155 = .ok (.iconst 2, 1) := by decide +kernel
theorem d_Reader_findForm_156 : decode k_Reader_findForm 156 = .ok (.ireturn, 1) := by decide +kernel
theorem d_Reader_findForm_157 : decode k_Reader_findForm 157 = .ok (.iload_n 1, 1) := by decide +kernel
theorem d_Reader_findForm_158 : decode k_Reader_findForm 158 = .ok (.ifCond .ne (9), 3) := by decide +kernel
theorem d_Reader_findForm_161 : decode k_Reader_findForm 161 = .ok (.iload_n 2, 1) := by decide +kernel
theorem d_Reader_findForm_162 : decode k_Reader_findForm 162 = .ok (.ifCond .ne (5), 3) := by decide +kernel
theorem d_Reader_findForm_165 : decode k_Reader_findForm 165 = .ok (.iconst 0, 1) := by decide +kernel
theorem d_Reader_findForm_166 : decode k_Reader_findForm 166 = .ok (.ireturn, 1) := by decide +kernel
theorem d_Reader_findForm_167 : decode k_Reader_findForm 167 = .ok (.iinc 4 1, 3) := by decide +kernel
theorem d_Reader_findForm_170 : decode k_Reader_findForm 170 = .ok (.goto (-156), 3) := by decide +kernel
theorem d_Reader_findForm_173 : decode k_Reader_findForm 173 = .ok (.iconst 2, 1) := by decide +kernel
theorem d_Reader_findForm_174 : decode k_Reader_findForm 174 = .ok (.ireturn, 1) := by decide +kernel
theorem d_Reader_isFault_0 : decode k_Reader_isFault 0 = .ok (.iload_n 0, 1) := by decide +kernel
theorem d_Reader_isFault_1 : decode k_Reader_isFault 1 = .ok (.tableswitch (55) (39) (41) #[53, 27, 39], 27) := by decide +kernel
theorem d_Reader_isFault_28 : decode k_Reader_isFault 28 = .ok (.iload_n 1, 1) := by decide +kernel
theorem d_Reader_isFault_29 : decode k_Reader_isFault 29 = .ok (.bipush 10, 2) := by decide +kernel
theorem d_Reader_isFault_31 : decode k_Reader_isFault 31 = .ok (.if_icmp .lt (7), 3) := by decide +kernel
theorem d_Reader_isFault_34 : decode k_Reader_isFault 34 = .ok (.iconst 1, 1) := by decide +kernel
theorem d_Reader_isFault_35 : decode k_Reader_isFault 35 = .ok (.goto (4), 3) := by decide +kernel
theorem d_Reader_isFault_38 : decode k_Reader_isFault 38 = .ok (.iconst 0, 1) := by decide +kernel
theorem d_Reader_isFault_39 : decode k_Reader_isFault 39 = .ok (.ireturn, 1) := by decide +kernel
theorem d_Reader_isFault_40 : decode k_Reader_isFault 40 = .ok (.iload_n 2, 1) := by decide +kernel
theorem d_Reader_isFault_41 : decode k_Reader_isFault 41 = .ok (.ifCond .ne (7), 3) := by decide +kernel
theorem d_Reader_isFault_44 : decode k_Reader_isFault 44 = .ok (.iload_n 1, 1) := by decide +kernel
theorem d_Reader_isFault_45 : decode k_Reader_isFault 45 = .ok (.ifCond .ne (7), 3) := by decide +kernel
theorem d_Reader_isFault_48 : decode k_Reader_isFault 48 = .ok (.iconst 1, 1) := by decide +kernel
theorem d_Reader_isFault_49 : decode k_Reader_isFault 49 = .ok (.goto (4), 3) := by decide +kernel
theorem d_Reader_isFault_52 : decode k_Reader_isFault 52 = .ok (.iconst 0, 1) := by decide +kernel
theorem d_Reader_isFault_53 : decode k_Reader_isFault 53 = .ok (.ireturn, 1) := by decide +kernel
theorem d_Reader_isFault_54 : decode k_Reader_isFault 54 = .ok (.iload_n 2, 1) := by decide +kernel
theorem d_Reader_isFault_55 : decode k_Reader_isFault 55 = .ok (.ireturn, 1) := by decide +kernel
theorem d_Reader_isFault_56 : decode k_Reader_isFault 56 = .ok (.iconst 0, 1) := by decide +kernel
theorem d_Reader_isFault_57 : decode k_Reader_isFault 57 = .ok (.ireturn, 1) := by decide +kernel
theorem d_Reader_cellsOfPiece_0 : decode k_Reader_cellsOfPiece 0 = .ok (.iload_n 0, 1) := by decide +kernel
theorem d_Reader_cellsOfPiece_1 : decode k_Reader_cellsOfPiece 1 = .ok (.bipush 39, 2) := by decide +kernel
theorem d_Reader_cellsOfPiece_3 : decode k_Reader_cellsOfPiece 3 = .ok (.if_icmp .ne (7), 3) := by decide +kernel
theorem d_Reader_cellsOfPiece_6 : decode k_Reader_cellsOfPiece 6 = .ok (.iconst 2, 1) := by decide +kernel
theorem d_Reader_cellsOfPiece_7 : decode k_Reader_cellsOfPiece 7 = .ok (.goto (4), 3) := by decide +kernel
theorem d_Reader_cellsOfPiece_10 : decode k_Reader_cellsOfPiece 10 = .ok (.iconst 0, 1) := by decide +kernel
theorem d_Reader_cellsOfPiece_11 : decode k_Reader_cellsOfPiece 11 = .ok (.istore_n 3, 1) := by decide +kernel
theorem d_Reader_cellsOfPiece_12 : decode k_Reader_cellsOfPiece 12 = .ok (.iload_n 1, 1) := by decide +kernel
theorem d_Reader_cellsOfPiece_13 : decode k_Reader_cellsOfPiece 13 = .ok (.ifCond .le (16), 3) := by decide +kernel
theorem d_Reader_cellsOfPiece_16 : decode k_Reader_cellsOfPiece 16 = .ok (.iload_n 2, 1) := by decide +kernel
theorem d_Reader_cellsOfPiece_17 : decode k_Reader_cellsOfPiece 17 = .ok (.ifCond .ne (12), 3) := by decide +kernel
theorem d_Reader_cellsOfPiece_20 : decode k_Reader_cellsOfPiece 20 = .ok (.iload_n 0, 1) := by decide +kernel
theorem d_Reader_cellsOfPiece_21 : decode k_Reader_cellsOfPiece 21 = .ok (.bipush 41, 2) := by decide +kernel
theorem d_Reader_cellsOfPiece_23 : decode k_Reader_cellsOfPiece 23 = .ok (.if_icmp .eq (6), 3) := by decide +kernel
theorem d_Reader_cellsOfPiece_26 : decode k_Reader_cellsOfPiece 26 = .ok (.iinc 3 1, 3) := by decide +kernel
theorem d_Reader_cellsOfPiece_29 : decode k_Reader_cellsOfPiece 29 = .ok (.iload_n 3, 1) := by decide +kernel
theorem d_Reader_cellsOfPiece_30 : decode k_Reader_cellsOfPiece 30 = .ok (.iconst 2, 1) := by decide +kernel
theorem d_Reader_cellsOfPiece_31 : decode k_Reader_cellsOfPiece 31 = .ok (.imul, 1) := by decide +kernel
theorem d_Reader_cellsOfPiece_32 : decode k_Reader_cellsOfPiece 32 = .ok (.ireturn, 1) := by decide +kernel
theorem d_Reader_learnSymbols_0 : decode k_Reader_learnSymbols 0 = .ok (.iconst 0, 1) := by decide +kernel
theorem d_Reader_learnSymbols_1 : decode k_Reader_learnSymbols 1 = .ok (.istore_n 1, 1) := by decide +kernel
theorem d_Reader_learnSymbols_2 : decode k_Reader_learnSymbols 2 = .ok (.iconst 0, 1) := by decide +kernel
theorem d_Reader_learnSymbols_3 : decode k_Reader_learnSymbols 3 = .ok (.istore_n 2, 1) := by decide +kernel
theorem d_Reader_learnSymbols_4 : decode k_Reader_learnSymbols 4 = .ok (.iload_n 2, 1) := by decide +kernel
theorem d_Reader_learnSymbols_5 : decode k_Reader_learnSymbols 5 = .ok (.bipush 120, 2) := by decide +kernel
theorem d_Reader_learnSymbols_7 : decode k_Reader_learnSymbols 7 = .ok (.if_icmp .ge (58), 3) := by decide +kernel
theorem d_Reader_learnSymbols_10 : decode k_Reader_learnSymbols 10 = .ok (.iload_n 1, 1) := by decide +kernel
theorem d_Reader_learnSymbols_11 : decode k_Reader_learnSymbols 11 = .ok (.aload_n 0, 1) := by decide +kernel
theorem d_Reader_learnSymbols_12 : decode k_Reader_learnSymbols 12 = .ok (.getfield 60, 3) := by decide +kernel
theorem d_Reader_learnSymbols_15 : decode k_Reader_learnSymbols 15 = .ok (.if_icmp .ge (50), 3) := by decide +kernel
theorem d_Reader_learnSymbols_18 : decode k_Reader_learnSymbols 18 = .ok (.aload_n 0, 1) := by decide +kernel
theorem d_Reader_learnSymbols_19 : decode k_Reader_learnSymbols 19 = .ok (.getfield 28, 3) := by decide +kernel
theorem d_Reader_learnSymbols_22 : decode k_Reader_learnSymbols 22 = .ok (.iload_n 1, 1) := by decide +kernel
theorem d_Reader_learnSymbols_23 : decode k_Reader_learnSymbols 23 = .ok (.invokevirtual 76, 3) := by decide +kernel
theorem d_Reader_learnSymbols_26 : decode k_Reader_learnSymbols 26 = .ok (.istore_n 3, 1) := by decide +kernel
theorem d_Reader_learnSymbols_27 : decode k_Reader_learnSymbols 27 = .ok (.aload_n 0, 1) := by decide +kernel
theorem d_Reader_learnSymbols_28 : decode k_Reader_learnSymbols 28 = .ok (.iload_n 1, 1) := by decide +kernel
theorem d_Reader_learnSymbols_29 : decode k_Reader_learnSymbols 29 = .ok (.iload_n 3, 1) := by decide +kernel
theorem d_Reader_learnSymbols_30 : decode k_Reader_learnSymbols 30 = .ok (.invokevirtual 92, 3) := by decide +kernel
theorem d_Reader_learnSymbols_33 : decode k_Reader_learnSymbols 33 = .ok (.ifCond .eq (24), 3) := by decide +kernel
theorem d_Reader_learnSymbols_36 : decode k_Reader_learnSymbols 36 = .ok (.aload_n 0, 1) := by decide +kernel
theorem d_Reader_learnSymbols_37 : decode k_Reader_learnSymbols 37 = .ok (.getfield 32, 3) := by decide +kernel
theorem d_Reader_learnSymbols_40 : decode k_Reader_learnSymbols 40 = .ok (.aload_n 0, 1) := by decide +kernel
theorem d_Reader_learnSymbols_41 : decode k_Reader_learnSymbols 41 = .ok (.getfield 28, 3) := by decide +kernel
theorem d_Reader_learnSymbols_44 : decode k_Reader_learnSymbols 44 = .ok (.iload_n 1, 1) := by decide +kernel
theorem d_Reader_learnSymbols_45 : decode k_Reader_learnSymbols 45 = .ok (.iload_n 3, 1) := by decide +kernel
theorem d_Reader_learnSymbols_46 : decode k_Reader_learnSymbols 46 = .ok (.invokevirtual 96, 3) := by decide +kernel
theorem d_Reader_learnSymbols_49 : decode k_Reader_learnSymbols 49 = .ok (.invokevirtual 100, 3) := by decide +kernel
theorem d_Reader_learnSymbols_52 : decode k_Reader_learnSymbols 52 = .ok (.ifCond .ne (5), 3) := by decide +kernel
theorem d_Reader_learnSymbols_55 : decode k_Reader_learnSymbols 55 = .ok (.iconst 0, 1) := by decide +kernel
theorem d_Reader_learnSymbols_56 : decode k_Reader_learnSymbols 56 = .ok (.ireturn, 1) := by decide +kernel
theorem d_Reader_learnSymbols_57 : decode k_Reader_learnSymbols 57 = .ok (.iload_n 3, 1) := by decide +kernel
theorem d_Reader_learnSymbols_58 : decode k_Reader_learnSymbols 58 = .ok (.istore_n 1, 1) := by decide +kernel
theorem d_Reader_learnSymbols_59 : decode k_Reader_learnSymbols 59 = .ok (.iinc 2 1, 3) := by decide +kernel
theorem d_Reader_learnSymbols_62 : decode k_Reader_learnSymbols 62 = .ok (.goto (-58), 3) := by decide +kernel
theorem d_Reader_learnSymbols_65 : decode k_Reader_learnSymbols 65 = .ok (.iconst 1, 1) := by decide +kernel
theorem d_Reader_learnSymbols_66 : decode k_Reader_learnSymbols 66 = .ok (.ireturn, 1) := by decide +kernel
theorem d_Reader_isSymbol_0 : decode k_Reader_isSymbol 0 = .ok (.aload_n 0, 1) := by decide +kernel
theorem d_Reader_isSymbol_1 : decode k_Reader_isSymbol 1 = .ok (.getfield 28, 3) := by decide +kernel
theorem d_Reader_isSymbol_4 : decode k_Reader_isSymbol 4 = .ok (.iload_n 1, 1) := by decide +kernel
theorem d_Reader_isSymbol_5 : decode k_Reader_isSymbol 5 = .ok (.invokevirtual 72, 3) := by decide +kernel
end
section
theorem d_Reader_isSymbol_8 : decode k_Reader_isSymbol 8 = .ok (.invokestatic 106, 3) := by decide +kernel
theorem d_Reader_isSymbol_11 : decode k_Reader_isSymbol 11 = .ok (.ifCond .eq (35), 3) := by decide +kernel
theorem d_Reader_isSymbol_14 : decode k_Reader_isSymbol 14 = .ok (.aload_n 0, 1) := by decide +kernel
theorem d_Reader_isSymbol_15 : decode k_Reader_isSymbol 15 = .ok (.getfield 28, 3) := by decide +kernel
theorem d_Reader_isSymbol_18 : decode k_Reader_isSymbol 18 = .ok (.iload_n 1, 1) := by decide +kernel
theorem d_Reader_isSymbol_19 : decode k_Reader_isSymbol 19 = .ok (.iload_n 2, 1) := by decide +kernel
theorem d_Reader_isSymbol_20 : decode k_Reader_isSymbol 20 = .ok (.invokevirtual 109, 3) := by decide +kernel
theorem d_Reader_isSymbol_23 : decode k_Reader_isSymbol 23 = .ok (.ifCond .ne (23), 3) := by decide +kernel
theorem d_Reader_isSymbol_26 : decode k_Reader_isSymbol 26 = .ok (.aload_n 0, 1) := by decide +kernel
theorem d_Reader_isSymbol_27 : decode k_Reader_isSymbol 27 = .ok (.getfield 28, 3) := by decide +kernel
theorem d_Reader_isSymbol_30 : decode k_Reader_isSymbol 30 = .ok (.iload_n 1, 1) := by decide +kernel
theorem d_Reader_isSymbol_31 : decode k_Reader_isSymbol 31 = .ok (.iload_n 2, 1) := by decide +kernel
theorem d_Reader_isSymbol_32 : decode k_Reader_isSymbol 32 = .ok (.invokevirtual 96, 3) := by decide +kernel
theorem d_Reader_isSymbol_35 : decode k_Reader_isSymbol 35 = .ok (.ldc2_w 112, 3) := by decide +kernel
theorem d_Reader_isSymbol_38 : decode k_Reader_isSymbol 38 = .ok (.lcmp, 1) := by decide +kernel
theorem d_Reader_isSymbol_39 : decode k_Reader_isSymbol 39 = .ok (.ifCond .eq (7), 3) := by decide +kernel
theorem d_Reader_isSymbol_42 : decode k_Reader_isSymbol 42 = .ok (.iconst 1, 1) := by decide +kernel
theorem d_Reader_isSymbol_43 : decode k_Reader_isSymbol 43 = .ok (.goto (4), 3) := by decide +kernel
theorem d_Reader_isSymbol_46 : decode k_Reader_isSymbol 46 = .ok (.iconst 0, 1) := by decide +kernel
theorem d_Reader_isSymbol_47 : decode k_Reader_isSymbol 47 = .ok (.ireturn, 1) := by decide +kernel
theorem d_Reader_build_0 : decode k_Reader_build 0 = .ok (.iconst 0, 1) := by decide +kernel
theorem d_Reader_build_1 : decode k_Reader_build 1 = .ok (.istore_n 1, 1) := by decide +kernel
theorem d_Reader_build_2 : decode k_Reader_build 2 = .ok (.iconst 0, 1) := by decide +kernel
theorem d_Reader_build_3 : decode k_Reader_build 3 = .ok (.istore_n 2, 1) := by decide +kernel
theorem d_Reader_build_4 : decode k_Reader_build 4 = .ok (.iconst 0, 1) := by decide +kernel
theorem d_Reader_build_5 : decode k_Reader_build 5 = .ok (.istore_n 3, 1) := by decide +kernel
theorem d_Reader_build_6 : decode k_Reader_build 6 = .ok (.aload_n 0, 1) := by decide +kernel
theorem d_Reader_build_7 : decode k_Reader_build 7 = .ok (.iconst 2, 1) := by decide +kernel
theorem d_Reader_build_8 : decode k_Reader_build 8 = .ok (.putfield 11, 3) := by decide +kernel
theorem d_Reader_build_11 : decode k_Reader_build 11 = .ok (.iconst 0, 1) := by decide +kernel
theorem d_Reader_build_12 : decode k_Reader_build 12 = .ok (.istore 4, 2) := by decide +kernel
theorem d_Reader_build_14 : decode k_Reader_build 14 = .ok (.iload 4, 2) := by decide +kernel
theorem d_Reader_build_16 : decode k_Reader_build 16 = .ok (.bipush 120, 2) := by decide +kernel
theorem d_Reader_build_18 : decode k_Reader_build 18 = .ok (.if_icmp .ge (166), 3) := by decide +kernel
theorem d_Reader_build_21 : decode k_Reader_build 21 = .ok (.iload_n 3, 1) := by decide +kernel
theorem d_Reader_build_22 : decode k_Reader_build 22 = .ok (.aload_n 0, 1) := by decide +kernel
theorem d_Reader_build_23 : decode k_Reader_build 23 = .ok (.getfield 60, 3) := by decide +kernel
theorem d_Reader_build_26 : decode k_Reader_build 26 = .ok (.if_icmp .ge (158), 3) := by decide +kernel
theorem d_Reader_build_29 : decode k_Reader_build 29 = .ok (.aload_n 0, 1) := by decide +kernel
theorem d_Reader_build_30 : decode k_Reader_build 30 = .ok (.getfield 28, 3) := by decide +kernel
theorem d_Reader_build_33 : decode k_Reader_build 33 = .ok (.iload_n 3, 1) := by decide +kernel
theorem d_Reader_build_34 : decode k_Reader_build 34 = .ok (.invokevirtual 72, 3) := by decide +kernel
theorem d_Reader_build_37 : decode k_Reader_build 37 = .ok (.istore 5, 2) := by decide +kernel
theorem d_Reader_build_39 : decode k_Reader_build 39 = .ok (.aload_n 0, 1) := by decide +kernel
theorem d_Reader_build_40 : decode k_Reader_build 40 = .ok (.getfield 28, 3) := by decide +kernel
theorem d_Reader_build_43 : decode k_Reader_build 43 = .ok (.iload_n 3, 1) := by decide +kernel
theorem d_Reader_build_44 : decode k_Reader_build 44 = .ok (.invokevirtual 76, 3) := by decide +kernel
theorem d_Reader_build_47 : decode k_Reader_build 47 = .ok (.istore 6, 2) := by decide +kernel
theorem d_Reader_build_49 : decode k_Reader_build 49 = .ok (.iload 5, 2) := by decide +kernel
theorem d_Reader_build_51 : decode k_Reader_build 51 = .ok (.bipush 40, 2) := by decide +kernel
theorem d_Reader_build_53 : decode k_Reader_build 53 = .ok (.if_icmp .ne (42), 3) := by decide +kernel
theorem d_Reader_build_56 : decode k_Reader_build 56 = .ok (.iload_n 1, 1) := by decide +kernel
theorem d_Reader_build_57 : decode k_Reader_build 57 = .ok (.ifCond .lt (38), 3) := by decide +kernel
theorem d_Reader_build_60 : decode k_Reader_build 60 = .ok (.iload_n 1, 1) := by decide +kernel
theorem d_Reader_build_61 : decode k_Reader_build 61 = .ok (.bipush 10, 2) := by decide +kernel
theorem d_Reader_build_63 : decode k_Reader_build 63 = .ok (.if_icmp .ge (32), 3) := by decide +kernel
theorem d_Reader_build_66 : decode k_Reader_build 66 = .ok (.iinc 1 1, 3) := by decide +kernel
theorem d_Reader_build_69 : decode k_Reader_build 69 = .ok (.aload_n 0, 1) := by decide +kernel
theorem d_Reader_build_70 : decode k_Reader_build 70 = .ok (.getfield 17, 3) := by decide +kernel
theorem d_Reader_build_73 : decode k_Reader_build 73 = .ok (.iload_n 1, 1) := by decide +kernel
theorem d_Reader_build_74 : decode k_Reader_build 74 = .ok (.iconst 2, 1) := by decide +kernel
theorem d_Reader_build_75 : decode k_Reader_build 75 = .ok (.iastore, 1) := by decide +kernel
theorem d_Reader_build_76 : decode k_Reader_build 76 = .ok (.aload_n 0, 1) := by decide +kernel
theorem d_Reader_build_77 : decode k_Reader_build 77 = .ok (.getfield 21, 3) := by decide +kernel
theorem d_Reader_build_80 : decode k_Reader_build 80 = .ok (.iload_n 1, 1) := by decide +kernel
theorem d_Reader_build_81 : decode k_Reader_build 81 = .ok (.iconst 2, 1) := by decide +kernel
theorem d_Reader_build_82 : decode k_Reader_build 82 = .ok (.iastore, 1) := by decide +kernel
theorem d_Reader_build_83 : decode k_Reader_build 83 = .ok (.aload_n 0, 1) := by decide +kernel
theorem d_Reader_build_84 : decode k_Reader_build 84 = .ok (.getfield 24, 3) := by decide +kernel
theorem d_Reader_build_87 : decode k_Reader_build 87 = .ok (.iload_n 1, 1) := by decide +kernel
theorem d_Reader_build_88 : decode k_Reader_build 88 = .ok (.iload_n 2, 1) := by decide +kernel
theorem d_Reader_build_89 : decode k_Reader_build 89 = .ok (.bastore, 1) := by decide +kernel
theorem d_Reader_build_90 : decode k_Reader_build 90 = .ok (.iconst 0, 1) := by decide +kernel
theorem d_Reader_build_91 : decode k_Reader_build 91 = .ok (.istore_n 2, 1) := by decide +kernel
theorem d_Reader_build_92 : decode k_Reader_build 92 = .ok (.goto (83), 3) := by decide +kernel
theorem d_Reader_build_95 : decode k_Reader_build 95 = .ok (.iload 5, 2) := by decide +kernel
theorem d_Reader_build_97 : decode k_Reader_build 97 = .ok (.bipush 41, 2) := by decide +kernel
theorem d_Reader_build_99 : decode k_Reader_build 99 = .ok (.if_icmp .ne (41), 3) := by decide +kernel
theorem d_Reader_build_102 : decode k_Reader_build 102 = .ok (.iload_n 1, 1) := by decide +kernel
theorem d_Reader_build_103 : decode k_Reader_build 103 = .ok (.iconst 1, 1) := by decide +kernel
theorem d_Reader_build_104 : decode k_Reader_build 104 = .ok (.if_icmp .lt (36), 3) := by decide +kernel
theorem d_Reader_build_107 : decode k_Reader_build 107 = .ok (.iload_n 1, 1) := by decide +kernel
theorem d_Reader_build_108 : decode k_Reader_build 108 = .ok (.bipush 10, 2) := by decide +kernel
theorem d_Reader_build_110 : decode k_Reader_build 110 = .ok (.if_icmp .gt (30), 3) := by decide +kernel
theorem d_Reader_build_113 : decode k_Reader_build 113 = .ok (.iinc 1 (-1), 3) := by decide +kernel
theorem d_Reader_build_116 : decode k_Reader_build 116 = .ok (.aload_n 0, 1) := by decide +kernel
theorem d_Reader_build_117 : decode k_Reader_build 117 = .ok (.aload_n 0, 1) := by decide +kernel
theorem d_Reader_build_118 : decode k_Reader_build 118 = .ok (.getfield 17, 3) := by decide +kernel
theorem d_Reader_build_121 : decode k_Reader_build 121 = .ok (.iload_n 1, 1) := by decide +kernel
theorem d_Reader_build_122 : decode k_Reader_build 122 = .ok (.iconst 1, 1) := by decide +kernel
theorem d_Reader_build_123 : decode k_Reader_build 123 = .ok (.iadd, 1) := by decide +kernel
theorem d_Reader_build_124 : decode k_Reader_build 124 = .ok (.iaload, 1) := by decide +kernel
theorem d_Reader_build_125 : decode k_Reader_build 125 = .ok (.aload_n 0, 1) := by decide +kernel
theorem d_Reader_build_126 : decode k_Reader_build 126 = .ok (.getfield 24, 3) := by decide +kernel
theorem d_Reader_build_129 : decode k_Reader_build 129 = .ok (.iload_n 1, 1) := by decide +kernel
theorem d_Reader_build_130 : decode k_Reader_build 130 = .ok (.iconst 1, 1) := by decide +kernel
theorem d_Reader_build_131 : decode k_Reader_build 131 = .ok (.iadd, 1) := by decide +kernel
theorem d_Reader_build_132 : decode k_Reader_build 132 = .ok (.baload, 1) := by decide +kernel
theorem d_Reader_build_133 : decode k_Reader_build 133 = .ok (.iload_n 1, 1) := by decide +kernel
theorem d_Reader_build_134 : decode k_Reader_build 134 = .ok (.invokevirtual 114, 3) := by decide +kernel
theorem d_Reader_build_137 : decode k_Reader_build 137 = .ok (.goto (38), 3) := by decide +kernel
theorem d_Reader_build_140 : decode k_Reader_build 140 = .ok (.iload 5, 2) := by decide +kernel
theorem d_Reader_build_142 : decode k_Reader_build 142 = .ok (.bipush 39, 2) := by decide +kernel
theorem d_Reader_build_144 : decode k_Reader_build 144 = .ok (.if_icmp .ne (8), 3) := by decide +kernel
theorem d_Reader_build_147 : decode k_Reader_build 147 = .ok (.iconst 1, 1) := by decide +kernel
theorem d_Reader_build_148 : decode k_Reader_build 148 = .ok (.istore_n 2, 1) := by decide +kernel
theorem d_Reader_build_149 : decode k_Reader_build 149 = .ok (.goto (26), 3) := by decide +kernel
theorem d_Reader_build_152 : decode k_Reader_build 152 = .ok (.iload 5, 2) := by decide +kernel
theorem d_Reader_build_154 : decode k_Reader_build 154 = .ok (.invokestatic 106, 3) := by decide +kernel
theorem d_Reader_build_157 : decode k_Reader_build 157 = .ok (.ifCond .eq (18), 3) := by decide +kernel
theorem d_Reader_build_160 : decode k_Reader_build 160 = .ok (.aload_n 0, 1) := by decide +kernel
theorem d_Reader_build_161 : decode k_Reader_build 161 = .ok (.aload_n 0, 1) := by decide +kernel
theorem d_Reader_build_162 : decode k_Reader_build 162 = .ok (.iload_n 3, 1) := by decide +kernel
theorem d_Reader_build_163 : decode k_Reader_build 163 = .ok (.iload 6, 2) := by decide +kernel
theorem d_Reader_build_165 : decode k_Reader_build 165 = .ok (.invokevirtual 118, 3) := by decide +kernel
theorem d_Reader_build_168 : decode k_Reader_build 168 = .ok (.iload_n 2, 1) := by decide +kernel
theorem d_Reader_build_169 : decode k_Reader_build 169 = .ok (.iload_n 1, 1) := by decide +kernel
theorem d_Reader_build_170 : decode k_Reader_build 170 = .ok (.invokevirtual 114, 3) := by decide +kernel
theorem d_Reader_build_173 : decode k_Reader_build 173 = .ok (.iconst 0, 1) := by decide +kernel
theorem d_Reader_build_174 : decode k_Reader_build 174 = .ok (.istore_n 2, 1) := by decide +kernel
theorem d_Reader_build_175 : decode k_Reader_build 175 = .ok (.iload 6, 2) := by decide +kernel
theorem d_Reader_build_177 : decode k_Reader_build 177 = .ok (.istore_n 3, 1) := by decide +kernel
theorem d_Reader_build_178 : decode k_Reader_build 178 = .ok (.iinc 4 1, 3) := by decide +kernel
theorem d_Reader_build_181 : decode k_Reader_build 181 = .ok (.goto (-167), 3) := by decide +kernel
theorem d_Reader_build_184 : decode k_Reader_build 184 = .ok (.return_, 1) := by decide +kernel
theorem d_Reader_wordValue_0 : decode k_Reader_wordValue 0 = .ok (.aload_n 0, 1) := by decide +kernel
theorem d_Reader_wordValue_1 : decode k_Reader_wordValue 1 = .ok (.getfield 28, 3) := by decide +kernel
theorem d_Reader_wordValue_4 : decode k_Reader_wordValue 4 = .ok (.iload_n 1, 1) := by decide +kernel
theorem d_Reader_wordValue_5 : decode k_Reader_wordValue 5 = .ok (.iload_n 2, 1) := by decide +kernel
theorem d_Reader_wordValue_6 : decode k_Reader_wordValue 6 = .ok (.invokevirtual 109, 3) := by decide +kernel
theorem d_Reader_wordValue_9 : decode k_Reader_wordValue 9 = .ok (.ifCond .eq (17), 3) := by decide +kernel
theorem d_Reader_wordValue_12 : decode k_Reader_wordValue 12 = .ok (.iconst 0, 1) := by decide +kernel
theorem d_Reader_wordValue_13 : decode k_Reader_wordValue 13 = .ok (.aload_n 0, 1) := by decide +kernel
theorem d_Reader_wordValue_14 : decode k_Reader_wordValue 14 = .ok (.getfield 28, 3) := by decide +kernel
theorem d_Reader_wordValue_17 : decode k_Reader_wordValue 17 = .ok (.iload_n 1, 1) := by decide +kernel
theorem d_Reader_wordValue_18 : decode k_Reader_wordValue 18 = .ok (.iload_n 2, 1) := by decide +kernel
theorem d_Reader_wordValue_19 : decode k_Reader_wordValue 19 = .ok (.invokevirtual 122, 3) := by decide +kernel
theorem d_Reader_wordValue_22 : decode k_Reader_wordValue 22 = .ok (.invokestatic 125, 3) := by decide +kernel
theorem d_Reader_wordValue_25 : decode k_Reader_wordValue 25 = .ok (.ireturn, 1) := by decide +kernel
theorem d_Reader_wordValue_26 : decode k_Reader_wordValue 26 = .ok (.aload_n 0, 1) := by decide +kernel
theorem d_Reader_wordValue_27 : decode k_Reader_wordValue 27 = .ok (.getfield 32, 3) := by decide +kernel
theorem d_Reader_wordValue_30 : decode k_Reader_wordValue 30 = .ok (.aload_n 0, 1) := by decide +kernel
theorem d_Reader_wordValue_31 : decode k_Reader_wordValue 31 = .ok (.getfield 28, 3) := by decide +kernel
theorem d_Reader_wordValue_34 : decode k_Reader_wordValue 34 = .ok (.iload_n 1, 1) := by decide +kernel
theorem d_Reader_wordValue_35 : decode k_Reader_wordValue 35 = .ok (.iload_n 2, 1) := by decide +kernel
theorem d_Reader_wordValue_36 : decode k_Reader_wordValue 36 = .ok (.invokevirtual 96, 3) := by decide +kernel
theorem d_Reader_wordValue_39 : decode k_Reader_wordValue 39 = .ok (.invokevirtual 128, 3) := by decide +kernel
theorem d_Reader_wordValue_42 : decode k_Reader_wordValue 42 = .ok (.istore_n 3, 1) := by decide +kernel
theorem d_Reader_wordValue_43 : decode k_Reader_wordValue 43 = .ok (.iload_n 3, 1) := by decide +kernel
theorem d_Reader_wordValue_44 : decode k_Reader_wordValue 44 = .ok (.ifCond .ge (7), 3) := by decide +kernel
theorem d_Reader_wordValue_47 : decode k_Reader_wordValue 47 = .ok (.iconst 2, 1) := by decide +kernel
theorem d_Reader_wordValue_48 : decode k_Reader_wordValue 48 = .ok (.goto (8), 3) := by decide +kernel
theorem d_Reader_wordValue_51 : decode k_Reader_wordValue 51 = .ok (.iconst 1, 1) := by decide +kernel
theorem d_Reader_wordValue_52 : decode k_Reader_wordValue 52 = .ok (.iload_n 3, 1) := by decide +kernel
theorem d_Reader_wordValue_53 : decode k_Reader_wordValue 53 = .ok (.invokestatic 125, 3) := by decide +kernel
theorem d_Reader_wordValue_56 : decode k_Reader_wordValue 56 = .ok (.ireturn, 1) := by decide +kernel
theorem d_Reader_place_0 : decode k_Reader_place 0 = .ok (.iload_n 1, 1) := by decide +kernel
theorem d_Reader_place_1 : decode k_Reader_place 1 = .ok (.istore 4, 2) := by decide +kernel
theorem d_Reader_place_3 : decode k_Reader_place 3 = .ok (.iload_n 2, 1) := by decide +kernel
theorem d_Reader_place_4 : decode k_Reader_place 4 = .ok (.ifCond .eq (27), 3) := by decide +kernel
theorem d_Reader_place_7 : decode k_Reader_place 7 = .ok (.aload_n 0, 1) := by decide +kernel
theorem d_Reader_place_8 : decode k_Reader_place 8 = .ok (.getfield 36, 3) := by decide +kernel
theorem d_Reader_place_11 : decode k_Reader_place 11 = .ok (.iconst 1, 1) := by decide +kernel
theorem d_Reader_place_12 : decode k_Reader_place 12 = .ok (.bipush 10, 2) := by decide +kernel
theorem d_Reader_place_14 : decode k_Reader_place 14 = .ok (.invokestatic 125, 3) := by decide +kernel
theorem d_Reader_place_17 : decode k_Reader_place 17 = .ok (.aload_n 0, 1) := by decide +kernel
theorem d_Reader_place_18 : decode k_Reader_place 18 = .ok (.getfield 36, 3) := by decide +kernel
theorem d_Reader_place_21 : decode k_Reader_place 21 = .ok (.iload_n 1, 1) := by decide +kernel
theorem d_Reader_place_22 : decode k_Reader_place 22 = .ok (.iconst 2, 1) := by decide +kernel
theorem d_Reader_place_23 : decode k_Reader_place 23 = .ok (.invokevirtual 132, 3) := by decide +kernel
theorem d_Reader_place_26 : decode k_Reader_place 26 = .ok (.invokevirtual 132, 3) := by decide +kernel
theorem d_Reader_place_29 : decode k_Reader_place 29 = .ok (.istore 4, 2) := by decide +kernel
theorem d_Reader_place_31 : decode k_Reader_place 31 = .ok (.iload_n 3, 1) := by decide +kernel
theorem d_Reader_place_32 : decode k_Reader_place 32 = .ok (.iconst 1, 1) := by decide +kernel
theorem d_Reader_place_33 : decode k_Reader_place 33 = .ok (.if_icmp .lt (9), 3) := by decide +kernel
theorem d_Reader_place_36 : decode k_Reader_place 36 = .ok (.iload_n 3, 1) := by decide +kernel
theorem d_Reader_place_37 : decode k_Reader_place 37 = .ok (.bipush 10, 2) := by decide +kernel
theorem d_Reader_place_39 : decode k_Reader_place 39 = .ok (.if_icmp .le (10), 3) := by decide +kernel
theorem d_Reader_place_42 : decode k_Reader_place 42 = .ok (.aload_n 0, 1) := by decide +kernel
theorem d_Reader_place_43 : decode k_Reader_place 43 = .ok (.iload 4, 2) := by decide +kernel
theorem d_Reader_place_45 : decode k_Reader_place 45 = .ok (.putfield 11, 3) := by decide +kernel
theorem d_Reader_place_48 : decode k_Reader_place 48 = .ok (.return_, 1) := by decide +kernel
theorem d_Reader_place_49 : decode k_Reader_place 49 = .ok (.aload_n 0, 1) := by decide +kernel
theorem d_Reader_place_50 : decode k_Reader_place 50 = .ok (.getfield 36, 3) := by decide +kernel
theorem d_Reader_place_53 : decode k_Reader_place 53 = .ok (.iload 4, 2) := by decide +kernel
theorem d_Reader_place_55 : decode k_Reader_place 55 = .ok (.iconst 2, 1) := by decide +kernel
theorem d_Reader_place_56 : decode k_Reader_place 56 = .ok (.invokevirtual 132, 3) := by decide +kernel
theorem d_Reader_place_59 : decode k_Reader_place 59 = .ok (.istore 5, 2) := by decide +kernel
theorem d_Reader_place_61 : decode k_Reader_place 61 = .ok (.aload_n 0, 1) := by decide +kernel
theorem d_Reader_place_62 : decode k_Reader_place 62 = .ok (.getfield 17, 3) := by decide +kernel
theorem d_Reader_place_65 : decode k_Reader_place 65 = .ok (.iload_n 3, 1) := by decide +kernel
theorem d_Reader_place_66 : decode k_Reader_place 66 = .ok (.iaload, 1) := by decide +kernel
theorem d_Reader_place_67 : decode k_Reader_place 67 = .ok (.iconst 2, 1) := by decide +kernel
theorem d_Reader_place_68 : decode k_Reader_place 68 = .ok (.if_icmp .ne (14), 3) := by decide +kernel
theorem d_Reader_place_71 : decode k_Reader_place 71 = .ok (.aload_n 0, 1) := by decide +kernel
theorem d_Reader_place_72 : decode k_Reader_place 72 = .ok (.getfield 17, 3) := by decide +kernel
theorem d_Reader_place_75 : decode k_Reader_place 75 = .ok (.iload_n 3, 1) := by decide +kernel
theorem d_Reader_place_76 : decode k_Reader_place 76 = .ok (.iload 5, 2) := by decide +kernel
theorem d_Reader_place_78 : decode k_Reader_place 78 = .ok (.iastore, 1) := by decide +kernel
theorem d_Reader_place_79 : decode k_Reader_place 79 = .ok (.goto (18), 3) := by decide +kernel
theorem d_Reader_place_82 : decode k_Reader_place 82 = .ok (.aload_n 0, 1) := by decide +kernel
theorem d_Reader_place_83 : decode k_Reader_place 83 = .ok (.getfield 36, 3) := by decide +kernel
theorem d_Reader_place_86 : decode k_Reader_place 86 = .ok (.aload_n 0, 1) := by decide +kernel
theorem d_Reader_place_87 : decode k_Reader_place 87 = .ok (.getfield 21, 3) := by decide +kernel
theorem d_Reader_place_90 : decode k_Reader_place 90 = .ok (.iload_n 3, 1) := by decide +kernel
theorem d_Reader_place_91 : decode k_Reader_place 91 = .ok (.iaload, 1) := by decide +kernel
theorem d_Reader_place_92 : decode k_Reader_place 92 = .ok (.iload 5, 2) := by decide +kernel
theorem d_Reader_place_94 : decode k_Reader_place 94 = .ok (.invokevirtual 135, 3) := by decide +kernel
theorem d_Reader_place_97 : decode k_Reader_place 97 = .ok (.aload_n 0, 1) := by decide +kernel
theorem d_Reader_place_98 : decode k_Reader_place 98 = .ok (.getfield 21, 3) := by decide +kernel
theorem d_Reader_place_101 : decode k_Reader_place 101 = .ok (.iload_n 3, 1) := by decide +kernel
theorem d_Reader_place_102 : decode k_Reader_place 102 = .ok (.iload 5, 2) := by decide +kernel
theorem d_Reader_place_104 : decode k_Reader_place 104 = .ok (.iastore, 1) := by decide +kernel
theorem d_Reader_place_105 : decode k_Reader_place 105 = .ok (.return_, 1) := by decide +kernel
theorem d_Printer_printNumber_0 : decode k_Printer_printNumber 0 = .ok (.iload_n 1, 1) := by decide +kernel
theorem d_Printer_printNumber_1 : decode k_Printer_printNumber 1 = .ok (.ifCond .ge (12), 3) := by decide +kernel
theorem d_Printer_printNumber_4 : decode k_Printer_printNumber 4 = .ok (.aload_n 0, 1) := by decide +kernel
theorem d_Printer_printNumber_5 : decode k_Printer_printNumber 5 = .ok (.getfield 7, 3) := by decide +kernel
theorem d_Printer_printNumber_8 : decode k_Printer_printNumber 8 = .ok (.bipush 45, 2) := by decide +kernel
theorem d_Printer_printNumber_10 : decode k_Printer_printNumber 10 = .ok (.invokevirtual 25, 3) := by decide +kernel
theorem d_Printer_printNumber_13 : decode k_Printer_printNumber 13 = .ok (.iload_n 1, 1) := by decide +kernel
theorem d_Printer_printNumber_14 : decode k_Printer_printNumber 14 = .ok (.invokestatic 87, 3) := by decide +kernel
theorem d_Printer_printNumber_17 : decode k_Printer_printNumber 17 = .ok (.istore_n 2, 1) := by decide +kernel
theorem d_Printer_printNumber_18 : decode k_Printer_printNumber 18 = .ok (.ldc 92, 2) := by decide +kernel
theorem d_Printer_printNumber_20 : decode k_Printer_printNumber 20 = .ok (.istore_n 3, 1) := by decide +kernel
theorem d_Printer_printNumber_21 : decode k_Printer_printNumber 21 = .ok (.iload_n 3, 1) := by decide +kernel
theorem d_Printer_printNumber_22 : decode k_Printer_printNumber 22 = .ok (.ifCond .le (38), 3) := by decide +kernel
theorem d_Printer_printNumber_25 : decode k_Printer_printNumber 25 = .ok (.iload_n 2, 1) := by decide +kernel
theorem d_Printer_printNumber_26 : decode k_Printer_printNumber 26 = .ok (.iload_n 3, 1) := by decide +kernel
theorem d_Printer_printNumber_27 : decode k_Printer_printNumber 27 = .ok (.if_icmp .ge (8), 3) := by decide +kernel
theorem d_Printer_printNumber_30 : decode k_Printer_printNumber 30 = .ok (.iload_n 3, 1) := by decide +kernel
theorem d_Printer_printNumber_31 : decode k_Printer_printNumber 31 = .ok (.iconst 1, 1) := by decide +kernel
theorem d_Printer_printNumber_32 : decode k_Printer_printNumber 32 = .ok (.if_icmp .ne (20), 3) := by decide +kernel
theorem d_Printer_printNumber_35 : decode k_Printer_printNumber 35 = .ok (.aload_n 0, 1) := by decide +kernel
theorem d_Printer_printNumber_36 : decode k_Printer_printNumber 36 = .ok (.getfield 7, 3) := by decide +kernel
theorem d_Printer_printNumber_39 : decode k_Printer_printNumber 39 = .ok (.bipush 48, 2) := by decide +kernel
theorem d_Printer_printNumber_41 : decode k_Printer_printNumber 41 = .ok (.iload_n 2, 1) := by decide +kernel
theorem d_Printer_printNumber_42 : decode k_Printer_printNumber 42 = .ok (.iload_n 3, 1) := by decide +kernel
theorem d_Printer_printNumber_43 : decode k_Printer_printNumber 43 = .ok (.idiv, 1) := by decide +kernel
theorem d_Printer_printNumber_44 : decode k_Printer_printNumber 44 = .ok (.bipush 10, 2) := by decide +kernel
theorem d_Printer_printNumber_46 : decode k_Printer_printNumber 46 = .ok (.irem, 1) := by decide +kernel
theorem d_Printer_printNumber_47 : decode k_Printer_printNumber 47 = .ok (.iadd, 1) := by decide +kernel
theorem d_Printer_printNumber_48 : decode k_Printer_printNumber 48 = .ok (.i2c, 1) := by decide +kernel
theorem d_Printer_printNumber_49 : decode k_Printer_printNumber 49 = .ok (.invokevirtual 25, 3) := by decide +kernel
theorem d_Printer_printNumber_52 : decode k_Printer_printNumber 52 = .ok (.iload_n 3, 1) := by decide +kernel
theorem d_Printer_printNumber_53 : decode k_Printer_printNumber 53 = .ok (.bipush 10, 2) := by decide +kernel
theorem d_Printer_printNumber_55 : decode k_Printer_printNumber 55 = .ok (.idiv, 1) := by decide +kernel
theorem d_Printer_printNumber_56 : decode k_Printer_printNumber 56 = .ok (.istore_n 3, 1) := by decide +kernel
theorem d_Printer_printNumber_57 : decode k_Printer_printNumber 57 = .ok (.goto (-36), 3) := by decide +kernel
theorem d_Printer_printNumber_60 : decode k_Printer_printNumber 60 = .ok (.return_, 1) := by decide +kernel
theorem d_Printer_printName_0 : decode k_Printer_printName 0 = .ok (.bipush 56, 2) := by decide +kernel
theorem d_Printer_printName_2 : decode k_Printer_printName 2 = .ok (.istore_n 3, 1) := by decide +kernel
theorem d_Printer_printName_3 : decode k_Printer_printName 3 = .ok (.iload_n 3, 1) := by decide +kernel
theorem d_Printer_printName_4 : decode k_Printer_printName 4 = .ok (.ifCond .lt (34), 3) := by decide +kernel
theorem d_Printer_printName_7 : decode k_Printer_printName 7 = .ok (.lload_n 1, 1) := by decide +kernel
theorem d_Printer_printName_8 : decode k_Printer_printName 8 = .ok (.iload_n 3, 1) := by decide +kernel
theorem d_Printer_printName_9 : decode k_Printer_printName 9 = .ok (.lushr, 1) := by decide +kernel
theorem d_Printer_printName_10 : decode k_Printer_printName 10 = .ok (.ldc2_w 93, 3) := by decide +kernel
theorem d_Printer_printName_13 : decode k_Printer_printName 13 = .ok (.land, 1) := by decide +kernel
theorem d_Printer_printName_14 : decode k_Printer_printName 14 = .ok (.l2i, 1) := by decide +kernel
theorem d_Printer_printName_15 : decode k_Printer_printName 15 = .ok (.istore 4, 2) := by decide +kernel
theorem d_Printer_printName_17 : decode k_Printer_printName 17 = .ok (.iload 4, 2) := by decide +kernel
theorem d_Printer_printName_19 : decode k_Printer_printName 19 = .ok (.ifCond .eq (13), 3) := by decide +kernel
theorem d_Printer_printName_22 : decode k_Printer_printName 22 = .ok (.aload_n 0, 1) := by decide +kernel
theorem d_Printer_printName_23 : decode k_Printer_printName 23 = .ok (.getfield 7, 3) := by decide +kernel
theorem d_Printer_printName_26 : decode k_Printer_printName 26 = .ok (.iload 4, 2) := by decide +kernel
theorem d_Printer_printName_28 : decode k_Printer_printName 28 = .ok (.i2c, 1) := by decide +kernel
theorem d_Printer_printName_29 : decode k_Printer_printName 29 = .ok (.invokevirtual 25, 3) := by decide +kernel
theorem d_Printer_printName_32 : decode k_Printer_printName 32 = .ok (.iinc 3 (-8), 3) := by decide +kernel
theorem d_Printer_printName_35 : decode k_Printer_printName 35 = .ok (.goto (-32), 3) := by decide +kernel
theorem d_Printer_printName_38 : decode k_Printer_printName 38 = .ok (.return_, 1) := by decide +kernel
theorem d_Md_isNumber_0 : decode k_Md_isNumber 0 = .ok (.iload_n 0, 1) := by decide +kernel
theorem d_Md_isNumber_1 : decode k_Md_isNumber 1 = .ok (.ldc 45, 2) := by decide +kernel
theorem d_Md_isNumber_3 : decode k_Md_isNumber 3 = .ok (.if_icmp .ge (7), 3) := by decide +kernel
theorem d_Md_isNumber_6 : decode k_Md_isNumber 6 = .ok (.iconst 1, 1) := by decide +kernel
theorem d_Md_isNumber_7 : decode k_Md_isNumber 7 = .ok (.goto (4), 3) := by decide +kernel
theorem d_Md_isNumber_10 : decode k_Md_isNumber 10 = .ok (.iconst 0, 1) := by decide +kernel
theorem d_Md_isNumber_11 : decode k_Md_isNumber 11 = .ok (.ireturn, 1) := by decide +kernel
theorem d_Md_isSymbol_0 : decode k_Md_isSymbol 0 = .ok (.iload_n 0, 1) := by decide +kernel
theorem d_Md_isSymbol_1 : decode k_Md_isSymbol 1 = .ok (.ldc 90, 2) := by decide +kernel
theorem d_Md_isSymbol_3 : decode k_Md_isSymbol 3 = .ok (.if_icmp .lt (13), 3) := by decide +kernel
theorem d_Md_isSymbol_6 : decode k_Md_isSymbol 6 = .ok (.iload_n 0, 1) := by decide +kernel
theorem d_Md_isSymbol_7 : decode k_Md_isSymbol 7 = .ok (.ldc 77, 2) := by decide +kernel
theorem d_Md_isSymbol_9 : decode k_Md_isSymbol 9 = .ok (.if_icmp .ge (7), 3) := by decide +kernel
theorem d_Md_isSymbol_12 : decode k_Md_isSymbol 12 = .ok (.iconst 1, 1) := by decide +kernel
theorem d_Md_isSymbol_13 : decode k_Md_isSymbol 13 = .ok (.goto (4), 3) := by decide +kernel
theorem d_Md_isSymbol_16 : decode k_Md_isSymbol 16 = .ok (.iconst 0, 1) := by decide +kernel
theorem d_Md_isSymbol_17 : decode k_Md_isSymbol 17 = .ok (.ireturn, 1) := by decide +kernel
theorem d_Md_isThing_0 : decode k_Md_isThing 0 = .ok (.iload_n 0, 1) := by decide +kernel
theorem d_Md_isThing_1 : decode k_Md_isThing 1 = .ok (.ldc 91, 2) := by decide +kernel
theorem d_Md_isThing_3 : decode k_Md_isThing 3 = .ok (.if_icmp .lt (7), 3) := by decide +kernel
theorem d_Md_isThing_6 : decode k_Md_isThing 6 = .ok (.iconst 1, 1) := by decide +kernel
theorem d_Md_isThing_7 : decode k_Md_isThing 7 = .ok (.goto (4), 3) := by decide +kernel
theorem d_Md_isThing_10 : decode k_Md_isThing 10 = .ok (.iconst 0, 1) := by decide +kernel
theorem d_Md_isThing_11 : decode k_Md_isThing 11 = .ok (.ireturn, 1) := by decide +kernel
theorem d_Md_isPair_0 : decode k_Md_isPair 0 = .ok (.iload_n 1, 1) := by decide +kernel
theorem d_Md_isPair_1 : decode k_Md_isPair 1 = .ok (.invokestatic 92, 3) := by decide +kernel
theorem d_Md_isPair_4 : decode k_Md_isPair 4 = .ok (.ifCond .eq (20), 3) := by decide +kernel
theorem d_Md_isPair_7 : decode k_Md_isPair 7 = .ok (.aload_n 0, 1) := by decide +kernel
theorem d_Md_isPair_8 : decode k_Md_isPair 8 = .ok (.getfield 7, 3) := by decide +kernel
theorem d_Md_isPair_11 : decode k_Md_isPair 11 = .ok (.iload_n 1, 1) := by decide +kernel
theorem d_Md_isPair_12 : decode k_Md_isPair 12 = .ok (.ldc 91, 2) := by decide +kernel
theorem d_Md_isPair_14 : decode k_Md_isPair 14 = .ok (.isub, 1) := by decide +kernel
theorem d_Md_isPair_15 : decode k_Md_isPair 15 = .ok (.iaload, 1) := by decide +kernel
theorem d_Md_isPair_16 : decode k_Md_isPair 16 = .ok (.iconst 2, 1) := by decide +kernel
theorem d_Md_isPair_17 : decode k_Md_isPair 17 = .ok (.if_icmp .ne (7), 3) := by decide +kernel
theorem d_Md_isPair_20 : decode k_Md_isPair 20 = .ok (.iconst 1, 1) := by decide +kernel
theorem d_Md_isPair_21 : decode k_Md_isPair 21 = .ok (.goto (4), 3) := by decide +kernel
theorem d_Md_isPair_24 : decode k_Md_isPair 24 = .ok (.iconst 0, 1) := by decide +kernel
theorem d_Md_isPair_25 : decode k_Md_isPair 25 = .ok (.ireturn, 1) := by decide +kernel
theorem d_Md_isClosure_0 : decode k_Md_isClosure 0 = .ok (.iload_n 1, 1) := by decide +kernel
theorem d_Md_isClosure_1 : decode k_Md_isClosure 1 = .ok (.invokestatic 92, 3) := by decide +kernel
theorem d_Md_isClosure_4 : decode k_Md_isClosure 4 = .ok (.ifCond .eq (20), 3) := by decide +kernel
theorem d_Md_isClosure_7 : decode k_Md_isClosure 7 = .ok (.aload_n 0, 1) := by decide +kernel
theorem d_Md_isClosure_8 : decode k_Md_isClosure 8 = .ok (.getfield 7, 3) := by decide +kernel
theorem d_Md_isClosure_11 : decode k_Md_isClosure 11 = .ok (.iload_n 1, 1) := by decide +kernel
theorem d_Md_isClosure_12 : decode k_Md_isClosure 12 = .ok (.ldc 91, 2) := by decide +kernel
theorem d_Md_isClosure_14 : decode k_Md_isClosure 14 = .ok (.isub, 1) := by decide +kernel
theorem d_Md_isClosure_15 : decode k_Md_isClosure 15 = .ok (.iaload, 1) := by decide +kernel
theorem d_Md_isClosure_16 : decode k_Md_isClosure 16 = .ok (.iconst 3, 1) := by decide +kernel
theorem d_Md_isClosure_17 : decode k_Md_isClosure 17 = .ok (.if_icmp .ne (7), 3) := by decide +kernel
theorem d_Md_isClosure_20 : decode k_Md_isClosure 20 = .ok (.iconst 1, 1) := by decide +kernel
theorem d_Md_isClosure_21 : decode k_Md_isClosure 21 = .ok (.goto (4), 3) := by decide +kernel
theorem d_Md_isClosure_24 : decode k_Md_isClosure 24 = .ok (.iconst 0, 1) := by decide +kernel
theorem d_Md_isClosure_25 : decode k_Md_isClosure 25 = .ok (.ireturn, 1) := by decide +kernel
theorem d_Md_wrap_0 : decode k_Md_wrap 0 = .ok (.iload_n 0, 1) := by decide +kernel
theorem d_Md_wrap_1 : decode k_Md_wrap 1 = .ok (.iconst 3, 1) := by decide +kernel
theorem d_Md_wrap_2 : decode k_Md_wrap 2 = .ok (.ishl, 1) := by decide +kernel
theorem d_Md_wrap_3 : decode k_Md_wrap 3 = .ok (.iconst 3, 1) := by decide +kernel
theorem d_Md_wrap_4 : decode k_Md_wrap 4 = .ok (.ishr, 1) := by decide +kernel
theorem d_Md_wrap_5 : decode k_Md_wrap 5 = .ok (.ireturn, 1) := by decide +kernel
theorem d_Md_car_0 : decode k_Md_car 0 = .ok (.aload_n 0, 1) := by decide +kernel
theorem d_Md_car_1 : decode k_Md_car 1 = .ok (.getfield 13, 3) := by decide +kernel
theorem d_Md_car_4 : decode k_Md_car 4 = .ok (.iload_n 1, 1) := by decide +kernel
theorem d_Md_car_5 : decode k_Md_car 5 = .ok (.ldc 91, 2) := by decide +kernel
theorem d_Md_car_7 : decode k_Md_car 7 = .ok (.isub, 1) := by decide +kernel
theorem d_Md_car_8 : decode k_Md_car 8 = .ok (.iaload, 1) := by decide +kernel
theorem d_Md_car_9 : decode k_Md_car 9 = .ok (.ireturn, 1) := by decide +kernel
theorem d_Md_cdr_0 : decode k_Md_cdr 0 = .ok (.aload_n 0, 1) := by decide +kernel
theorem d_Md_cdr_1 : decode k_Md_cdr 1 = .ok (.getfield 16, 3) := by decide +kernel
theorem d_Md_cdr_4 : decode k_Md_cdr 4 = .ok (.iload_n 1, 1) := by decide +kernel
theorem d_Md_cdr_5 : decode k_Md_cdr 5 = .ok (.ldc 91, 2) := by decide +kernel
theorem d_Md_cdr_7 : decode k_Md_cdr 7 = .ok (.isub, 1) := by decide +kernel
theorem d_Md_cdr_8 : decode k_Md_cdr 8 = .ok (.iaload, 1) := by decide +kernel
theorem d_Md_cdr_9 : decode k_Md_cdr 9 = .ok (.ireturn, 1) := by decide +kernel
theorem d_Md_mark_0 : decode k_Md_mark 0 = .ok (.iload_n 1, 1) := by decide +kernel
theorem d_Md_mark_1 : decode k_Md_mark 1 = .ok (.invokestatic 92, 3) := by decide +kernel
theorem d_Md_mark_4 : decode k_Md_mark 4 = .ok (.ifCond .eq (13), 3) := by decide +kernel
theorem d_Md_mark_7 : decode k_Md_mark 7 = .ok (.aload_n 0, 1) := by decide +kernel
theorem d_Md_mark_8 : decode k_Md_mark 8 = .ok (.getfield 22, 3) := by decide +kernel
theorem d_Md_mark_11 : decode k_Md_mark 11 = .ok (.iload_n 1, 1) := by decide +kernel
theorem d_Md_mark_12 : decode k_Md_mark 12 = .ok (.ldc 91, 2) := by decide +kernel
theorem d_Md_mark_14 : decode k_Md_mark 14 = .ok (.isub, 1) := by decide +kernel
theorem d_Md_mark_15 : decode k_Md_mark 15 = .ok (.iconst 1, 1) := by decide +kernel
theorem d_Md_mark_16 : decode k_Md_mark 16 = .ok (.bastore, 1) := by decide +kernel
theorem d_Md_mark_17 : decode k_Md_mark 17 = .ok (.return_, 1) := by decide +kernel
theorem d_Md_live_0 : decode k_Md_live 0 = .ok (.iconst 0, 1) := by decide +kernel
theorem d_Md_live_1 : decode k_Md_live 1 = .ok (.istore_n 1, 1) := by decide +kernel
theorem d_Md_live_2 : decode k_Md_live 2 = .ok (.iload_n 1, 1) := by decide +kernel
theorem d_Md_live_3 : decode k_Md_live 3 = .ok (.sipush 206, 3) := by decide +kernel
theorem d_Md_live_6 : decode k_Md_live 6 = .ok (.if_icmp .ge (16), 3) := by decide +kernel
theorem d_Md_live_9 : decode k_Md_live 9 = .ok (.aload_n 0, 1) := by decide +kernel
theorem d_Md_live_10 : decode k_Md_live 10 = .ok (.getfield 22, 3) := by decide +kernel
theorem d_Md_live_13 : decode k_Md_live 13 = .ok (.iload_n 1, 1) := by decide +kernel
theorem d_Md_live_14 : decode k_Md_live 14 = .ok (.iconst 0, 1) := by decide +kernel
theorem d_Md_live_15 : decode k_Md_live 15 = .ok (.bastore, 1) := by decide +kernel
theorem d_Md_live_16 : decode k_Md_live 16 = .ok (.iinc 1 1, 3) := by decide +kernel
theorem d_Md_live_19 : decode k_Md_live 19 = .ok (.goto (-17), 3) := by decide +kernel
theorem d_Md_live_22 : decode k_Md_live 22 = .ok (.aload_n 0, 1) := by decide +kernel
theorem d_Md_live_23 : decode k_Md_live 23 = .ok (.aload_n 0, 1) := by decide +kernel
theorem d_Md_live_24 : decode k_Md_live 24 = .ok (.getfield 46, 3) := by decide +kernel
theorem d_Md_live_27 : decode k_Md_live 27 = .ok (.invokevirtual 96, 3) := by decide +kernel
theorem d_Md_live_30 : decode k_Md_live 30 = .ok (.aload_n 0, 1) := by decide +kernel
theorem d_Md_live_31 : decode k_Md_live 31 = .ok (.aload_n 0, 1) := by decide +kernel
theorem d_Md_live_32 : decode k_Md_live 32 = .ok (.getfield 50, 3) := by decide +kernel
theorem d_Md_live_35 : decode k_Md_live 35 = .ok (.invokevirtual 96, 3) := by decide +kernel
theorem d_Md_live_38 : decode k_Md_live 38 = .ok (.iconst 0, 1) := by decide +kernel
theorem d_Md_live_39 : decode k_Md_live 39 = .ok (.istore_n 1, 1) := by decide +kernel
theorem d_Md_live_40 : decode k_Md_live 40 = .ok (.iload_n 1, 1) := by decide +kernel
theorem d_Md_live_41 : decode k_Md_live 41 = .ok (.aload_n 0, 1) := by decide +kernel
theorem d_Md_live_42 : decode k_Md_live 42 = .ok (.getfield 100, 3) := by decide +kernel
theorem d_Md_live_45 : decode k_Md_live 45 = .ok (.if_icmp .ge (39), 3) := by decide +kernel
theorem d_Md_live_48 : decode k_Md_live 48 = .ok (.aload_n 0, 1) := by decide +kernel
theorem d_Md_live_49 : decode k_Md_live 49 = .ok (.aload_n 0, 1) := by decide +kernel
theorem d_Md_live_50 : decode k_Md_live 50 = .ok (.getfield 29, 3) := by decide +kernel
theorem d_Md_live_53 : decode k_Md_live 53 = .ok (.iload_n 1, 1) := by decide +kernel
theorem d_Md_live_54 : decode k_Md_live 54 = .ok (.iaload, 1) := by decide +kernel
theorem d_Md_live_55 : decode k_Md_live 55 = .ok (.invokevirtual 96, 3) := by decide +kernel
theorem d_Md_live_58 : decode k_Md_live 58 = .ok (.aload_n 0, 1) := by decide +kernel
theorem d_Md_live_59 : decode k_Md_live 59 = .ok (.aload_n 0, 1) := by decide +kernel
theorem d_Md_live_60 : decode k_Md_live 60 = .ok (.getfield 32, 3) := by decide +kernel
theorem d_Md_live_63 : decode k_Md_live 63 = .ok (.iload_n 1, 1) := by decide +kernel
theorem d_Md_live_64 : decode k_Md_live 64 = .ok (.iaload, 1) := by decide +kernel
theorem d_Md_live_65 : decode k_Md_live 65 = .ok (.invokevirtual 96, 3) := by decide +kernel
theorem d_Md_live_68 : decode k_Md_live 68 = .ok (.aload_n 0, 1) := by decide +kernel
theorem d_Md_live_69 : decode k_Md_live 69 = .ok (.aload_n 0, 1) := by decide +kernel
theorem d_Md_live_70 : decode k_Md_live 70 = .ok (.getfield 35, 3) := by decide +kernel
theorem d_Md_live_73 : decode k_Md_live 73 = .ok (.iload_n 1, 1) := by decide +kernel
theorem d_Md_live_74 : decode k_Md_live 74 = .ok (.iaload, 1) := by decide +kernel
theorem d_Md_live_75 : decode k_Md_live 75 = .ok (.invokevirtual 96, 3) := by decide +kernel
theorem d_Md_live_78 : decode k_Md_live 78 = .ok (.iinc 1 1, 3) := by decide +kernel
theorem d_Md_live_81 : decode k_Md_live 81 = .ok (.goto (-41), 3) := by decide +kernel
theorem d_Md_live_84 : decode k_Md_live 84 = .ok (.iconst 0, 1) := by decide +kernel
theorem d_Md_live_85 : decode k_Md_live 85 = .ok (.istore_n 1, 1) := by decide +kernel
theorem d_Md_live_86 : decode k_Md_live 86 = .ok (.iload_n 1, 1) := by decide +kernel
theorem d_Md_live_87 : decode k_Md_live 87 = .ok (.aload_n 0, 1) := by decide +kernel
theorem d_Md_live_88 : decode k_Md_live 88 = .ok (.getfield 84, 3) := by decide +kernel
theorem d_Md_live_91 : decode k_Md_live 91 = .ok (.if_icmp .ge (19), 3) := by decide +kernel
theorem d_Md_live_94 : decode k_Md_live 94 = .ok (.aload_n 0, 1) := by decide +kernel
theorem d_Md_live_95 : decode k_Md_live 95 = .ok (.aload_n 0, 1) := by decide +kernel
theorem d_Md_live_96 : decode k_Md_live 96 = .ok (.getfield 42, 3) := by decide +kernel
theorem d_Md_live_99 : decode k_Md_live 99 = .ok (.iload_n 1, 1) := by decide +kernel
theorem d_Md_live_100 : decode k_Md_live 100 = .ok (.iaload, 1) := by decide +kernel
theorem d_Md_live_101 : decode k_Md_live 101 = .ok (.invokevirtual 96, 3) := by decide +kernel
theorem d_Md_live_104 : decode k_Md_live 104 = .ok (.iinc 1 1, 3) := by decide +kernel
theorem d_Md_live_107 : decode k_Md_live 107 = .ok (.goto (-21), 3) := by decide +kernel
theorem d_Md_live_110 : decode k_Md_live 110 = .ok (.iconst 0, 1) := by decide +kernel
theorem d_Md_live_111 : decode k_Md_live 111 = .ok (.istore_n 1, 1) := by decide +kernel
theorem d_Md_live_112 : decode k_Md_live 112 = .ok (.iconst (-1), 1) := by decide +kernel
theorem d_Md_live_113 : decode k_Md_live 113 = .ok (.istore_n 2, 1) := by decide +kernel
theorem d_Md_live_114 : decode k_Md_live 114 = .ok (.iload_n 1, 1) := by decide +kernel
theorem d_Md_live_115 : decode k_Md_live 115 = .ok (.iload_n 2, 1) := by decide +kernel
theorem d_Md_live_116 : decode k_Md_live 116 = .ok (.if_icmp .eq (86), 3) := by decide +kernel
theorem d_Md_live_119 : decode k_Md_live 119 = .ok (.iload_n 1, 1) := by decide +kernel
theorem d_Md_live_120 : decode k_Md_live 120 = .ok (.istore_n 2, 1) := by decide +kernel
theorem d_Md_live_121 : decode k_Md_live 121 = .ok (.iconst 0, 1) := by decide +kernel
theorem d_Md_live_122 : decode k_Md_live 122 = .ok (.istore_n 1, 1) := by decide +kernel
theorem d_Md_live_123 : decode k_Md_live 123 = .ok (.iconst 0, 1) := by decide +kernel
theorem d_Md_live_124 : decode k_Md_live 124 = .ok (.istore_n 3, 1) := by decide +kernel
theorem d_Md_live_125 : decode k_Md_live 125 = .ok (.iload_n 3, 1) := by decide +kernel
theorem d_Md_live_126 : decode k_Md_live 126 = .ok (.sipush 206, 3) := by decide +kernel
theorem d_Md_live_129 : decode k_Md_live 129 = .ok (.if_icmp .ge (70), 3) := by decide +kernel
theorem d_Md_live_132 : decode k_Md_live 132 = .ok (.aload_n 0, 1) := by decide +kernel
theorem d_Md_live_133 : decode k_Md_live 133 = .ok (.getfield 22, 3) := by decide +kernel
theorem d_Md_live_136 : decode k_Md_live 136 = .ok (.iload_n 3, 1) := by decide +kernel
theorem d_Md_live_137 : decode k_Md_live 137 = .ok (.baload, 1) := by decide +kernel
theorem d_Md_live_138 : decode k_Md_live 138 = .ok (.ifCond .ne (6), 3) := by decide +kernel
theorem d_Md_live_141 : decode k_Md_live 141 = .ok (.goto (52), 3) := by decide +kernel
theorem d_Md_live_144 : decode k_Md_live 144 = .ok (.aload_n 0, 1) := by decide +kernel
theorem d_Md_live_145 : decode k_Md_live 145 = .ok (.aload_n 0, 1) := by decide +kernel
theorem d_Md_live_146 : decode k_Md_live 146 = .ok (.getfield 13, 3) := by decide +kernel
theorem d_Md_live_149 : decode k_Md_live 149 = .ok (.iload_n 3, 1) := by decide +kernel
theorem d_Md_live_150 : decode k_Md_live 150 = .ok (.iaload, 1) := by decide +kernel
theorem d_Md_live_151 : decode k_Md_live 151 = .ok (.invokevirtual 96, 3) := by decide +kernel
theorem d_Md_live_154 : decode k_Md_live 154 = .ok (.aload_n 0, 1) := by decide +kernel
theorem d_Md_live_155 : decode k_Md_live 155 = .ok (.aload_n 0, 1) := by decide +kernel
theorem d_Md_live_156 : decode k_Md_live 156 = .ok (.getfield 16, 3) := by decide +kernel
theorem d_Md_live_159 : decode k_Md_live 159 = .ok (.iload_n 3, 1) := by decide +kernel
theorem d_Md_live_160 : decode k_Md_live 160 = .ok (.iaload, 1) := by decide +kernel
theorem d_Md_live_161 : decode k_Md_live 161 = .ok (.invokevirtual 96, 3) := by decide +kernel
theorem d_Md_live_164 : decode k_Md_live 164 = .ok (.aload_n 0, 1) := by decide +kernel
theorem d_Md_live_165 : decode k_Md_live 165 = .ok (.getfield 7, 3) := by decide +kernel
theorem d_Md_live_168 : decode k_Md_live 168 = .ok (.iload_n 3, 1) := by decide +kernel
theorem d_Md_live_169 : decode k_Md_live 169 = .ok (.iaload, 1) := by decide +kernel
theorem d_Md_live_170 : decode k_Md_live 170 = .ok (.iconst 3, 1) := by decide +kernel
theorem d_Md_live_171 : decode k_Md_live 171 = .ok (.if_icmp .ne (13), 3) := by decide +kernel
theorem d_Md_live_174 : decode k_Md_live 174 = .ok (.aload_n 0, 1) := by decide +kernel
theorem d_Md_live_175 : decode k_Md_live 175 = .ok (.aload_n 0, 1) := by decide +kernel
theorem d_Md_live_176 : decode k_Md_live 176 = .ok (.getfield 19, 3) := by decide +kernel
theorem d_Md_live_179 : decode k_Md_live 179 = .ok (.iload_n 3, 1) := by decide +kernel
theorem d_Md_live_180 : decode k_Md_live 180 = .ok (.iaload, 1) := by decide +kernel
theorem d_Md_live_181 : decode k_Md_live 181 = .ok (.invokevirtual 96, 3) := by decide +kernel
theorem d_Md_live_184 : decode k_Md_live 184 = .ok (.iload_n 1, 1) := by decide +kernel
theorem d_Md_live_185 : decode k_Md_live 185 = .ok (.aload_n 0, 1) := by decide +kernel
theorem d_Md_live_186 : decode k_Md_live 186 = .ok (.getfield 7, 3) := by decide +kernel
theorem d_Md_live_189 : decode k_Md_live 189 = .ok (.iload_n 3, 1) := by decide +kernel
theorem d_Md_live_190 : decode k_Md_live 190 = .ok (.iaload, 1) := by decide +kernel
theorem d_Md_live_191 : decode k_Md_live 191 = .ok (.iadd, 1) := by decide +kernel
theorem d_Md_live_192 : decode k_Md_live 192 = .ok (.istore_n 1, 1) := by decide +kernel
theorem d_Md_live_193 : decode k_Md_live 193 = .ok (.iinc 3 1, 3) := by decide +kernel
theorem d_Md_live_196 : decode k_Md_live 196 = .ok (.goto (-71), 3) := by decide +kernel
theorem d_Md_live_199 : decode k_Md_live 199 = .ok (.goto (-85), 3) := by decide +kernel
theorem d_Md_live_202 : decode k_Md_live 202 = .ok (.iload_n 1, 1) := by decide +kernel
theorem d_Md_live_203 : decode k_Md_live 203 = .ok (.ireturn, 1) := by decide +kernel
theorem d_Md_room_0 : decode k_Md_room 0 = .ok (.aload_n 0, 1) := by decide +kernel
theorem d_Md_room_1 : decode k_Md_room 1 = .ok (.invokevirtual 103, 3) := by decide +kernel
theorem d_Md_room_4 : decode k_Md_room 4 = .ok (.iload_n 1, 1) := by decide +kernel
theorem d_Md_room_5 : decode k_Md_room 5 = .ok (.iadd, 1) := by decide +kernel
theorem d_Md_room_6 : decode k_Md_room 6 = .ok (.aload_n 0, 1) := by decide +kernel
theorem d_Md_room_7 : decode k_Md_room 7 = .ok (.getfield 74, 3) := by decide +kernel
theorem d_Md_room_10 : decode k_Md_room 10 = .ok (.if_icmp .gt (7), 3) := by decide +kernel
theorem d_Md_room_13 : decode k_Md_room 13 = .ok (.iconst 1, 1) := by decide +kernel
theorem d_Md_room_14 : decode k_Md_room 14 = .ok (.goto (4), 3) := by decide +kernel
theorem d_Md_room_17 : decode k_Md_room 17 = .ok (.iconst 0, 1) := by decide +kernel
theorem d_Md_room_18 : decode k_Md_room 18 = .ok (.istore_n 2, 1) := by decide +kernel
theorem d_Md_room_19 : decode k_Md_room 19 = .ok (.iconst 0, 1) := by decide +kernel
theorem d_Md_room_20 : decode k_Md_room 20 = .ok (.istore_n 3, 1) := by decide +kernel
theorem d_Md_room_21 : decode k_Md_room 21 = .ok (.iload_n 3, 1) := by decide +kernel
theorem d_Md_room_22 : decode k_Md_room 22 = .ok (.sipush 206, 3) := by decide +kernel
theorem d_Md_room_25 : decode k_Md_room 25 = .ok (.if_icmp .ge (34), 3) := by decide +kernel
theorem d_Md_room_28 : decode k_Md_room 28 = .ok (.aload_n 0, 1) := by decide +kernel
theorem d_Md_room_29 : decode k_Md_room 29 = .ok (.getfield 7, 3) := by decide +kernel
theorem d_Md_room_32 : decode k_Md_room 32 = .ok (.iload_n 3, 1) := by decide +kernel
theorem d_Md_room_33 : decode k_Md_room 33 = .ok (.aload_n 0, 1) := by decide +kernel
theorem d_Md_room_34 : decode k_Md_room 34 = .ok (.getfield 22, 3) := by decide +kernel
theorem d_Md_room_37 : decode k_Md_room 37 = .ok (.iload_n 3, 1) := by decide +kernel
theorem d_Md_room_38 : decode k_Md_room 38 = .ok (.baload, 1) := by decide +kernel
theorem d_Md_room_39 : decode k_Md_room 39 = .ok (.ifCond .eq (12), 3) := by decide +kernel
theorem d_Md_room_42 : decode k_Md_room 42 = .ok (.aload_n 0, 1) := by decide +kernel
theorem d_Md_room_43 : decode k_Md_room 43 = .ok (.getfield 7, 3) := by decide +kernel
theorem d_Md_room_46 : decode k_Md_room 46 = .ok (.iload_n 3, 1) := by decide +kernel
theorem d_Md_room_47 : decode k_Md_room 47 = .ok (.iaload, 1) := by decide +kernel
theorem d_Md_room_48 : decode k_Md_room 48 = .ok (.goto (4), 3) := by decide +kernel
theorem d_Md_room_51 : decode k_Md_room 51 = .ok (.iconst 0, 1) := by decide +kernel
theorem d_Md_room_52 : decode k_Md_room 52 = .ok (.iastore, 1) := by decide +kernel
theorem d_Md_room_53 : decode k_Md_room 53 = .ok (.iinc 3 1, 3) := by decide +kernel
theorem d_Md_room_56 : decode k_Md_room 56 = .ok (.goto (-35), 3) := by decide +kernel
theorem d_Md_room_59 : decode k_Md_room 59 = .ok (.iload_n 2, 1) := by decide +kernel
theorem d_Md_room_60 : decode k_Md_room 60 = .ok (.ireturn, 1) := by decide +kernel
theorem d_Md_make_0 : decode k_Md_make 0 = .ok (.iconst 0, 1) := by decide +kernel
theorem d_Md_make_1 : decode k_Md_make 1 = .ok (.istore 5, 2) := by decide +kernel
theorem d_Md_make_3 : decode k_Md_make 3 = .ok (.aload_n 0, 1) := by decide +kernel
theorem d_Md_make_4 : decode k_Md_make 4 = .ok (.getfield 7, 3) := by decide +kernel
theorem d_Md_make_7 : decode k_Md_make 7 = .ok (.iload 5, 2) := by decide +kernel
theorem d_Md_make_9 : decode k_Md_make 9 = .ok (.iaload, 1) := by decide +kernel
theorem d_Md_make_10 : decode k_Md_make 10 = .ok (.ifCond .eq (9), 3) := by decide +kernel
theorem d_Md_make_13 : decode k_Md_make 13 = .ok (.iinc 5 1, 3) := by decide +kernel
theorem d_Md_make_16 : decode k_Md_make 16 = .ok (.goto (-13), 3) := by decide +kernel
theorem d_Md_make_19 : decode k_Md_make 19 = .ok (.aload_n 0, 1) := by decide +kernel
theorem d_Md_make_20 : decode k_Md_make 20 = .ok (.getfield 7, 3) := by decide +kernel
theorem d_Md_make_23 : decode k_Md_make 23 = .ok (.iload 5, 2) := by decide +kernel
theorem d_Md_make_25 : decode k_Md_make 25 = .ok (.iload_n 1, 1) := by decide +kernel
theorem d_Md_make_26 : decode k_Md_make 26 = .ok (.iastore, 1) := by decide +kernel
theorem d_Md_make_27 : decode k_Md_make 27 = .ok (.aload_n 0, 1) := by decide +kernel
theorem d_Md_make_28 : decode k_Md_make 28 = .ok (.getfield 13, 3) := by decide +kernel
theorem d_Md_make_31 : decode k_Md_make 31 = .ok (.iload 5, 2) := by decide +kernel
theorem d_Md_make_33 : decode k_Md_make 33 = .ok (.iload_n 2, 1) := by decide +kernel
theorem d_Md_make_34 : decode k_Md_make 34 = .ok (.iastore, 1) := by decide +kernel
theorem d_Md_make_35 : decode k_Md_make 35 = .ok (.aload_n 0, 1) := by decide +kernel
theorem d_Md_make_36 : decode k_Md_make 36 = .ok (.getfield 16, 3) := by decide +kernel
theorem d_Md_make_39 : decode k_Md_make 39 = .ok (.iload 5, 2) := by decide +kernel
theorem d_Md_make_41 : decode k_Md_make 41 = .ok (.iload_n 3, 1) := by decide +kernel
theorem d_Md_make_42 : decode k_Md_make 42 = .ok (.iastore, 1) := by decide +kernel
theorem d_Md_make_43 : decode k_Md_make 43 = .ok (.aload_n 0, 1) := by decide +kernel
theorem d_Md_make_44 : decode k_Md_make 44 = .ok (.getfield 19, 3) := by decide +kernel
theorem d_Md_make_47 : decode k_Md_make 47 = .ok (.iload 5, 2) := by decide +kernel
theorem d_Md_make_49 : decode k_Md_make 49 = .ok (.iload 4, 2) := by decide +kernel
theorem d_Md_make_51 : decode k_Md_make 51 = .ok (.iastore, 1) := by decide +kernel
theorem d_Md_make_52 : decode k_Md_make 52 = .ok (.ldc 91, 2) := by decide +kernel
theorem d_Md_make_54 : decode k_Md_make 54 = .ok (.iload 5, 2) := by decide +kernel
theorem d_Md_make_56 : decode k_Md_make 56 = .ok (.iadd, 1) := by decide +kernel
theorem d_Md_make_57 : decode k_Md_make 57 = .ok (.ireturn, 1) := by decide +kernel
theorem d_Md_pair_0 : decode k_Md_pair 0 = .ok (.aload_n 0, 1) := by decide +kernel
theorem d_Md_pair_1 : decode k_Md_pair 1 = .ok (.iconst 2, 1) := by decide +kernel
theorem d_Md_pair_2 : decode k_Md_pair 2 = .ok (.iload_n 1, 1) := by decide +kernel
theorem d_Md_pair_3 : decode k_Md_pair 3 = .ok (.iload_n 2, 1) := by decide +kernel
theorem d_Md_pair_4 : decode k_Md_pair 4 = .ok (.ldc 45, 2) := by decide +kernel
theorem d_Md_pair_6 : decode k_Md_pair 6 = .ok (.invokevirtual 107, 3) := by decide +kernel
theorem d_Md_pair_9 : decode k_Md_pair 9 = .ok (.ireturn, 1) := by decide +kernel
theorem d_Md_feed_0 : decode k_Md_feed 0 = .ok (.aload_n 0, 1) := by decide +kernel
theorem d_Md_feed_1 : decode k_Md_feed 1 = .ok (.iconst 0, 1) := by decide +kernel
theorem d_Md_feed_2 : decode k_Md_feed 2 = .ok (.putfield 87, 3) := by decide +kernel
theorem d_Md_feed_5 : decode k_Md_feed 5 = .ok (.iload_n 2, 1) := by decide +kernel
theorem d_Md_feed_6 : decode k_Md_feed 6 = .ok (.iconst 1, 1) := by decide +kernel
theorem d_Md_feed_7 : decode k_Md_feed 7 = .ok (.if_icmp .lt (19), 3) := by decide +kernel
theorem d_Md_feed_10 : decode k_Md_feed 10 = .ok (.iload_n 2, 1) := by decide +kernel
theorem d_Md_feed_11 : decode k_Md_feed 11 = .ok (.iconst 4, 1) := by decide +kernel
theorem d_Md_feed_12 : decode k_Md_feed 12 = .ok (.if_icmp .gt (14), 3) := by decide +kernel
theorem d_Md_feed_15 : decode k_Md_feed 15 = .ok (.aload_n 0, 1) := by decide +kernel
theorem d_Md_feed_16 : decode k_Md_feed 16 = .ok (.getfield 111, 3) := by decide +kernel
theorem d_Md_feed_19 : decode k_Md_feed 19 = .ok (.iload_n 2, 1) := by decide +kernel
theorem d_Md_feed_20 : decode k_Md_feed 20 = .ok (.iadd, 1) := by decide +kernel
theorem d_Md_feed_21 : decode k_Md_feed 21 = .ok (.bipush 120, 2) := by decide +kernel
theorem d_Md_feed_23 : decode k_Md_feed 23 = .ok (.if_icmp .le (5), 3) := by decide +kernel
theorem d_Md_feed_26 : decode k_Md_feed 26 = .ok (.iconst 0, 1) := by decide +kernel
theorem d_Md_feed_27 : decode k_Md_feed 27 = .ok (.ireturn, 1) := by decide +kernel
theorem d_Md_feed_28 : decode k_Md_feed 28 = .ok (.iconst 0, 1) := by decide +kernel
theorem d_Md_feed_29 : decode k_Md_feed 29 = .ok (.istore_n 3, 1) := by decide +kernel
theorem d_Md_feed_30 : decode k_Md_feed 30 = .ok (.iload_n 3, 1) := by decide +kernel
theorem d_Md_feed_31 : decode k_Md_feed 31 = .ok (.iload_n 2, 1) := by decide +kernel
theorem d_Md_feed_32 : decode k_Md_feed 32 = .ok (.if_icmp .ge (44), 3) := by decide +kernel
theorem d_Md_feed_35 : decode k_Md_feed 35 = .ok (.iload_n 1, 1) := by decide +kernel
theorem d_Md_feed_36 : decode k_Md_feed 36 = .ok (.bipush 8, 2) := by decide +kernel
theorem d_Md_feed_38 : decode k_Md_feed 38 = .ok (.iload_n 3, 1) := by decide +kernel
theorem d_Md_feed_39 : decode k_Md_feed 39 = .ok (.imul, 1) := by decide +kernel
theorem d_Md_feed_40 : decode k_Md_feed 40 = .ok (.ishr, 1) := by decide +kernel
theorem d_Md_feed_41 : decode k_Md_feed 41 = .ok (.sipush 255, 3) := by decide +kernel
theorem d_Md_feed_44 : decode k_Md_feed 44 = .ok (.iand, 1) := by decide +kernel
theorem d_Md_feed_45 : decode k_Md_feed 45 = .ok (.istore 4, 2) := by decide +kernel
theorem d_Md_feed_47 : decode k_Md_feed 47 = .ok (.iload 4, 2) := by decide +kernel
theorem d_Md_feed_49 : decode k_Md_feed 49 = .ok (.bipush 10, 2) := by decide +kernel
theorem d_Md_feed_51 : decode k_Md_feed 51 = .ok (.if_icmp .eq (19), 3) := by decide +kernel
theorem d_Md_feed_54 : decode k_Md_feed 54 = .ok (.iload 4, 2) := by decide +kernel
theorem d_Md_feed_56 : decode k_Md_feed 56 = .ok (.bipush 32, 2) := by decide +kernel
theorem d_Md_feed_58 : decode k_Md_feed 58 = .ok (.if_icmp .lt (10), 3) := by decide +kernel
theorem d_Md_feed_61 : decode k_Md_feed 61 = .ok (.iload 4, 2) := by decide +kernel
theorem d_Md_feed_63 : decode k_Md_feed 63 = .ok (.bipush 126, 2) := by decide +kernel
theorem d_Md_feed_65 : decode k_Md_feed 65 = .ok (.if_icmp .le (5), 3) := by decide +kernel
theorem d_Md_feed_68 : decode k_Md_feed 68 = .ok (.iconst 0, 1) := by decide +kernel
theorem d_Md_feed_69 : decode k_Md_feed 69 = .ok (.ireturn, 1) := by decide +kernel
theorem d_Md_feed_70 : decode k_Md_feed 70 = .ok (.iinc 3 1, 3) := by decide +kernel
theorem d_Md_feed_73 : decode k_Md_feed 73 = .ok (.goto (-43), 3) := by decide +kernel
theorem d_Md_feed_76 : decode k_Md_feed 76 = .ok (.iload_n 2, 1) := by decide +kernel
theorem d_Md_feed_77 : decode k_Md_feed 77 = .ok (.iconst 1, 1) := by decide +kernel
theorem d_Md_feed_78 : decode k_Md_feed 78 = .ok (.isub, 1) := by decide +kernel
theorem d_Md_feed_79 : decode k_Md_feed 79 = .ok (.istore_n 3, 1) := by decide +kernel
theorem d_Md_feed_80 : decode k_Md_feed 80 = .ok (.iload_n 3, 1) := by decide +kernel
theorem d_Md_feed_81 : decode k_Md_feed 81 = .ok (.ifCond .lt (39), 3) := by decide +kernel
theorem d_Md_feed_84 : decode k_Md_feed 84 = .ok (.aload_n 0, 1) := by decide +kernel
theorem d_Md_feed_85 : decode k_Md_feed 85 = .ok (.getfield 53, 3) := by decide +kernel
theorem d_Md_feed_88 : decode k_Md_feed 88 = .ok (.aload_n 0, 1) := by decide +kernel
theorem d_Md_feed_89 : decode k_Md_feed 89 = .ok (.getfield 111, 3) := by decide +kernel
theorem d_Md_feed_92 : decode k_Md_feed 92 = .ok (.iload_n 1, 1) := by decide +kernel
theorem d_Md_feed_93 : decode k_Md_feed 93 = .ok (.bipush 8, 2) := by decide +kernel
theorem d_Md_feed_95 : decode k_Md_feed 95 = .ok (.iload_n 3, 1) := by decide +kernel
theorem d_Md_feed_96 : decode k_Md_feed 96 = .ok (.imul, 1) := by decide +kernel
theorem d_Md_feed_97 : decode k_Md_feed 97 = .ok (.ishr, 1) := by decide +kernel
theorem d_Md_feed_98 : decode k_Md_feed 98 = .ok (.sipush 255, 3) := by decide +kernel
theorem d_Md_feed_101 : decode k_Md_feed 101 = .ok (.iand, 1) := by decide +kernel
theorem d_Md_feed_102 : decode k_Md_feed 102 = .ok (.i2c, 1) := by decide +kernel
theorem d_Md_feed_103 : decode k_Md_feed 103 = .ok (.castore, 1) := by decide +kernel
theorem d_Md_feed_104 : decode k_Md_feed 104 = .ok (.aload_n 0, 1) := by decide +kernel
theorem d_Md_feed_105 : decode k_Md_feed 105 = .ok (.dup, 1) := by decide +kernel
theorem d_Md_feed_106 : decode k_Md_feed 106 = .ok (.getfield 111, 3) := by decide +kernel
theorem d_Md_feed_109 : decode k_Md_feed 109 = .ok (.iconst 1, 1) := by decide +kernel
theorem d_Md_feed_110 : decode k_Md_feed 110 = .ok (.iadd, 1) := by decide +kernel
theorem d_Md_feed_111 : decode k_Md_feed 111 = .ok (.putfield 111, 3) := by decide +kernel
theorem d_Md_feed_114 : decode k_Md_feed 114 = .ok (.iinc 3 (-1), 3) := by decide +kernel
theorem d_Md_feed_117 : decode k_Md_feed 117 = .ok (.goto (-37), 3) := by decide +kernel
theorem d_Md_feed_120 : decode k_Md_feed 120 = .ok (.iconst 1, 1) := by decide +kernel
theorem d_Md_feed_121 : decode k_Md_feed 121 = .ok (.ireturn, 1) := by decide +kernel
theorem d_Md_isBlank_0 : decode k_Md_isBlank 0 = .ok (.iload_n 0, 1) := by decide +kernel
theorem d_Md_isBlank_1 : decode k_Md_isBlank 1 = .ok (.bipush 10, 2) := by decide +kernel
theorem d_Md_isBlank_3 : decode k_Md_isBlank 3 = .ok (.if_icmp .eq (9), 3) := by decide +kernel
theorem d_Md_isBlank_6 : decode k_Md_isBlank 6 = .ok (.iload_n 0, 1) := by decide +kernel
theorem d_Md_isBlank_7 : decode k_Md_isBlank 7 = .ok (.bipush 32, 2) := by decide +kernel
theorem d_Md_isBlank_9 : decode k_Md_isBlank 9 = .ok (.if_icmp .ne (7), 3) := by decide +kernel
theorem d_Md_isBlank_12 : decode k_Md_isBlank 12 = .ok (.iconst 1, 1) := by decide +kernel
theorem d_Md_isBlank_13 : decode k_Md_isBlank 13 = .ok (.goto (4), 3) := by decide +kernel
theorem d_Md_isBlank_16 : decode k_Md_isBlank 16 = .ok (.iconst 0, 1) := by decide +kernel
theorem d_Md_isBlank_17 : decode k_Md_isBlank 17 = .ok (.ireturn, 1) := by decide +kernel
theorem d_Md_isSign_0 : decode k_Md_isSign 0 = .ok (.iload_n 0, 1) := by decide +kernel
theorem d_Md_isSign_1 : decode k_Md_isSign 1 = .ok (.bipush 40, 2) := by decide +kernel
theorem d_Md_isSign_3 : decode k_Md_isSign 3 = .ok (.if_icmp .eq (15), 3) := by decide +kernel
theorem d_Md_isSign_6 : decode k_Md_isSign 6 = .ok (.iload_n 0, 1) := by decide +kernel
theorem d_Md_isSign_7 : decode k_Md_isSign 7 = .ok (.bipush 41, 2) := by decide +kernel
theorem d_Md_isSign_9 : decode k_Md_isSign 9 = .ok (.if_icmp .eq (9), 3) := by decide +kernel
theorem d_Md_isSign_12 : decode k_Md_isSign 12 = .ok (.iload_n 0, 1) := by decide +kernel
theorem d_Md_isSign_13 : decode k_Md_isSign 13 = .ok (.bipush 39, 2) := by decide +kernel
theorem d_Md_isSign_15 : decode k_Md_isSign 15 = .ok (.if_icmp .ne (7), 3) := by decide +kernel
theorem d_Md_isSign_18 : decode k_Md_isSign 18 = .ok (.iconst 1, 1) := by decide +kernel
theorem d_Md_isSign_19 : decode k_Md_isSign 19 = .ok (.goto (4), 3) := by decide +kernel
theorem d_Md_isSign_22 : decode k_Md_isSign 22 = .ok (.iconst 0, 1) := by decide +kernel
theorem d_Md_isSign_23 : decode k_Md_isSign 23 = .ok (.ireturn, 1) := by decide +kernel
theorem d_Md_skip_0 : decode k_Md_skip 0 = .ok (.iload_n 1, 1) := by decide +kernel
theorem d_Md_skip_1 : decode k_Md_skip 1 = .ok (.istore_n 2, 1) := by decide +kernel
theorem d_Md_skip_2 : decode k_Md_skip 2 = .ok (.iload_n 2, 1) := by decide +kernel
theorem d_Md_skip_3 : decode k_Md_skip 3 = .ok (.aload_n 0, 1) := by decide +kernel
theorem d_Md_skip_4 : decode k_Md_skip 4 = .ok (.getfield 111, 3) := by decide +kernel
theorem d_Md_skip_7 : decode k_Md_skip 7 = .ok (.if_icmp .ge (21), 3) := by decide +kernel
theorem d_Md_skip_10 : decode k_Md_skip 10 = .ok (.aload_n 0, 1) := by decide +kernel
theorem d_Md_skip_11 : decode k_Md_skip 11 = .ok (.getfield 53, 3) := by decide +kernel
theorem d_Md_skip_14 : decode k_Md_skip 14 = .ok (.iload_n 2, 1) := by decide +kernel
theorem d_Md_skip_15 : decode k_Md_skip 15 = .ok (.caload, 1) := by decide +kernel
theorem d_Md_skip_16 : decode k_Md_skip 16 = .ok (.invokestatic 114, 3) := by decide +kernel
theorem d_Md_skip_19 : decode k_Md_skip 19 = .ok (.ifCond .eq (9), 3) := by decide +kernel
theorem d_Md_skip_22 : decode k_Md_skip 22 = .ok (.iinc 2 1, 3) := by decide +kernel
theorem d_Md_skip_25 : decode k_Md_skip 25 = .ok (.goto (-23), 3) := by decide +kernel
theorem d_Md_skip_28 : decode k_Md_skip 28 = .ok (.iload_n 2, 1) := by decide +kernel
theorem d_Md_skip_29 : decode k_Md_skip 29 = .ok (.ireturn, 1) := by decide +kernel
theorem d_Md_tokenEnd_0 : decode k_Md_tokenEnd 0 = .ok (.aload_n 0, 1) := by decide +kernel
theorem d_Md_tokenEnd_1 : decode k_Md_tokenEnd 1 = .ok (.getfield 53, 3) := by decide +kernel
theorem d_Md_tokenEnd_4 : decode k_Md_tokenEnd 4 = .ok (.iload_n 1, 1) := by decide +kernel
theorem d_Md_tokenEnd_5 : decode k_Md_tokenEnd 5 = .ok (.caload, 1) := by decide +kernel
theorem d_Md_tokenEnd_6 : decode k_Md_tokenEnd 6 = .ok (.invokestatic 118, 3) := by decide +kernel
theorem d_Md_tokenEnd_9 : decode k_Md_tokenEnd 9 = .ok (.ifCond .eq (7), 3) := by decide +kernel
theorem d_Md_tokenEnd_12 : decode k_Md_tokenEnd 12 = .ok (.iload_n 1, 1) := by decide +kernel
theorem d_Md_tokenEnd_13 : decode k_Md_tokenEnd 13 = .ok (.iconst 1, 1) := by decide +kernel
theorem d_Md_tokenEnd_14 : decode k_Md_tokenEnd 14 = .ok (.iadd, 1) := by decide +kernel
theorem d_Md_tokenEnd_15 : decode k_Md_tokenEnd 15 = .ok (.ireturn, 1) := by decide +kernel
theorem d_Md_tokenEnd_16 : decode k_Md_tokenEnd 16 = .ok (.iload_n 1, 1) := by decide +kernel
theorem d_Md_tokenEnd_17 : decode k_Md_tokenEnd 17 = .ok (.istore_n 2, 1) := by decide +kernel
theorem d_Md_tokenEnd_18 : decode k_Md_tokenEnd 18 = .ok (.iload_n 2, 1) := by decide +kernel
theorem d_Md_tokenEnd_19 : decode k_Md_tokenEnd 19 = .ok (.aload_n 0, 1) := by decide +kernel
theorem d_Md_tokenEnd_20 : decode k_Md_tokenEnd 20 = .ok (.getfield 111, 3) := by decide +kernel
theorem d_Md_tokenEnd_23 : decode k_Md_tokenEnd 23 = .ok (.if_icmp .ge (33), 3) := by decide +kernel
theorem d_Md_tokenEnd_26 : decode k_Md_tokenEnd 26 = .ok (.aload_n 0, 1) := by decide +kernel
theorem d_Md_tokenEnd_27 : decode k_Md_tokenEnd 27 = .ok (.getfield 53, 3) := by decide +kernel
theorem d_Md_tokenEnd_30 : decode k_Md_tokenEnd 30 = .ok (.iload_n 2, 1) := by decide +kernel
theorem d_Md_tokenEnd_31 : decode k_Md_tokenEnd 31 = .ok (.caload, 1) := by decide +kernel
theorem d_Md_tokenEnd_32 : decode k_Md_tokenEnd 32 = .ok (.invokestatic 114, 3) := by decide +kernel
theorem d_Md_tokenEnd_35 : decode k_Md_tokenEnd 35 = .ok (.ifCond .ne (21), 3) := by decide +kernel
theorem d_Md_tokenEnd_38 : decode k_Md_tokenEnd 38 = .ok (.aload_n 0, 1) := by decide +kernel
theorem d_Md_tokenEnd_39 : decode k_Md_tokenEnd 39 = .ok (.getfield 53, 3) := by decide +kernel
theorem d_Md_tokenEnd_42 : decode k_Md_tokenEnd 42 = .ok (.iload_n 2, 1) := by decide +kernel
theorem d_Md_tokenEnd_43 : decode k_Md_tokenEnd 43 = .ok (.caload, 1) := by decide +kernel
theorem d_Md_tokenEnd_44 : decode k_Md_tokenEnd 44 = .ok (.invokestatic 118, 3) := by decide +kernel
theorem d_Md_tokenEnd_47 : decode k_Md_tokenEnd 47 = .ok (.ifCond .ne (9), 3) := by decide +kernel
theorem d_Md_tokenEnd_50 : decode k_Md_tokenEnd 50 = .ok (.iinc 2 1, 3) := by decide +kernel
theorem d_Md_tokenEnd_53 : decode k_Md_tokenEnd 53 = .ok (.goto (-35), 3) := by decide +kernel
theorem d_Md_tokenEnd_56 : decode k_Md_tokenEnd 56 = .ok (.iload_n 2, 1) := by decide +kernel
theorem d_Md_tokenEnd_57 : decode k_Md_tokenEnd 57 = .ok (.ireturn, 1) := by decide +kernel
theorem d_Md_drop_0 : decode k_Md_drop 0 = .ok (.iload_n 1, 1) := by decide +kernel
theorem d_Md_drop_1 : decode k_Md_drop 1 = .ok (.istore_n 2, 1) := by decide +kernel
theorem d_Md_drop_2 : decode k_Md_drop 2 = .ok (.iload_n 2, 1) := by decide +kernel
theorem d_Md_drop_3 : decode k_Md_drop 3 = .ok (.aload_n 0, 1) := by decide +kernel
theorem d_Md_drop_4 : decode k_Md_drop 4 = .ok (.getfield 111, 3) := by decide +kernel
theorem d_Md_drop_7 : decode k_Md_drop 7 = .ok (.if_icmp .ge (23), 3) := by decide +kernel
theorem d_Md_drop_10 : decode k_Md_drop 10 = .ok (.aload_n 0, 1) := by decide +kernel
theorem d_Md_drop_11 : decode k_Md_drop 11 = .ok (.getfield 53, 3) := by decide +kernel
end
section
theorem d_Md_drop_14 : decode k_Md_drop 14 = .ok (.iload_n 2, 1) := by decide +kernel
theorem d_Md_drop_15 : decode k_Md_drop 15 = .ok (.iload_n 1, 1) := by decide +kernel
theorem d_Md_drop_16 : decode k_Md_drop 16 = .ok (.isub, 1) := by decide +kernel
theorem d_Md_drop_17 : decode k_Md_drop 17 = .ok (.aload_n 0, 1) := by decide +kernel
theorem d_Md_drop_18 : decode k_Md_drop 18 = .ok (.getfield 53, 3) := by decide +kernel
theorem d_Md_drop_21 : decode k_Md_drop 21 = .ok (.iload_n 2, 1) := by decide +kernel
theorem d_Md_drop_22 : decode k_Md_drop 22 = .ok (.caload, 1) := by decide +kernel
theorem d_Md_drop_23 : decode k_Md_drop 23 = .ok (.castore, 1) := by decide +kernel
theorem d_Md_drop_24 : decode k_Md_drop 24 = .ok (.iinc 2 1, 3) := by decide +kernel
theorem d_Md_drop_27 : decode k_Md_drop 27 = .ok (.goto (-25), 3) := by decide +kernel
theorem d_Md_drop_30 : decode k_Md_drop 30 = .ok (.aload_n 0, 1) := by decide +kernel
theorem d_Md_drop_31 : decode k_Md_drop 31 = .ok (.aload_n 0, 1) := by decide +kernel
theorem d_Md_drop_32 : decode k_Md_drop 32 = .ok (.getfield 111, 3) := by decide +kernel
theorem d_Md_drop_35 : decode k_Md_drop 35 = .ok (.iload_n 1, 1) := by decide +kernel
theorem d_Md_drop_36 : decode k_Md_drop 36 = .ok (.isub, 1) := by decide +kernel
theorem d_Md_drop_37 : decode k_Md_drop 37 = .ok (.putfield 111, 3) := by decide +kernel
theorem d_Md_drop_40 : decode k_Md_drop 40 = .ok (.return_, 1) := by decide +kernel
theorem d_Md_isFigure_0 : decode k_Md_isFigure 0 = .ok (.aload_n 0, 1) := by decide +kernel
theorem d_Md_isFigure_1 : decode k_Md_isFigure 1 = .ok (.getfield 53, 3) := by decide +kernel
theorem d_Md_isFigure_4 : decode k_Md_isFigure 4 = .ok (.iload_n 1, 1) := by decide +kernel
theorem d_Md_isFigure_5 : decode k_Md_isFigure 5 = .ok (.caload, 1) := by decide +kernel
theorem d_Md_isFigure_6 : decode k_Md_isFigure 6 = .ok (.bipush 45, 2) := by decide +kernel
theorem d_Md_isFigure_8 : decode k_Md_isFigure 8 = .ok (.if_icmp .ne (9), 3) := by decide +kernel
theorem d_Md_isFigure_11 : decode k_Md_isFigure 11 = .ok (.iload_n 1, 1) := by decide +kernel
theorem d_Md_isFigure_12 : decode k_Md_isFigure 12 = .ok (.iconst 1, 1) := by decide +kernel
theorem d_Md_isFigure_13 : decode k_Md_isFigure 13 = .ok (.iadd, 1) := by decide +kernel
theorem d_Md_isFigure_14 : decode k_Md_isFigure 14 = .ok (.goto (4), 3) := by decide +kernel
theorem d_Md_isFigure_17 : decode k_Md_isFigure 17 = .ok (.iload_n 1, 1) := by decide +kernel
theorem d_Md_isFigure_18 : decode k_Md_isFigure 18 = .ok (.istore_n 3, 1) := by decide +kernel
theorem d_Md_isFigure_19 : decode k_Md_isFigure 19 = .ok (.iload_n 3, 1) := by decide +kernel
theorem d_Md_isFigure_20 : decode k_Md_isFigure 20 = .ok (.iload_n 2, 1) := by decide +kernel
theorem d_Md_isFigure_21 : decode k_Md_isFigure 21 = .ok (.if_icmp .ge (15), 3) := by decide +kernel
theorem d_Md_isFigure_24 : decode k_Md_isFigure 24 = .ok (.iload_n 2, 1) := by decide +kernel
theorem d_Md_isFigure_25 : decode k_Md_isFigure 25 = .ok (.iload_n 3, 1) := by decide +kernel
theorem d_Md_isFigure_26 : decode k_Md_isFigure 26 = .ok (.isub, 1) := by decide +kernel
theorem d_Md_isFigure_27 : decode k_Md_isFigure 27 = .ok (.bipush 10, 2) := by decide +kernel
theorem d_Md_isFigure_29 : decode k_Md_isFigure 29 = .ok (.if_icmp .ge (7), 3) := by decide +kernel
theorem d_Md_isFigure_32 : decode k_Md_isFigure 32 = .ok (.iconst 1, 1) := by decide +kernel
theorem d_Md_isFigure_33 : decode k_Md_isFigure 33 = .ok (.goto (4), 3) := by decide +kernel
theorem d_Md_isFigure_36 : decode k_Md_isFigure 36 = .ok (.iconst 0, 1) := by decide +kernel
theorem d_Md_isFigure_37 : decode k_Md_isFigure 37 = .ok (.istore 4, 2) := by decide +kernel
theorem d_Md_isFigure_39 : decode k_Md_isFigure 39 = .ok (.iload_n 3, 1) := by decide +kernel
theorem d_Md_isFigure_40 : decode k_Md_isFigure 40 = .ok (.istore 5, 2) := by decide +kernel
theorem d_Md_isFigure_42 : decode k_Md_isFigure 42 = .ok (.iload 5, 2) := by decide +kernel
theorem d_Md_isFigure_44 : decode k_Md_isFigure 44 = .ok (.iload_n 2, 1) := by decide +kernel
theorem d_Md_isFigure_45 : decode k_Md_isFigure 45 = .ok (.if_icmp .ge (45), 3) := by decide +kernel
theorem d_Md_isFigure_48 : decode k_Md_isFigure 48 = .ok (.iload 4, 2) := by decide +kernel
theorem d_Md_isFigure_50 : decode k_Md_isFigure 50 = .ok (.ifCond .eq (31), 3) := by decide +kernel
theorem d_Md_isFigure_53 : decode k_Md_isFigure 53 = .ok (.aload_n 0, 1) := by decide +kernel
theorem d_Md_isFigure_54 : decode k_Md_isFigure 54 = .ok (.getfield 53, 3) := by decide +kernel
theorem d_Md_isFigure_57 : decode k_Md_isFigure 57 = .ok (.iload 5, 2) := by decide +kernel
theorem d_Md_isFigure_59 : decode k_Md_isFigure 59 = .ok (.caload, 1) := by decide +kernel
theorem d_Md_isFigure_60 : decode k_Md_isFigure 60 = .ok (.bipush 48, 2) := by decide +kernel
theorem d_Md_isFigure_62 : decode k_Md_isFigure 62 = .ok (.if_icmp .lt (19), 3) := by decide +kernel
theorem d_Md_isFigure_65 : decode k_Md_isFigure 65 = .ok (.aload_n 0, 1) := by decide +kernel
theorem d_Md_isFigure_66 : decode k_Md_isFigure 66 = .ok (.getfield 53, 3) := by decide +kernel
theorem d_Md_isFigure_69 : decode k_Md_isFigure 69 = .ok (.iload 5, 2) := by decide +kernel
theorem d_Md_isFigure_71 : decode k_Md_isFigure 71 = .ok (.caload, 1) := by decide +kernel
theorem d_Md_isFigure_72 : decode k_Md_isFigure 72 = .ok (.bipush 57, 2) := by decide +kernel
theorem d_Md_isFigure_74 : decode k_Md_isFigure 74 = .ok (.if_icmp .gt (7), 3) := by decide +kernel
theorem d_Md_isFigure_77 : decode k_Md_isFigure 77 = .ok (.iconst 1, 1) := by decide +kernel
theorem d_Md_isFigure_78 : decode k_Md_isFigure 78 = .ok (.goto (4), 3) := by decide +kernel
theorem d_Md_isFigure_81 : decode k_Md_isFigure 81 = .ok (.iconst 0, 1) := by decide +kernel
theorem d_Md_isFigure_82 : decode k_Md_isFigure 82 = .ok (.istore 4, 2) := by decide +kernel
theorem d_Md_isFigure_84 : decode k_Md_isFigure 84 = .ok (.iinc 5 1, 3) := by decide +kernel
theorem d_Md_isFigure_87 : decode k_Md_isFigure 87 = .ok (.goto (-45), 3) := by decide +kernel
theorem d_Md_isFigure_90 : decode k_Md_isFigure 90 = .ok (.iload 4, 2) := by decide +kernel
theorem d_Md_isFigure_92 : decode k_Md_isFigure 92 = .ok (.ireturn, 1) := by decide +kernel
theorem d_Md_figure_0 : decode k_Md_figure 0 = .ok (.iconst 0, 1) := by decide +kernel
theorem d_Md_figure_1 : decode k_Md_figure 1 = .ok (.istore_n 3, 1) := by decide +kernel
theorem d_Md_figure_2 : decode k_Md_figure 2 = .ok (.aload_n 0, 1) := by decide +kernel
theorem d_Md_figure_3 : decode k_Md_figure 3 = .ok (.getfield 53, 3) := by decide +kernel
theorem d_Md_figure_6 : decode k_Md_figure 6 = .ok (.iload_n 1, 1) := by decide +kernel
theorem d_Md_figure_7 : decode k_Md_figure 7 = .ok (.caload, 1) := by decide +kernel
theorem d_Md_figure_8 : decode k_Md_figure 8 = .ok (.bipush 45, 2) := by decide +kernel
theorem d_Md_figure_10 : decode k_Md_figure 10 = .ok (.if_icmp .ne (9), 3) := by decide +kernel
theorem d_Md_figure_13 : decode k_Md_figure 13 = .ok (.iload_n 1, 1) := by decide +kernel
theorem d_Md_figure_14 : decode k_Md_figure 14 = .ok (.iconst 1, 1) := by decide +kernel
theorem d_Md_figure_15 : decode k_Md_figure 15 = .ok (.iadd, 1) := by decide +kernel
theorem d_Md_figure_16 : decode k_Md_figure 16 = .ok (.goto (4), 3) := by decide +kernel
theorem d_Md_figure_19 : decode k_Md_figure 19 = .ok (.iload_n 1, 1) := by decide +kernel
theorem d_Md_figure_20 : decode k_Md_figure 20 = .ok (.istore 4, 2) := by decide +kernel
theorem d_Md_figure_22 : decode k_Md_figure 22 = .ok (.iload 4, 2) := by decide +kernel
theorem d_Md_figure_24 : decode k_Md_figure 24 = .ok (.iload_n 2, 1) := by decide +kernel
theorem d_Md_figure_25 : decode k_Md_figure 25 = .ok (.if_icmp .ge (25), 3) := by decide +kernel
theorem d_Md_figure_28 : decode k_Md_figure 28 = .ok (.bipush 10, 2) := by decide +kernel
theorem d_Md_figure_30 : decode k_Md_figure 30 = .ok (.iload_n 3, 1) := by decide +kernel
theorem d_Md_figure_31 : decode k_Md_figure 31 = .ok (.imul, 1) := by decide +kernel
theorem d_Md_figure_32 : decode k_Md_figure 32 = .ok (.aload_n 0, 1) := by decide +kernel
theorem d_Md_figure_33 : decode k_Md_figure 33 = .ok (.getfield 53, 3) := by decide +kernel
theorem d_Md_figure_36 : decode k_Md_figure 36 = .ok (.iload 4, 2) := by decide +kernel
theorem d_Md_figure_38 : decode k_Md_figure 38 = .ok (.caload, 1) := by decide +kernel
theorem d_Md_figure_39 : decode k_Md_figure 39 = .ok (.iadd, 1) := by decide +kernel
theorem d_Md_figure_40 : decode k_Md_figure 40 = .ok (.bipush 48, 2) := by decide +kernel
theorem d_Md_figure_42 : decode k_Md_figure 42 = .ok (.isub, 1) := by decide +kernel
theorem d_Md_figure_43 : decode k_Md_figure 43 = .ok (.istore_n 3, 1) := by decide +kernel
theorem d_Md_figure_44 : decode k_Md_figure 44 = .ok (.iinc 4 1, 3) := by decide +kernel
theorem d_Md_figure_47 : decode k_Md_figure 47 = .ok (.goto (-25), 3) := by decide +kernel
theorem d_Md_figure_50 : decode k_Md_figure 50 = .ok (.aload_n 0, 1) := by decide +kernel
theorem d_Md_figure_51 : decode k_Md_figure 51 = .ok (.getfield 53, 3) := by decide +kernel
theorem d_Md_figure_54 : decode k_Md_figure 54 = .ok (.iload_n 1, 1) := by decide +kernel
theorem d_Md_figure_55 : decode k_Md_figure 55 = .ok (.caload, 1) := by decide +kernel
theorem d_Md_figure_56 : decode k_Md_figure 56 = .ok (.bipush 45, 2) := by decide +kernel
theorem d_Md_figure_58 : decode k_Md_figure 58 = .ok (.if_icmp .ne (8), 3) := by decide +kernel
theorem d_Md_figure_61 : decode k_Md_figure 61 = .ok (.iload_n 3, 1) := by decide +kernel
theorem d_Md_figure_62 : decode k_Md_figure 62 = .ok (.ineg, 1) := by decide +kernel
theorem d_Md_figure_63 : decode k_Md_figure 63 = .ok (.goto (4), 3) := by decide +kernel
theorem d_Md_figure_66 : decode k_Md_figure 66 = .ok (.iload_n 3, 1) := by decide +kernel
theorem d_Md_figure_67 : decode k_Md_figure 67 = .ok (.invokestatic 121, 3) := by decide +kernel
theorem d_Md_figure_70 : decode k_Md_figure 70 = .ok (.ireturn, 1) := by decide +kernel
theorem d_Md_isNil_0 : decode k_Md_isNil 0 = .ok (.iload_n 2, 1) := by decide +kernel
theorem d_Md_isNil_1 : decode k_Md_isNil 1 = .ok (.iload_n 1, 1) := by decide +kernel
theorem d_Md_isNil_2 : decode k_Md_isNil 2 = .ok (.isub, 1) := by decide +kernel
theorem d_Md_isNil_3 : decode k_Md_isNil 3 = .ok (.iconst 3, 1) := by decide +kernel
theorem d_Md_isNil_4 : decode k_Md_isNil 4 = .ok (.if_icmp .ne (44), 3) := by decide +kernel
theorem d_Md_isNil_7 : decode k_Md_isNil 7 = .ok (.aload_n 0, 1) := by decide +kernel
theorem d_Md_isNil_8 : decode k_Md_isNil 8 = .ok (.getfield 53, 3) := by decide +kernel
theorem d_Md_isNil_11 : decode k_Md_isNil 11 = .ok (.iload_n 1, 1) := by decide +kernel
theorem d_Md_isNil_12 : decode k_Md_isNil 12 = .ok (.caload, 1) := by decide +kernel
theorem d_Md_isNil_13 : decode k_Md_isNil 13 = .ok (.bipush 110, 2) := by decide +kernel
theorem d_Md_isNil_15 : decode k_Md_isNil 15 = .ok (.if_icmp .ne (33), 3) := by decide +kernel
theorem d_Md_isNil_18 : decode k_Md_isNil 18 = .ok (.aload_n 0, 1) := by decide +kernel
theorem d_Md_isNil_19 : decode k_Md_isNil 19 = .ok (.getfield 53, 3) := by decide +kernel
theorem d_Md_isNil_22 : decode k_Md_isNil 22 = .ok (.iload_n 1, 1) := by decide +kernel
theorem d_Md_isNil_23 : decode k_Md_isNil 23 = .ok (.iconst 1, 1) := by decide +kernel
theorem d_Md_isNil_24 : decode k_Md_isNil 24 = .ok (.iadd, 1) := by decide +kernel
theorem d_Md_isNil_25 : decode k_Md_isNil 25 = .ok (.caload, 1) := by decide +kernel
theorem d_Md_isNil_26 : decode k_Md_isNil 26 = .ok (.bipush 105, 2) := by decide +kernel
theorem d_Md_isNil_28 : decode k_Md_isNil 28 = .ok (.if_icmp .ne (20), 3) := by decide +kernel
theorem d_Md_isNil_31 : decode k_Md_isNil 31 = .ok (.aload_n 0, 1) := by decide +kernel
theorem d_Md_isNil_32 : decode k_Md_isNil 32 = .ok (.getfield 53, 3) := by decide +kernel
theorem d_Md_isNil_35 : decode k_Md_isNil 35 = .ok (.iload_n 1, 1) := by decide +kernel
theorem d_Md_isNil_36 : decode k_Md_isNil 36 = .ok (.iconst 2, 1) := by decide +kernel
theorem d_Md_isNil_37 : decode k_Md_isNil 37 = .ok (.iadd, 1) := by decide +kernel
theorem d_Md_isNil_38 : decode k_Md_isNil 38 = .ok (.caload, 1) := by decide +kernel
theorem d_Md_isNil_39 : decode k_Md_isNil 39 = .ok (.bipush 108, 2) := by decide +kernel
theorem d_Md_isNil_41 : decode k_Md_isNil 41 = .ok (.if_icmp .ne (7), 3) := by decide +kernel
theorem d_Md_isNil_44 : decode k_Md_isNil 44 = .ok (.iconst 1, 1) := by decide +kernel
theorem d_Md_isNil_45 : decode k_Md_isNil 45 = .ok (.goto (4), 3) := by decide +kernel
theorem d_Md_isNil_48 : decode k_Md_isNil 48 = .ok (.iconst 0, 1) := by decide +kernel
theorem d_Md_isNil_49 : decode k_Md_isNil 49 = .ok (.ireturn, 1) := by decide +kernel
theorem d_Md_symbolOf_0 : decode k_Md_symbolOf 0 = .ok (.iconst 0, 1) := by decide +kernel
theorem d_Md_symbolOf_1 : decode k_Md_symbolOf 1 = .ok (.istore_n 3, 1) := by decide +kernel
theorem d_Md_symbolOf_2 : decode k_Md_symbolOf 2 = .ok (.iload_n 3, 1) := by decide +kernel
theorem d_Md_symbolOf_3 : decode k_Md_symbolOf 3 = .ok (.aload_n 0, 1) := by decide +kernel
theorem d_Md_symbolOf_4 : decode k_Md_symbolOf 4 = .ok (.getfield 84, 3) := by decide +kernel
theorem d_Md_symbolOf_7 : decode k_Md_symbolOf 7 = .ok (.if_icmp .ge (83), 3) := by decide +kernel
theorem d_Md_symbolOf_10 : decode k_Md_symbolOf 10 = .ok (.iconst 1, 1) := by decide +kernel
theorem d_Md_symbolOf_11 : decode k_Md_symbolOf 11 = .ok (.istore 4, 2) := by decide +kernel
theorem d_Md_symbolOf_13 : decode k_Md_symbolOf 13 = .ok (.iconst 0, 1) := by decide +kernel
theorem d_Md_symbolOf_14 : decode k_Md_symbolOf 14 = .ok (.istore 5, 2) := by decide +kernel
theorem d_Md_symbolOf_16 : decode k_Md_symbolOf 16 = .ok (.iload 5, 2) := by decide +kernel
theorem d_Md_symbolOf_18 : decode k_Md_symbolOf 18 = .ok (.bipush 8, 2) := by decide +kernel
theorem d_Md_symbolOf_20 : decode k_Md_symbolOf 20 = .ok (.if_icmp .ge (57), 3) := by decide +kernel
theorem d_Md_symbolOf_23 : decode k_Md_symbolOf 23 = .ok (.iload 4, 2) := by decide +kernel
theorem d_Md_symbolOf_25 : decode k_Md_symbolOf 25 = .ok (.ifCond .eq (52), 3) := by decide +kernel
theorem d_Md_symbolOf_28 : decode k_Md_symbolOf 28 = .ok (.aload_n 0, 1) := by decide +kernel
theorem d_Md_symbolOf_29 : decode k_Md_symbolOf 29 = .ok (.getfield 38, 3) := by decide +kernel
theorem d_Md_symbolOf_32 : decode k_Md_symbolOf 32 = .ok (.bipush 8, 2) := by decide +kernel
theorem d_Md_symbolOf_34 : decode k_Md_symbolOf 34 = .ok (.iload_n 3, 1) := by decide +kernel
theorem d_Md_symbolOf_35 : decode k_Md_symbolOf 35 = .ok (.imul, 1) := by decide +kernel
theorem d_Md_symbolOf_36 : decode k_Md_symbolOf 36 = .ok (.iload 5, 2) := by decide +kernel
theorem d_Md_symbolOf_38 : decode k_Md_symbolOf 38 = .ok (.iadd, 1) := by decide +kernel
theorem d_Md_symbolOf_39 : decode k_Md_symbolOf 39 = .ok (.caload, 1) := by decide +kernel
theorem d_Md_symbolOf_40 : decode k_Md_symbolOf 40 = .ok (.iload_n 1, 1) := by decide +kernel
theorem d_Md_symbolOf_41 : decode k_Md_symbolOf 41 = .ok (.iload 5, 2) := by decide +kernel
theorem d_Md_symbolOf_43 : decode k_Md_symbolOf 43 = .ok (.iadd, 1) := by decide +kernel
theorem d_Md_symbolOf_44 : decode k_Md_symbolOf 44 = .ok (.iload_n 2, 1) := by decide +kernel
theorem d_Md_symbolOf_45 : decode k_Md_symbolOf 45 = .ok (.if_icmp .ge (15), 3) := by decide +kernel
theorem d_Md_symbolOf_48 : decode k_Md_symbolOf 48 = .ok (.aload_n 0, 1) := by decide +kernel
theorem d_Md_symbolOf_49 : decode k_Md_symbolOf 49 = .ok (.getfield 53, 3) := by decide +kernel
theorem d_Md_symbolOf_52 : decode k_Md_symbolOf 52 = .ok (.iload_n 1, 1) := by decide +kernel
theorem d_Md_symbolOf_53 : decode k_Md_symbolOf 53 = .ok (.iload 5, 2) := by decide +kernel
theorem d_Md_symbolOf_55 : decode k_Md_symbolOf 55 = .ok (.iadd, 1) := by decide +kernel
theorem d_Md_symbolOf_56 : decode k_Md_symbolOf 56 = .ok (.caload, 1) := by decide +kernel
theorem d_Md_symbolOf_57 : decode k_Md_symbolOf 57 = .ok (.goto (4), 3) := by decide +kernel
theorem d_Md_symbolOf_60 : decode k_Md_symbolOf 60 = .ok (.iconst 0, 1) := by decide +kernel
theorem d_Md_symbolOf_61 : decode k_Md_symbolOf 61 = .ok (.if_icmp .ne (7), 3) := by decide +kernel
theorem d_Md_symbolOf_64 : decode k_Md_symbolOf 64 = .ok (.iconst 1, 1) := by decide +kernel
theorem d_Md_symbolOf_65 : decode k_Md_symbolOf 65 = .ok (.goto (4), 3) := by decide +kernel
theorem d_Md_symbolOf_68 : decode k_Md_symbolOf 68 = .ok (.iconst 0, 1) := by decide +kernel
theorem d_Md_symbolOf_69 : decode k_Md_symbolOf 69 = .ok (.istore 4, 2) := by decide +kernel
theorem d_Md_symbolOf_71 : decode k_Md_symbolOf 71 = .ok (.iinc 5 1, 3) := by decide +kernel
theorem d_Md_symbolOf_74 : decode k_Md_symbolOf 74 = .ok (.goto (-58), 3) := by decide +kernel
theorem d_Md_symbolOf_77 : decode k_Md_symbolOf 77 = .ok (.iload 4, 2) := by decide +kernel
theorem d_Md_symbolOf_79 : decode k_Md_symbolOf 79 = .ok (.ifCond .eq (5), 3) := by decide +kernel
theorem d_Md_symbolOf_82 : decode k_Md_symbolOf 82 = .ok (.iload_n 3, 1) := by decide +kernel
theorem d_Md_symbolOf_83 : decode k_Md_symbolOf 83 = .ok (.ireturn, 1) := by decide +kernel
theorem d_Md_symbolOf_84 : decode k_Md_symbolOf 84 = .ok (.iinc 3 1, 3) := by decide +kernel
theorem d_Md_symbolOf_87 : decode k_Md_symbolOf 87 = .ok (.goto (-85), 3) := by decide +kernel
theorem d_Md_symbolOf_90 : decode k_Md_symbolOf 90 = .ok (.aload_n 0, 1) := by decide +kernel
theorem d_Md_symbolOf_91 : decode k_Md_symbolOf 91 = .ok (.getfield 84, 3) := by decide +kernel
theorem d_Md_symbolOf_94 : decode k_Md_symbolOf 94 = .ok (.ireturn, 1) := by decide +kernel
theorem d_Md_atom_0 : decode k_Md_atom 0 = .ok (.aload_n 0, 1) := by decide +kernel
theorem d_Md_atom_1 : decode k_Md_atom 1 = .ok (.iload_n 1, 1) := by decide +kernel
theorem d_Md_atom_2 : decode k_Md_atom 2 = .ok (.iload_n 2, 1) := by decide +kernel
theorem d_Md_atom_3 : decode k_Md_atom 3 = .ok (.invokevirtual 125, 3) := by decide +kernel
theorem d_Md_atom_6 : decode k_Md_atom 6 = .ok (.ifCond .eq (12), 3) := by decide +kernel
theorem d_Md_atom_9 : decode k_Md_atom 9 = .ok (.aload_n 0, 1) := by decide +kernel
theorem d_Md_atom_10 : decode k_Md_atom 10 = .ok (.iload_n 1, 1) := by decide +kernel
theorem d_Md_atom_11 : decode k_Md_atom 11 = .ok (.iload_n 2, 1) := by decide +kernel
theorem d_Md_atom_12 : decode k_Md_atom 12 = .ok (.invokevirtual 129, 3) := by decide +kernel
theorem d_Md_atom_15 : decode k_Md_atom 15 = .ok (.goto (26), 3) := by decide +kernel
theorem d_Md_atom_18 : decode k_Md_atom 18 = .ok (.aload_n 0, 1) := by decide +kernel
theorem d_Md_atom_19 : decode k_Md_atom 19 = .ok (.iload_n 1, 1) := by decide +kernel
theorem d_Md_atom_20 : decode k_Md_atom 20 = .ok (.iload_n 2, 1) := by decide +kernel
theorem d_Md_atom_21 : decode k_Md_atom 21 = .ok (.invokevirtual 133, 3) := by decide +kernel
theorem d_Md_atom_24 : decode k_Md_atom 24 = .ok (.ifCond .eq (8), 3) := by decide +kernel
theorem d_Md_atom_27 : decode k_Md_atom 27 = .ok (.ldc 45, 2) := by decide +kernel
theorem d_Md_atom_29 : decode k_Md_atom 29 = .ok (.goto (12), 3) := by decide +kernel
theorem d_Md_atom_32 : decode k_Md_atom 32 = .ok (.ldc 90, 2) := by decide +kernel
theorem d_Md_atom_34 : decode k_Md_atom 34 = .ok (.aload_n 0, 1) := by decide +kernel
theorem d_Md_atom_35 : decode k_Md_atom 35 = .ok (.iload_n 1, 1) := by decide +kernel
theorem d_Md_atom_36 : decode k_Md_atom 36 = .ok (.iload_n 2, 1) := by decide +kernel
theorem d_Md_atom_37 : decode k_Md_atom 37 = .ok (.invokevirtual 136, 3) := by decide +kernel
theorem d_Md_atom_40 : decode k_Md_atom 40 = .ok (.iadd, 1) := by decide +kernel
theorem d_Md_atom_41 : decode k_Md_atom 41 = .ok (.ireturn, 1) := by decide +kernel
theorem d_Md_meet_0 : decode k_Md_meet 0 = .ok (.aload_n 0, 1) := by decide +kernel
theorem d_Md_meet_1 : decode k_Md_meet 1 = .ok (.iload_n 1, 1) := by decide +kernel
theorem d_Md_meet_2 : decode k_Md_meet 2 = .ok (.iload_n 2, 1) := by decide +kernel
theorem d_Md_meet_3 : decode k_Md_meet 3 = .ok (.invokevirtual 125, 3) := by decide +kernel
theorem d_Md_meet_6 : decode k_Md_meet 6 = .ok (.ifCond .ne (25), 3) := by decide +kernel
theorem d_Md_meet_9 : decode k_Md_meet 9 = .ok (.aload_n 0, 1) := by decide +kernel
theorem d_Md_meet_10 : decode k_Md_meet 10 = .ok (.iload_n 1, 1) := by decide +kernel
theorem d_Md_meet_11 : decode k_Md_meet 11 = .ok (.iload_n 2, 1) := by decide +kernel
theorem d_Md_meet_12 : decode k_Md_meet 12 = .ok (.invokevirtual 133, 3) := by decide +kernel
theorem d_Md_meet_15 : decode k_Md_meet 15 = .ok (.ifCond .ne (16), 3) := by decide +kernel
theorem d_Md_meet_18 : decode k_Md_meet 18 = .ok (.aload_n 0, 1) := by decide +kernel
theorem d_Md_meet_19 : decode k_Md_meet 19 = .ok (.iload_n 1, 1) := by decide +kernel
theorem d_Md_meet_20 : decode k_Md_meet 20 = .ok (.iload_n 2, 1) := by decide +kernel
theorem d_Md_meet_21 : decode k_Md_meet 21 = .ok (.invokevirtual 136, 3) := by decide +kernel
theorem d_Md_meet_24 : decode k_Md_meet 24 = .ok (.aload_n 0, 1) := by decide +kernel
theorem d_Md_meet_25 : decode k_Md_meet 25 = .ok (.getfield 84, 3) := by decide +kernel
theorem d_Md_meet_28 : decode k_Md_meet 28 = .ok (.if_icmp .ge (5), 3) := by decide +kernel
theorem d_Md_meet_31 : decode k_Md_meet 31 = .ok (.iconst 1, 1) := by decide +kernel
theorem d_Md_meet_32 : decode k_Md_meet 32 = .ok (.ireturn, 1) := by decide +kernel
theorem d_Md_meet_33 : decode k_Md_meet 33 = .ok (.aload_n 0, 1) := by decide +kernel
theorem d_Md_meet_34 : decode k_Md_meet 34 = .ok (.getfield 84, 3) := by decide +kernel
theorem d_Md_meet_37 : decode k_Md_meet 37 = .ok (.bipush 40, 2) := by decide +kernel
theorem d_Md_meet_39 : decode k_Md_meet 39 = .ok (.if_icmp .ne (5), 3) := by decide +kernel
theorem d_Md_meet_42 : decode k_Md_meet 42 = .ok (.iconst 0, 1) := by decide +kernel
theorem d_Md_meet_43 : decode k_Md_meet 43 = .ok (.ireturn, 1) := by decide +kernel
theorem d_Md_meet_44 : decode k_Md_meet 44 = .ok (.iconst 0, 1) := by decide +kernel
theorem d_Md_meet_45 : decode k_Md_meet 45 = .ok (.istore_n 3, 1) := by decide +kernel
theorem d_Md_meet_46 : decode k_Md_meet 46 = .ok (.iload_n 3, 1) := by decide +kernel
theorem d_Md_meet_47 : decode k_Md_meet 47 = .ok (.bipush 8, 2) := by decide +kernel
theorem d_Md_meet_49 : decode k_Md_meet 49 = .ok (.if_icmp .ge (42), 3) := by decide +kernel
theorem d_Md_meet_52 : decode k_Md_meet 52 = .ok (.aload_n 0, 1) := by decide +kernel
theorem d_Md_meet_53 : decode k_Md_meet 53 = .ok (.getfield 38, 3) := by decide +kernel
theorem d_Md_meet_56 : decode k_Md_meet 56 = .ok (.bipush 8, 2) := by decide +kernel
theorem d_Md_meet_58 : decode k_Md_meet 58 = .ok (.aload_n 0, 1) := by decide +kernel
theorem d_Md_meet_59 : decode k_Md_meet 59 = .ok (.getfield 84, 3) := by decide +kernel
theorem d_Md_meet_62 : decode k_Md_meet 62 = .ok (.imul, 1) := by decide +kernel
theorem d_Md_meet_63 : decode k_Md_meet 63 = .ok (.iload_n 3, 1) := by decide +kernel
theorem d_Md_meet_64 : decode k_Md_meet 64 = .ok (.iadd, 1) := by decide +kernel
theorem d_Md_meet_65 : decode k_Md_meet 65 = .ok (.iload_n 1, 1) := by decide +kernel
theorem d_Md_meet_66 : decode k_Md_meet 66 = .ok (.iload_n 3, 1) := by decide +kernel
theorem d_Md_meet_67 : decode k_Md_meet 67 = .ok (.iadd, 1) := by decide +kernel
theorem d_Md_meet_68 : decode k_Md_meet 68 = .ok (.iload_n 2, 1) := by decide +kernel
theorem d_Md_meet_69 : decode k_Md_meet 69 = .ok (.if_icmp .ge (14), 3) := by decide +kernel
theorem d_Md_meet_72 : decode k_Md_meet 72 = .ok (.aload_n 0, 1) := by decide +kernel
theorem d_Md_meet_73 : decode k_Md_meet 73 = .ok (.getfield 53, 3) := by decide +kernel
theorem d_Md_meet_76 : decode k_Md_meet 76 = .ok (.iload_n 1, 1) := by decide +kernel
theorem d_Md_meet_77 : decode k_Md_meet 77 = .ok (.iload_n 3, 1) := by decide +kernel
theorem d_Md_meet_78 : decode k_Md_meet 78 = .ok (.iadd, 1) := by decide +kernel
theorem d_Md_meet_79 : decode k_Md_meet 79 = .ok (.caload, 1) := by decide +kernel
theorem d_Md_meet_80 : decode k_Md_meet 80 = .ok (.goto (4), 3) := by decide +kernel
theorem d_Md_meet_83 : decode k_Md_meet 83 = .ok (.iconst 0, 1) := by decide +kernel
theorem d_Md_meet_84 : decode k_Md_meet 84 = .ok (.castore, 1) := by decide +kernel
theorem d_Md_meet_85 : decode k_Md_meet 85 = .ok (.iinc 3 1, 3) := by decide +kernel
theorem d_Md_meet_88 : decode k_Md_meet 88 = .ok (.goto (-42), 3) := by decide +kernel
theorem d_Md_meet_91 : decode k_Md_meet 91 = .ok (.aload_n 0, 1) := by decide +kernel
theorem d_Md_meet_92 : decode k_Md_meet 92 = .ok (.dup, 1) := by decide +kernel
theorem d_Md_meet_93 : decode k_Md_meet 93 = .ok (.getfield 84, 3) := by decide +kernel
theorem d_Md_meet_96 : decode k_Md_meet 96 = .ok (.iconst 1, 1) := by decide +kernel
theorem d_Md_meet_97 : decode k_Md_meet 97 = .ok (.iadd, 1) := by decide +kernel
theorem d_Md_meet_98 : decode k_Md_meet 98 = .ok (.putfield 84, 3) := by decide +kernel
theorem d_Md_meet_101 : decode k_Md_meet 101 = .ok (.iconst 1, 1) := by decide +kernel
theorem d_Md_meet_102 : decode k_Md_meet 102 = .ok (.ireturn, 1) := by decide +kernel
theorem d_Md_lookOver_0 : decode k_Md_lookOver 0 = .ok (.iconst 0, 1) := by decide +kernel
theorem d_Md_lookOver_1 : decode k_Md_lookOver 1 = .ok (.istore_n 1, 1) := by decide +kernel
theorem d_Md_lookOver_2 : decode k_Md_lookOver 2 = .ok (.iconst 0, 1) := by decide +kernel
theorem d_Md_lookOver_3 : decode k_Md_lookOver 3 = .ok (.istore_n 2, 1) := by decide +kernel
theorem d_Md_lookOver_4 : decode k_Md_lookOver 4 = .ok (.aload_n 0, 1) := by decide +kernel
theorem d_Md_lookOver_5 : decode k_Md_lookOver 5 = .ok (.iconst 0, 1) := by decide +kernel
theorem d_Md_lookOver_6 : decode k_Md_lookOver 6 = .ok (.putfield 139, 3) := by decide +kernel
theorem d_Md_lookOver_9 : decode k_Md_lookOver 9 = .ok (.aload_n 0, 1) := by decide +kernel
theorem d_Md_lookOver_10 : decode k_Md_lookOver 10 = .ok (.iconst 0, 1) := by decide +kernel
theorem d_Md_lookOver_11 : decode k_Md_lookOver 11 = .ok (.invokevirtual 142, 3) := by decide +kernel
theorem d_Md_lookOver_14 : decode k_Md_lookOver 14 = .ok (.istore_n 3, 1) := by decide +kernel
theorem d_Md_lookOver_15 : decode k_Md_lookOver 15 = .ok (.iload_n 3, 1) := by decide +kernel
theorem d_Md_lookOver_16 : decode k_Md_lookOver 16 = .ok (.aload_n 0, 1) := by decide +kernel
theorem d_Md_lookOver_17 : decode k_Md_lookOver 17 = .ok (.getfield 111, 3) := by decide +kernel
theorem d_Md_lookOver_20 : decode k_Md_lookOver 20 = .ok (.if_icmp .ge (179), 3) := by decide +kernel
theorem d_Md_lookOver_23 : decode k_Md_lookOver 23 = .ok (.aload_n 0, 1) := by decide +kernel
theorem d_Md_lookOver_24 : decode k_Md_lookOver 24 = .ok (.getfield 53, 3) := by decide +kernel
theorem d_Md_lookOver_27 : decode k_Md_lookOver 27 = .ok (.iload_n 3, 1) := by decide +kernel
theorem d_Md_lookOver_28 : decode k_Md_lookOver 28 = .ok (.caload, 1) := by decide +kernel
theorem d_Md_lookOver_29 : decode k_Md_lookOver 29 = .ok (.istore 4, 2) := by decide +kernel
theorem d_Md_lookOver_31 : decode k_Md_lookOver 31 = .ok (.aload_n 0, 1) := by decide +kernel
theorem d_Md_lookOver_32 : decode k_Md_lookOver 32 = .ok (.aload_n 0, 1) := by decide +kernel
theorem d_Md_lookOver_33 : decode k_Md_lookOver 33 = .ok (.iload_n 3, 1) := by decide +kernel
theorem d_Md_lookOver_34 : decode k_Md_lookOver 34 = .ok (.invokevirtual 145, 3) := by decide +kernel
theorem d_Md_lookOver_37 : decode k_Md_lookOver 37 = .ok (.putfield 148, 3) := by decide +kernel
theorem d_Md_lookOver_40 : decode k_Md_lookOver 40 = .ok (.iload 4, 2) := by decide +kernel
theorem d_Md_lookOver_42 : decode k_Md_lookOver 42 = .ok (.bipush 41, 2) := by decide +kernel
theorem d_Md_lookOver_44 : decode k_Md_lookOver 44 = .ok (.if_icmp .ne (11), 3) := by decide +kernel
theorem d_Md_lookOver_47 : decode k_Md_lookOver 47 = .ok (.iload_n 1, 1) := by decide +kernel
theorem d_Md_lookOver_48 : decode k_Md_lookOver 48 = .ok (.ifCond .eq (31), 3) := by decide +kernel
theorem d_Md_lookOver_51 : decode k_Md_lookOver 51 = .ok (.iload_n 2, 1) := by decide +kernel
theorem d_Md_lookOver_52 : decode k_Md_lookOver 52 = .ok (.ifCond .ne (27), 3) := by decide +kernel
theorem d_Md_lookOver_55 : decode k_Md_lookOver 55 = .ok (.iload 4, 2) := by decide +kernel
theorem d_Md_lookOver_57 : decode k_Md_lookOver 57 = .ok (.bipush 39, 2) := by decide +kernel
theorem d_Md_lookOver_59 : decode k_Md_lookOver 59 = .ok (.if_icmp .ne (7), 3) := by decide +kernel
theorem d_Md_lookOver_62 : decode k_Md_lookOver 62 = .ok (.iload_n 2, 1) := by decide +kernel
theorem d_Md_lookOver_63 : decode k_Md_lookOver 63 = .ok (.ifCond .ne (16), 3) := by decide +kernel
theorem d_Md_lookOver_66 : decode k_Md_lookOver 66 = .ok (.iload 4, 2) := by decide +kernel
theorem d_Md_lookOver_68 : decode k_Md_lookOver 68 = .ok (.bipush 40, 2) := by decide +kernel
theorem d_Md_lookOver_70 : decode k_Md_lookOver 70 = .ok (.if_icmp .ne (11), 3) := by decide +kernel
theorem d_Md_lookOver_73 : decode k_Md_lookOver 73 = .ok (.iload_n 1, 1) := by decide +kernel
theorem d_Md_lookOver_74 : decode k_Md_lookOver 74 = .ok (.bipush 10, 2) := by decide +kernel
theorem d_Md_lookOver_76 : decode k_Md_lookOver 76 = .ok (.if_icmp .ne (5), 3) := by decide +kernel
theorem d_Md_lookOver_79 : decode k_Md_lookOver 79 = .ok (.iconst (-1), 1) := by decide +kernel
theorem d_Md_lookOver_80 : decode k_Md_lookOver 80 = .ok (.ireturn, 1) := by decide +kernel
theorem d_Md_lookOver_81 : decode k_Md_lookOver 81 = .ok (.iload 4, 2) := by decide +kernel
theorem d_Md_lookOver_83 : decode k_Md_lookOver 83 = .ok (.invokestatic 118, 3) := by decide +kernel
theorem d_Md_lookOver_86 : decode k_Md_lookOver 86 = .ok (.ifCond .ne (16), 3) := by decide +kernel
theorem d_Md_lookOver_89 : decode k_Md_lookOver 89 = .ok (.aload_n 0, 1) := by decide +kernel
theorem d_Md_lookOver_90 : decode k_Md_lookOver 90 = .ok (.getfield 148, 3) := by decide +kernel
theorem d_Md_lookOver_93 : decode k_Md_lookOver 93 = .ok (.aload_n 0, 1) := by decide +kernel
theorem d_Md_lookOver_94 : decode k_Md_lookOver 94 = .ok (.getfield 111, 3) := by decide +kernel
theorem d_Md_lookOver_97 : decode k_Md_lookOver 97 = .ok (.if_icmp .ne (5), 3) := by decide +kernel
theorem d_Md_lookOver_100 : decode k_Md_lookOver 100 = .ok (.iconst 0, 1) := by decide +kernel
theorem d_Md_lookOver_101 : decode k_Md_lookOver 101 = .ok (.ireturn, 1) := by decide +kernel
theorem d_Md_lookOver_102 : decode k_Md_lookOver 102 = .ok (.iload 4, 2) := by decide +kernel
theorem d_Md_lookOver_104 : decode k_Md_lookOver 104 = .ok (.bipush 39, 2) := by decide +kernel
theorem d_Md_lookOver_106 : decode k_Md_lookOver 106 = .ok (.if_icmp .ne (13), 3) := by decide +kernel
theorem d_Md_lookOver_109 : decode k_Md_lookOver 109 = .ok (.aload_n 0, 1) := by decide +kernel
theorem d_Md_lookOver_110 : decode k_Md_lookOver 110 = .ok (.dup, 1) := by decide +kernel
theorem d_Md_lookOver_111 : decode k_Md_lookOver 111 = .ok (.getfield 139, 3) := by decide +kernel
theorem d_Md_lookOver_114 : decode k_Md_lookOver 114 = .ok (.iconst 4, 1) := by decide +kernel
theorem d_Md_lookOver_115 : decode k_Md_lookOver 115 = .ok (.iadd, 1) := by decide +kernel
theorem d_Md_lookOver_116 : decode k_Md_lookOver 116 = .ok (.putfield 139, 3) := by decide +kernel
theorem d_Md_lookOver_119 : decode k_Md_lookOver 119 = .ok (.iload 4, 2) := by decide +kernel
theorem d_Md_lookOver_121 : decode k_Md_lookOver 121 = .ok (.bipush 41, 2) := by decide +kernel
theorem d_Md_lookOver_123 : decode k_Md_lookOver 123 = .ok (.if_icmp .eq (21), 3) := by decide +kernel
theorem d_Md_lookOver_126 : decode k_Md_lookOver 126 = .ok (.iload_n 2, 1) := by decide +kernel
theorem d_Md_lookOver_127 : decode k_Md_lookOver 127 = .ok (.ifCond .ne (17), 3) := by decide +kernel
theorem d_Md_lookOver_130 : decode k_Md_lookOver 130 = .ok (.iload_n 1, 1) := by decide +kernel
theorem d_Md_lookOver_131 : decode k_Md_lookOver 131 = .ok (.ifCond .le (13), 3) := by decide +kernel
theorem d_Md_lookOver_134 : decode k_Md_lookOver 134 = .ok (.aload_n 0, 1) := by decide +kernel
theorem d_Md_lookOver_135 : decode k_Md_lookOver 135 = .ok (.dup, 1) := by decide +kernel
theorem d_Md_lookOver_136 : decode k_Md_lookOver 136 = .ok (.getfield 139, 3) := by decide +kernel
theorem d_Md_lookOver_139 : decode k_Md_lookOver 139 = .ok (.iconst 2, 1) := by decide +kernel
theorem d_Md_lookOver_140 : decode k_Md_lookOver 140 = .ok (.iadd, 1) := by decide +kernel
theorem d_Md_lookOver_141 : decode k_Md_lookOver 141 = .ok (.putfield 139, 3) := by decide +kernel
theorem d_Md_lookOver_144 : decode k_Md_lookOver 144 = .ok (.iload 4, 2) := by decide +kernel
theorem d_Md_lookOver_146 : decode k_Md_lookOver 146 = .ok (.bipush 40, 2) := by decide +kernel
theorem d_Md_lookOver_148 : decode k_Md_lookOver 148 = .ok (.if_icmp .ne (6), 3) := by decide +kernel
theorem d_Md_lookOver_151 : decode k_Md_lookOver 151 = .ok (.iinc 1 1, 3) := by decide +kernel
theorem d_Md_lookOver_154 : decode k_Md_lookOver 154 = .ok (.iload 4, 2) := by decide +kernel
theorem d_Md_lookOver_156 : decode k_Md_lookOver 156 = .ok (.bipush 41, 2) := by decide +kernel
theorem d_Md_lookOver_158 : decode k_Md_lookOver 158 = .ok (.if_icmp .ne (6), 3) := by decide +kernel
theorem d_Md_lookOver_161 : decode k_Md_lookOver 161 = .ok (.iinc 1 (-1), 3) := by decide +kernel
theorem d_Md_lookOver_164 : decode k_Md_lookOver 164 = .ok (.iload 4, 2) := by decide +kernel
theorem d_Md_lookOver_166 : decode k_Md_lookOver 166 = .ok (.bipush 39, 2) := by decide +kernel
theorem d_Md_lookOver_168 : decode k_Md_lookOver 168 = .ok (.if_icmp .ne (7), 3) := by decide +kernel
theorem d_Md_lookOver_171 : decode k_Md_lookOver 171 = .ok (.iconst 1, 1) := by decide +kernel
theorem d_Md_lookOver_172 : decode k_Md_lookOver 172 = .ok (.goto (4), 3) := by decide +kernel
theorem d_Md_lookOver_175 : decode k_Md_lookOver 175 = .ok (.iconst 0, 1) := by decide +kernel
theorem d_Md_lookOver_176 : decode k_Md_lookOver 176 = .ok (.istore_n 2, 1) := by decide +kernel
theorem d_Md_lookOver_177 : decode k_Md_lookOver 177 = .ok (.iload_n 1, 1) := by decide +kernel
theorem d_Md_lookOver_178 : decode k_Md_lookOver 178 = .ok (.ifCond .ne (9), 3) := by decide +kernel
theorem d_Md_lookOver_181 : decode k_Md_lookOver 181 = .ok (.iload_n 2, 1) := by decide +kernel
theorem d_Md_lookOver_182 : decode k_Md_lookOver 182 = .ok (.ifCond .ne (5), 3) := by decide +kernel
theorem d_Md_lookOver_185 : decode k_Md_lookOver 185 = .ok (.iconst 1, 1) := by decide +kernel
theorem d_Md_lookOver_186 : decode k_Md_lookOver 186 = .ok (.ireturn, 1) := by decide +kernel
theorem d_Md_lookOver_187 : decode k_Md_lookOver 187 = .ok (.aload_n 0, 1) := by decide +kernel
theorem d_Md_lookOver_188 : decode k_Md_lookOver 188 = .ok (.aload_n 0, 1) := by decide +kernel
theorem d_Md_lookOver_189 : decode k_Md_lookOver 189 = .ok (.getfield 148, 3) := by decide +kernel
theorem d_Md_lookOver_192 : decode k_Md_lookOver 192 = .ok (.invokevirtual 142, 3) := by decide +kernel
theorem d_Md_lookOver_195 : decode k_Md_lookOver 195 = .ok (.istore_n 3, 1) := by decide +kernel
theorem d_Md_lookOver_196 : decode k_Md_lookOver 196 = .ok (.goto (-181), 3) := by decide +kernel
theorem d_Md_lookOver_199 : decode k_Md_lookOver 199 = .ok (.iconst 0, 1) := by decide +kernel
theorem d_Md_lookOver_200 : decode k_Md_lookOver 200 = .ok (.ireturn, 1) := by decide +kernel
theorem d_Md_arrived_0 : decode k_Md_arrived 0 = .ok (.aload_n 0, 1) := by decide +kernel
theorem d_Md_arrived_1 : decode k_Md_arrived 1 = .ok (.getfield 65, 3) := by decide +kernel
theorem d_Md_arrived_4 : decode k_Md_arrived 4 = .ok (.iload_n 1, 1) := by decide +kernel
theorem d_Md_arrived_5 : decode k_Md_arrived 5 = .ok (.baload, 1) := by decide +kernel
theorem d_Md_arrived_6 : decode k_Md_arrived 6 = .ok (.ifCond .eq (19), 3) := by decide +kernel
theorem d_Md_arrived_9 : decode k_Md_arrived 9 = .ok (.aload_n 0, 1) := by decide +kernel
theorem d_Md_arrived_10 : decode k_Md_arrived 10 = .ok (.ldc 151, 2) := by decide +kernel
theorem d_Md_arrived_12 : decode k_Md_arrived 12 = .ok (.aload_n 0, 1) := by decide +kernel
theorem d_Md_arrived_13 : decode k_Md_arrived 13 = .ok (.iload_n 2, 1) := by decide +kernel
theorem d_Md_arrived_14 : decode k_Md_arrived 14 = .ok (.ldc 45, 2) := by decide +kernel
theorem d_Md_arrived_16 : decode k_Md_arrived 16 = .ok (.invokevirtual 152, 3) := by decide +kernel
theorem d_Md_arrived_19 : decode k_Md_arrived 19 = .ok (.invokevirtual 152, 3) := by decide +kernel
theorem d_Md_arrived_22 : decode k_Md_arrived 22 = .ok (.goto (4), 3) := by decide +kernel
theorem d_Md_arrived_25 : decode k_Md_arrived 25 = .ok (.iload_n 2, 1) := by decide +kernel
theorem d_Md_arrived_26 : decode k_Md_arrived 26 = .ok (.istore_n 3, 1) := by decide +kernel
theorem d_Md_arrived_27 : decode k_Md_arrived 27 = .ok (.aload_n 0, 1) := by decide +kernel
theorem d_Md_arrived_28 : decode k_Md_arrived 28 = .ok (.getfield 65, 3) := by decide +kernel
theorem d_Md_arrived_31 : decode k_Md_arrived 31 = .ok (.iload_n 1, 1) := by decide +kernel
theorem d_Md_arrived_32 : decode k_Md_arrived 32 = .ok (.iconst 0, 1) := by decide +kernel
theorem d_Md_arrived_33 : decode k_Md_arrived 33 = .ok (.bastore, 1) := by decide +kernel
theorem d_Md_arrived_34 : decode k_Md_arrived 34 = .ok (.iload_n 1, 1) := by decide +kernel
theorem d_Md_arrived_35 : decode k_Md_arrived 35 = .ok (.ifCond .ne (9), 3) := by decide +kernel
theorem d_Md_arrived_38 : decode k_Md_arrived 38 = .ok (.aload_n 0, 1) := by decide +kernel
theorem d_Md_arrived_39 : decode k_Md_arrived 39 = .ok (.iload_n 3, 1) := by decide +kernel
theorem d_Md_arrived_40 : decode k_Md_arrived 40 = .ok (.putfield 46, 3) := by decide +kernel
theorem d_Md_arrived_43 : decode k_Md_arrived 43 = .ok (.return_, 1) := by decide +kernel
theorem d_Md_arrived_44 : decode k_Md_arrived 44 = .ok (.aload_n 0, 1) := by decide +kernel
theorem d_Md_arrived_45 : decode k_Md_arrived 45 = .ok (.iload_n 3, 1) := by decide +kernel
theorem d_Md_arrived_46 : decode k_Md_arrived 46 = .ok (.ldc 45, 2) := by decide +kernel
theorem d_Md_arrived_48 : decode k_Md_arrived 48 = .ok (.invokevirtual 152, 3) := by decide +kernel
theorem d_Md_arrived_51 : decode k_Md_arrived 51 = .ok (.istore 4, 2) := by decide +kernel
theorem d_Md_arrived_53 : decode k_Md_arrived 53 = .ok (.aload_n 0, 1) := by decide +kernel
theorem d_Md_arrived_54 : decode k_Md_arrived 54 = .ok (.getfield 59, 3) := by decide +kernel
theorem d_Md_arrived_57 : decode k_Md_arrived 57 = .ok (.iload_n 1, 1) := by decide +kernel
theorem d_Md_arrived_58 : decode k_Md_arrived 58 = .ok (.iaload, 1) := by decide +kernel
theorem d_Md_arrived_59 : decode k_Md_arrived 59 = .ok (.ldc 45, 2) := by decide +kernel
theorem d_Md_arrived_61 : decode k_Md_arrived 61 = .ok (.if_icmp .ne (14), 3) := by decide +kernel
theorem d_Md_arrived_64 : decode k_Md_arrived 64 = .ok (.aload_n 0, 1) := by decide +kernel
theorem d_Md_arrived_65 : decode k_Md_arrived 65 = .ok (.getfield 59, 3) := by decide +kernel
theorem d_Md_arrived_68 : decode k_Md_arrived 68 = .ok (.iload_n 1, 1) := by decide +kernel
theorem d_Md_arrived_69 : decode k_Md_arrived 69 = .ok (.iload 4, 2) := by decide +kernel
theorem d_Md_arrived_71 : decode k_Md_arrived 71 = .ok (.iastore, 1) := by decide +kernel
theorem d_Md_arrived_72 : decode k_Md_arrived 72 = .ok (.goto (19), 3) := by decide +kernel
theorem d_Md_arrived_75 : decode k_Md_arrived 75 = .ok (.aload_n 0, 1) := by decide +kernel
theorem d_Md_arrived_76 : decode k_Md_arrived 76 = .ok (.getfield 16, 3) := by decide +kernel
theorem d_Md_arrived_79 : decode k_Md_arrived 79 = .ok (.aload_n 0, 1) := by decide +kernel
theorem d_Md_arrived_80 : decode k_Md_arrived 80 = .ok (.getfield 62, 3) := by decide +kernel
theorem d_Md_arrived_83 : decode k_Md_arrived 83 = .ok (.iload_n 1, 1) := by decide +kernel
theorem d_Md_arrived_84 : decode k_Md_arrived 84 = .ok (.iaload, 1) := by decide +kernel
theorem d_Md_arrived_85 : decode k_Md_arrived 85 = .ok (.ldc 91, 2) := by decide +kernel
theorem d_Md_arrived_87 : decode k_Md_arrived 87 = .ok (.isub, 1) := by decide +kernel
theorem d_Md_arrived_88 : decode k_Md_arrived 88 = .ok (.iload 4, 2) := by decide +kernel
theorem d_Md_arrived_90 : decode k_Md_arrived 90 = .ok (.iastore, 1) := by decide +kernel
theorem d_Md_arrived_91 : decode k_Md_arrived 91 = .ok (.aload_n 0, 1) := by decide +kernel
theorem d_Md_arrived_92 : decode k_Md_arrived 92 = .ok (.getfield 62, 3) := by decide +kernel
theorem d_Md_arrived_95 : decode k_Md_arrived 95 = .ok (.iload_n 1, 1) := by decide +kernel
theorem d_Md_arrived_96 : decode k_Md_arrived 96 = .ok (.iload 4, 2) := by decide +kernel
theorem d_Md_arrived_98 : decode k_Md_arrived 98 = .ok (.iastore, 1) := by decide +kernel
theorem d_Md_arrived_99 : decode k_Md_arrived 99 = .ok (.return_, 1) := by decide +kernel
theorem d_Md_read_0 : decode k_Md_read 0 = .ok (.iconst 0, 1) := by decide +kernel
theorem d_Md_read_1 : decode k_Md_read 1 = .ok (.istore_n 1, 1) := by decide +kernel
theorem d_Md_read_2 : decode k_Md_read 2 = .ok (.aload_n 0, 1) := by decide +kernel
theorem d_Md_read_3 : decode k_Md_read 3 = .ok (.getfield 65, 3) := by decide +kernel
theorem d_Md_read_6 : decode k_Md_read 6 = .ok (.iconst 0, 1) := by decide +kernel
theorem d_Md_read_7 : decode k_Md_read 7 = .ok (.iconst 0, 1) := by decide +kernel
theorem d_Md_read_8 : decode k_Md_read 8 = .ok (.bastore, 1) := by decide +kernel
theorem d_Md_read_9 : decode k_Md_read 9 = .ok (.aload_n 0, 1) := by decide +kernel
theorem d_Md_read_10 : decode k_Md_read 10 = .ok (.iconst 0, 1) := by decide +kernel
theorem d_Md_read_11 : decode k_Md_read 11 = .ok (.invokevirtual 142, 3) := by decide +kernel
theorem d_Md_read_14 : decode k_Md_read 14 = .ok (.istore_n 2, 1) := by decide +kernel
theorem d_Md_read_15 : decode k_Md_read 15 = .ok (.iload_n 2, 1) := by decide +kernel
theorem d_Md_read_16 : decode k_Md_read 16 = .ok (.aload_n 0, 1) := by decide +kernel
theorem d_Md_read_17 : decode k_Md_read 17 = .ok (.getfield 148, 3) := by decide +kernel
theorem d_Md_read_20 : decode k_Md_read 20 = .ok (.if_icmp .ge (114), 3) := by decide +kernel
theorem d_Md_read_23 : decode k_Md_read 23 = .ok (.aload_n 0, 1) := by decide +kernel
theorem d_Md_read_24 : decode k_Md_read 24 = .ok (.getfield 53, 3) := by decide +kernel
theorem d_Md_read_27 : decode k_Md_read 27 = .ok (.iload_n 2, 1) := by decide +kernel
theorem d_Md_read_28 : decode k_Md_read 28 = .ok (.caload, 1) := by decide +kernel
theorem d_Md_read_29 : decode k_Md_read 29 = .ok (.istore_n 3, 1) := by decide +kernel
theorem d_Md_read_30 : decode k_Md_read 30 = .ok (.iload_n 3, 1) := by decide +kernel
theorem d_Md_read_31 : decode k_Md_read 31 = .ok (.bipush 39, 2) := by decide +kernel
theorem d_Md_read_33 : decode k_Md_read 33 = .ok (.if_icmp .ne (13), 3) := by decide +kernel
theorem d_Md_read_36 : decode k_Md_read 36 = .ok (.aload_n 0, 1) := by decide +kernel
theorem d_Md_read_37 : decode k_Md_read 37 = .ok (.getfield 65, 3) := by decide +kernel
theorem d_Md_read_40 : decode k_Md_read 40 = .ok (.iload_n 1, 1) := by decide +kernel
theorem d_Md_read_41 : decode k_Md_read 41 = .ok (.iconst 1, 1) := by decide +kernel
theorem d_Md_read_42 : decode k_Md_read 42 = .ok (.bastore, 1) := by decide +kernel
theorem d_Md_read_43 : decode k_Md_read 43 = .ok (.goto (78), 3) := by decide +kernel
theorem d_Md_read_46 : decode k_Md_read 46 = .ok (.iload_n 3, 1) := by decide +kernel
theorem d_Md_read_47 : decode k_Md_read 47 = .ok (.bipush 40, 2) := by decide +kernel
theorem d_Md_read_49 : decode k_Md_read 49 = .ok (.if_icmp .ne (32), 3) := by decide +kernel
theorem d_Md_read_52 : decode k_Md_read 52 = .ok (.iinc 1 1, 3) := by decide +kernel
theorem d_Md_read_55 : decode k_Md_read 55 = .ok (.aload_n 0, 1) := by decide +kernel
theorem d_Md_read_56 : decode k_Md_read 56 = .ok (.getfield 65, 3) := by decide +kernel
theorem d_Md_read_59 : decode k_Md_read 59 = .ok (.iload_n 1, 1) := by decide +kernel
theorem d_Md_read_60 : decode k_Md_read 60 = .ok (.iconst 0, 1) := by decide +kernel
theorem d_Md_read_61 : decode k_Md_read 61 = .ok (.bastore, 1) := by decide +kernel
theorem d_Md_read_62 : decode k_Md_read 62 = .ok (.aload_n 0, 1) := by decide +kernel
theorem d_Md_read_63 : decode k_Md_read 63 = .ok (.getfield 59, 3) := by decide +kernel
theorem d_Md_read_66 : decode k_Md_read 66 = .ok (.iload_n 1, 1) := by decide +kernel
theorem d_Md_read_67 : decode k_Md_read 67 = .ok (.ldc 45, 2) := by decide +kernel
theorem d_Md_read_69 : decode k_Md_read 69 = .ok (.iastore, 1) := by decide +kernel
theorem d_Md_read_70 : decode k_Md_read 70 = .ok (.aload_n 0, 1) := by decide +kernel
theorem d_Md_read_71 : decode k_Md_read 71 = .ok (.getfield 62, 3) := by decide +kernel
theorem d_Md_read_74 : decode k_Md_read 74 = .ok (.iload_n 1, 1) := by decide +kernel
theorem d_Md_read_75 : decode k_Md_read 75 = .ok (.ldc 45, 2) := by decide +kernel
theorem d_Md_read_77 : decode k_Md_read 77 = .ok (.iastore, 1) := by decide +kernel
theorem d_Md_read_78 : decode k_Md_read 78 = .ok (.goto (43), 3) := by decide +kernel
theorem d_Md_read_81 : decode k_Md_read 81 = .ok (.iload_n 3, 1) := by decide +kernel
theorem d_Md_read_82 : decode k_Md_read 82 = .ok (.bipush 41, 2) := by decide +kernel
theorem d_Md_read_84 : decode k_Md_read 84 = .ok (.if_icmp .ne (22), 3) := by decide +kernel
theorem d_Md_read_87 : decode k_Md_read 87 = .ok (.iinc 1 (-1), 3) := by decide +kernel
theorem d_Md_read_90 : decode k_Md_read 90 = .ok (.aload_n 0, 1) := by decide +kernel
theorem d_Md_read_91 : decode k_Md_read 91 = .ok (.iload_n 1, 1) := by decide +kernel
theorem d_Md_read_92 : decode k_Md_read 92 = .ok (.aload_n 0, 1) := by decide +kernel
theorem d_Md_read_93 : decode k_Md_read 93 = .ok (.getfield 59, 3) := by decide +kernel
theorem d_Md_read_96 : decode k_Md_read 96 = .ok (.iload_n 1, 1) := by decide +kernel
theorem d_Md_read_97 : decode k_Md_read 97 = .ok (.iconst 1, 1) := by decide +kernel
theorem d_Md_read_98 : decode k_Md_read 98 = .ok (.iadd, 1) := by decide +kernel
theorem d_Md_read_99 : decode k_Md_read 99 = .ok (.iaload, 1) := by decide +kernel
theorem d_Md_read_100 : decode k_Md_read 100 = .ok (.invokevirtual 155, 3) := by decide +kernel
theorem d_Md_read_103 : decode k_Md_read 103 = .ok (.goto (18), 3) := by decide +kernel
theorem d_Md_read_106 : decode k_Md_read 106 = .ok (.aload_n 0, 1) := by decide +kernel
theorem d_Md_read_107 : decode k_Md_read 107 = .ok (.iload_n 1, 1) := by decide +kernel
theorem d_Md_read_108 : decode k_Md_read 108 = .ok (.aload_n 0, 1) := by decide +kernel
theorem d_Md_read_109 : decode k_Md_read 109 = .ok (.iload_n 2, 1) := by decide +kernel
theorem d_Md_read_110 : decode k_Md_read 110 = .ok (.aload_n 0, 1) := by decide +kernel
theorem d_Md_read_111 : decode k_Md_read 111 = .ok (.iload_n 2, 1) := by decide +kernel
theorem d_Md_read_112 : decode k_Md_read 112 = .ok (.invokevirtual 145, 3) := by decide +kernel
theorem d_Md_read_115 : decode k_Md_read 115 = .ok (.invokevirtual 159, 3) := by decide +kernel
theorem d_Md_read_118 : decode k_Md_read 118 = .ok (.invokevirtual 155, 3) := by decide +kernel
theorem d_Md_read_121 : decode k_Md_read 121 = .ok (.aload_n 0, 1) := by decide +kernel
theorem d_Md_read_122 : decode k_Md_read 122 = .ok (.aload_n 0, 1) := by decide +kernel
theorem d_Md_read_123 : decode k_Md_read 123 = .ok (.iload_n 2, 1) := by decide +kernel
theorem d_Md_read_124 : decode k_Md_read 124 = .ok (.invokevirtual 145, 3) := by decide +kernel
theorem d_Md_read_127 : decode k_Md_read 127 = .ok (.invokevirtual 142, 3) := by decide +kernel
theorem d_Md_read_130 : decode k_Md_read 130 = .ok (.istore_n 2, 1) := by decide +kernel
theorem d_Md_read_131 : decode k_Md_read 131 = .ok (.goto (-116), 3) := by decide +kernel
theorem d_Md_read_134 : decode k_Md_read 134 = .ok (.return_, 1) := by decide +kernel
theorem d_Md_reading_0 : decode k_Md_reading 0 = .ok (.aload_n 0, 1) := by decide +kernel
theorem d_Md_reading_1 : decode k_Md_reading 1 = .ok (.invokevirtual 162, 3) := by decide +kernel
theorem d_Md_reading_4 : decode k_Md_reading 4 = .ok (.istore_n 1, 1) := by decide +kernel
theorem d_Md_reading_5 : decode k_Md_reading 5 = .ok (.iload_n 1, 1) := by decide +kernel
theorem d_Md_reading_6 : decode k_Md_reading 6 = .ok (.ifCond .ne (5), 3) := by decide +kernel
theorem d_Md_reading_9 : decode k_Md_reading 9 = .ok (.iconst 2, 1) := by decide +kernel
theorem d_Md_reading_10 : decode k_Md_reading 10 = .ok (.ireturn, 1) := by decide +kernel
theorem d_Md_reading_11 : decode k_Md_reading 11 = .ok (.aload_n 0, 1) := by decide +kernel
theorem d_Md_reading_12 : decode k_Md_reading 12 = .ok (.iconst 1, 1) := by decide +kernel
theorem d_Md_reading_13 : decode k_Md_reading 13 = .ok (.putfield 165, 3) := by decide +kernel
theorem d_Md_reading_16 : decode k_Md_reading 16 = .ok (.iload_n 1, 1) := by decide +kernel
theorem d_Md_reading_17 : decode k_Md_reading 17 = .ok (.ifCond .le (7), 3) := by decide +kernel
theorem d_Md_reading_20 : decode k_Md_reading 20 = .ok (.iconst 1, 1) := by decide +kernel
theorem d_Md_reading_21 : decode k_Md_reading 21 = .ok (.goto (4), 3) := by decide +kernel
theorem d_Md_reading_24 : decode k_Md_reading 24 = .ok (.iconst 0, 1) := by decide +kernel
theorem d_Md_reading_25 : decode k_Md_reading 25 = .ok (.istore_n 2, 1) := by decide +kernel
theorem d_Md_reading_26 : decode k_Md_reading 26 = .ok (.aload_n 0, 1) := by decide +kernel
theorem d_Md_reading_27 : decode k_Md_reading 27 = .ok (.iconst 0, 1) := by decide +kernel
theorem d_Md_reading_28 : decode k_Md_reading 28 = .ok (.invokevirtual 142, 3) := by decide +kernel
theorem d_Md_reading_31 : decode k_Md_reading 31 = .ok (.istore_n 3, 1) := by decide +kernel
theorem d_Md_reading_32 : decode k_Md_reading 32 = .ok (.iload_n 3, 1) := by decide +kernel
theorem d_Md_reading_33 : decode k_Md_reading 33 = .ok (.aload_n 0, 1) := by decide +kernel
theorem d_Md_reading_34 : decode k_Md_reading 34 = .ok (.getfield 148, 3) := by decide +kernel
theorem d_Md_reading_37 : decode k_Md_reading 37 = .ok (.if_icmp .ge (51), 3) := by decide +kernel
theorem d_Md_reading_40 : decode k_Md_reading 40 = .ok (.iload_n 2, 1) := by decide +kernel
theorem d_Md_reading_41 : decode k_Md_reading 41 = .ok (.ifCond .eq (47), 3) := by decide +kernel
theorem d_Md_reading_44 : decode k_Md_reading 44 = .ok (.aload_n 0, 1) := by decide +kernel
theorem d_Md_reading_45 : decode k_Md_reading 45 = .ok (.getfield 53, 3) := by decide +kernel
theorem d_Md_reading_48 : decode k_Md_reading 48 = .ok (.iload_n 3, 1) := by decide +kernel
theorem d_Md_reading_49 : decode k_Md_reading 49 = .ok (.caload, 1) := by decide +kernel
theorem d_Md_reading_50 : decode k_Md_reading 50 = .ok (.invokestatic 118, 3) := by decide +kernel
theorem d_Md_reading_53 : decode k_Md_reading 53 = .ok (.ifCond .ne (16), 3) := by decide +kernel
theorem d_Md_reading_56 : decode k_Md_reading 56 = .ok (.aload_n 0, 1) := by decide +kernel
theorem d_Md_reading_57 : decode k_Md_reading 57 = .ok (.iload_n 3, 1) := by decide +kernel
theorem d_Md_reading_58 : decode k_Md_reading 58 = .ok (.aload_n 0, 1) := by decide +kernel
theorem d_Md_reading_59 : decode k_Md_reading 59 = .ok (.iload_n 3, 1) := by decide +kernel
theorem d_Md_reading_60 : decode k_Md_reading 60 = .ok (.invokevirtual 145, 3) := by decide +kernel
theorem d_Md_reading_63 : decode k_Md_reading 63 = .ok (.invokevirtual 168, 3) := by decide +kernel
theorem d_Md_reading_66 : decode k_Md_reading 66 = .ok (.ifCond .eq (7), 3) := by decide +kernel
theorem d_Md_reading_69 : decode k_Md_reading 69 = .ok (.iconst 1, 1) := by decide +kernel
theorem d_Md_reading_70 : decode k_Md_reading 70 = .ok (.goto (4), 3) := by decide +kernel
theorem d_Md_reading_73 : decode k_Md_reading 73 = .ok (.iconst 0, 1) := by decide +kernel
theorem d_Md_reading_74 : decode k_Md_reading 74 = .ok (.istore_n 2, 1) := by decide +kernel
theorem d_Md_reading_75 : decode k_Md_reading 75 = .ok (.aload_n 0, 1) := by decide +kernel
theorem d_Md_reading_76 : decode k_Md_reading 76 = .ok (.aload_n 0, 1) := by decide +kernel
theorem d_Md_reading_77 : decode k_Md_reading 77 = .ok (.iload_n 3, 1) := by decide +kernel
theorem d_Md_reading_78 : decode k_Md_reading 78 = .ok (.invokevirtual 145, 3) := by decide +kernel
theorem d_Md_reading_81 : decode k_Md_reading 81 = .ok (.invokevirtual 142, 3) := by decide +kernel
theorem d_Md_reading_84 : decode k_Md_reading 84 = .ok (.istore_n 3, 1) := by decide +kernel
theorem d_Md_reading_85 : decode k_Md_reading 85 = .ok (.goto (-53), 3) := by decide +kernel
theorem d_Md_reading_88 : decode k_Md_reading 88 = .ok (.iload_n 1, 1) := by decide +kernel
theorem d_Md_reading_89 : decode k_Md_reading 89 = .ok (.ifCond .ge (7), 3) := by decide +kernel
theorem d_Md_reading_92 : decode k_Md_reading 92 = .ok (.iconst (-1), 1) := by decide +kernel
theorem d_Md_reading_93 : decode k_Md_reading 93 = .ok (.goto (29), 3) := by decide +kernel
theorem d_Md_reading_96 : decode k_Md_reading 96 = .ok (.iload_n 2, 1) := by decide +kernel
theorem d_Md_reading_97 : decode k_Md_reading 97 = .ok (.ifCond .ne (8), 3) := by decide +kernel
theorem d_Md_reading_100 : decode k_Md_reading 100 = .ok (.bipush (-8), 2) := by decide +kernel
theorem d_Md_reading_102 : decode k_Md_reading 102 = .ok (.goto (20), 3) := by decide +kernel
theorem d_Md_reading_105 : decode k_Md_reading 105 = .ok (.aload_n 0, 1) := by decide +kernel
theorem d_Md_reading_106 : decode k_Md_reading 106 = .ok (.aload_n 0, 1) := by decide +kernel
theorem d_Md_reading_107 : decode k_Md_reading 107 = .ok (.getfield 139, 3) := by decide +kernel
theorem d_Md_reading_110 : decode k_Md_reading 110 = .ok (.invokevirtual 171, 3) := by decide +kernel
theorem d_Md_reading_113 : decode k_Md_reading 113 = .ok (.ifCond .eq (7), 3) := by decide +kernel
theorem d_Md_reading_116 : decode k_Md_reading 116 = .ok (.iconst 1, 1) := by decide +kernel
theorem d_Md_reading_117 : decode k_Md_reading 117 = .ok (.goto (5), 3) := by decide +kernel
theorem d_Md_reading_120 : decode k_Md_reading 120 = .ok (.bipush (-7), 2) := by decide +kernel
theorem d_Md_reading_122 : decode k_Md_reading 122 = .ok (.istore_n 3, 1) := by decide +kernel
theorem d_Md_reading_123 : decode k_Md_reading 123 = .ok (.iload_n 3, 1) := by decide +kernel
theorem d_Md_reading_124 : decode k_Md_reading 124 = .ok (.iconst 1, 1) := by decide +kernel
theorem d_Md_reading_125 : decode k_Md_reading 125 = .ok (.if_icmp .ne (7), 3) := by decide +kernel
theorem d_Md_reading_128 : decode k_Md_reading 128 = .ok (.aload_n 0, 1) := by decide +kernel
theorem d_Md_reading_129 : decode k_Md_reading 129 = .ok (.invokevirtual 174, 3) := by decide +kernel
theorem d_Md_reading_132 : decode k_Md_reading 132 = .ok (.aload_n 0, 1) := by decide +kernel
theorem d_Md_reading_133 : decode k_Md_reading 133 = .ok (.aload_n 0, 1) := by decide +kernel
theorem d_Md_reading_134 : decode k_Md_reading 134 = .ok (.getfield 148, 3) := by decide +kernel
theorem d_Md_reading_137 : decode k_Md_reading 137 = .ok (.invokevirtual 177, 3) := by decide +kernel
theorem d_Md_reading_140 : decode k_Md_reading 140 = .ok (.aload_n 0, 1) := by decide +kernel
theorem d_Md_reading_141 : decode k_Md_reading 141 = .ok (.iload_n 3, 1) := by decide +kernel
theorem d_Md_reading_142 : decode k_Md_reading 142 = .ok (.iconst 1, 1) := by decide +kernel
theorem d_Md_reading_143 : decode k_Md_reading 143 = .ok (.if_icmp .ne (7), 3) := by decide +kernel
theorem d_Md_reading_146 : decode k_Md_reading 146 = .ok (.iconst 1, 1) := by decide +kernel
theorem d_Md_reading_147 : decode k_Md_reading 147 = .ok (.goto (4), 3) := by decide +kernel
theorem d_Md_reading_150 : decode k_Md_reading 150 = .ok (.iconst 0, 1) := by decide +kernel
theorem d_Md_reading_151 : decode k_Md_reading 151 = .ok (.putfield 180, 3) := by decide +kernel
theorem d_Md_reading_154 : decode k_Md_reading 154 = .ok (.aload_n 0, 1) := by decide +kernel
theorem d_Md_reading_155 : decode k_Md_reading 155 = .ok (.iconst 0, 1) := by decide +kernel
theorem d_Md_reading_156 : decode k_Md_reading 156 = .ok (.putfield 184, 3) := by decide +kernel
theorem d_Md_reading_159 : decode k_Md_reading 159 = .ok (.iload_n 3, 1) := by decide +kernel
theorem d_Md_reading_160 : decode k_Md_reading 160 = .ok (.ireturn, 1) := by decide +kernel
theorem d_Md_push_0 : decode k_Md_push 0 = .ok (.aload_n 0, 1) := by decide +kernel
theorem d_Md_push_1 : decode k_Md_push 1 = .ok (.getfield 100, 3) := by decide +kernel
theorem d_Md_push_4 : decode k_Md_push 4 = .ok (.bipush 30, 2) := by decide +kernel
theorem d_Md_push_6 : decode k_Md_push 6 = .ok (.if_icmp .ne (6), 3) := by decide +kernel
theorem d_Md_push_9 : decode k_Md_push 9 = .ok (.bipush (-6), 2) := by decide +kernel
theorem d_Md_push_11 : decode k_Md_push 11 = .ok (.ireturn, 1) := by decide +kernel
theorem d_Md_push_12 : decode k_Md_push 12 = .ok (.aload_n 0, 1) := by decide +kernel
theorem d_Md_push_13 : decode k_Md_push 13 = .ok (.getfield 26, 3) := by decide +kernel
theorem d_Md_push_16 : decode k_Md_push 16 = .ok (.aload_n 0, 1) := by decide +kernel
theorem d_Md_push_17 : decode k_Md_push 17 = .ok (.getfield 100, 3) := by decide +kernel
theorem d_Md_push_20 : decode k_Md_push 20 = .ok (.iload_n 1, 1) := by decide +kernel
theorem d_Md_push_21 : decode k_Md_push 21 = .ok (.iastore, 1) := by decide +kernel
theorem d_Md_push_22 : decode k_Md_push 22 = .ok (.aload_n 0, 1) := by decide +kernel
theorem d_Md_push_23 : decode k_Md_push 23 = .ok (.getfield 29, 3) := by decide +kernel
theorem d_Md_push_26 : decode k_Md_push 26 = .ok (.aload_n 0, 1) := by decide +kernel
theorem d_Md_push_27 : decode k_Md_push 27 = .ok (.getfield 100, 3) := by decide +kernel
theorem d_Md_push_30 : decode k_Md_push 30 = .ok (.iload_n 2, 1) := by decide +kernel
theorem d_Md_push_31 : decode k_Md_push 31 = .ok (.iastore, 1) := by decide +kernel
theorem d_Md_push_32 : decode k_Md_push 32 = .ok (.aload_n 0, 1) := by decide +kernel
theorem d_Md_push_33 : decode k_Md_push 33 = .ok (.getfield 32, 3) := by decide +kernel
theorem d_Md_push_36 : decode k_Md_push 36 = .ok (.aload_n 0, 1) := by decide +kernel
theorem d_Md_push_37 : decode k_Md_push 37 = .ok (.getfield 100, 3) := by decide +kernel
theorem d_Md_push_40 : decode k_Md_push 40 = .ok (.iload_n 3, 1) := by decide +kernel
theorem d_Md_push_41 : decode k_Md_push 41 = .ok (.iastore, 1) := by decide +kernel
theorem d_Md_push_42 : decode k_Md_push 42 = .ok (.aload_n 0, 1) := by decide +kernel
theorem d_Md_push_43 : decode k_Md_push 43 = .ok (.getfield 35, 3) := by decide +kernel
theorem d_Md_push_46 : decode k_Md_push 46 = .ok (.aload_n 0, 1) := by decide +kernel
theorem d_Md_push_47 : decode k_Md_push 47 = .ok (.getfield 100, 3) := by decide +kernel
theorem d_Md_push_50 : decode k_Md_push 50 = .ok (.ldc 45, 2) := by decide +kernel
theorem d_Md_push_52 : decode k_Md_push 52 = .ok (.iastore, 1) := by decide +kernel
theorem d_Md_push_53 : decode k_Md_push 53 = .ok (.aload_n 0, 1) := by decide +kernel
theorem d_Md_push_54 : decode k_Md_push 54 = .ok (.dup, 1) := by decide +kernel
theorem d_Md_push_55 : decode k_Md_push 55 = .ok (.getfield 100, 3) := by decide +kernel
theorem d_Md_push_58 : decode k_Md_push 58 = .ok (.iconst 1, 1) := by decide +kernel
theorem d_Md_push_59 : decode k_Md_push 59 = .ok (.iadd, 1) := by decide +kernel
theorem d_Md_push_60 : decode k_Md_push 60 = .ok (.putfield 100, 3) := by decide +kernel
theorem d_Md_push_63 : decode k_Md_push 63 = .ok (.iconst 1, 1) := by decide +kernel
theorem d_Md_push_64 : decode k_Md_push 64 = .ok (.ireturn, 1) := by decide +kernel
theorem d_Md_give_0 : decode k_Md_give 0 = .ok (.aload_n 0, 1) := by decide +kernel
theorem d_Md_give_1 : decode k_Md_give 1 = .ok (.iload_n 1, 1) := by decide +kernel
theorem d_Md_give_2 : decode k_Md_give 2 = .ok (.putfield 46, 3) := by decide +kernel
theorem d_Md_give_5 : decode k_Md_give 5 = .ok (.aload_n 0, 1) := by decide +kernel
theorem d_Md_give_6 : decode k_Md_give 6 = .ok (.iconst 1, 1) := by decide +kernel
theorem d_Md_give_7 : decode k_Md_give 7 = .ok (.putfield 184, 3) := by decide +kernel
theorem d_Md_give_10 : decode k_Md_give 10 = .ok (.iconst 1, 1) := by decide +kernel
theorem d_Md_give_11 : decode k_Md_give 11 = .ok (.ireturn, 1) := by decide +kernel
theorem d_Md_go_0 : decode k_Md_go 0 = .ok (.aload_n 0, 1) := by decide +kernel
theorem d_Md_go_1 : decode k_Md_go 1 = .ok (.iload_n 1, 1) := by decide +kernel
theorem d_Md_go_2 : decode k_Md_go 2 = .ok (.putfield 46, 3) := by decide +kernel
theorem d_Md_go_5 : decode k_Md_go 5 = .ok (.aload_n 0, 1) := by decide +kernel
theorem d_Md_go_6 : decode k_Md_go 6 = .ok (.iload_n 2, 1) := by decide +kernel
theorem d_Md_go_7 : decode k_Md_go 7 = .ok (.putfield 50, 3) := by decide +kernel
theorem d_Md_go_10 : decode k_Md_go 10 = .ok (.aload_n 0, 1) := by decide +kernel
theorem d_Md_go_11 : decode k_Md_go 11 = .ok (.iconst 0, 1) := by decide +kernel
theorem d_Md_go_12 : decode k_Md_go 12 = .ok (.putfield 184, 3) := by decide +kernel
theorem d_Md_go_15 : decode k_Md_go 15 = .ok (.iconst 1, 1) := by decide +kernel
theorem d_Md_go_16 : decode k_Md_go 16 = .ok (.ireturn, 1) := by decide +kernel
theorem d_Md_lengthOf_0 : decode k_Md_lengthOf 0 = .ok (.iconst 0, 1) := by decide +kernel
theorem d_Md_lengthOf_1 : decode k_Md_lengthOf 1 = .ok (.istore_n 2, 1) := by decide +kernel
theorem d_Md_lengthOf_2 : decode k_Md_lengthOf 2 = .ok (.iload_n 1, 1) := by decide +kernel
theorem d_Md_lengthOf_3 : decode k_Md_lengthOf 3 = .ok (.istore_n 3, 1) := by decide +kernel
theorem d_Md_lengthOf_4 : decode k_Md_lengthOf 4 = .ok (.aload_n 0, 1) := by decide +kernel
theorem d_Md_lengthOf_5 : decode k_Md_lengthOf 5 = .ok (.iload_n 3, 1) := by decide +kernel
theorem d_Md_lengthOf_6 : decode k_Md_lengthOf 6 = .ok (.invokevirtual 187, 3) := by decide +kernel
theorem d_Md_lengthOf_9 : decode k_Md_lengthOf 9 = .ok (.ifCond .eq (15), 3) := by decide +kernel
theorem d_Md_lengthOf_12 : decode k_Md_lengthOf 12 = .ok (.iinc 2 1, 3) := by decide +kernel
theorem d_Md_lengthOf_15 : decode k_Md_lengthOf 15 = .ok (.aload_n 0, 1) := by decide +kernel
theorem d_Md_lengthOf_16 : decode k_Md_lengthOf 16 = .ok (.iload_n 3, 1) := by decide +kernel
theorem d_Md_lengthOf_17 : decode k_Md_lengthOf 17 = .ok (.invokevirtual 190, 3) := by decide +kernel
theorem d_Md_lengthOf_20 : decode k_Md_lengthOf 20 = .ok (.istore_n 3, 1) := by decide +kernel
theorem d_Md_lengthOf_21 : decode k_Md_lengthOf 21 = .ok (.goto (-17), 3) := by decide +kernel
theorem d_Md_lengthOf_24 : decode k_Md_lengthOf 24 = .ok (.iload_n 2, 1) := by decide +kernel
theorem d_Md_lengthOf_25 : decode k_Md_lengthOf 25 = .ok (.ireturn, 1) := by decide +kernel
theorem d_Md_at_0 : decode k_Md_at 0 = .ok (.iload_n 1, 1) := by decide +kernel
theorem d_Md_at_1 : decode k_Md_at 1 = .ok (.istore_n 3, 1) := by decide +kernel
theorem d_Md_at_2 : decode k_Md_at 2 = .ok (.iconst 0, 1) := by decide +kernel
theorem d_Md_at_3 : decode k_Md_at 3 = .ok (.istore 4, 2) := by decide +kernel
theorem d_Md_at_5 : decode k_Md_at 5 = .ok (.iload 4, 2) := by decide +kernel
theorem d_Md_at_7 : decode k_Md_at 7 = .ok (.iload_n 2, 1) := by decide +kernel
theorem d_Md_at_8 : decode k_Md_at 8 = .ok (.if_icmp .ge (15), 3) := by decide +kernel
theorem d_Md_at_11 : decode k_Md_at 11 = .ok (.aload_n 0, 1) := by decide +kernel
theorem d_Md_at_12 : decode k_Md_at 12 = .ok (.iload_n 3, 1) := by decide +kernel
theorem d_Md_at_13 : decode k_Md_at 13 = .ok (.invokevirtual 190, 3) := by decide +kernel
theorem d_Md_at_16 : decode k_Md_at 16 = .ok (.istore_n 3, 1) := by decide +kernel
theorem d_Md_at_17 : decode k_Md_at 17 = .ok (.iinc 4 1, 3) := by decide +kernel
theorem d_Md_at_20 : decode k_Md_at 20 = .ok (.goto (-15), 3) := by decide +kernel
theorem d_Md_at_23 : decode k_Md_at 23 = .ok (.aload_n 0, 1) := by decide +kernel
end
section
theorem d_Md_at_24 : decode k_Md_at 24 = .ok (.iload_n 3, 1) := by decide +kernel
theorem d_Md_at_25 : decode k_Md_at 25 = .ok (.invokevirtual 193, 3) := by decide +kernel
theorem d_Md_at_28 : decode k_Md_at 28 = .ok (.ireturn, 1) := by decide +kernel
theorem d_Md_binding_0 : decode k_Md_binding 0 = .ok (.iload_n 2, 1) := by decide +kernel
theorem d_Md_binding_1 : decode k_Md_binding 1 = .ok (.istore_n 3, 1) := by decide +kernel
theorem d_Md_binding_2 : decode k_Md_binding 2 = .ok (.aload_n 0, 1) := by decide +kernel
theorem d_Md_binding_3 : decode k_Md_binding 3 = .ok (.iload_n 3, 1) := by decide +kernel
theorem d_Md_binding_4 : decode k_Md_binding 4 = .ok (.invokevirtual 187, 3) := by decide +kernel
theorem d_Md_binding_7 : decode k_Md_binding 7 = .ok (.ifCond .eq (31), 3) := by decide +kernel
theorem d_Md_binding_10 : decode k_Md_binding 10 = .ok (.aload_n 0, 1) := by decide +kernel
theorem d_Md_binding_11 : decode k_Md_binding 11 = .ok (.aload_n 0, 1) := by decide +kernel
theorem d_Md_binding_12 : decode k_Md_binding 12 = .ok (.iload_n 3, 1) := by decide +kernel
theorem d_Md_binding_13 : decode k_Md_binding 13 = .ok (.invokevirtual 193, 3) := by decide +kernel
theorem d_Md_binding_16 : decode k_Md_binding 16 = .ok (.invokevirtual 193, 3) := by decide +kernel
theorem d_Md_binding_19 : decode k_Md_binding 19 = .ok (.iload_n 1, 1) := by decide +kernel
theorem d_Md_binding_20 : decode k_Md_binding 20 = .ok (.if_icmp .ne (9), 3) := by decide +kernel
theorem d_Md_binding_23 : decode k_Md_binding 23 = .ok (.aload_n 0, 1) := by decide +kernel
theorem d_Md_binding_24 : decode k_Md_binding 24 = .ok (.iload_n 3, 1) := by decide +kernel
theorem d_Md_binding_25 : decode k_Md_binding 25 = .ok (.invokevirtual 193, 3) := by decide +kernel
theorem d_Md_binding_28 : decode k_Md_binding 28 = .ok (.ireturn, 1) := by decide +kernel
theorem d_Md_binding_29 : decode k_Md_binding 29 = .ok (.aload_n 0, 1) := by decide +kernel
theorem d_Md_binding_30 : decode k_Md_binding 30 = .ok (.iload_n 3, 1) := by decide +kernel
theorem d_Md_binding_31 : decode k_Md_binding 31 = .ok (.invokevirtual 190, 3) := by decide +kernel
theorem d_Md_binding_34 : decode k_Md_binding 34 = .ok (.istore_n 3, 1) := by decide +kernel
theorem d_Md_binding_35 : decode k_Md_binding 35 = .ok (.goto (-33), 3) := by decide +kernel
theorem d_Md_binding_38 : decode k_Md_binding 38 = .ok (.ldc 45, 2) := by decide +kernel
theorem d_Md_binding_40 : decode k_Md_binding 40 = .ok (.ireturn, 1) := by decide +kernel
theorem d_Md_lookUp_0 : decode k_Md_lookUp 0 = .ok (.aload_n 0, 1) := by decide +kernel
theorem d_Md_lookUp_1 : decode k_Md_lookUp 1 = .ok (.aload_n 0, 1) := by decide +kernel
theorem d_Md_lookUp_2 : decode k_Md_lookUp 2 = .ok (.getfield 46, 3) := by decide +kernel
theorem d_Md_lookUp_5 : decode k_Md_lookUp 5 = .ok (.aload_n 0, 1) := by decide +kernel
theorem d_Md_lookUp_6 : decode k_Md_lookUp 6 = .ok (.getfield 50, 3) := by decide +kernel
theorem d_Md_lookUp_9 : decode k_Md_lookUp 9 = .ok (.invokevirtual 196, 3) := by decide +kernel
theorem d_Md_lookUp_12 : decode k_Md_lookUp 12 = .ok (.istore_n 1, 1) := by decide +kernel
theorem d_Md_lookUp_13 : decode k_Md_lookUp 13 = .ok (.iload_n 1, 1) := by decide +kernel
theorem d_Md_lookUp_14 : decode k_Md_lookUp 14 = .ok (.ldc 45, 2) := by decide +kernel
theorem d_Md_lookUp_16 : decode k_Md_lookUp 16 = .ok (.if_icmp .ne (18), 3) := by decide +kernel
theorem d_Md_lookUp_19 : decode k_Md_lookUp 19 = .ok (.aload_n 0, 1) := by decide +kernel
theorem d_Md_lookUp_20 : decode k_Md_lookUp 20 = .ok (.getfield 42, 3) := by decide +kernel
theorem d_Md_lookUp_23 : decode k_Md_lookUp 23 = .ok (.aload_n 0, 1) := by decide +kernel
theorem d_Md_lookUp_24 : decode k_Md_lookUp 24 = .ok (.getfield 46, 3) := by decide +kernel
theorem d_Md_lookUp_27 : decode k_Md_lookUp 27 = .ok (.ldc 90, 2) := by decide +kernel
theorem d_Md_lookUp_29 : decode k_Md_lookUp 29 = .ok (.isub, 1) := by decide +kernel
theorem d_Md_lookUp_30 : decode k_Md_lookUp 30 = .ok (.iaload, 1) := by decide +kernel
theorem d_Md_lookUp_31 : decode k_Md_lookUp 31 = .ok (.goto (8), 3) := by decide +kernel
theorem d_Md_lookUp_34 : decode k_Md_lookUp 34 = .ok (.aload_n 0, 1) := by decide +kernel
theorem d_Md_lookUp_35 : decode k_Md_lookUp 35 = .ok (.iload_n 1, 1) := by decide +kernel
theorem d_Md_lookUp_36 : decode k_Md_lookUp 36 = .ok (.invokevirtual 190, 3) := by decide +kernel
theorem d_Md_lookUp_39 : decode k_Md_lookUp 39 = .ok (.istore_n 2, 1) := by decide +kernel
theorem d_Md_lookUp_40 : decode k_Md_lookUp 40 = .ok (.iload_n 2, 1) := by decide +kernel
theorem d_Md_lookUp_41 : decode k_Md_lookUp 41 = .ok (.ldc 78, 2) := by decide +kernel
theorem d_Md_lookUp_43 : decode k_Md_lookUp 43 = .ok (.if_icmp .ne (8), 3) := by decide +kernel
theorem d_Md_lookUp_46 : decode k_Md_lookUp 46 = .ok (.bipush (-2), 2) := by decide +kernel
theorem d_Md_lookUp_48 : decode k_Md_lookUp 48 = .ok (.goto (8), 3) := by decide +kernel
theorem d_Md_lookUp_51 : decode k_Md_lookUp 51 = .ok (.aload_n 0, 1) := by decide +kernel
theorem d_Md_lookUp_52 : decode k_Md_lookUp 52 = .ok (.iload_n 2, 1) := by decide +kernel
theorem d_Md_lookUp_53 : decode k_Md_lookUp 53 = .ok (.invokevirtual 199, 3) := by decide +kernel
theorem d_Md_lookUp_56 : decode k_Md_lookUp 56 = .ok (.ireturn, 1) := by decide +kernel
theorem d_Md_areParameters_0 : decode k_Md_areParameters 0 = .ok (.iload_n 1, 1) := by decide +kernel
theorem d_Md_areParameters_1 : decode k_Md_areParameters 1 = .ok (.ldc 45, 2) := by decide +kernel
theorem d_Md_areParameters_3 : decode k_Md_areParameters 3 = .ok (.if_icmp .eq (20), 3) := by decide +kernel
theorem d_Md_areParameters_6 : decode k_Md_areParameters 6 = .ok (.aload_n 0, 1) := by decide +kernel
theorem d_Md_areParameters_7 : decode k_Md_areParameters 7 = .ok (.iload_n 1, 1) := by decide +kernel
theorem d_Md_areParameters_8 : decode k_Md_areParameters 8 = .ok (.invokevirtual 187, 3) := by decide +kernel
theorem d_Md_areParameters_11 : decode k_Md_areParameters 11 = .ok (.ifCond .eq (16), 3) := by decide +kernel
theorem d_Md_areParameters_14 : decode k_Md_areParameters 14 = .ok (.aload_n 0, 1) := by decide +kernel
theorem d_Md_areParameters_15 : decode k_Md_areParameters 15 = .ok (.iload_n 1, 1) := by decide +kernel
theorem d_Md_areParameters_16 : decode k_Md_areParameters 16 = .ok (.invokevirtual 202, 3) := by decide +kernel
theorem d_Md_areParameters_19 : decode k_Md_areParameters 19 = .ok (.iconst 5, 1) := by decide +kernel
theorem d_Md_areParameters_20 : decode k_Md_areParameters 20 = .ok (.if_icmp .ge (7), 3) := by decide +kernel
theorem d_Md_areParameters_23 : decode k_Md_areParameters 23 = .ok (.iconst 1, 1) := by decide +kernel
theorem d_Md_areParameters_24 : decode k_Md_areParameters 24 = .ok (.goto (4), 3) := by decide +kernel
theorem d_Md_areParameters_27 : decode k_Md_areParameters 27 = .ok (.iconst 0, 1) := by decide +kernel
theorem d_Md_areParameters_28 : decode k_Md_areParameters 28 = .ok (.istore_n 2, 1) := by decide +kernel
theorem d_Md_areParameters_29 : decode k_Md_areParameters 29 = .ok (.iload_n 1, 1) := by decide +kernel
theorem d_Md_areParameters_30 : decode k_Md_areParameters 30 = .ok (.istore_n 3, 1) := by decide +kernel
theorem d_Md_areParameters_31 : decode k_Md_areParameters 31 = .ok (.iload_n 2, 1) := by decide +kernel
theorem d_Md_areParameters_32 : decode k_Md_areParameters 32 = .ok (.ifCond .eq (29), 3) := by decide +kernel
theorem d_Md_areParameters_35 : decode k_Md_areParameters 35 = .ok (.aload_n 0, 1) := by decide +kernel
theorem d_Md_areParameters_36 : decode k_Md_areParameters 36 = .ok (.iload_n 3, 1) := by decide +kernel
theorem d_Md_areParameters_37 : decode k_Md_areParameters 37 = .ok (.invokevirtual 187, 3) := by decide +kernel
theorem d_Md_areParameters_40 : decode k_Md_areParameters 40 = .ok (.ifCond .eq (21), 3) := by decide +kernel
theorem d_Md_areParameters_43 : decode k_Md_areParameters 43 = .ok (.aload_n 0, 1) := by decide +kernel
theorem d_Md_areParameters_44 : decode k_Md_areParameters 44 = .ok (.iload_n 3, 1) := by decide +kernel
theorem d_Md_areParameters_45 : decode k_Md_areParameters 45 = .ok (.invokevirtual 193, 3) := by decide +kernel
theorem d_Md_areParameters_48 : decode k_Md_areParameters 48 = .ok (.invokestatic 205, 3) := by decide +kernel
theorem d_Md_areParameters_51 : decode k_Md_areParameters 51 = .ok (.istore_n 2, 1) := by decide +kernel
theorem d_Md_areParameters_52 : decode k_Md_areParameters 52 = .ok (.aload_n 0, 1) := by decide +kernel
theorem d_Md_areParameters_53 : decode k_Md_areParameters 53 = .ok (.iload_n 3, 1) := by decide +kernel
theorem d_Md_areParameters_54 : decode k_Md_areParameters 54 = .ok (.invokevirtual 190, 3) := by decide +kernel
theorem d_Md_areParameters_57 : decode k_Md_areParameters 57 = .ok (.istore_n 3, 1) := by decide +kernel
theorem d_Md_areParameters_58 : decode k_Md_areParameters 58 = .ok (.goto (-27), 3) := by decide +kernel
theorem d_Md_areParameters_61 : decode k_Md_areParameters 61 = .ok (.iload_n 2, 1) := by decide +kernel
theorem d_Md_areParameters_62 : decode k_Md_areParameters 62 = .ok (.ireturn, 1) := by decide +kernel
theorem d_Md_special_0 : decode k_Md_special 0 = .ok (.aload_n 0, 1) := by decide +kernel
theorem d_Md_special_1 : decode k_Md_special 1 = .ok (.aload_n 0, 1) := by decide +kernel
theorem d_Md_special_2 : decode k_Md_special 2 = .ok (.getfield 46, 3) := by decide +kernel
theorem d_Md_special_5 : decode k_Md_special 5 = .ok (.invokevirtual 190, 3) := by decide +kernel
theorem d_Md_special_8 : decode k_Md_special 8 = .ok (.istore_n 2, 1) := by decide +kernel
theorem d_Md_special_9 : decode k_Md_special 9 = .ok (.aload_n 0, 1) := by decide +kernel
theorem d_Md_special_10 : decode k_Md_special 10 = .ok (.iload_n 2, 1) := by decide +kernel
theorem d_Md_special_11 : decode k_Md_special 11 = .ok (.invokevirtual 202, 3) := by decide +kernel
theorem d_Md_special_14 : decode k_Md_special 14 = .ok (.istore_n 3, 1) := by decide +kernel
theorem d_Md_special_15 : decode k_Md_special 15 = .ok (.iload_n 1, 1) := by decide +kernel
theorem d_Md_special_16 : decode k_Md_special 16 = .ok (.bipush 10, 2) := by decide +kernel
theorem d_Md_special_18 : decode k_Md_special 18 = .ok (.if_icmp .ne (16), 3) := by decide +kernel
theorem d_Md_special_21 : decode k_Md_special 21 = .ok (.iload_n 3, 1) := by decide +kernel
theorem d_Md_special_22 : decode k_Md_special 22 = .ok (.iconst 1, 1) := by decide +kernel
theorem d_Md_special_23 : decode k_Md_special 23 = .ok (.if_icmp .ne (7), 3) := by decide +kernel
theorem d_Md_special_26 : decode k_Md_special 26 = .ok (.iconst 1, 1) := by decide +kernel
theorem d_Md_special_27 : decode k_Md_special 27 = .ok (.goto (73), 3) := by decide +kernel
theorem d_Md_special_30 : decode k_Md_special 30 = .ok (.iconst 0, 1) := by decide +kernel
theorem d_Md_special_31 : decode k_Md_special 31 = .ok (.goto (69), 3) := by decide +kernel
theorem d_Md_special_34 : decode k_Md_special 34 = .ok (.iload_n 1, 1) := by decide +kernel
theorem d_Md_special_35 : decode k_Md_special 35 = .ok (.bipush 11, 2) := by decide +kernel
theorem d_Md_special_37 : decode k_Md_special 37 = .ok (.if_icmp .ne (21), 3) := by decide +kernel
theorem d_Md_special_40 : decode k_Md_special 40 = .ok (.iload_n 3, 1) := by decide +kernel
theorem d_Md_special_41 : decode k_Md_special 41 = .ok (.iconst 2, 1) := by decide +kernel
theorem d_Md_special_42 : decode k_Md_special 42 = .ok (.if_icmp .eq (8), 3) := by decide +kernel
theorem d_Md_special_45 : decode k_Md_special 45 = .ok (.iload_n 3, 1) := by decide +kernel
theorem d_Md_special_46 : decode k_Md_special 46 = .ok (.iconst 3, 1) := by decide +kernel
theorem d_Md_special_47 : decode k_Md_special 47 = .ok (.if_icmp .ne (7), 3) := by decide +kernel
theorem d_Md_special_50 : decode k_Md_special 50 = .ok (.iconst 1, 1) := by decide +kernel
theorem d_Md_special_51 : decode k_Md_special 51 = .ok (.goto (49), 3) := by decide +kernel
theorem d_Md_special_54 : decode k_Md_special 54 = .ok (.iconst 0, 1) := by decide +kernel
theorem d_Md_special_55 : decode k_Md_special 55 = .ok (.goto (45), 3) := by decide +kernel
theorem d_Md_special_58 : decode k_Md_special 58 = .ok (.iload_n 3, 1) := by decide +kernel
theorem d_Md_special_59 : decode k_Md_special 59 = .ok (.iconst 2, 1) := by decide +kernel
theorem d_Md_special_60 : decode k_Md_special 60 = .ok (.if_icmp .ne (39), 3) := by decide +kernel
theorem d_Md_special_63 : decode k_Md_special 63 = .ok (.iload_n 1, 1) := by decide +kernel
theorem d_Md_special_64 : decode k_Md_special 64 = .ok (.bipush 12, 2) := by decide +kernel
theorem d_Md_special_66 : decode k_Md_special 66 = .ok (.if_icmp .ne (18), 3) := by decide +kernel
theorem d_Md_special_69 : decode k_Md_special 69 = .ok (.aload_n 0, 1) := by decide +kernel
theorem d_Md_special_70 : decode k_Md_special 70 = .ok (.aload_n 0, 1) := by decide +kernel
theorem d_Md_special_71 : decode k_Md_special 71 = .ok (.iload_n 2, 1) := by decide +kernel
theorem d_Md_special_72 : decode k_Md_special 72 = .ok (.invokevirtual 193, 3) := by decide +kernel
theorem d_Md_special_75 : decode k_Md_special 75 = .ok (.invokevirtual 208, 3) := by decide +kernel
theorem d_Md_special_78 : decode k_Md_special 78 = .ok (.ifCond .eq (21), 3) := by decide +kernel
theorem d_Md_special_81 : decode k_Md_special 81 = .ok (.goto (14), 3) := by decide +kernel
theorem d_Md_special_84 : decode k_Md_special 84 = .ok (.aload_n 0, 1) := by decide +kernel
theorem d_Md_special_85 : decode k_Md_special 85 = .ok (.iload_n 2, 1) := by decide +kernel
theorem d_Md_special_86 : decode k_Md_special 86 = .ok (.invokevirtual 193, 3) := by decide +kernel
theorem d_Md_special_89 : decode k_Md_special 89 = .ok (.invokestatic 205, 3) := by decide +kernel
theorem d_Md_special_92 : decode k_Md_special 92 = .ok (.ifCond .eq (7), 3) := by decide +kernel
theorem d_Md_special_95 : decode k_Md_special 95 = .ok (.iconst 1, 1) := by decide +kernel
theorem d_Md_special_96 : decode k_Md_special 96 = .ok (.goto (4), 3) := by decide +kernel
theorem d_Md_special_99 : decode k_Md_special 99 = .ok (.iconst 0, 1) := by decide +kernel
theorem d_Md_special_100 : decode k_Md_special 100 = .ok (.istore 4, 2) := by decide +kernel
theorem d_Md_special_102 : decode k_Md_special 102 = .ok (.iload 4, 2) := by decide +kernel
theorem d_Md_special_104 : decode k_Md_special 104 = .ok (.ifCond .ne (6), 3) := by decide +kernel
theorem d_Md_special_107 : decode k_Md_special 107 = .ok (.bipush (-3), 2) := by decide +kernel
theorem d_Md_special_109 : decode k_Md_special 109 = .ok (.ireturn, 1) := by decide +kernel
theorem d_Md_special_110 : decode k_Md_special 110 = .ok (.iload_n 1, 1) := by decide +kernel
theorem d_Md_special_111 : decode k_Md_special 111 = .ok (.bipush 10, 2) := by decide +kernel
theorem d_Md_special_113 : decode k_Md_special 113 = .ok (.if_icmp .ne (13), 3) := by decide +kernel
theorem d_Md_special_116 : decode k_Md_special 116 = .ok (.aload_n 0, 1) := by decide +kernel
theorem d_Md_special_117 : decode k_Md_special 117 = .ok (.aload_n 0, 1) := by decide +kernel
theorem d_Md_special_118 : decode k_Md_special 118 = .ok (.iload_n 2, 1) := by decide +kernel
theorem d_Md_special_119 : decode k_Md_special 119 = .ok (.invokevirtual 193, 3) := by decide +kernel
theorem d_Md_special_122 : decode k_Md_special 122 = .ok (.invokevirtual 199, 3) := by decide +kernel
theorem d_Md_special_125 : decode k_Md_special 125 = .ok (.ireturn, 1) := by decide +kernel
theorem d_Md_special_126 : decode k_Md_special 126 = .ok (.iload_n 1, 1) := by decide +kernel
theorem d_Md_special_127 : decode k_Md_special 127 = .ok (.bipush 12, 2) := by decide +kernel
theorem d_Md_special_129 : decode k_Md_special 129 = .ok (.if_icmp .ne (41), 3) := by decide +kernel
theorem d_Md_special_132 : decode k_Md_special 132 = .ok (.aload_n 0, 1) := by decide +kernel
theorem d_Md_special_133 : decode k_Md_special 133 = .ok (.iconst 3, 1) := by decide +kernel
theorem d_Md_special_134 : decode k_Md_special 134 = .ok (.invokevirtual 171, 3) := by decide +kernel
theorem d_Md_special_137 : decode k_Md_special 137 = .ok (.ifCond .eq (30), 3) := by decide +kernel
theorem d_Md_special_140 : decode k_Md_special 140 = .ok (.aload_n 0, 1) := by decide +kernel
theorem d_Md_special_141 : decode k_Md_special 141 = .ok (.aload_n 0, 1) := by decide +kernel
theorem d_Md_special_142 : decode k_Md_special 142 = .ok (.iconst 3, 1) := by decide +kernel
theorem d_Md_special_143 : decode k_Md_special 143 = .ok (.aload_n 0, 1) := by decide +kernel
theorem d_Md_special_144 : decode k_Md_special 144 = .ok (.iload_n 2, 1) := by decide +kernel
theorem d_Md_special_145 : decode k_Md_special 145 = .ok (.invokevirtual 193, 3) := by decide +kernel
theorem d_Md_special_148 : decode k_Md_special 148 = .ok (.aload_n 0, 1) := by decide +kernel
theorem d_Md_special_149 : decode k_Md_special 149 = .ok (.iload_n 2, 1) := by decide +kernel
theorem d_Md_special_150 : decode k_Md_special 150 = .ok (.iconst 1, 1) := by decide +kernel
theorem d_Md_special_151 : decode k_Md_special 151 = .ok (.invokevirtual 211, 3) := by decide +kernel
theorem d_Md_special_154 : decode k_Md_special 154 = .ok (.aload_n 0, 1) := by decide +kernel
theorem d_Md_special_155 : decode k_Md_special 155 = .ok (.getfield 50, 3) := by decide +kernel
theorem d_Md_special_158 : decode k_Md_special 158 = .ok (.invokevirtual 107, 3) := by decide +kernel
theorem d_Md_special_161 : decode k_Md_special 161 = .ok (.invokevirtual 199, 3) := by decide +kernel
theorem d_Md_special_164 : decode k_Md_special 164 = .ok (.goto (5), 3) := by decide +kernel
theorem d_Md_special_167 : decode k_Md_special 167 = .ok (.bipush (-7), 2) := by decide +kernel
theorem d_Md_special_169 : decode k_Md_special 169 = .ok (.ireturn, 1) := by decide +kernel
theorem d_Md_special_170 : decode k_Md_special 170 = .ok (.iload_n 1, 1) := by decide +kernel
theorem d_Md_special_171 : decode k_Md_special 171 = .ok (.bipush 11, 2) := by decide +kernel
theorem d_Md_special_173 : decode k_Md_special 173 = .ok (.if_icmp .ne (20), 3) := by decide +kernel
theorem d_Md_special_176 : decode k_Md_special 176 = .ok (.aload_n 0, 1) := by decide +kernel
theorem d_Md_special_177 : decode k_Md_special 177 = .ok (.iconst 1, 1) := by decide +kernel
theorem d_Md_special_178 : decode k_Md_special 178 = .ok (.aload_n 0, 1) := by decide +kernel
theorem d_Md_special_179 : decode k_Md_special 179 = .ok (.iload_n 2, 1) := by decide +kernel
theorem d_Md_special_180 : decode k_Md_special 180 = .ok (.invokevirtual 190, 3) := by decide +kernel
theorem d_Md_special_183 : decode k_Md_special 183 = .ok (.aload_n 0, 1) := by decide +kernel
theorem d_Md_special_184 : decode k_Md_special 184 = .ok (.getfield 50, 3) := by decide +kernel
theorem d_Md_special_187 : decode k_Md_special 187 = .ok (.invokevirtual 214, 3) := by decide +kernel
theorem d_Md_special_190 : decode k_Md_special 190 = .ok (.goto (38), 3) := by decide +kernel
theorem d_Md_special_193 : decode k_Md_special 193 = .ok (.iload_n 1, 1) := by decide +kernel
theorem d_Md_special_194 : decode k_Md_special 194 = .ok (.bipush 13, 2) := by decide +kernel
theorem d_Md_special_196 : decode k_Md_special 196 = .ok (.if_icmp .ne (18), 3) := by decide +kernel
theorem d_Md_special_199 : decode k_Md_special 199 = .ok (.aload_n 0, 1) := by decide +kernel
theorem d_Md_special_200 : decode k_Md_special 200 = .ok (.iconst 2, 1) := by decide +kernel
theorem d_Md_special_201 : decode k_Md_special 201 = .ok (.aload_n 0, 1) := by decide +kernel
theorem d_Md_special_202 : decode k_Md_special 202 = .ok (.iload_n 2, 1) := by decide +kernel
theorem d_Md_special_203 : decode k_Md_special 203 = .ok (.invokevirtual 193, 3) := by decide +kernel
theorem d_Md_special_206 : decode k_Md_special 206 = .ok (.ldc 45, 2) := by decide +kernel
theorem d_Md_special_208 : decode k_Md_special 208 = .ok (.invokevirtual 214, 3) := by decide +kernel
theorem d_Md_special_211 : decode k_Md_special 211 = .ok (.goto (17), 3) := by decide +kernel
theorem d_Md_special_214 : decode k_Md_special 214 = .ok (.aload_n 0, 1) := by decide +kernel
theorem d_Md_special_215 : decode k_Md_special 215 = .ok (.iconst 3, 1) := by decide +kernel
theorem d_Md_special_216 : decode k_Md_special 216 = .ok (.aload_n 0, 1) := by decide +kernel
theorem d_Md_special_217 : decode k_Md_special 217 = .ok (.iload_n 2, 1) := by decide +kernel
theorem d_Md_special_218 : decode k_Md_special 218 = .ok (.invokevirtual 193, 3) := by decide +kernel
theorem d_Md_special_221 : decode k_Md_special 221 = .ok (.aload_n 0, 1) := by decide +kernel
theorem d_Md_special_222 : decode k_Md_special 222 = .ok (.getfield 50, 3) := by decide +kernel
theorem d_Md_special_225 : decode k_Md_special 225 = .ok (.invokevirtual 214, 3) := by decide +kernel
theorem d_Md_special_228 : decode k_Md_special 228 = .ok (.istore 5, 2) := by decide +kernel
theorem d_Md_special_230 : decode k_Md_special 230 = .ok (.iload 5, 2) := by decide +kernel
theorem d_Md_special_232 : decode k_Md_special 232 = .ok (.bipush (-6), 2) := by decide +kernel
theorem d_Md_special_234 : decode k_Md_special 234 = .ok (.if_icmp .ne (8), 3) := by decide +kernel
theorem d_Md_special_237 : decode k_Md_special 237 = .ok (.bipush (-6), 2) := by decide +kernel
theorem d_Md_special_239 : decode k_Md_special 239 = .ok (.goto (31), 3) := by decide +kernel
theorem d_Md_special_242 : decode k_Md_special 242 = .ok (.aload_n 0, 1) := by decide +kernel
theorem d_Md_special_243 : decode k_Md_special 243 = .ok (.iload_n 1, 1) := by decide +kernel
theorem d_Md_special_244 : decode k_Md_special 244 = .ok (.bipush 11, 2) := by decide +kernel
theorem d_Md_special_246 : decode k_Md_special 246 = .ok (.if_icmp .ne (11), 3) := by decide +kernel
theorem d_Md_special_249 : decode k_Md_special 249 = .ok (.aload_n 0, 1) := by decide +kernel
theorem d_Md_special_250 : decode k_Md_special 250 = .ok (.iload_n 2, 1) := by decide +kernel
theorem d_Md_special_251 : decode k_Md_special 251 = .ok (.invokevirtual 193, 3) := by decide +kernel
theorem d_Md_special_254 : decode k_Md_special 254 = .ok (.goto (9), 3) := by decide +kernel
theorem d_Md_special_257 : decode k_Md_special 257 = .ok (.aload_n 0, 1) := by decide +kernel
theorem d_Md_special_258 : decode k_Md_special 258 = .ok (.iload_n 2, 1) := by decide +kernel
theorem d_Md_special_259 : decode k_Md_special 259 = .ok (.iconst 1, 1) := by decide +kernel
theorem d_Md_special_260 : decode k_Md_special 260 = .ok (.invokevirtual 211, 3) := by decide +kernel
theorem d_Md_special_263 : decode k_Md_special 263 = .ok (.aload_n 0, 1) := by decide +kernel
theorem d_Md_special_264 : decode k_Md_special 264 = .ok (.getfield 50, 3) := by decide +kernel
theorem d_Md_special_267 : decode k_Md_special 267 = .ok (.invokevirtual 218, 3) := by decide +kernel
theorem d_Md_special_270 : decode k_Md_special 270 = .ok (.ireturn, 1) := by decide +kernel
theorem d_Md_evaluate_0 : decode k_Md_evaluate 0 = .ok (.aload_n 0, 1) := by decide +kernel
theorem d_Md_evaluate_1 : decode k_Md_evaluate 1 = .ok (.getfield 46, 3) := by decide +kernel
theorem d_Md_evaluate_4 : decode k_Md_evaluate 4 = .ok (.invokestatic 205, 3) := by decide +kernel
theorem d_Md_evaluate_7 : decode k_Md_evaluate 7 = .ok (.ifCond .eq (8), 3) := by decide +kernel
theorem d_Md_evaluate_10 : decode k_Md_evaluate 10 = .ok (.aload_n 0, 1) := by decide +kernel
theorem d_Md_evaluate_11 : decode k_Md_evaluate 11 = .ok (.invokevirtual 221, 3) := by decide +kernel
theorem d_Md_evaluate_14 : decode k_Md_evaluate 14 = .ok (.ireturn, 1) := by decide +kernel
theorem d_Md_evaluate_15 : decode k_Md_evaluate 15 = .ok (.aload_n 0, 1) := by decide +kernel
theorem d_Md_evaluate_16 : decode k_Md_evaluate 16 = .ok (.aload_n 0, 1) := by decide +kernel
theorem d_Md_evaluate_17 : decode k_Md_evaluate 17 = .ok (.getfield 46, 3) := by decide +kernel
theorem d_Md_evaluate_20 : decode k_Md_evaluate 20 = .ok (.invokevirtual 187, 3) := by decide +kernel
theorem d_Md_evaluate_23 : decode k_Md_evaluate 23 = .ok (.ifCond .ne (12), 3) := by decide +kernel
theorem d_Md_evaluate_26 : decode k_Md_evaluate 26 = .ok (.aload_n 0, 1) := by decide +kernel
theorem d_Md_evaluate_27 : decode k_Md_evaluate 27 = .ok (.aload_n 0, 1) := by decide +kernel
theorem d_Md_evaluate_28 : decode k_Md_evaluate 28 = .ok (.getfield 46, 3) := by decide +kernel
theorem d_Md_evaluate_31 : decode k_Md_evaluate 31 = .ok (.invokevirtual 199, 3) := by decide +kernel
theorem d_Md_evaluate_34 : decode k_Md_evaluate 34 = .ok (.ireturn, 1) := by decide +kernel
theorem d_Md_evaluate_35 : decode k_Md_evaluate 35 = .ok (.aload_n 0, 1) := by decide +kernel
theorem d_Md_evaluate_36 : decode k_Md_evaluate 36 = .ok (.aload_n 0, 1) := by decide +kernel
theorem d_Md_evaluate_37 : decode k_Md_evaluate 37 = .ok (.getfield 46, 3) := by decide +kernel
theorem d_Md_evaluate_40 : decode k_Md_evaluate 40 = .ok (.invokevirtual 193, 3) := by decide +kernel
theorem d_Md_evaluate_43 : decode k_Md_evaluate 43 = .ok (.istore_n 1, 1) := by decide +kernel
theorem d_Md_evaluate_44 : decode k_Md_evaluate 44 = .ok (.iload_n 1, 1) := by decide +kernel
theorem d_Md_evaluate_45 : decode k_Md_evaluate 45 = .ok (.ldc 151, 2) := by decide +kernel
theorem d_Md_evaluate_47 : decode k_Md_evaluate 47 = .ok (.if_icmp .lt (18), 3) := by decide +kernel
theorem d_Md_evaluate_50 : decode k_Md_evaluate 50 = .ok (.iload_n 1, 1) := by decide +kernel
theorem d_Md_evaluate_51 : decode k_Md_evaluate 51 = .ok (.ldc 83, 2) := by decide +kernel
theorem d_Md_evaluate_53 : decode k_Md_evaluate 53 = .ok (.if_icmp .ge (12), 3) := by decide +kernel
theorem d_Md_evaluate_56 : decode k_Md_evaluate 56 = .ok (.aload_n 0, 1) := by decide +kernel
theorem d_Md_evaluate_57 : decode k_Md_evaluate 57 = .ok (.iload_n 1, 1) := by decide +kernel
theorem d_Md_evaluate_58 : decode k_Md_evaluate 58 = .ok (.ldc 90, 2) := by decide +kernel
theorem d_Md_evaluate_60 : decode k_Md_evaluate 60 = .ok (.isub, 1) := by decide +kernel
theorem d_Md_evaluate_61 : decode k_Md_evaluate 61 = .ok (.invokevirtual 224, 3) := by decide +kernel
theorem d_Md_evaluate_64 : decode k_Md_evaluate 64 = .ok (.ireturn, 1) := by decide +kernel
theorem d_Md_evaluate_65 : decode k_Md_evaluate 65 = .ok (.aload_n 0, 1) := by decide +kernel
theorem d_Md_evaluate_66 : decode k_Md_evaluate 66 = .ok (.iconst 4, 1) := by decide +kernel
theorem d_Md_evaluate_67 : decode k_Md_evaluate 67 = .ok (.aload_n 0, 1) := by decide +kernel
theorem d_Md_evaluate_68 : decode k_Md_evaluate 68 = .ok (.aload_n 0, 1) := by decide +kernel
theorem d_Md_evaluate_69 : decode k_Md_evaluate 69 = .ok (.getfield 46, 3) := by decide +kernel
theorem d_Md_evaluate_72 : decode k_Md_evaluate 72 = .ok (.invokevirtual 190, 3) := by decide +kernel
theorem d_Md_evaluate_75 : decode k_Md_evaluate 75 = .ok (.aload_n 0, 1) := by decide +kernel
theorem d_Md_evaluate_76 : decode k_Md_evaluate 76 = .ok (.getfield 50, 3) := by decide +kernel
theorem d_Md_evaluate_79 : decode k_Md_evaluate 79 = .ok (.invokevirtual 214, 3) := by decide +kernel
theorem d_Md_evaluate_82 : decode k_Md_evaluate 82 = .ok (.bipush (-6), 2) := by decide +kernel
theorem d_Md_evaluate_84 : decode k_Md_evaluate 84 = .ok (.if_icmp .ne (8), 3) := by decide +kernel
theorem d_Md_evaluate_87 : decode k_Md_evaluate 87 = .ok (.bipush (-6), 2) := by decide +kernel
theorem d_Md_evaluate_89 : decode k_Md_evaluate 89 = .ok (.goto (12), 3) := by decide +kernel
theorem d_Md_evaluate_92 : decode k_Md_evaluate 92 = .ok (.aload_n 0, 1) := by decide +kernel
theorem d_Md_evaluate_93 : decode k_Md_evaluate 93 = .ok (.iload_n 1, 1) := by decide +kernel
theorem d_Md_evaluate_94 : decode k_Md_evaluate 94 = .ok (.aload_n 0, 1) := by decide +kernel
theorem d_Md_evaluate_95 : decode k_Md_evaluate 95 = .ok (.getfield 50, 3) := by decide +kernel
theorem d_Md_evaluate_98 : decode k_Md_evaluate 98 = .ok (.invokevirtual 218, 3) := by decide +kernel
theorem d_Md_evaluate_101 : decode k_Md_evaluate 101 = .ok (.ireturn, 1) := by decide +kernel
theorem d_Md_back_0 : decode k_Md_back 0 = .ok (.aload_n 0, 1) := by decide +kernel
theorem d_Md_back_1 : decode k_Md_back 1 = .ok (.getfield 100, 3) := by decide +kernel
theorem d_Md_back_4 : decode k_Md_back 4 = .ok (.ifCond .ne (18), 3) := by decide +kernel
theorem d_Md_back_7 : decode k_Md_back 7 = .ok (.aload_n 0, 1) := by decide +kernel
theorem d_Md_back_8 : decode k_Md_back 8 = .ok (.invokevirtual 227, 3) := by decide +kernel
theorem d_Md_back_11 : decode k_Md_back 11 = .ok (.aload_n 0, 1) := by decide +kernel
theorem d_Md_back_12 : decode k_Md_back 12 = .ok (.iconst 0, 1) := by decide +kernel
theorem d_Md_back_13 : decode k_Md_back 13 = .ok (.putfield 180, 3) := by decide +kernel
theorem d_Md_back_16 : decode k_Md_back 16 = .ok (.aload_n 0, 1) := by decide +kernel
theorem d_Md_back_17 : decode k_Md_back 17 = .ok (.invokevirtual 230, 3) := by decide +kernel
theorem d_Md_back_20 : decode k_Md_back 20 = .ok (.iconst 0, 1) := by decide +kernel
theorem d_Md_back_21 : decode k_Md_back 21 = .ok (.ireturn, 1) := by decide +kernel
theorem d_Md_back_22 : decode k_Md_back 22 = .ok (.aload_n 0, 1) := by decide +kernel
theorem d_Md_back_23 : decode k_Md_back 23 = .ok (.getfield 100, 3) := by decide +kernel
theorem d_Md_back_26 : decode k_Md_back 26 = .ok (.iconst 1, 1) := by decide +kernel
theorem d_Md_back_27 : decode k_Md_back 27 = .ok (.isub, 1) := by decide +kernel
theorem d_Md_back_28 : decode k_Md_back 28 = .ok (.istore_n 1, 1) := by decide +kernel
theorem d_Md_back_29 : decode k_Md_back 29 = .ok (.aload_n 0, 1) := by decide +kernel
theorem d_Md_back_30 : decode k_Md_back 30 = .ok (.getfield 26, 3) := by decide +kernel
theorem d_Md_back_33 : decode k_Md_back 33 = .ok (.iload_n 1, 1) := by decide +kernel
theorem d_Md_back_34 : decode k_Md_back 34 = .ok (.iaload, 1) := by decide +kernel
theorem d_Md_back_35 : decode k_Md_back 35 = .ok (.iconst 4, 1) := by decide +kernel
theorem d_Md_back_36 : decode k_Md_back 36 = .ok (.if_icmp .ne (9), 3) := by decide +kernel
theorem d_Md_back_39 : decode k_Md_back 39 = .ok (.aload_n 0, 1) := by decide +kernel
theorem d_Md_back_40 : decode k_Md_back 40 = .ok (.iload_n 1, 1) := by decide +kernel
theorem d_Md_back_41 : decode k_Md_back 41 = .ok (.invokevirtual 233, 3) := by decide +kernel
theorem d_Md_back_44 : decode k_Md_back 44 = .ok (.ireturn, 1) := by decide +kernel
theorem d_Md_back_45 : decode k_Md_back 45 = .ok (.aload_n 0, 1) := by decide +kernel
theorem d_Md_back_46 : decode k_Md_back 46 = .ok (.iload_n 1, 1) := by decide +kernel
theorem d_Md_back_47 : decode k_Md_back 47 = .ok (.putfield 100, 3) := by decide +kernel
theorem d_Md_back_50 : decode k_Md_back 50 = .ok (.aload_n 0, 1) := by decide +kernel
theorem d_Md_back_51 : decode k_Md_back 51 = .ok (.getfield 29, 3) := by decide +kernel
theorem d_Md_back_54 : decode k_Md_back 54 = .ok (.iload_n 1, 1) := by decide +kernel
theorem d_Md_back_55 : decode k_Md_back 55 = .ok (.iaload, 1) := by decide +kernel
theorem d_Md_back_56 : decode k_Md_back 56 = .ok (.istore_n 2, 1) := by decide +kernel
theorem d_Md_back_57 : decode k_Md_back 57 = .ok (.aload_n 0, 1) := by decide +kernel
theorem d_Md_back_58 : decode k_Md_back 58 = .ok (.getfield 32, 3) := by decide +kernel
theorem d_Md_back_61 : decode k_Md_back 61 = .ok (.iload_n 1, 1) := by decide +kernel
theorem d_Md_back_62 : decode k_Md_back 62 = .ok (.iaload, 1) := by decide +kernel
theorem d_Md_back_63 : decode k_Md_back 63 = .ok (.istore_n 3, 1) := by decide +kernel
theorem d_Md_back_64 : decode k_Md_back 64 = .ok (.aload_n 0, 1) := by decide +kernel
theorem d_Md_back_65 : decode k_Md_back 65 = .ok (.getfield 26, 3) := by decide +kernel
theorem d_Md_back_68 : decode k_Md_back 68 = .ok (.iload_n 1, 1) := by decide +kernel
theorem d_Md_back_69 : decode k_Md_back 69 = .ok (.iaload, 1) := by decide +kernel
theorem d_Md_back_70 : decode k_Md_back 70 = .ok (.iconst 1, 1) := by decide +kernel
theorem d_Md_back_71 : decode k_Md_back 71 = .ok (.if_icmp .ne (54), 3) := by decide +kernel
theorem d_Md_back_74 : decode k_Md_back 74 = .ok (.aload_n 0, 1) := by decide +kernel
theorem d_Md_back_75 : decode k_Md_back 75 = .ok (.getfield 46, 3) := by decide +kernel
theorem d_Md_back_78 : decode k_Md_back 78 = .ok (.ldc 45, 2) := by decide +kernel
theorem d_Md_back_80 : decode k_Md_back 80 = .ok (.if_icmp .eq (14), 3) := by decide +kernel
theorem d_Md_back_83 : decode k_Md_back 83 = .ok (.aload_n 0, 1) := by decide +kernel
theorem d_Md_back_84 : decode k_Md_back 84 = .ok (.aload_n 0, 1) := by decide +kernel
theorem d_Md_back_85 : decode k_Md_back 85 = .ok (.iload_n 2, 1) := by decide +kernel
theorem d_Md_back_86 : decode k_Md_back 86 = .ok (.invokevirtual 193, 3) := by decide +kernel
theorem d_Md_back_89 : decode k_Md_back 89 = .ok (.iload_n 3, 1) := by decide +kernel
theorem d_Md_back_90 : decode k_Md_back 90 = .ok (.invokevirtual 218, 3) := by decide +kernel
theorem d_Md_back_93 : decode k_Md_back 93 = .ok (.ireturn, 1) := by decide +kernel
theorem d_Md_back_94 : decode k_Md_back 94 = .ok (.aload_n 0, 1) := by decide +kernel
theorem d_Md_back_95 : decode k_Md_back 95 = .ok (.iload_n 2, 1) := by decide +kernel
theorem d_Md_back_96 : decode k_Md_back 96 = .ok (.invokevirtual 190, 3) := by decide +kernel
theorem d_Md_back_99 : decode k_Md_back 99 = .ok (.ldc 45, 2) := by decide +kernel
theorem d_Md_back_101 : decode k_Md_back 101 = .ok (.if_icmp .ne (12), 3) := by decide +kernel
theorem d_Md_back_104 : decode k_Md_back 104 = .ok (.aload_n 0, 1) := by decide +kernel
theorem d_Md_back_105 : decode k_Md_back 105 = .ok (.ldc 45, 2) := by decide +kernel
theorem d_Md_back_107 : decode k_Md_back 107 = .ok (.invokevirtual 199, 3) := by decide +kernel
theorem d_Md_back_110 : decode k_Md_back 110 = .ok (.goto (14), 3) := by decide +kernel
theorem d_Md_back_113 : decode k_Md_back 113 = .ok (.aload_n 0, 1) := by decide +kernel
theorem d_Md_back_114 : decode k_Md_back 114 = .ok (.aload_n 0, 1) := by decide +kernel
theorem d_Md_back_115 : decode k_Md_back 115 = .ok (.iload_n 2, 1) := by decide +kernel
theorem d_Md_back_116 : decode k_Md_back 116 = .ok (.iconst 1, 1) := by decide +kernel
theorem d_Md_back_117 : decode k_Md_back 117 = .ok (.invokevirtual 211, 3) := by decide +kernel
theorem d_Md_back_120 : decode k_Md_back 120 = .ok (.iload_n 3, 1) := by decide +kernel
theorem d_Md_back_121 : decode k_Md_back 121 = .ok (.invokevirtual 218, 3) := by decide +kernel
theorem d_Md_back_124 : decode k_Md_back 124 = .ok (.ireturn, 1) := by decide +kernel
theorem d_Md_back_125 : decode k_Md_back 125 = .ok (.aload_n 0, 1) := by decide +kernel
theorem d_Md_back_126 : decode k_Md_back 126 = .ok (.getfield 26, 3) := by decide +kernel
theorem d_Md_back_129 : decode k_Md_back 129 = .ok (.iload_n 1, 1) := by decide +kernel
theorem d_Md_back_130 : decode k_Md_back 130 = .ok (.iaload, 1) := by decide +kernel
theorem d_Md_back_131 : decode k_Md_back 131 = .ok (.iconst 2, 1) := by decide +kernel
theorem d_Md_back_132 : decode k_Md_back 132 = .ok (.if_icmp .ne (22), 3) := by decide +kernel
theorem d_Md_back_135 : decode k_Md_back 135 = .ok (.aload_n 0, 1) := by decide +kernel
theorem d_Md_back_136 : decode k_Md_back 136 = .ok (.getfield 42, 3) := by decide +kernel
theorem d_Md_back_139 : decode k_Md_back 139 = .ok (.iload_n 2, 1) := by decide +kernel
theorem d_Md_back_140 : decode k_Md_back 140 = .ok (.ldc 90, 2) := by decide +kernel
theorem d_Md_back_142 : decode k_Md_back 142 = .ok (.isub, 1) := by decide +kernel
theorem d_Md_back_143 : decode k_Md_back 143 = .ok (.aload_n 0, 1) := by decide +kernel
theorem d_Md_back_144 : decode k_Md_back 144 = .ok (.getfield 46, 3) := by decide +kernel
theorem d_Md_back_147 : decode k_Md_back 147 = .ok (.iastore, 1) := by decide +kernel
theorem d_Md_back_148 : decode k_Md_back 148 = .ok (.aload_n 0, 1) := by decide +kernel
theorem d_Md_back_149 : decode k_Md_back 149 = .ok (.iload_n 2, 1) := by decide +kernel
theorem d_Md_back_150 : decode k_Md_back 150 = .ok (.invokevirtual 199, 3) := by decide +kernel
theorem d_Md_back_153 : decode k_Md_back 153 = .ok (.ireturn, 1) := by decide +kernel
theorem d_Md_back_154 : decode k_Md_back 154 = .ok (.aload_n 0, 1) := by decide +kernel
theorem d_Md_back_155 : decode k_Md_back 155 = .ok (.iload_n 2, 1) := by decide +kernel
theorem d_Md_back_156 : decode k_Md_back 156 = .ok (.iload_n 3, 1) := by decide +kernel
theorem d_Md_back_157 : decode k_Md_back 157 = .ok (.invokevirtual 196, 3) := by decide +kernel
theorem d_Md_back_160 : decode k_Md_back 160 = .ok (.istore 4, 2) := by decide +kernel
theorem d_Md_back_162 : decode k_Md_back 162 = .ok (.iload 4, 2) := by decide +kernel
theorem d_Md_back_164 : decode k_Md_back 164 = .ok (.ldc 45, 2) := by decide +kernel
theorem d_Md_back_166 : decode k_Md_back 166 = .ok (.if_icmp .ne (20), 3) := by decide +kernel
theorem d_Md_back_169 : decode k_Md_back 169 = .ok (.aload_n 0, 1) := by decide +kernel
theorem d_Md_back_170 : decode k_Md_back 170 = .ok (.getfield 42, 3) := by decide +kernel
theorem d_Md_back_173 : decode k_Md_back 173 = .ok (.iload_n 2, 1) := by decide +kernel
theorem d_Md_back_174 : decode k_Md_back 174 = .ok (.ldc 90, 2) := by decide +kernel
theorem d_Md_back_176 : decode k_Md_back 176 = .ok (.isub, 1) := by decide +kernel
theorem d_Md_back_177 : decode k_Md_back 177 = .ok (.iaload, 1) := by decide +kernel
theorem d_Md_back_178 : decode k_Md_back 178 = .ok (.ldc 78, 2) := by decide +kernel
theorem d_Md_back_180 : decode k_Md_back 180 = .ok (.if_icmp .ne (6), 3) := by decide +kernel
theorem d_Md_back_183 : decode k_Md_back 183 = .ok (.bipush (-2), 2) := by decide +kernel
theorem d_Md_back_185 : decode k_Md_back 185 = .ok (.ireturn, 1) := by decide +kernel
theorem d_Md_back_186 : decode k_Md_back 186 = .ok (.iload 4, 2) := by decide +kernel
theorem d_Md_back_188 : decode k_Md_back 188 = .ok (.ldc 45, 2) := by decide +kernel
theorem d_Md_back_190 : decode k_Md_back 190 = .ok (.if_icmp .ne (19), 3) := by decide +kernel
theorem d_Md_back_193 : decode k_Md_back 193 = .ok (.aload_n 0, 1) := by decide +kernel
theorem d_Md_back_194 : decode k_Md_back 194 = .ok (.getfield 42, 3) := by decide +kernel
theorem d_Md_back_197 : decode k_Md_back 197 = .ok (.iload_n 2, 1) := by decide +kernel
theorem d_Md_back_198 : decode k_Md_back 198 = .ok (.ldc 90, 2) := by decide +kernel
theorem d_Md_back_200 : decode k_Md_back 200 = .ok (.isub, 1) := by decide +kernel
theorem d_Md_back_201 : decode k_Md_back 201 = .ok (.aload_n 0, 1) := by decide +kernel
theorem d_Md_back_202 : decode k_Md_back 202 = .ok (.getfield 46, 3) := by decide +kernel
theorem d_Md_back_205 : decode k_Md_back 205 = .ok (.iastore, 1) := by decide +kernel
theorem d_Md_back_206 : decode k_Md_back 206 = .ok (.goto (17), 3) := by decide +kernel
theorem d_Md_back_209 : decode k_Md_back 209 = .ok (.aload_n 0, 1) := by decide +kernel
theorem d_Md_back_210 : decode k_Md_back 210 = .ok (.getfield 16, 3) := by decide +kernel
theorem d_Md_back_213 : decode k_Md_back 213 = .ok (.iload 4, 2) := by decide +kernel
theorem d_Md_back_215 : decode k_Md_back 215 = .ok (.ldc 91, 2) := by decide +kernel
theorem d_Md_back_217 : decode k_Md_back 217 = .ok (.isub, 1) := by decide +kernel
theorem d_Md_back_218 : decode k_Md_back 218 = .ok (.aload_n 0, 1) := by decide +kernel
theorem d_Md_back_219 : decode k_Md_back 219 = .ok (.getfield 46, 3) := by decide +kernel
theorem d_Md_back_222 : decode k_Md_back 222 = .ok (.iastore, 1) := by decide +kernel
theorem d_Md_back_223 : decode k_Md_back 223 = .ok (.aload_n 0, 1) := by decide +kernel
theorem d_Md_back_224 : decode k_Md_back 224 = .ok (.aload_n 0, 1) := by decide +kernel
theorem d_Md_back_225 : decode k_Md_back 225 = .ok (.getfield 46, 3) := by decide +kernel
theorem d_Md_back_228 : decode k_Md_back 228 = .ok (.invokevirtual 199, 3) := by decide +kernel
theorem d_Md_back_231 : decode k_Md_back 231 = .ok (.ireturn, 1) := by decide +kernel
theorem d_Md_argument_0 : decode k_Md_argument 0 = .ok (.aload_n 0, 1) := by decide +kernel
theorem d_Md_argument_1 : decode k_Md_argument 1 = .ok (.iconst 2, 1) := by decide +kernel
theorem d_Md_argument_2 : decode k_Md_argument 2 = .ok (.invokevirtual 171, 3) := by decide +kernel
theorem d_Md_argument_5 : decode k_Md_argument 5 = .ok (.ifCond .ne (6), 3) := by decide +kernel
theorem d_Md_argument_8 : decode k_Md_argument 8 = .ok (.bipush (-7), 2) := by decide +kernel
theorem d_Md_argument_10 : decode k_Md_argument 10 = .ok (.ireturn, 1) := by decide +kernel
theorem d_Md_argument_11 : decode k_Md_argument 11 = .ok (.aload_n 0, 1) := by decide +kernel
theorem d_Md_argument_12 : decode k_Md_argument 12 = .ok (.getfield 35, 3) := by decide +kernel
theorem d_Md_argument_15 : decode k_Md_argument 15 = .ok (.iload_n 1, 1) := by decide +kernel
theorem d_Md_argument_16 : decode k_Md_argument 16 = .ok (.aload_n 0, 1) := by decide +kernel
theorem d_Md_argument_17 : decode k_Md_argument 17 = .ok (.aload_n 0, 1) := by decide +kernel
theorem d_Md_argument_18 : decode k_Md_argument 18 = .ok (.getfield 46, 3) := by decide +kernel
theorem d_Md_argument_21 : decode k_Md_argument 21 = .ok (.aload_n 0, 1) := by decide +kernel
theorem d_Md_argument_22 : decode k_Md_argument 22 = .ok (.getfield 35, 3) := by decide +kernel
theorem d_Md_argument_25 : decode k_Md_argument 25 = .ok (.iload_n 1, 1) := by decide +kernel
theorem d_Md_argument_26 : decode k_Md_argument 26 = .ok (.iaload, 1) := by decide +kernel
theorem d_Md_argument_27 : decode k_Md_argument 27 = .ok (.invokevirtual 152, 3) := by decide +kernel
theorem d_Md_argument_30 : decode k_Md_argument 30 = .ok (.iastore, 1) := by decide +kernel
theorem d_Md_argument_31 : decode k_Md_argument 31 = .ok (.aload_n 0, 1) := by decide +kernel
theorem d_Md_argument_32 : decode k_Md_argument 32 = .ok (.getfield 29, 3) := by decide +kernel
theorem d_Md_argument_35 : decode k_Md_argument 35 = .ok (.iload_n 1, 1) := by decide +kernel
theorem d_Md_argument_36 : decode k_Md_argument 36 = .ok (.iaload, 1) := by decide +kernel
theorem d_Md_argument_37 : decode k_Md_argument 37 = .ok (.istore_n 2, 1) := by decide +kernel
theorem d_Md_argument_38 : decode k_Md_argument 38 = .ok (.iload_n 2, 1) := by decide +kernel
theorem d_Md_argument_39 : decode k_Md_argument 39 = .ok (.ldc 45, 2) := by decide +kernel
theorem d_Md_argument_41 : decode k_Md_argument 41 = .ok (.if_icmp .ne (14), 3) := by decide +kernel
theorem d_Md_argument_44 : decode k_Md_argument 44 = .ok (.aload_n 0, 1) := by decide +kernel
theorem d_Md_argument_45 : decode k_Md_argument 45 = .ok (.aload_n 0, 1) := by decide +kernel
theorem d_Md_argument_46 : decode k_Md_argument 46 = .ok (.getfield 35, 3) := by decide +kernel
theorem d_Md_argument_49 : decode k_Md_argument 49 = .ok (.iload_n 1, 1) := by decide +kernel
theorem d_Md_argument_50 : decode k_Md_argument 50 = .ok (.iaload, 1) := by decide +kernel
theorem d_Md_argument_51 : decode k_Md_argument 51 = .ok (.invokevirtual 236, 3) := by decide +kernel
theorem d_Md_argument_54 : decode k_Md_argument 54 = .ok (.ireturn, 1) := by decide +kernel
theorem d_Md_argument_55 : decode k_Md_argument 55 = .ok (.aload_n 0, 1) := by decide +kernel
theorem d_Md_argument_56 : decode k_Md_argument 56 = .ok (.getfield 29, 3) := by decide +kernel
theorem d_Md_argument_59 : decode k_Md_argument 59 = .ok (.iload_n 1, 1) := by decide +kernel
theorem d_Md_argument_60 : decode k_Md_argument 60 = .ok (.aload_n 0, 1) := by decide +kernel
theorem d_Md_argument_61 : decode k_Md_argument 61 = .ok (.iload_n 2, 1) := by decide +kernel
theorem d_Md_argument_62 : decode k_Md_argument 62 = .ok (.invokevirtual 190, 3) := by decide +kernel
theorem d_Md_argument_65 : decode k_Md_argument 65 = .ok (.iastore, 1) := by decide +kernel
theorem d_Md_argument_66 : decode k_Md_argument 66 = .ok (.aload_n 0, 1) := by decide +kernel
theorem d_Md_argument_67 : decode k_Md_argument 67 = .ok (.aload_n 0, 1) := by decide +kernel
theorem d_Md_argument_68 : decode k_Md_argument 68 = .ok (.iload_n 2, 1) := by decide +kernel
theorem d_Md_argument_69 : decode k_Md_argument 69 = .ok (.invokevirtual 193, 3) := by decide +kernel
theorem d_Md_argument_72 : decode k_Md_argument 72 = .ok (.aload_n 0, 1) := by decide +kernel
theorem d_Md_argument_73 : decode k_Md_argument 73 = .ok (.getfield 32, 3) := by decide +kernel
theorem d_Md_argument_76 : decode k_Md_argument 76 = .ok (.iload_n 1, 1) := by decide +kernel
theorem d_Md_argument_77 : decode k_Md_argument 77 = .ok (.iaload, 1) := by decide +kernel
theorem d_Md_argument_78 : decode k_Md_argument 78 = .ok (.invokevirtual 218, 3) := by decide +kernel
theorem d_Md_argument_81 : decode k_Md_argument 81 = .ok (.ireturn, 1) := by decide +kernel
theorem d_Md_done_0 : decode k_Md_done 0 = .ok (.aload_n 0, 1) := by decide +kernel
theorem d_Md_done_1 : decode k_Md_done 1 = .ok (.dup, 1) := by decide +kernel
theorem d_Md_done_2 : decode k_Md_done 2 = .ok (.getfield 100, 3) := by decide +kernel
theorem d_Md_done_5 : decode k_Md_done 5 = .ok (.iconst 1, 1) := by decide +kernel
theorem d_Md_done_6 : decode k_Md_done 6 = .ok (.isub, 1) := by decide +kernel
theorem d_Md_done_7 : decode k_Md_done 7 = .ok (.putfield 100, 3) := by decide +kernel
theorem d_Md_done_10 : decode k_Md_done 10 = .ok (.aload_n 0, 1) := by decide +kernel
theorem d_Md_done_11 : decode k_Md_done 11 = .ok (.iload_n 1, 1) := by decide +kernel
theorem d_Md_done_12 : decode k_Md_done 12 = .ok (.invokevirtual 199, 3) := by decide +kernel
theorem d_Md_done_15 : decode k_Md_done 15 = .ok (.ireturn, 1) := by decide +kernel
theorem d_Md_apply_0 : decode k_Md_apply 0 = .ok (.aload_n 0, 1) := by decide +kernel
theorem d_Md_apply_1 : decode k_Md_apply 1 = .ok (.iload_n 1, 1) := by decide +kernel
theorem d_Md_apply_2 : decode k_Md_apply 2 = .ok (.invokevirtual 202, 3) := by decide +kernel
theorem d_Md_apply_5 : decode k_Md_apply 5 = .ok (.iconst 1, 1) := by decide +kernel
theorem d_Md_apply_6 : decode k_Md_apply 6 = .ok (.isub, 1) := by decide +kernel
theorem d_Md_apply_7 : decode k_Md_apply 7 = .ok (.istore_n 2, 1) := by decide +kernel
theorem d_Md_apply_8 : decode k_Md_apply 8 = .ok (.aload_n 0, 1) := by decide +kernel
theorem d_Md_apply_9 : decode k_Md_apply 9 = .ok (.iload_n 1, 1) := by decide +kernel
theorem d_Md_apply_10 : decode k_Md_apply 10 = .ok (.iload_n 2, 1) := by decide +kernel
theorem d_Md_apply_11 : decode k_Md_apply 11 = .ok (.invokevirtual 211, 3) := by decide +kernel
theorem d_Md_apply_14 : decode k_Md_apply 14 = .ok (.istore_n 3, 1) := by decide +kernel
theorem d_Md_apply_15 : decode k_Md_apply 15 = .ok (.aload_n 0, 1) := by decide +kernel
theorem d_Md_apply_16 : decode k_Md_apply 16 = .ok (.iload_n 3, 1) := by decide +kernel
theorem d_Md_apply_17 : decode k_Md_apply 17 = .ok (.invokevirtual 239, 3) := by decide +kernel
theorem d_Md_apply_20 : decode k_Md_apply 20 = .ok (.ifCond .eq (11), 3) := by decide +kernel
theorem d_Md_apply_23 : decode k_Md_apply 23 = .ok (.aload_n 0, 1) := by decide +kernel
theorem d_Md_apply_24 : decode k_Md_apply 24 = .ok (.iload_n 1, 1) := by decide +kernel
theorem d_Md_apply_25 : decode k_Md_apply 25 = .ok (.iload_n 2, 1) := by decide +kernel
theorem d_Md_apply_26 : decode k_Md_apply 26 = .ok (.iload_n 3, 1) := by decide +kernel
theorem d_Md_apply_27 : decode k_Md_apply 27 = .ok (.invokevirtual 242, 3) := by decide +kernel
theorem d_Md_apply_30 : decode k_Md_apply 30 = .ok (.ireturn, 1) := by decide +kernel
theorem d_Md_apply_31 : decode k_Md_apply 31 = .ok (.iload_n 3, 1) := by decide +kernel
theorem d_Md_apply_32 : decode k_Md_apply 32 = .ok (.ldc 77, 2) := by decide +kernel
theorem d_Md_apply_34 : decode k_Md_apply 34 = .ok (.if_icmp .lt (10), 3) := by decide +kernel
theorem d_Md_apply_37 : decode k_Md_apply 37 = .ok (.iload_n 3, 1) := by decide +kernel
theorem d_Md_apply_38 : decode k_Md_apply 38 = .ok (.invokestatic 92, 3) := by decide +kernel
theorem d_Md_apply_41 : decode k_Md_apply 41 = .ok (.ifCond .eq (6), 3) := by decide +kernel
theorem d_Md_apply_44 : decode k_Md_apply 44 = .ok (.bipush (-5), 2) := by decide +kernel
theorem d_Md_apply_46 : decode k_Md_apply 46 = .ok (.ireturn, 1) := by decide +kernel
theorem d_Md_apply_47 : decode k_Md_apply 47 = .ok (.iload_n 3, 1) := by decide +kernel
theorem d_Md_apply_48 : decode k_Md_apply 48 = .ok (.ldc 77, 2) := by decide +kernel
theorem d_Md_apply_50 : decode k_Md_apply 50 = .ok (.isub, 1) := by decide +kernel
theorem d_Md_apply_51 : decode k_Md_apply 51 = .ok (.istore 4, 2) := by decide +kernel
theorem d_Md_apply_53 : decode k_Md_apply 53 = .ok (.iload 4, 2) := by decide +kernel
theorem d_Md_apply_55 : decode k_Md_apply 55 = .ok (.bipush 9, 2) := by decide +kernel
theorem d_Md_apply_57 : decode k_Md_apply 57 = .ok (.if_icmp .ne (10), 3) := by decide +kernel
theorem d_Md_apply_60 : decode k_Md_apply 60 = .ok (.aload_n 0, 1) := by decide +kernel
theorem d_Md_apply_61 : decode k_Md_apply 61 = .ok (.iload_n 1, 1) := by decide +kernel
theorem d_Md_apply_62 : decode k_Md_apply 62 = .ok (.iload_n 2, 1) := by decide +kernel
theorem d_Md_apply_63 : decode k_Md_apply 63 = .ok (.invokevirtual 245, 3) := by decide +kernel
theorem d_Md_apply_66 : decode k_Md_apply 66 = .ok (.ireturn, 1) := by decide +kernel
theorem d_Md_apply_67 : decode k_Md_apply 67 = .ok (.iload 4, 2) := by decide +kernel
theorem d_Md_apply_69 : decode k_Md_apply 69 = .ok (.iconst 5, 1) := by decide +kernel
theorem d_Md_apply_70 : decode k_Md_apply 70 = .ok (.if_icmp .eq (17), 3) := by decide +kernel
theorem d_Md_apply_73 : decode k_Md_apply 73 = .ok (.iload 4, 2) := by decide +kernel
theorem d_Md_apply_75 : decode k_Md_apply 75 = .ok (.bipush 7, 2) := by decide +kernel
theorem d_Md_apply_77 : decode k_Md_apply 77 = .ok (.if_icmp .eq (10), 3) := by decide +kernel
theorem d_Md_apply_80 : decode k_Md_apply 80 = .ok (.iload 4, 2) := by decide +kernel
theorem d_Md_apply_82 : decode k_Md_apply 82 = .ok (.bipush 8, 2) := by decide +kernel
theorem d_Md_apply_84 : decode k_Md_apply 84 = .ok (.if_icmp .ne (7), 3) := by decide +kernel
theorem d_Md_apply_87 : decode k_Md_apply 87 = .ok (.iconst 1, 1) := by decide +kernel
theorem d_Md_apply_88 : decode k_Md_apply 88 = .ok (.goto (4), 3) := by decide +kernel
theorem d_Md_apply_91 : decode k_Md_apply 91 = .ok (.iconst 0, 1) := by decide +kernel
theorem d_Md_apply_92 : decode k_Md_apply 92 = .ok (.istore 5, 2) := by decide +kernel
theorem d_Md_apply_94 : decode k_Md_apply 94 = .ok (.iload_n 2, 1) := by decide +kernel
theorem d_Md_apply_95 : decode k_Md_apply 95 = .ok (.iload 5, 2) := by decide +kernel
theorem d_Md_apply_97 : decode k_Md_apply 97 = .ok (.ifCond .eq (7), 3) := by decide +kernel
theorem d_Md_apply_100 : decode k_Md_apply 100 = .ok (.iconst 1, 1) := by decide +kernel
theorem d_Md_apply_101 : decode k_Md_apply 101 = .ok (.goto (4), 3) := by decide +kernel
theorem d_Md_apply_104 : decode k_Md_apply 104 = .ok (.iconst 2, 1) := by decide +kernel
theorem d_Md_apply_105 : decode k_Md_apply 105 = .ok (.if_icmp .eq (6), 3) := by decide +kernel
theorem d_Md_apply_108 : decode k_Md_apply 108 = .ok (.bipush (-4), 2) := by decide +kernel
theorem d_Md_apply_110 : decode k_Md_apply 110 = .ok (.ireturn, 1) := by decide +kernel
theorem d_Md_apply_111 : decode k_Md_apply 111 = .ok (.aload_n 0, 1) := by decide +kernel
theorem d_Md_apply_112 : decode k_Md_apply 112 = .ok (.iload_n 1, 1) := by decide +kernel
theorem d_Md_apply_113 : decode k_Md_apply 113 = .ok (.iload_n 2, 1) := by decide +kernel
theorem d_Md_apply_114 : decode k_Md_apply 114 = .ok (.iconst 1, 1) := by decide +kernel
theorem d_Md_apply_115 : decode k_Md_apply 115 = .ok (.isub, 1) := by decide +kernel
theorem d_Md_apply_116 : decode k_Md_apply 116 = .ok (.invokevirtual 211, 3) := by decide +kernel
theorem d_Md_apply_119 : decode k_Md_apply 119 = .ok (.istore 6, 2) := by decide +kernel
theorem d_Md_apply_121 : decode k_Md_apply 121 = .ok (.iload 4, 2) := by decide +kernel
theorem d_Md_apply_123 : decode k_Md_apply 123 = .ok (.iconst 5, 1) := by decide +kernel
theorem d_Md_apply_124 : decode k_Md_apply 124 = .ok (.if_icmp .ne (24), 3) := by decide +kernel
theorem d_Md_apply_127 : decode k_Md_apply 127 = .ok (.aload_n 0, 1) := by decide +kernel
theorem d_Md_apply_128 : decode k_Md_apply 128 = .ok (.aload_n 0, 1) := by decide +kernel
theorem d_Md_apply_129 : decode k_Md_apply 129 = .ok (.iload 6, 2) := by decide +kernel
theorem d_Md_apply_131 : decode k_Md_apply 131 = .ok (.invokevirtual 187, 3) := by decide +kernel
theorem d_Md_apply_134 : decode k_Md_apply 134 = .ok (.ifCond .eq (8), 3) := by decide +kernel
theorem d_Md_apply_137 : decode k_Md_apply 137 = .ok (.ldc 45, 2) := by decide +kernel
theorem d_Md_apply_139 : decode k_Md_apply 139 = .ok (.goto (5), 3) := by decide +kernel
theorem d_Md_apply_142 : decode k_Md_apply 142 = .ok (.ldc 83, 2) := by decide +kernel
theorem d_Md_apply_144 : decode k_Md_apply 144 = .ok (.invokevirtual 248, 3) := by decide +kernel
theorem d_Md_apply_147 : decode k_Md_apply 147 = .ok (.ireturn, 1) := by decide +kernel
theorem d_Md_apply_148 : decode k_Md_apply 148 = .ok (.iload 5, 2) := by decide +kernel
theorem d_Md_apply_150 : decode k_Md_apply 150 = .ok (.ifCond .eq (44), 3) := by decide +kernel
theorem d_Md_apply_153 : decode k_Md_apply 153 = .ok (.aload_n 0, 1) := by decide +kernel
theorem d_Md_apply_154 : decode k_Md_apply 154 = .ok (.iload 6, 2) := by decide +kernel
theorem d_Md_apply_156 : decode k_Md_apply 156 = .ok (.invokevirtual 187, 3) := by decide +kernel
theorem d_Md_apply_159 : decode k_Md_apply 159 = .ok (.ifCond .ne (8), 3) := by decide +kernel
theorem d_Md_apply_162 : decode k_Md_apply 162 = .ok (.bipush (-5), 2) := by decide +kernel
theorem d_Md_apply_164 : decode k_Md_apply 164 = .ok (.goto (29), 3) := by decide +kernel
theorem d_Md_apply_167 : decode k_Md_apply 167 = .ok (.aload_n 0, 1) := by decide +kernel
theorem d_Md_apply_168 : decode k_Md_apply 168 = .ok (.iload 4, 2) := by decide +kernel
theorem d_Md_apply_170 : decode k_Md_apply 170 = .ok (.bipush 7, 2) := by decide +kernel
theorem d_Md_apply_172 : decode k_Md_apply 172 = .ok (.if_icmp .ne (12), 3) := by decide +kernel
theorem d_Md_apply_175 : decode k_Md_apply 175 = .ok (.aload_n 0, 1) := by decide +kernel
theorem d_Md_apply_176 : decode k_Md_apply 176 = .ok (.iload 6, 2) := by decide +kernel
theorem d_Md_apply_178 : decode k_Md_apply 178 = .ok (.invokevirtual 193, 3) := by decide +kernel
theorem d_Md_apply_181 : decode k_Md_apply 181 = .ok (.goto (9), 3) := by decide +kernel
theorem d_Md_apply_184 : decode k_Md_apply 184 = .ok (.aload_n 0, 1) := by decide +kernel
theorem d_Md_apply_185 : decode k_Md_apply 185 = .ok (.iload 6, 2) := by decide +kernel
theorem d_Md_apply_187 : decode k_Md_apply 187 = .ok (.invokevirtual 190, 3) := by decide +kernel
theorem d_Md_apply_190 : decode k_Md_apply 190 = .ok (.invokevirtual 248, 3) := by decide +kernel
theorem d_Md_apply_193 : decode k_Md_apply 193 = .ok (.ireturn, 1) := by decide +kernel
theorem d_Md_apply_194 : decode k_Md_apply 194 = .ok (.aload_n 0, 1) := by decide +kernel
theorem d_Md_apply_195 : decode k_Md_apply 195 = .ok (.iload_n 1, 1) := by decide +kernel
theorem d_Md_apply_196 : decode k_Md_apply 196 = .ok (.iconst 0, 1) := by decide +kernel
theorem d_Md_apply_197 : decode k_Md_apply 197 = .ok (.invokevirtual 211, 3) := by decide +kernel
theorem d_Md_apply_200 : decode k_Md_apply 200 = .ok (.istore 7, 2) := by decide +kernel
theorem d_Md_apply_202 : decode k_Md_apply 202 = .ok (.iload 4, 2) := by decide +kernel
theorem d_Md_apply_204 : decode k_Md_apply 204 = .ok (.bipush 6, 2) := by decide +kernel
theorem d_Md_apply_206 : decode k_Md_apply 206 = .ok (.if_icmp .ne (29), 3) := by decide +kernel
theorem d_Md_apply_209 : decode k_Md_apply 209 = .ok (.aload_n 0, 1) := by decide +kernel
theorem d_Md_apply_210 : decode k_Md_apply 210 = .ok (.iconst 2, 1) := by decide +kernel
theorem d_Md_apply_211 : decode k_Md_apply 211 = .ok (.invokevirtual 171, 3) := by decide +kernel
theorem d_Md_apply_214 : decode k_Md_apply 214 = .ok (.ifCond .eq (18), 3) := by decide +kernel
theorem d_Md_apply_217 : decode k_Md_apply 217 = .ok (.aload_n 0, 1) := by decide +kernel
theorem d_Md_apply_218 : decode k_Md_apply 218 = .ok (.aload_n 0, 1) := by decide +kernel
theorem d_Md_apply_219 : decode k_Md_apply 219 = .ok (.iload 6, 2) := by decide +kernel
theorem d_Md_apply_221 : decode k_Md_apply 221 = .ok (.iload 7, 2) := by decide +kernel
theorem d_Md_apply_223 : decode k_Md_apply 223 = .ok (.invokevirtual 152, 3) := by decide +kernel
theorem d_Md_apply_226 : decode k_Md_apply 226 = .ok (.invokevirtual 248, 3) := by decide +kernel
theorem d_Md_apply_229 : decode k_Md_apply 229 = .ok (.goto (5), 3) := by decide +kernel
theorem d_Md_apply_232 : decode k_Md_apply 232 = .ok (.bipush (-7), 2) := by decide +kernel
theorem d_Md_apply_234 : decode k_Md_apply 234 = .ok (.ireturn, 1) := by decide +kernel
theorem d_Md_apply_235 : decode k_Md_apply 235 = .ok (.iload 4, 2) := by decide +kernel
theorem d_Md_apply_237 : decode k_Md_apply 237 = .ok (.iconst 4, 1) := by decide +kernel
theorem d_Md_apply_238 : decode k_Md_apply 238 = .ok (.if_icmp .ne (22), 3) := by decide +kernel
theorem d_Md_apply_241 : decode k_Md_apply 241 = .ok (.aload_n 0, 1) := by decide +kernel
theorem d_Md_apply_242 : decode k_Md_apply 242 = .ok (.iload 6, 2) := by decide +kernel
theorem d_Md_apply_244 : decode k_Md_apply 244 = .ok (.iload 7, 2) := by decide +kernel
theorem d_Md_apply_246 : decode k_Md_apply 246 = .ok (.if_icmp .ne (8), 3) := by decide +kernel
theorem d_Md_apply_249 : decode k_Md_apply 249 = .ok (.ldc 83, 2) := by decide +kernel
theorem d_Md_apply_251 : decode k_Md_apply 251 = .ok (.goto (5), 3) := by decide +kernel
theorem d_Md_apply_254 : decode k_Md_apply 254 = .ok (.ldc 45, 2) := by decide +kernel
theorem d_Md_apply_256 : decode k_Md_apply 256 = .ok (.invokevirtual 248, 3) := by decide +kernel
theorem d_Md_apply_259 : decode k_Md_apply 259 = .ok (.ireturn, 1) := by decide +kernel
theorem d_Md_apply_260 : decode k_Md_apply 260 = .ok (.iload 6, 2) := by decide +kernel
theorem d_Md_apply_262 : decode k_Md_apply 262 = .ok (.invokestatic 251, 3) := by decide +kernel
theorem d_Md_apply_265 : decode k_Md_apply 265 = .ok (.ifCond .eq (11), 3) := by decide +kernel
theorem d_Md_apply_268 : decode k_Md_apply 268 = .ok (.iload 7, 2) := by decide +kernel
theorem d_Md_apply_270 : decode k_Md_apply 270 = .ok (.invokestatic 251, 3) := by decide +kernel
theorem d_Md_apply_273 : decode k_Md_apply 273 = .ok (.ifCond .ne (6), 3) := by decide +kernel
theorem d_Md_apply_276 : decode k_Md_apply 276 = .ok (.bipush (-5), 2) := by decide +kernel
theorem d_Md_apply_278 : decode k_Md_apply 278 = .ok (.ireturn, 1) := by decide +kernel
theorem d_Md_apply_279 : decode k_Md_apply 279 = .ok (.iload 4, 2) := by decide +kernel
theorem d_Md_apply_281 : decode k_Md_apply 281 = .ok (.iconst 3, 1) := by decide +kernel
theorem d_Md_apply_282 : decode k_Md_apply 282 = .ok (.if_icmp .ne (22), 3) := by decide +kernel
theorem d_Md_apply_285 : decode k_Md_apply 285 = .ok (.aload_n 0, 1) := by decide +kernel
theorem d_Md_apply_286 : decode k_Md_apply 286 = .ok (.iload 6, 2) := by decide +kernel
theorem d_Md_apply_288 : decode k_Md_apply 288 = .ok (.iload 7, 2) := by decide +kernel
theorem d_Md_apply_290 : decode k_Md_apply 290 = .ok (.if_icmp .ge (8), 3) := by decide +kernel
theorem d_Md_apply_293 : decode k_Md_apply 293 = .ok (.ldc 83, 2) := by decide +kernel
theorem d_Md_apply_295 : decode k_Md_apply 295 = .ok (.goto (5), 3) := by decide +kernel
theorem d_Md_apply_298 : decode k_Md_apply 298 = .ok (.ldc 45, 2) := by decide +kernel
theorem d_Md_apply_300 : decode k_Md_apply 300 = .ok (.invokevirtual 248, 3) := by decide +kernel
theorem d_Md_apply_303 : decode k_Md_apply 303 = .ok (.ireturn, 1) := by decide +kernel
theorem d_Md_apply_304 : decode k_Md_apply 304 = .ok (.aload_n 0, 1) := by decide +kernel
theorem d_Md_apply_305 : decode k_Md_apply 305 = .ok (.iload 4, 2) := by decide +kernel
theorem d_Md_apply_307 : decode k_Md_apply 307 = .ok (.ifCond .ne (11), 3) := by decide +kernel
theorem d_Md_apply_310 : decode k_Md_apply 310 = .ok (.iload 6, 2) := by decide +kernel
theorem d_Md_apply_312 : decode k_Md_apply 312 = .ok (.iload 7, 2) := by decide +kernel
theorem d_Md_apply_314 : decode k_Md_apply 314 = .ok (.iadd, 1) := by decide +kernel
theorem d_Md_apply_315 : decode k_Md_apply 315 = .ok (.goto (22), 3) := by decide +kernel
theorem d_Md_apply_318 : decode k_Md_apply 318 = .ok (.iload 4, 2) := by decide +kernel
theorem d_Md_apply_320 : decode k_Md_apply 320 = .ok (.iconst 1, 1) := by decide +kernel
theorem d_Md_apply_321 : decode k_Md_apply 321 = .ok (.if_icmp .ne (11), 3) := by decide +kernel
theorem d_Md_apply_324 : decode k_Md_apply 324 = .ok (.iload 6, 2) := by decide +kernel
theorem d_Md_apply_326 : decode k_Md_apply 326 = .ok (.iload 7, 2) := by decide +kernel
theorem d_Md_apply_328 : decode k_Md_apply 328 = .ok (.isub, 1) := by decide +kernel
theorem d_Md_apply_329 : decode k_Md_apply 329 = .ok (.goto (8), 3) := by decide +kernel
theorem d_Md_apply_332 : decode k_Md_apply 332 = .ok (.iload 6, 2) := by decide +kernel
theorem d_Md_apply_334 : decode k_Md_apply 334 = .ok (.iload 7, 2) := by decide +kernel
theorem d_Md_apply_336 : decode k_Md_apply 336 = .ok (.imul, 1) := by decide +kernel
theorem d_Md_apply_337 : decode k_Md_apply 337 = .ok (.invokestatic 121, 3) := by decide +kernel
theorem d_Md_apply_340 : decode k_Md_apply 340 = .ok (.invokevirtual 248, 3) := by decide +kernel
theorem d_Md_apply_343 : decode k_Md_apply 343 = .ok (.ireturn, 1) := by decide +kernel
theorem d_Md_listed_0 : decode k_Md_listed 0 = .ok (.aload_n 0, 1) := by decide +kernel
theorem d_Md_listed_1 : decode k_Md_listed 1 = .ok (.iconst 2, 1) := by decide +kernel
theorem d_Md_listed_2 : decode k_Md_listed 2 = .ok (.iload_n 2, 1) := by decide +kernel
theorem d_Md_listed_3 : decode k_Md_listed 3 = .ok (.imul, 1) := by decide +kernel
theorem d_Md_listed_4 : decode k_Md_listed 4 = .ok (.invokevirtual 171, 3) := by decide +kernel
theorem d_Md_listed_7 : decode k_Md_listed 7 = .ok (.ifCond .ne (6), 3) := by decide +kernel
theorem d_Md_listed_10 : decode k_Md_listed 10 = .ok (.bipush (-7), 2) := by decide +kernel
theorem d_Md_listed_12 : decode k_Md_listed 12 = .ok (.ireturn, 1) := by decide +kernel
theorem d_Md_listed_13 : decode k_Md_listed 13 = .ok (.ldc 45, 2) := by decide +kernel
theorem d_Md_listed_15 : decode k_Md_listed 15 = .ok (.istore_n 3, 1) := by decide +kernel
theorem d_Md_listed_16 : decode k_Md_listed 16 = .ok (.iconst 0, 1) := by decide +kernel
theorem d_Md_listed_17 : decode k_Md_listed 17 = .ok (.istore 4, 2) := by decide +kernel
theorem d_Md_listed_19 : decode k_Md_listed 19 = .ok (.iload 4, 2) := by decide +kernel
theorem d_Md_listed_21 : decode k_Md_listed 21 = .ok (.iload_n 2, 1) := by decide +kernel
theorem d_Md_listed_22 : decode k_Md_listed 22 = .ok (.if_icmp .ge (22), 3) := by decide +kernel
theorem d_Md_listed_25 : decode k_Md_listed 25 = .ok (.aload_n 0, 1) := by decide +kernel
theorem d_Md_listed_26 : decode k_Md_listed 26 = .ok (.aload_n 0, 1) := by decide +kernel
theorem d_Md_listed_27 : decode k_Md_listed 27 = .ok (.iload_n 1, 1) := by decide +kernel
theorem d_Md_listed_28 : decode k_Md_listed 28 = .ok (.iload 4, 2) := by decide +kernel
theorem d_Md_listed_30 : decode k_Md_listed 30 = .ok (.invokevirtual 211, 3) := by decide +kernel
theorem d_Md_listed_33 : decode k_Md_listed 33 = .ok (.iload_n 3, 1) := by decide +kernel
theorem d_Md_listed_34 : decode k_Md_listed 34 = .ok (.invokevirtual 152, 3) := by decide +kernel
theorem d_Md_listed_37 : decode k_Md_listed 37 = .ok (.istore_n 3, 1) := by decide +kernel
theorem d_Md_listed_38 : decode k_Md_listed 38 = .ok (.iinc 4 1, 3) := by decide +kernel
theorem d_Md_listed_41 : decode k_Md_listed 41 = .ok (.goto (-22), 3) := by decide +kernel
theorem d_Md_listed_44 : decode k_Md_listed 44 = .ok (.aload_n 0, 1) := by decide +kernel
theorem d_Md_listed_45 : decode k_Md_listed 45 = .ok (.iload_n 3, 1) := by decide +kernel
theorem d_Md_listed_46 : decode k_Md_listed 46 = .ok (.invokevirtual 248, 3) := by decide +kernel
theorem d_Md_listed_49 : decode k_Md_listed 49 = .ok (.ireturn, 1) := by decide +kernel
theorem d_Md_enter_0 : decode k_Md_enter 0 = .ok (.aload_n 0, 1) := by decide +kernel
theorem d_Md_enter_1 : decode k_Md_enter 1 = .ok (.aload_n 0, 1) := by decide +kernel
theorem d_Md_enter_2 : decode k_Md_enter 2 = .ok (.iload_n 3, 1) := by decide +kernel
theorem d_Md_enter_3 : decode k_Md_enter 3 = .ok (.invokevirtual 193, 3) := by decide +kernel
theorem d_Md_enter_6 : decode k_Md_enter 6 = .ok (.invokevirtual 202, 3) := by decide +kernel
theorem d_Md_enter_9 : decode k_Md_enter 9 = .ok (.iload_n 2, 1) := by decide +kernel
theorem d_Md_enter_10 : decode k_Md_enter 10 = .ok (.if_icmp .eq (6), 3) := by decide +kernel
theorem d_Md_enter_13 : decode k_Md_enter 13 = .ok (.bipush (-4), 2) := by decide +kernel
end
section
theorem d_Md_enter_15 : decode k_Md_enter 15 = .ok (.ireturn, 1) := by decide +kernel
theorem d_Md_enter_16 : decode k_Md_enter 16 = .ok (.aload_n 0, 1) := by decide +kernel
theorem d_Md_enter_17 : decode k_Md_enter 17 = .ok (.iconst 4, 1) := by decide +kernel
theorem d_Md_enter_18 : decode k_Md_enter 18 = .ok (.iload_n 2, 1) := by decide +kernel
theorem d_Md_enter_19 : decode k_Md_enter 19 = .ok (.imul, 1) := by decide +kernel
theorem d_Md_enter_20 : decode k_Md_enter 20 = .ok (.invokevirtual 171, 3) := by decide +kernel
theorem d_Md_enter_23 : decode k_Md_enter 23 = .ok (.ifCond .ne (6), 3) := by decide +kernel
theorem d_Md_enter_26 : decode k_Md_enter 26 = .ok (.bipush (-7), 2) := by decide +kernel
theorem d_Md_enter_28 : decode k_Md_enter 28 = .ok (.ireturn, 1) := by decide +kernel
theorem d_Md_enter_29 : decode k_Md_enter 29 = .ok (.aload_n 0, 1) := by decide +kernel
theorem d_Md_enter_30 : decode k_Md_enter 30 = .ok (.getfield 19, 3) := by decide +kernel
theorem d_Md_enter_33 : decode k_Md_enter 33 = .ok (.iload_n 3, 1) := by decide +kernel
theorem d_Md_enter_34 : decode k_Md_enter 34 = .ok (.ldc 91, 2) := by decide +kernel
theorem d_Md_enter_36 : decode k_Md_enter 36 = .ok (.isub, 1) := by decide +kernel
theorem d_Md_enter_37 : decode k_Md_enter 37 = .ok (.iaload, 1) := by decide +kernel
theorem d_Md_enter_38 : decode k_Md_enter 38 = .ok (.istore 4, 2) := by decide +kernel
theorem d_Md_enter_40 : decode k_Md_enter 40 = .ok (.iconst 0, 1) := by decide +kernel
theorem d_Md_enter_41 : decode k_Md_enter 41 = .ok (.istore 5, 2) := by decide +kernel
theorem d_Md_enter_43 : decode k_Md_enter 43 = .ok (.iload 5, 2) := by decide +kernel
theorem d_Md_enter_45 : decode k_Md_enter 45 = .ok (.iload_n 2, 1) := by decide +kernel
theorem d_Md_enter_46 : decode k_Md_enter 46 = .ok (.if_icmp .ge (43), 3) := by decide +kernel
theorem d_Md_enter_49 : decode k_Md_enter 49 = .ok (.aload_n 0, 1) := by decide +kernel
theorem d_Md_enter_50 : decode k_Md_enter 50 = .ok (.aload_n 0, 1) := by decide +kernel
theorem d_Md_enter_51 : decode k_Md_enter 51 = .ok (.aload_n 0, 1) := by decide +kernel
theorem d_Md_enter_52 : decode k_Md_enter 52 = .ok (.aload_n 0, 1) := by decide +kernel
theorem d_Md_enter_53 : decode k_Md_enter 53 = .ok (.iload_n 3, 1) := by decide +kernel
theorem d_Md_enter_54 : decode k_Md_enter 54 = .ok (.invokevirtual 193, 3) := by decide +kernel
theorem d_Md_enter_57 : decode k_Md_enter 57 = .ok (.iload 5, 2) := by decide +kernel
theorem d_Md_enter_59 : decode k_Md_enter 59 = .ok (.invokevirtual 211, 3) := by decide +kernel
theorem d_Md_enter_62 : decode k_Md_enter 62 = .ok (.aload_n 0, 1) := by decide +kernel
theorem d_Md_enter_63 : decode k_Md_enter 63 = .ok (.iload_n 1, 1) := by decide +kernel
theorem d_Md_enter_64 : decode k_Md_enter 64 = .ok (.iload_n 2, 1) := by decide +kernel
theorem d_Md_enter_65 : decode k_Md_enter 65 = .ok (.iconst 1, 1) := by decide +kernel
theorem d_Md_enter_66 : decode k_Md_enter 66 = .ok (.isub, 1) := by decide +kernel
theorem d_Md_enter_67 : decode k_Md_enter 67 = .ok (.iload 5, 2) := by decide +kernel
theorem d_Md_enter_69 : decode k_Md_enter 69 = .ok (.isub, 1) := by decide +kernel
theorem d_Md_enter_70 : decode k_Md_enter 70 = .ok (.invokevirtual 211, 3) := by decide +kernel
theorem d_Md_enter_73 : decode k_Md_enter 73 = .ok (.invokevirtual 152, 3) := by decide +kernel
theorem d_Md_enter_76 : decode k_Md_enter 76 = .ok (.iload 4, 2) := by decide +kernel
theorem d_Md_enter_78 : decode k_Md_enter 78 = .ok (.invokevirtual 152, 3) := by decide +kernel
theorem d_Md_enter_81 : decode k_Md_enter 81 = .ok (.istore 4, 2) := by decide +kernel
theorem d_Md_enter_83 : decode k_Md_enter 83 = .ok (.iinc 5 1, 3) := by decide +kernel
theorem d_Md_enter_86 : decode k_Md_enter 86 = .ok (.goto (-43), 3) := by decide +kernel
theorem d_Md_enter_89 : decode k_Md_enter 89 = .ok (.aload_n 0, 1) := by decide +kernel
theorem d_Md_enter_90 : decode k_Md_enter 90 = .ok (.dup, 1) := by decide +kernel
theorem d_Md_enter_91 : decode k_Md_enter 91 = .ok (.getfield 100, 3) := by decide +kernel
theorem d_Md_enter_94 : decode k_Md_enter 94 = .ok (.iconst 1, 1) := by decide +kernel
theorem d_Md_enter_95 : decode k_Md_enter 95 = .ok (.isub, 1) := by decide +kernel
theorem d_Md_enter_96 : decode k_Md_enter 96 = .ok (.putfield 100, 3) := by decide +kernel
theorem d_Md_enter_99 : decode k_Md_enter 99 = .ok (.aload_n 0, 1) := by decide +kernel
theorem d_Md_enter_100 : decode k_Md_enter 100 = .ok (.aload_n 0, 1) := by decide +kernel
theorem d_Md_enter_101 : decode k_Md_enter 101 = .ok (.iload_n 3, 1) := by decide +kernel
theorem d_Md_enter_102 : decode k_Md_enter 102 = .ok (.invokevirtual 190, 3) := by decide +kernel
theorem d_Md_enter_105 : decode k_Md_enter 105 = .ok (.iload 4, 2) := by decide +kernel
theorem d_Md_enter_107 : decode k_Md_enter 107 = .ok (.invokevirtual 218, 3) := by decide +kernel
theorem d_Md_enter_110 : decode k_Md_enter 110 = .ok (.ireturn, 1) := by decide +kernel
theorem d_Md_clearAll_0 : decode k_Md_clearAll 0 = .ok (.aload_n 0, 1) := by decide +kernel
theorem d_Md_clearAll_1 : decode k_Md_clearAll 1 = .ok (.iconst 0, 1) := by decide +kernel
theorem d_Md_clearAll_2 : decode k_Md_clearAll 2 = .ok (.putfield 100, 3) := by decide +kernel
theorem d_Md_clearAll_5 : decode k_Md_clearAll 5 = .ok (.aload_n 0, 1) := by decide +kernel
theorem d_Md_clearAll_6 : decode k_Md_clearAll 6 = .ok (.ldc 45, 2) := by decide +kernel
theorem d_Md_clearAll_8 : decode k_Md_clearAll 8 = .ok (.putfield 46, 3) := by decide +kernel
theorem d_Md_clearAll_11 : decode k_Md_clearAll 11 = .ok (.aload_n 0, 1) := by decide +kernel
theorem d_Md_clearAll_12 : decode k_Md_clearAll 12 = .ok (.ldc 45, 2) := by decide +kernel
theorem d_Md_clearAll_14 : decode k_Md_clearAll 14 = .ok (.putfield 50, 3) := by decide +kernel
theorem d_Md_clearAll_17 : decode k_Md_clearAll 17 = .ok (.return_, 1) := by decide +kernel
theorem d_Md_run_0 : decode k_Md_run 0 = .ok (.aload_n 0, 1) := by decide +kernel
theorem d_Md_run_1 : decode k_Md_run 1 = .ok (.iconst 0, 1) := by decide +kernel
theorem d_Md_run_2 : decode k_Md_run 2 = .ok (.putfield 87, 3) := by decide +kernel
theorem d_Md_run_5 : decode k_Md_run 5 = .ok (.iload_n 1, 1) := by decide +kernel
theorem d_Md_run_6 : decode k_Md_run 6 = .ok (.iconst 1, 1) := by decide +kernel
theorem d_Md_run_7 : decode k_Md_run 7 = .ok (.if_icmp .ge (7), 3) := by decide +kernel
theorem d_Md_run_10 : decode k_Md_run 10 = .ok (.iconst 1, 1) := by decide +kernel
theorem d_Md_run_11 : decode k_Md_run 11 = .ok (.goto (17), 3) := by decide +kernel
theorem d_Md_run_14 : decode k_Md_run 14 = .ok (.iload_n 1, 1) := by decide +kernel
theorem d_Md_run_15 : decode k_Md_run 15 = .ok (.sipush 1000, 3) := by decide +kernel
theorem d_Md_run_18 : decode k_Md_run 18 = .ok (.if_icmp .le (9), 3) := by decide +kernel
theorem d_Md_run_21 : decode k_Md_run 21 = .ok (.sipush 1000, 3) := by decide +kernel
theorem d_Md_run_24 : decode k_Md_run 24 = .ok (.goto (4), 3) := by decide +kernel
theorem d_Md_run_27 : decode k_Md_run 27 = .ok (.iload_n 1, 1) := by decide +kernel
theorem d_Md_run_28 : decode k_Md_run 28 = .ok (.istore_n 2, 1) := by decide +kernel
theorem d_Md_run_29 : decode k_Md_run 29 = .ok (.iconst 1, 1) := by decide +kernel
theorem d_Md_run_30 : decode k_Md_run 30 = .ok (.istore_n 3, 1) := by decide +kernel
theorem d_Md_run_31 : decode k_Md_run 31 = .ok (.aload_n 0, 1) := by decide +kernel
theorem d_Md_run_32 : decode k_Md_run 32 = .ok (.getfield 180, 3) := by decide +kernel
theorem d_Md_run_35 : decode k_Md_run 35 = .ok (.ifCond .ne (11), 3) := by decide +kernel
theorem d_Md_run_38 : decode k_Md_run 38 = .ok (.aload_n 0, 1) := by decide +kernel
theorem d_Md_run_39 : decode k_Md_run 39 = .ok (.invokevirtual 254, 3) := by decide +kernel
theorem d_Md_run_42 : decode k_Md_run 42 = .ok (.istore_n 3, 1) := by decide +kernel
theorem d_Md_run_43 : decode k_Md_run 43 = .ok (.iinc 2 (-1), 3) := by decide +kernel
theorem d_Md_run_46 : decode k_Md_run 46 = .ok (.iload_n 3, 1) := by decide +kernel
theorem d_Md_run_47 : decode k_Md_run 47 = .ok (.iconst 1, 1) := by decide +kernel
theorem d_Md_run_48 : decode k_Md_run 48 = .ok (.if_icmp .ne (42), 3) := by decide +kernel
theorem d_Md_run_51 : decode k_Md_run 51 = .ok (.iload_n 2, 1) := by decide +kernel
theorem d_Md_run_52 : decode k_Md_run 52 = .ok (.ifCond .le (38), 3) := by decide +kernel
theorem d_Md_run_55 : decode k_Md_run 55 = .ok (.aload_n 0, 1) := by decide +kernel
theorem d_Md_run_56 : decode k_Md_run 56 = .ok (.dup, 1) := by decide +kernel
theorem d_Md_run_57 : decode k_Md_run 57 = .ok (.getfield 165, 3) := by decide +kernel
theorem d_Md_run_60 : decode k_Md_run 60 = .ok (.iconst 1, 1) := by decide +kernel
theorem d_Md_run_61 : decode k_Md_run 61 = .ok (.iadd, 1) := by decide +kernel
theorem d_Md_run_62 : decode k_Md_run 62 = .ok (.putfield 165, 3) := by decide +kernel
theorem d_Md_run_65 : decode k_Md_run 65 = .ok (.aload_n 0, 1) := by decide +kernel
theorem d_Md_run_66 : decode k_Md_run 66 = .ok (.getfield 184, 3) := by decide +kernel
theorem d_Md_run_69 : decode k_Md_run 69 = .ok (.ifCond .eq (10), 3) := by decide +kernel
theorem d_Md_run_72 : decode k_Md_run 72 = .ok (.aload_n 0, 1) := by decide +kernel
theorem d_Md_run_73 : decode k_Md_run 73 = .ok (.invokevirtual 257, 3) := by decide +kernel
theorem d_Md_run_76 : decode k_Md_run 76 = .ok (.goto (7), 3) := by decide +kernel
theorem d_Md_run_79 : decode k_Md_run 79 = .ok (.aload_n 0, 1) := by decide +kernel
theorem d_Md_run_80 : decode k_Md_run 80 = .ok (.invokevirtual 260, 3) := by decide +kernel
theorem d_Md_run_83 : decode k_Md_run 83 = .ok (.istore_n 3, 1) := by decide +kernel
theorem d_Md_run_84 : decode k_Md_run 84 = .ok (.iinc 2 (-1), 3) := by decide +kernel
theorem d_Md_run_87 : decode k_Md_run 87 = .ok (.goto (-41), 3) := by decide +kernel
theorem d_Md_run_90 : decode k_Md_run 90 = .ok (.iload_n 3, 1) := by decide +kernel
theorem d_Md_run_91 : decode k_Md_run 91 = .ok (.ifCond .ge (12), 3) := by decide +kernel
theorem d_Md_run_94 : decode k_Md_run 94 = .ok (.aload_n 0, 1) := by decide +kernel
theorem d_Md_run_95 : decode k_Md_run 95 = .ok (.iconst 0, 1) := by decide +kernel
theorem d_Md_run_96 : decode k_Md_run 96 = .ok (.putfield 180, 3) := by decide +kernel
theorem d_Md_run_99 : decode k_Md_run 99 = .ok (.aload_n 0, 1) := by decide +kernel
theorem d_Md_run_100 : decode k_Md_run 100 = .ok (.invokevirtual 230, 3) := by decide +kernel
theorem d_Md_run_103 : decode k_Md_run 103 = .ok (.iload_n 3, 1) := by decide +kernel
theorem d_Md_run_104 : decode k_Md_run 104 = .ok (.ireturn, 1) := by decide +kernel
theorem d_Md_put_0 : decode k_Md_put 0 = .ok (.aload_n 0, 1) := by decide +kernel
theorem d_Md_put_1 : decode k_Md_put 1 = .ok (.getfield 263, 3) := by decide +kernel
theorem d_Md_put_4 : decode k_Md_put 4 = .ok (.sipush 200, 3) := by decide +kernel
theorem d_Md_put_7 : decode k_Md_put 7 = .ok (.if_icmp .ge (24), 3) := by decide +kernel
theorem d_Md_put_10 : decode k_Md_put 10 = .ok (.aload_n 0, 1) := by decide +kernel
theorem d_Md_put_11 : decode k_Md_put 11 = .ok (.getfield 56, 3) := by decide +kernel
theorem d_Md_put_14 : decode k_Md_put 14 = .ok (.aload_n 0, 1) := by decide +kernel
theorem d_Md_put_15 : decode k_Md_put 15 = .ok (.getfield 263, 3) := by decide +kernel
theorem d_Md_put_18 : decode k_Md_put 18 = .ok (.iload_n 1, 1) := by decide +kernel
theorem d_Md_put_19 : decode k_Md_put 19 = .ok (.i2c, 1) := by decide +kernel
theorem d_Md_put_20 : decode k_Md_put 20 = .ok (.castore, 1) := by decide +kernel
theorem d_Md_put_21 : decode k_Md_put 21 = .ok (.aload_n 0, 1) := by decide +kernel
theorem d_Md_put_22 : decode k_Md_put 22 = .ok (.dup, 1) := by decide +kernel
theorem d_Md_put_23 : decode k_Md_put 23 = .ok (.getfield 263, 3) := by decide +kernel
theorem d_Md_put_26 : decode k_Md_put 26 = .ok (.iconst 1, 1) := by decide +kernel
theorem d_Md_put_27 : decode k_Md_put 27 = .ok (.iadd, 1) := by decide +kernel
theorem d_Md_put_28 : decode k_Md_put 28 = .ok (.putfield 263, 3) := by decide +kernel
theorem d_Md_put_31 : decode k_Md_put 31 = .ok (.return_, 1) := by decide +kernel
theorem d_Md_putName_0 : decode k_Md_putName 0 = .ok (.iconst 0, 1) := by decide +kernel
theorem d_Md_putName_1 : decode k_Md_putName 1 = .ok (.istore_n 2, 1) := by decide +kernel
theorem d_Md_putName_2 : decode k_Md_putName 2 = .ok (.iload_n 2, 1) := by decide +kernel
theorem d_Md_putName_3 : decode k_Md_putName 3 = .ok (.bipush 8, 2) := by decide +kernel
theorem d_Md_putName_5 : decode k_Md_putName 5 = .ok (.if_icmp .ge (38), 3) := by decide +kernel
theorem d_Md_putName_8 : decode k_Md_putName 8 = .ok (.aload_n 0, 1) := by decide +kernel
theorem d_Md_putName_9 : decode k_Md_putName 9 = .ok (.getfield 38, 3) := by decide +kernel
theorem d_Md_putName_12 : decode k_Md_putName 12 = .ok (.bipush 8, 2) := by decide +kernel
theorem d_Md_putName_14 : decode k_Md_putName 14 = .ok (.iload_n 1, 1) := by decide +kernel
theorem d_Md_putName_15 : decode k_Md_putName 15 = .ok (.imul, 1) := by decide +kernel
theorem d_Md_putName_16 : decode k_Md_putName 16 = .ok (.iload_n 2, 1) := by decide +kernel
theorem d_Md_putName_17 : decode k_Md_putName 17 = .ok (.iadd, 1) := by decide +kernel
theorem d_Md_putName_18 : decode k_Md_putName 18 = .ok (.caload, 1) := by decide +kernel
theorem d_Md_putName_19 : decode k_Md_putName 19 = .ok (.ifCond .le (18), 3) := by decide +kernel
theorem d_Md_putName_22 : decode k_Md_putName 22 = .ok (.aload_n 0, 1) := by decide +kernel
theorem d_Md_putName_23 : decode k_Md_putName 23 = .ok (.aload_n 0, 1) := by decide +kernel
theorem d_Md_putName_24 : decode k_Md_putName 24 = .ok (.getfield 38, 3) := by decide +kernel
theorem d_Md_putName_27 : decode k_Md_putName 27 = .ok (.bipush 8, 2) := by decide +kernel
theorem d_Md_putName_29 : decode k_Md_putName 29 = .ok (.iload_n 1, 1) := by decide +kernel
theorem d_Md_putName_30 : decode k_Md_putName 30 = .ok (.imul, 1) := by decide +kernel
theorem d_Md_putName_31 : decode k_Md_putName 31 = .ok (.iload_n 2, 1) := by decide +kernel
theorem d_Md_putName_32 : decode k_Md_putName 32 = .ok (.iadd, 1) := by decide +kernel
theorem d_Md_putName_33 : decode k_Md_putName 33 = .ok (.caload, 1) := by decide +kernel
theorem d_Md_putName_34 : decode k_Md_putName 34 = .ok (.invokevirtual 266, 3) := by decide +kernel
theorem d_Md_putName_37 : decode k_Md_putName 37 = .ok (.iinc 2 1, 3) := by decide +kernel
theorem d_Md_putName_40 : decode k_Md_putName 40 = .ok (.goto (-38), 3) := by decide +kernel
theorem d_Md_putName_43 : decode k_Md_putName 43 = .ok (.return_, 1) := by decide +kernel
theorem d_Md_putNumber_0 : decode k_Md_putNumber 0 = .ok (.iload_n 1, 1) := by decide +kernel
theorem d_Md_putNumber_1 : decode k_Md_putNumber 1 = .ok (.ifCond .ge (9), 3) := by decide +kernel
theorem d_Md_putNumber_4 : decode k_Md_putNumber 4 = .ok (.aload_n 0, 1) := by decide +kernel
theorem d_Md_putNumber_5 : decode k_Md_putNumber 5 = .ok (.bipush 45, 2) := by decide +kernel
theorem d_Md_putNumber_7 : decode k_Md_putNumber 7 = .ok (.invokevirtual 266, 3) := by decide +kernel
theorem d_Md_putNumber_10 : decode k_Md_putNumber 10 = .ok (.iload_n 1, 1) := by decide +kernel
theorem d_Md_putNumber_11 : decode k_Md_putNumber 11 = .ok (.ifCond .ge (8), 3) := by decide +kernel
theorem d_Md_putNumber_14 : decode k_Md_putNumber 14 = .ok (.iload_n 1, 1) := by decide +kernel
theorem d_Md_putNumber_15 : decode k_Md_putNumber 15 = .ok (.ineg, 1) := by decide +kernel
theorem d_Md_putNumber_16 : decode k_Md_putNumber 16 = .ok (.goto (4), 3) := by decide +kernel
theorem d_Md_putNumber_19 : decode k_Md_putNumber 19 = .ok (.iload_n 1, 1) := by decide +kernel
theorem d_Md_putNumber_20 : decode k_Md_putNumber 20 = .ok (.istore_n 2, 1) := by decide +kernel
theorem d_Md_putNumber_21 : decode k_Md_putNumber 21 = .ok (.iconst 1, 1) := by decide +kernel
theorem d_Md_putNumber_22 : decode k_Md_putNumber 22 = .ok (.istore_n 3, 1) := by decide +kernel
theorem d_Md_putNumber_23 : decode k_Md_putNumber 23 = .ok (.iload_n 2, 1) := by decide +kernel
theorem d_Md_putNumber_24 : decode k_Md_putNumber 24 = .ok (.iload_n 3, 1) := by decide +kernel
theorem d_Md_putNumber_25 : decode k_Md_putNumber 25 = .ok (.idiv, 1) := by decide +kernel
theorem d_Md_putNumber_26 : decode k_Md_putNumber 26 = .ok (.bipush 9, 2) := by decide +kernel
theorem d_Md_putNumber_28 : decode k_Md_putNumber 28 = .ok (.if_icmp .le (11), 3) := by decide +kernel
theorem d_Md_putNumber_31 : decode k_Md_putNumber 31 = .ok (.iload_n 3, 1) := by decide +kernel
theorem d_Md_putNumber_32 : decode k_Md_putNumber 32 = .ok (.bipush 10, 2) := by decide +kernel
theorem d_Md_putNumber_34 : decode k_Md_putNumber 34 = .ok (.imul, 1) := by decide +kernel
theorem d_Md_putNumber_35 : decode k_Md_putNumber 35 = .ok (.istore_n 3, 1) := by decide +kernel
theorem d_Md_putNumber_36 : decode k_Md_putNumber 36 = .ok (.goto (-13), 3) := by decide +kernel
theorem d_Md_putNumber_39 : decode k_Md_putNumber 39 = .ok (.iload_n 3, 1) := by decide +kernel
theorem d_Md_putNumber_40 : decode k_Md_putNumber 40 = .ok (.ifCond .le (24), 3) := by decide +kernel
theorem d_Md_putNumber_43 : decode k_Md_putNumber 43 = .ok (.aload_n 0, 1) := by decide +kernel
theorem d_Md_putNumber_44 : decode k_Md_putNumber 44 = .ok (.bipush 48, 2) := by decide +kernel
theorem d_Md_putNumber_46 : decode k_Md_putNumber 46 = .ok (.iload_n 2, 1) := by decide +kernel
theorem d_Md_putNumber_47 : decode k_Md_putNumber 47 = .ok (.iload_n 3, 1) := by decide +kernel
theorem d_Md_putNumber_48 : decode k_Md_putNumber 48 = .ok (.idiv, 1) := by decide +kernel
theorem d_Md_putNumber_49 : decode k_Md_putNumber 49 = .ok (.bipush 10, 2) := by decide +kernel
theorem d_Md_putNumber_51 : decode k_Md_putNumber 51 = .ok (.irem, 1) := by decide +kernel
theorem d_Md_putNumber_52 : decode k_Md_putNumber 52 = .ok (.iadd, 1) := by decide +kernel
theorem d_Md_putNumber_53 : decode k_Md_putNumber 53 = .ok (.invokevirtual 266, 3) := by decide +kernel
theorem d_Md_putNumber_56 : decode k_Md_putNumber 56 = .ok (.iload_n 3, 1) := by decide +kernel
theorem d_Md_putNumber_57 : decode k_Md_putNumber 57 = .ok (.bipush 10, 2) := by decide +kernel
theorem d_Md_putNumber_59 : decode k_Md_putNumber 59 = .ok (.idiv, 1) := by decide +kernel
theorem d_Md_putNumber_60 : decode k_Md_putNumber 60 = .ok (.istore_n 3, 1) := by decide +kernel
theorem d_Md_putNumber_61 : decode k_Md_putNumber 61 = .ok (.goto (-22), 3) := by decide +kernel
theorem d_Md_putNumber_64 : decode k_Md_putNumber 64 = .ok (.return_, 1) := by decide +kernel
theorem d_Md_putDots_0 : decode k_Md_putDots 0 = .ok (.aload_n 0, 1) := by decide +kernel
theorem d_Md_putDots_1 : decode k_Md_putDots 1 = .ok (.bipush 46, 2) := by decide +kernel
theorem d_Md_putDots_3 : decode k_Md_putDots 3 = .ok (.invokevirtual 266, 3) := by decide +kernel
theorem d_Md_putDots_6 : decode k_Md_putDots 6 = .ok (.aload_n 0, 1) := by decide +kernel
theorem d_Md_putDots_7 : decode k_Md_putDots 7 = .ok (.bipush 46, 2) := by decide +kernel
theorem d_Md_putDots_9 : decode k_Md_putDots 9 = .ok (.invokevirtual 266, 3) := by decide +kernel
theorem d_Md_putDots_12 : decode k_Md_putDots 12 = .ok (.aload_n 0, 1) := by decide +kernel
theorem d_Md_putDots_13 : decode k_Md_putDots 13 = .ok (.bipush 46, 2) := by decide +kernel
theorem d_Md_putDots_15 : decode k_Md_putDots 15 = .ok (.invokevirtual 266, 3) := by decide +kernel
theorem d_Md_putDots_18 : decode k_Md_putDots 18 = .ok (.return_, 1) := by decide +kernel
theorem d_Md_putPlain_0 : decode k_Md_putPlain 0 = .ok (.iload_n 1, 1) := by decide +kernel
theorem d_Md_putPlain_1 : decode k_Md_putPlain 1 = .ok (.invokestatic 251, 3) := by decide +kernel
theorem d_Md_putPlain_4 : decode k_Md_putPlain 4 = .ok (.ifCond .eq (11), 3) := by decide +kernel
theorem d_Md_putPlain_7 : decode k_Md_putPlain 7 = .ok (.aload_n 0, 1) := by decide +kernel
theorem d_Md_putPlain_8 : decode k_Md_putPlain 8 = .ok (.iload_n 1, 1) := by decide +kernel
theorem d_Md_putPlain_9 : decode k_Md_putPlain 9 = .ok (.invokevirtual 269, 3) := by decide +kernel
theorem d_Md_putPlain_12 : decode k_Md_putPlain 12 = .ok (.goto (80), 3) := by decide +kernel
theorem d_Md_putPlain_15 : decode k_Md_putPlain 15 = .ok (.iload_n 1, 1) := by decide +kernel
theorem d_Md_putPlain_16 : decode k_Md_putPlain 16 = .ok (.ldc 45, 2) := by decide +kernel
theorem d_Md_putPlain_18 : decode k_Md_putPlain 18 = .ok (.if_icmp .ne (18), 3) := by decide +kernel
theorem d_Md_putPlain_21 : decode k_Md_putPlain 21 = .ok (.aload_n 0, 1) := by decide +kernel
theorem d_Md_putPlain_22 : decode k_Md_putPlain 22 = .ok (.bipush 40, 2) := by decide +kernel
theorem d_Md_putPlain_24 : decode k_Md_putPlain 24 = .ok (.invokevirtual 266, 3) := by decide +kernel
theorem d_Md_putPlain_27 : decode k_Md_putPlain 27 = .ok (.aload_n 0, 1) := by decide +kernel
theorem d_Md_putPlain_28 : decode k_Md_putPlain 28 = .ok (.bipush 41, 2) := by decide +kernel
theorem d_Md_putPlain_30 : decode k_Md_putPlain 30 = .ok (.invokevirtual 266, 3) := by decide +kernel
theorem d_Md_putPlain_33 : decode k_Md_putPlain 33 = .ok (.goto (59), 3) := by decide +kernel
theorem d_Md_putPlain_36 : decode k_Md_putPlain 36 = .ok (.iload_n 1, 1) := by decide +kernel
theorem d_Md_putPlain_37 : decode k_Md_putPlain 37 = .ok (.invokestatic 92, 3) := by decide +kernel
theorem d_Md_putPlain_40 : decode k_Md_putPlain 40 = .ok (.ifCond .eq (30), 3) := by decide +kernel
theorem d_Md_putPlain_43 : decode k_Md_putPlain 43 = .ok (.aload_n 0, 1) := by decide +kernel
theorem d_Md_putPlain_44 : decode k_Md_putPlain 44 = .ok (.bipush 60, 2) := by decide +kernel
theorem d_Md_putPlain_46 : decode k_Md_putPlain 46 = .ok (.invokevirtual 266, 3) := by decide +kernel
theorem d_Md_putPlain_49 : decode k_Md_putPlain 49 = .ok (.aload_n 0, 1) := by decide +kernel
theorem d_Md_putPlain_50 : decode k_Md_putPlain 50 = .ok (.bipush 102, 2) := by decide +kernel
theorem d_Md_putPlain_52 : decode k_Md_putPlain 52 = .ok (.invokevirtual 266, 3) := by decide +kernel
theorem d_Md_putPlain_55 : decode k_Md_putPlain 55 = .ok (.aload_n 0, 1) := by decide +kernel
theorem d_Md_putPlain_56 : decode k_Md_putPlain 56 = .ok (.bipush 110, 2) := by decide +kernel
theorem d_Md_putPlain_58 : decode k_Md_putPlain 58 = .ok (.invokevirtual 266, 3) := by decide +kernel
theorem d_Md_putPlain_61 : decode k_Md_putPlain 61 = .ok (.aload_n 0, 1) := by decide +kernel
theorem d_Md_putPlain_62 : decode k_Md_putPlain 62 = .ok (.bipush 62, 2) := by decide +kernel
theorem d_Md_putPlain_64 : decode k_Md_putPlain 64 = .ok (.invokevirtual 266, 3) := by decide +kernel
theorem d_Md_putPlain_67 : decode k_Md_putPlain 67 = .ok (.goto (25), 3) := by decide +kernel
theorem d_Md_putPlain_70 : decode k_Md_putPlain 70 = .ok (.aload_n 0, 1) := by decide +kernel
theorem d_Md_putPlain_71 : decode k_Md_putPlain 71 = .ok (.iload_n 1, 1) := by decide +kernel
theorem d_Md_putPlain_72 : decode k_Md_putPlain 72 = .ok (.invokestatic 205, 3) := by decide +kernel
theorem d_Md_putPlain_75 : decode k_Md_putPlain 75 = .ok (.ifCond .eq (10), 3) := by decide +kernel
theorem d_Md_putPlain_78 : decode k_Md_putPlain 78 = .ok (.iload_n 1, 1) := by decide +kernel
theorem d_Md_putPlain_79 : decode k_Md_putPlain 79 = .ok (.ldc 90, 2) := by decide +kernel
theorem d_Md_putPlain_81 : decode k_Md_putPlain 81 = .ok (.isub, 1) := by decide +kernel
theorem d_Md_putPlain_82 : decode k_Md_putPlain 82 = .ok (.goto (7), 3) := by decide +kernel
theorem d_Md_putPlain_85 : decode k_Md_putPlain 85 = .ok (.iload_n 1, 1) := by decide +kernel
theorem d_Md_putPlain_86 : decode k_Md_putPlain 86 = .ok (.ldc 77, 2) := by decide +kernel
theorem d_Md_putPlain_88 : decode k_Md_putPlain 88 = .ok (.isub, 1) := by decide +kernel
theorem d_Md_putPlain_89 : decode k_Md_putPlain 89 = .ok (.invokevirtual 272, 3) := by decide +kernel
theorem d_Md_putPlain_92 : decode k_Md_putPlain 92 = .ok (.return_, 1) := by decide +kernel
theorem d_Md_begin_0 : decode k_Md_begin 0 = .ok (.aload_n 0, 1) := by decide +kernel
theorem d_Md_begin_1 : decode k_Md_begin 1 = .ok (.iload_n 1, 1) := by decide +kernel
theorem d_Md_begin_2 : decode k_Md_begin 2 = .ok (.invokevirtual 187, 3) := by decide +kernel
theorem d_Md_begin_5 : decode k_Md_begin 5 = .ok (.ifCond .ne (11), 3) := by decide +kernel
theorem d_Md_begin_8 : decode k_Md_begin 8 = .ok (.aload_n 0, 1) := by decide +kernel
theorem d_Md_begin_9 : decode k_Md_begin 9 = .ok (.iload_n 1, 1) := by decide +kernel
theorem d_Md_begin_10 : decode k_Md_begin 10 = .ok (.invokevirtual 275, 3) := by decide +kernel
theorem d_Md_begin_13 : decode k_Md_begin 13 = .ok (.goto (22), 3) := by decide +kernel
theorem d_Md_begin_16 : decode k_Md_begin 16 = .ok (.iload_n 2, 1) := by decide +kernel
theorem d_Md_begin_17 : decode k_Md_begin 17 = .ok (.bipush 16, 2) := by decide +kernel
theorem d_Md_begin_19 : decode k_Md_begin 19 = .ok (.if_icmp .ne (10), 3) := by decide +kernel
theorem d_Md_begin_22 : decode k_Md_begin 22 = .ok (.aload_n 0, 1) := by decide +kernel
theorem d_Md_begin_23 : decode k_Md_begin 23 = .ok (.invokevirtual 278, 3) := by decide +kernel
theorem d_Md_begin_26 : decode k_Md_begin 26 = .ok (.goto (9), 3) := by decide +kernel
theorem d_Md_begin_29 : decode k_Md_begin 29 = .ok (.aload_n 0, 1) := by decide +kernel
theorem d_Md_begin_30 : decode k_Md_begin 30 = .ok (.bipush 40, 2) := by decide +kernel
theorem d_Md_begin_32 : decode k_Md_begin 32 = .ok (.invokevirtual 266, 3) := by decide +kernel
theorem d_Md_begin_35 : decode k_Md_begin 35 = .ok (.aload_n 0, 1) := by decide +kernel
theorem d_Md_begin_36 : decode k_Md_begin 36 = .ok (.iload_n 1, 1) := by decide +kernel
theorem d_Md_begin_37 : decode k_Md_begin 37 = .ok (.invokevirtual 187, 3) := by decide +kernel
theorem d_Md_begin_40 : decode k_Md_begin 40 = .ok (.ifCond .eq (9), 3) := by decide +kernel
theorem d_Md_begin_43 : decode k_Md_begin 43 = .ok (.iload_n 2, 1) := by decide +kernel
theorem d_Md_begin_44 : decode k_Md_begin 44 = .ok (.bipush 16, 2) := by decide +kernel
theorem d_Md_begin_46 : decode k_Md_begin 46 = .ok (.if_icmp .ne (5), 3) := by decide +kernel
theorem d_Md_begin_49 : decode k_Md_begin 49 = .ok (.iload_n 2, 1) := by decide +kernel
theorem d_Md_begin_50 : decode k_Md_begin 50 = .ok (.ireturn, 1) := by decide +kernel
theorem d_Md_begin_51 : decode k_Md_begin 51 = .ok (.aload_n 0, 1) := by decide +kernel
theorem d_Md_begin_52 : decode k_Md_begin 52 = .ok (.getfield 68, 3) := by decide +kernel
theorem d_Md_begin_55 : decode k_Md_begin 55 = .ok (.iload_n 2, 1) := by decide +kernel
theorem d_Md_begin_56 : decode k_Md_begin 56 = .ok (.iconst 1, 1) := by decide +kernel
theorem d_Md_begin_57 : decode k_Md_begin 57 = .ok (.iadd, 1) := by decide +kernel
theorem d_Md_begin_58 : decode k_Md_begin 58 = .ok (.iload_n 1, 1) := by decide +kernel
theorem d_Md_begin_59 : decode k_Md_begin 59 = .ok (.iastore, 1) := by decide +kernel
theorem d_Md_begin_60 : decode k_Md_begin 60 = .ok (.aload_n 0, 1) := by decide +kernel
theorem d_Md_begin_61 : decode k_Md_begin 61 = .ok (.getfield 71, 3) := by decide +kernel
theorem d_Md_begin_64 : decode k_Md_begin 64 = .ok (.iload_n 2, 1) := by decide +kernel
theorem d_Md_begin_65 : decode k_Md_begin 65 = .ok (.iconst 1, 1) := by decide +kernel
theorem d_Md_begin_66 : decode k_Md_begin 66 = .ok (.iadd, 1) := by decide +kernel
theorem d_Md_begin_67 : decode k_Md_begin 67 = .ok (.iconst 0, 1) := by decide +kernel
theorem d_Md_begin_68 : decode k_Md_begin 68 = .ok (.iastore, 1) := by decide +kernel
theorem d_Md_begin_69 : decode k_Md_begin 69 = .ok (.iload_n 2, 1) := by decide +kernel
theorem d_Md_begin_70 : decode k_Md_begin 70 = .ok (.iconst 1, 1) := by decide +kernel
theorem d_Md_begin_71 : decode k_Md_begin 71 = .ok (.iadd, 1) := by decide +kernel
theorem d_Md_begin_72 : decode k_Md_begin 72 = .ok (.ireturn, 1) := by decide +kernel
theorem d_Md_further_0 : decode k_Md_further 0 = .ok (.aload_n 0, 1) := by decide +kernel
theorem d_Md_further_1 : decode k_Md_further 1 = .ok (.getfield 68, 3) := by decide +kernel
theorem d_Md_further_4 : decode k_Md_further 4 = .ok (.iload_n 1, 1) := by decide +kernel
theorem d_Md_further_5 : decode k_Md_further 5 = .ok (.iaload, 1) := by decide +kernel
theorem d_Md_further_6 : decode k_Md_further 6 = .ok (.istore_n 2, 1) := by decide +kernel
theorem d_Md_further_7 : decode k_Md_further 7 = .ok (.aload_n 0, 1) := by decide +kernel
theorem d_Md_further_8 : decode k_Md_further 8 = .ok (.iload_n 2, 1) := by decide +kernel
theorem d_Md_further_9 : decode k_Md_further 9 = .ok (.invokevirtual 187, 3) := by decide +kernel
theorem d_Md_further_12 : decode k_Md_further 12 = .ok (.ifCond .eq (61), 3) := by decide +kernel
theorem d_Md_further_15 : decode k_Md_further 15 = .ok (.aload_n 0, 1) := by decide +kernel
theorem d_Md_further_16 : decode k_Md_further 16 = .ok (.getfield 71, 3) := by decide +kernel
theorem d_Md_further_19 : decode k_Md_further 19 = .ok (.iload_n 1, 1) := by decide +kernel
theorem d_Md_further_20 : decode k_Md_further 20 = .ok (.iaload, 1) := by decide +kernel
theorem d_Md_further_21 : decode k_Md_further 21 = .ok (.bipush 40, 2) := by decide +kernel
theorem d_Md_further_23 : decode k_Md_further 23 = .ok (.if_icmp .ge (50), 3) := by decide +kernel
theorem d_Md_further_26 : decode k_Md_further 26 = .ok (.aload_n 0, 1) := by decide +kernel
theorem d_Md_further_27 : decode k_Md_further 27 = .ok (.getfield 71, 3) := by decide +kernel
theorem d_Md_further_30 : decode k_Md_further 30 = .ok (.iload_n 1, 1) := by decide +kernel
theorem d_Md_further_31 : decode k_Md_further 31 = .ok (.iaload, 1) := by decide +kernel
theorem d_Md_further_32 : decode k_Md_further 32 = .ok (.ifCond .le (9), 3) := by decide +kernel
theorem d_Md_further_35 : decode k_Md_further 35 = .ok (.aload_n 0, 1) := by decide +kernel
theorem d_Md_further_36 : decode k_Md_further 36 = .ok (.bipush 32, 2) := by decide +kernel
theorem d_Md_further_38 : decode k_Md_further 38 = .ok (.invokevirtual 266, 3) := by decide +kernel
theorem d_Md_further_41 : decode k_Md_further 41 = .ok (.aload_n 0, 1) := by decide +kernel
theorem d_Md_further_42 : decode k_Md_further 42 = .ok (.getfield 71, 3) := by decide +kernel
theorem d_Md_further_45 : decode k_Md_further 45 = .ok (.iload_n 1, 1) := by decide +kernel
theorem d_Md_further_46 : decode k_Md_further 46 = .ok (.dup2, 1) := by decide +kernel
theorem d_Md_further_47 : decode k_Md_further 47 = .ok (.iaload, 1) := by decide +kernel
theorem d_Md_further_48 : decode k_Md_further 48 = .ok (.iconst 1, 1) := by decide +kernel
theorem d_Md_further_49 : decode k_Md_further 49 = .ok (.iadd, 1) := by decide +kernel
theorem d_Md_further_50 : decode k_Md_further 50 = .ok (.iastore, 1) := by decide +kernel
theorem d_Md_further_51 : decode k_Md_further 51 = .ok (.aload_n 0, 1) := by decide +kernel
theorem d_Md_further_52 : decode k_Md_further 52 = .ok (.getfield 68, 3) := by decide +kernel
theorem d_Md_further_55 : decode k_Md_further 55 = .ok (.iload_n 1, 1) := by decide +kernel
theorem d_Md_further_56 : decode k_Md_further 56 = .ok (.aload_n 0, 1) := by decide +kernel
theorem d_Md_further_57 : decode k_Md_further 57 = .ok (.iload_n 2, 1) := by decide +kernel
theorem d_Md_further_58 : decode k_Md_further 58 = .ok (.invokevirtual 190, 3) := by decide +kernel
theorem d_Md_further_61 : decode k_Md_further 61 = .ok (.iastore, 1) := by decide +kernel
theorem d_Md_further_62 : decode k_Md_further 62 = .ok (.aload_n 0, 1) := by decide +kernel
theorem d_Md_further_63 : decode k_Md_further 63 = .ok (.aload_n 0, 1) := by decide +kernel
theorem d_Md_further_64 : decode k_Md_further 64 = .ok (.iload_n 2, 1) := by decide +kernel
theorem d_Md_further_65 : decode k_Md_further 65 = .ok (.invokevirtual 193, 3) := by decide +kernel
theorem d_Md_further_68 : decode k_Md_further 68 = .ok (.iload_n 1, 1) := by decide +kernel
theorem d_Md_further_69 : decode k_Md_further 69 = .ok (.invokevirtual 281, 3) := by decide +kernel
theorem d_Md_further_72 : decode k_Md_further 72 = .ok (.ireturn, 1) := by decide +kernel
theorem d_Md_further_73 : decode k_Md_further 73 = .ok (.iload_n 2, 1) := by decide +kernel
theorem d_Md_further_74 : decode k_Md_further 74 = .ok (.ldc 45, 2) := by decide +kernel
theorem d_Md_further_76 : decode k_Md_further 76 = .ok (.if_icmp .eq (9), 3) := by decide +kernel
theorem d_Md_further_79 : decode k_Md_further 79 = .ok (.aload_n 0, 1) := by decide +kernel
theorem d_Md_further_80 : decode k_Md_further 80 = .ok (.bipush 32, 2) := by decide +kernel
theorem d_Md_further_82 : decode k_Md_further 82 = .ok (.invokevirtual 266, 3) := by decide +kernel
theorem d_Md_further_85 : decode k_Md_further 85 = .ok (.aload_n 0, 1) := by decide +kernel
theorem d_Md_further_86 : decode k_Md_further 86 = .ok (.iload_n 2, 1) := by decide +kernel
theorem d_Md_further_87 : decode k_Md_further 87 = .ok (.invokevirtual 187, 3) := by decide +kernel
theorem d_Md_further_90 : decode k_Md_further 90 = .ok (.ifCond .eq (10), 3) := by decide +kernel
theorem d_Md_further_93 : decode k_Md_further 93 = .ok (.aload_n 0, 1) := by decide +kernel
theorem d_Md_further_94 : decode k_Md_further 94 = .ok (.invokevirtual 278, 3) := by decide +kernel
theorem d_Md_further_97 : decode k_Md_further 97 = .ok (.goto (26), 3) := by decide +kernel
theorem d_Md_further_100 : decode k_Md_further 100 = .ok (.iload_n 2, 1) := by decide +kernel
theorem d_Md_further_101 : decode k_Md_further 101 = .ok (.ldc 45, 2) := by decide +kernel
theorem d_Md_further_103 : decode k_Md_further 103 = .ok (.if_icmp .eq (20), 3) := by decide +kernel
theorem d_Md_further_106 : decode k_Md_further 106 = .ok (.aload_n 0, 1) := by decide +kernel
theorem d_Md_further_107 : decode k_Md_further 107 = .ok (.bipush 46, 2) := by decide +kernel
theorem d_Md_further_109 : decode k_Md_further 109 = .ok (.invokevirtual 266, 3) := by decide +kernel
theorem d_Md_further_112 : decode k_Md_further 112 = .ok (.aload_n 0, 1) := by decide +kernel
theorem d_Md_further_113 : decode k_Md_further 113 = .ok (.bipush 32, 2) := by decide +kernel
theorem d_Md_further_115 : decode k_Md_further 115 = .ok (.invokevirtual 266, 3) := by decide +kernel
theorem d_Md_further_118 : decode k_Md_further 118 = .ok (.aload_n 0, 1) := by decide +kernel
theorem d_Md_further_119 : decode k_Md_further 119 = .ok (.iload_n 2, 1) := by decide +kernel
theorem d_Md_further_120 : decode k_Md_further 120 = .ok (.invokevirtual 275, 3) := by decide +kernel
theorem d_Md_further_123 : decode k_Md_further 123 = .ok (.aload_n 0, 1) := by decide +kernel
theorem d_Md_further_124 : decode k_Md_further 124 = .ok (.bipush 41, 2) := by decide +kernel
theorem d_Md_further_126 : decode k_Md_further 126 = .ok (.invokevirtual 266, 3) := by decide +kernel
theorem d_Md_further_129 : decode k_Md_further 129 = .ok (.iload_n 1, 1) := by decide +kernel
theorem d_Md_further_130 : decode k_Md_further 130 = .ok (.iconst 1, 1) := by decide +kernel
theorem d_Md_further_131 : decode k_Md_further 131 = .ok (.isub, 1) := by decide +kernel
theorem d_Md_further_132 : decode k_Md_further 132 = .ok (.ireturn, 1) := by decide +kernel
theorem d_Md_print_0 : decode k_Md_print 0 = .ok (.aload_n 0, 1) := by decide +kernel
theorem d_Md_print_1 : decode k_Md_print 1 = .ok (.aload_n 0, 1) := by decide +kernel
theorem d_Md_print_2 : decode k_Md_print 2 = .ok (.getfield 46, 3) := by decide +kernel
theorem d_Md_print_5 : decode k_Md_print 5 = .ok (.iconst 0, 1) := by decide +kernel
theorem d_Md_print_6 : decode k_Md_print 6 = .ok (.invokevirtual 281, 3) := by decide +kernel
theorem d_Md_print_9 : decode k_Md_print 9 = .ok (.istore_n 1, 1) := by decide +kernel
theorem d_Md_print_10 : decode k_Md_print 10 = .ok (.iload_n 1, 1) := by decide +kernel
theorem d_Md_print_11 : decode k_Md_print 11 = .ok (.ifCond .le (22), 3) := by decide +kernel
theorem d_Md_print_14 : decode k_Md_print 14 = .ok (.aload_n 0, 1) := by decide +kernel
theorem d_Md_print_15 : decode k_Md_print 15 = .ok (.getfield 263, 3) := by decide +kernel
theorem d_Md_print_18 : decode k_Md_print 18 = .ok (.sipush 200, 3) := by decide +kernel
theorem d_Md_print_21 : decode k_Md_print 21 = .ok (.if_icmp .ge (12), 3) := by decide +kernel
theorem d_Md_print_24 : decode k_Md_print 24 = .ok (.aload_n 0, 1) := by decide +kernel
theorem d_Md_print_25 : decode k_Md_print 25 = .ok (.iload_n 1, 1) := by decide +kernel
theorem d_Md_print_26 : decode k_Md_print 26 = .ok (.invokevirtual 284, 3) := by decide +kernel
theorem d_Md_print_29 : decode k_Md_print 29 = .ok (.istore_n 1, 1) := by decide +kernel
theorem d_Md_print_30 : decode k_Md_print 30 = .ok (.goto (-20), 3) := by decide +kernel
theorem d_Md_print_33 : decode k_Md_print 33 = .ok (.aload_n 0, 1) := by decide +kernel
theorem d_Md_print_34 : decode k_Md_print 34 = .ok (.bipush 10, 2) := by decide +kernel
theorem d_Md_print_36 : decode k_Md_print 36 = .ok (.invokevirtual 266, 3) := by decide +kernel
theorem d_Md_print_39 : decode k_Md_print 39 = .ok (.return_, 1) := by decide +kernel
theorem d_Md_outSize_0 : decode k_Md_outSize 0 = .ok (.aload_n 0, 1) := by decide +kernel
theorem d_Md_outSize_1 : decode k_Md_outSize 1 = .ok (.iconst 0, 1) := by decide +kernel
theorem d_Md_outSize_2 : decode k_Md_outSize 2 = .ok (.putfield 87, 3) := by decide +kernel
theorem d_Md_outSize_5 : decode k_Md_outSize 5 = .ok (.aload_n 0, 1) := by decide +kernel
theorem d_Md_outSize_6 : decode k_Md_outSize 6 = .ok (.getfield 263, 3) := by decide +kernel
theorem d_Md_outSize_9 : decode k_Md_outSize 9 = .ok (.ireturn, 1) := by decide +kernel
theorem d_Md_out_0 : decode k_Md_out 0 = .ok (.aload_n 0, 1) := by decide +kernel
theorem d_Md_out_1 : decode k_Md_out 1 = .ok (.iconst 0, 1) := by decide +kernel
theorem d_Md_out_2 : decode k_Md_out 2 = .ok (.putfield 87, 3) := by decide +kernel
theorem d_Md_out_5 : decode k_Md_out 5 = .ok (.iload_n 1, 1) := by decide +kernel
theorem d_Md_out_6 : decode k_Md_out 6 = .ok (.ifCond .lt (11), 3) := by decide +kernel
theorem d_Md_out_9 : decode k_Md_out 9 = .ok (.iload_n 1, 1) := by decide +kernel
theorem d_Md_out_10 : decode k_Md_out 10 = .ok (.aload_n 0, 1) := by decide +kernel
theorem d_Md_out_11 : decode k_Md_out 11 = .ok (.getfield 263, 3) := by decide +kernel
theorem d_Md_out_14 : decode k_Md_out 14 = .ok (.if_icmp .lt (7), 3) := by decide +kernel
theorem d_Md_out_17 : decode k_Md_out 17 = .ok (.iconst (-1), 1) := by decide +kernel
theorem d_Md_out_18 : decode k_Md_out 18 = .ok (.goto (9), 3) := by decide +kernel
theorem d_Md_out_21 : decode k_Md_out 21 = .ok (.aload_n 0, 1) := by decide +kernel
theorem d_Md_out_22 : decode k_Md_out 22 = .ok (.getfield 56, 3) := by decide +kernel
theorem d_Md_out_25 : decode k_Md_out 25 = .ok (.iload_n 1, 1) := by decide +kernel
theorem d_Md_out_26 : decode k_Md_out 26 = .ok (.caload, 1) := by decide +kernel
theorem d_Md_out_27 : decode k_Md_out 27 = .ok (.ireturn, 1) := by decide +kernel
theorem d_Md_clearOut_0 : decode k_Md_clearOut 0 = .ok (.aload_n 0, 1) := by decide +kernel
theorem d_Md_clearOut_1 : decode k_Md_clearOut 1 = .ok (.iconst 0, 1) := by decide +kernel
theorem d_Md_clearOut_2 : decode k_Md_clearOut 2 = .ok (.putfield 87, 3) := by decide +kernel
theorem d_Md_clearOut_5 : decode k_Md_clearOut 5 = .ok (.aload_n 0, 1) := by decide +kernel
theorem d_Md_clearOut_6 : decode k_Md_clearOut 6 = .ok (.iconst 0, 1) := by decide +kernel
theorem d_Md_clearOut_7 : decode k_Md_clearOut 7 = .ok (.putfield 263, 3) := by decide +kernel
theorem d_Md_clearOut_10 : decode k_Md_clearOut 10 = .ok (.return_, 1) := by decide +kernel
theorem d_Md_liveCells_0 : decode k_Md_liveCells 0 = .ok (.aload_n 0, 1) := by decide +kernel
theorem d_Md_liveCells_1 : decode k_Md_liveCells 1 = .ok (.iconst 0, 1) := by decide +kernel
theorem d_Md_liveCells_2 : decode k_Md_liveCells 2 = .ok (.putfield 87, 3) := by decide +kernel
theorem d_Md_liveCells_5 : decode k_Md_liveCells 5 = .ok (.aload_n 0, 1) := by decide +kernel
theorem d_Md_liveCells_6 : decode k_Md_liveCells 6 = .ok (.invokevirtual 103, 3) := by decide +kernel
theorem d_Md_liveCells_9 : decode k_Md_liveCells 9 = .ok (.ireturn, 1) := by decide +kernel
theorem d_Md_count_0 : decode k_Md_count 0 = .ok (.aload_n 0, 1) := by decide +kernel
theorem d_Md_count_1 : decode k_Md_count 1 = .ok (.iconst 0, 1) := by decide +kernel
theorem d_Md_count_2 : decode k_Md_count 2 = .ok (.putfield 87, 3) := by decide +kernel
theorem d_Md_count_5 : decode k_Md_count 5 = .ok (.iload_n 1, 1) := by decide +kernel
theorem d_Md_count_6 : decode k_Md_count 6 = .ok (.ifCond .ne (10), 3) := by decide +kernel
theorem d_Md_count_9 : decode k_Md_count 9 = .ok (.aload_n 0, 1) := by decide +kernel
theorem d_Md_count_10 : decode k_Md_count 10 = .ok (.getfield 111, 3) := by decide +kernel
theorem d_Md_count_13 : decode k_Md_count 13 = .ok (.goto (40), 3) := by decide +kernel
theorem d_Md_count_16 : decode k_Md_count 16 = .ok (.iload_n 1, 1) := by decide +kernel
theorem d_Md_count_17 : decode k_Md_count 17 = .ok (.iconst 1, 1) := by decide +kernel
theorem d_Md_count_18 : decode k_Md_count 18 = .ok (.if_icmp .ne (10), 3) := by decide +kernel
theorem d_Md_count_21 : decode k_Md_count 21 = .ok (.aload_n 0, 1) := by decide +kernel
theorem d_Md_count_22 : decode k_Md_count 22 = .ok (.getfield 100, 3) := by decide +kernel
theorem d_Md_count_25 : decode k_Md_count 25 = .ok (.goto (28), 3) := by decide +kernel
theorem d_Md_count_28 : decode k_Md_count 28 = .ok (.iload_n 1, 1) := by decide +kernel
theorem d_Md_count_29 : decode k_Md_count 29 = .ok (.iconst 2, 1) := by decide +kernel
theorem d_Md_count_30 : decode k_Md_count 30 = .ok (.if_icmp .ne (10), 3) := by decide +kernel
theorem d_Md_count_33 : decode k_Md_count 33 = .ok (.aload_n 0, 1) := by decide +kernel
theorem d_Md_count_34 : decode k_Md_count 34 = .ok (.getfield 84, 3) := by decide +kernel
theorem d_Md_count_37 : decode k_Md_count 37 = .ok (.goto (16), 3) := by decide +kernel
theorem d_Md_count_40 : decode k_Md_count 40 = .ok (.iload_n 1, 1) := by decide +kernel
theorem d_Md_count_41 : decode k_Md_count 41 = .ok (.iconst 3, 1) := by decide +kernel
theorem d_Md_count_42 : decode k_Md_count 42 = .ok (.if_icmp .ne (10), 3) := by decide +kernel
theorem d_Md_count_45 : decode k_Md_count 45 = .ok (.aload_n 0, 1) := by decide +kernel
theorem d_Md_count_46 : decode k_Md_count 46 = .ok (.getfield 165, 3) := by decide +kernel
theorem d_Md_count_49 : decode k_Md_count 49 = .ok (.goto (4), 3) := by decide +kernel
theorem d_Md_count_52 : decode k_Md_count 52 = .ok (.iconst (-1), 1) := by decide +kernel
theorem d_Md_count_53 : decode k_Md_count 53 = .ok (.ireturn, 1) := by decide +kernel
theorem d_Value_of_0 : decode k_Value_of 0 = .ok (.iload_n 1, 1) := by decide +kernel
theorem d_Value_of_1 : decode k_Value_of 1 = .ok (.iconst 3, 1) := by decide +kernel
theorem d_Value_of_2 : decode k_Value_of 2 = .ok (.ishl, 1) := by decide +kernel
theorem d_Value_of_3 : decode k_Value_of 3 = .ok (.iload_n 0, 1) := by decide +kernel
theorem d_Value_of_4 : decode k_Value_of 4 = .ok (.ior, 1) := by decide +kernel
theorem d_Value_of_5 : decode k_Value_of 5 = .ok (.ireturn, 1) := by decide +kernel
theorem d_Value_kind_0 : decode k_Value_kind 0 = .ok (.iload_n 0, 1) := by decide +kernel
theorem d_Value_kind_1 : decode k_Value_kind 1 = .ok (.bipush 7, 2) := by decide +kernel
theorem d_Value_kind_3 : decode k_Value_kind 3 = .ok (.iand, 1) := by decide +kernel
theorem d_Value_kind_4 : decode k_Value_kind 4 = .ok (.ireturn, 1) := by decide +kernel
theorem d_Value_content_0 : decode k_Value_content 0 = .ok (.iload_n 0, 1) := by decide +kernel
theorem d_Value_content_1 : decode k_Value_content 1 = .ok (.iconst 3, 1) := by decide +kernel
theorem d_Value_content_2 : decode k_Value_content 2 = .ok (.ishr, 1) := by decide +kernel
theorem d_Value_content_3 : decode k_Value_content 3 = .ok (.ireturn, 1) := by decide +kernel
theorem d_Value_isPair_0 : decode k_Value_isPair 0 = .ok (.iload_n 0, 1) := by decide +kernel
theorem d_Value_isPair_1 : decode k_Value_isPair 1 = .ok (.invokestatic 9, 3) := by decide +kernel
theorem d_Value_isPair_4 : decode k_Value_isPair 4 = .ok (.iconst 4, 1) := by decide +kernel
theorem d_Value_isPair_5 : decode k_Value_isPair 5 = .ok (.if_icmp .ne (7), 3) := by decide +kernel
theorem d_Value_isPair_8 : decode k_Value_isPair 8 = .ok (.iconst 1, 1) := by decide +kernel
theorem d_Value_isPair_9 : decode k_Value_isPair 9 = .ok (.goto (4), 3) := by decide +kernel
theorem d_Value_isPair_12 : decode k_Value_isPair 12 = .ok (.iconst 0, 1) := by decide +kernel
theorem d_Value_isPair_13 : decode k_Value_isPair 13 = .ok (.ireturn, 1) := by decide +kernel
theorem d_Value_isSymbol_0 : decode k_Value_isSymbol 0 = .ok (.iload_n 0, 1) := by decide +kernel
theorem d_Value_isSymbol_1 : decode k_Value_isSymbol 1 = .ok (.invokestatic 9, 3) := by decide +kernel
theorem d_Value_isSymbol_4 : decode k_Value_isSymbol 4 = .ok (.iconst 1, 1) := by decide +kernel
theorem d_Value_isSymbol_5 : decode k_Value_isSymbol 5 = .ok (.if_icmp .ne (7), 3) := by decide +kernel
theorem d_Value_isSymbol_8 : decode k_Value_isSymbol 8 = .ok (.iconst 1, 1) := by decide +kernel
theorem d_Value_isSymbol_9 : decode k_Value_isSymbol 9 = .ok (.goto (4), 3) := by decide +kernel
theorem d_Value_isSymbol_12 : decode k_Value_isSymbol 12 = .ok (.iconst 0, 1) := by decide +kernel
theorem d_Value_isSymbol_13 : decode k_Value_isSymbol 13 = .ok (.ireturn, 1) := by decide +kernel
theorem d_Value_isNumber_0 : decode k_Value_isNumber 0 = .ok (.iload_n 0, 1) := by decide +kernel
theorem d_Value_isNumber_1 : decode k_Value_isNumber 1 = .ok (.invokestatic 9, 3) := by decide +kernel
theorem d_Value_isNumber_4 : decode k_Value_isNumber 4 = .ok (.ifCond .ne (7), 3) := by decide +kernel
theorem d_Value_isNumber_7 : decode k_Value_isNumber 7 = .ok (.iconst 1, 1) := by decide +kernel
theorem d_Value_isNumber_8 : decode k_Value_isNumber 8 = .ok (.goto (4), 3) := by decide +kernel
theorem d_Value_isNumber_11 : decode k_Value_isNumber 11 = .ok (.iconst 0, 1) := by decide +kernel
theorem d_Value_isNumber_12 : decode k_Value_isNumber 12 = .ok (.ireturn, 1) := by decide +kernel
end
section
def f_Text_isCharacter (S : Nat) (x0 : Int32) (w : pm_W) : Option (Int32 × pm_W) :=
  if x0 = (10 : Int32) then
    some ((1 : Int32), w)
  else
    if x0 < (32 : Int32) then
      some ((0 : Int32), w)
    else
      if (126 : Int32) < x0 then
        some ((0 : Int32), w)
      else
        some ((1 : Int32), w)
set_option maxHeartbeats 4000000 in
set_option maxRecDepth 100000 in
theorem t_Text_isCharacter {p : Program} {l : Launch} {e : Env} {s : State} {m : MethodId} {args : Array Value} {below : List Frame} {meth : Method} {c : Code} {D : va_G} {ca : Nat → ClassId} {ad : Nat → Nat} {E : (Nat → Prop) → State → Heap → Prop} {S : Nat} (K : pm_ok p s m args meth c k_Text_isCharacter 1 pmTs R_Text D vwCl (tyl ca) (shC S) ad E (some .boolean)) (r : Int32) (w' : pm_W) (x0 : Int32) (w : pm_W) (hf : f_Text_isCharacter  S x0 w = some (r, w')) : pm_wk p l e { frames := 0, cells := 0, slots := 0, locals := 0 } s m args below meth c D vwCl (shC S) ca ad 1 (some (.int r), w') 0 [(0, .int x0)] [] w := by
  unfold f_Text_isCharacter at hf
  refine pm_iload_n K d_Text_isCharacter_0 0 rfl rfl ?_
  refine pm_bipush (v := 10) K d_Text_isCharacter_1 (by decide) ?_
  refine pm_icmp_eq K d_Text_isCharacter_3 18 (by decide) (fun c1 => ?_) (fun c1 => ?_)
  · have hf := pm_ift c1 hf
    refine pm_iconst (v := 1) K d_Text_isCharacter_18 (by decide) ?_
    refine pm_goto K d_Text_isCharacter_19 23 (by decide) ?_
    cases hf
    exact pm_zret K (by decide) d_Text_isCharacter_23
  · have hf := pm_iff c1 hf
    refine pm_iload_n K d_Text_isCharacter_6 0 rfl rfl ?_
    refine pm_bipush (v := 32) K d_Text_isCharacter_7 (by decide) ?_
    refine pm_icmp_lt K d_Text_isCharacter_9 22 (by decide) (fun c2 => ?_) (fun c2 => ?_)
    · have hf := pm_ift c2 hf
      refine pm_iconst (v := 0) K d_Text_isCharacter_22 (by decide) ?_
      cases hf
      exact pm_zret K (by decide) d_Text_isCharacter_23
    · have hf := pm_iff c2 hf
      refine pm_iload_n K d_Text_isCharacter_12 0 rfl rfl ?_
      refine pm_bipush (v := 126) K d_Text_isCharacter_13 (by decide) ?_
      refine pm_icmp_gt K d_Text_isCharacter_15 22 (by decide) (fun c3 => ?_) (fun c3 => ?_)
      · have hf := pm_ift c3 hf
        refine pm_iconst (v := 0) K d_Text_isCharacter_22 (by decide) ?_
        cases hf
        exact pm_zret K (by decide) d_Text_isCharacter_23
      · have hf := pm_iff c3 hf
        refine pm_iconst (v := 1) K d_Text_isCharacter_18 (by decide) ?_
        refine pm_goto K d_Text_isCharacter_19 23 (by decide) ?_
        cases hf
        exact pm_zret K (by decide) d_Text_isCharacter_23
/-- CellLisp$Text.isCharacter(I)Z -/
theorem c_Text_isCharacter {l : Launch} {D : va_G} {ca : Nat → ClassId} {ad : Nat → Nat} {E : (Nat → Prop) → State → Heap → Prop} {S : Nat} (hEc : pm_Ecl E) (r : Int32) (w' : pm_W) (x0 : Int32) (w : pm_W) (hf : f_Text_isCharacter  S x0 w = some (r, w')) : pm_Met l pmTs D vwCl (tyl ca) (shC S) ca ad E y_Text_isCharacter k_Text_isCharacter 1 (some .boolean) { frames := 0, cells := 0, slots := 0, locals := 0 } [.int x0] w (some (.int r), w') :=
  pm_start pmTs_good hEc (by decide) (Nat.le_of_ble_eq_true rfl) (fun p e s m below meth c K => t_Text_isCharacter K r w' x0 w hf)
def b_Text_append_25 (S : Nat) (rec : Nat → Int32 → Int32 → Int32 → pm_W → Option (Int32 × pm_W)) (x1 : Int32) (x2 : Int32) (x3 : Int32) (w : pm_W) : Option (Int32 × pm_W) :=
  if x2 ≤ x3 then
    rec 1 x1 0 (x2 - (1 : Int32)) w
  else
    Option.bind (f_Text_isCharacter S (((x1.toUInt32 >>> (((8 : Int32) * x3).toUInt32 &&& Int32.toUInt32 31)).toInt32) &&& (255 : Int32)) w) fun o5 =>
    if o5.1 = 0 then
      some ((0 : Int32), o5.2)
    else
      rec 0 x1 x2 (x3 + (1 : Int32)) o5.2
def b_Text_append_58 (S : Nat) (rec : Nat → Int32 → Int32 → Int32 → pm_W → Option (Int32 × pm_W)) (x1 : Int32) (x3 : Int32) (w : pm_W) : Option (Int32 × pm_W) :=
  if x3 < 0 then
    some ((1 : Int32), w)
  else
    if (120 : Int32) ≤ (w.1 1 1) then
      some ((1 : Int32), w)
    else
      if (w.1 1 1) < 0 ∨ 120 ≤ (w.1 1 1).toNatClampNeg then none else
      rec 1 x1 0 (x3 + (-1 : Int32)) (pm_setI (pm_setI w 9 (w.1 1 1).toNatClampNeg (vp_nar .char (((((x1.toUInt32 >>> (((8 : Int32) * x3).toUInt32 &&& Int32.toUInt32 31)).toInt32) &&& (255 : Int32)).toUInt32 % 65536).toInt32))) 1 1 ((w.1 1 1) + (1 : Int32)))
def l_Text_append (S : Nat) : Nat → Nat → Int32 → Int32 → Int32 → pm_W → Option (Int32 × pm_W) := pm_it (fun _ _ _ _ _ => none) (fun rec k x1 x2 x3 w => match k with | 0 => b_Text_append_25  S rec x1 x2 x3 w | _ => b_Text_append_58  S rec x1 x3 w)
def f_Text_append (S : Nat) (x1 : Int32) (x2 : Int32) (w : pm_W) : Option (Int32 × pm_W) :=
  if x2 < (1 : Int32) then
    some ((0 : Int32), w)
  else
    if (4 : Int32) < x2 then
      some ((0 : Int32), w)
    else
      if ((w.1 1 1) + x2) ≤ (120 : Int32) then
        (l_Text_append  S pm_fuel) 0 x1 x2 (0 : Int32) w
      else
        some ((0 : Int32), w)
set_option maxHeartbeats 4000000 in
set_option maxRecDepth 100000 in
theorem t_Text_append_25 {p : Program} {l : Launch} {e : Env} {s : State} {m : MethodId} {args : Array Value} {below : List Frame} {meth : Method} {c : Code} {D : va_G} {ca : Nat → ClassId} {ad : Nat → Nat} {E : (Nat → Prop) → State → Heap → Prop} {S : Nat} (K : pm_ok p s m args meth c k_Text_append 4 pmTs R_Text D vwCl (tyl ca) (shC S) ad E (some .boolean)) (rec : Nat → Int32 → Int32 → Int32 → pm_W → Option (Int32 × pm_W)) (r : Int32) (w' : pm_W) (h25 : ∀ (x1 : Int32) (x2 : Int32) (x3 : Int32) (w : pm_W), rec 0 x1 x2 x3 w = some (r, w') → pm_wk p l e { frames := 1, cells := 0, slots := 0, locals := 20 } s m args below meth c D vwCl (shC S) ca ad 4 (some (.int r), w') 25 [(0, .ref (ad 1)), (1, .int x1), (2, .int x2), (3, .int x3)] [] w) (h58 : ∀ (x1 : Int32) (x3 : Int32) (w : pm_W), rec 1 x1 0 x3 w = some (r, w') → pm_wk p l e { frames := 1, cells := 0, slots := 0, locals := 20 } s m args below meth c D vwCl (shC S) ca ad 4 (some (.int r), w') 58 [(0, .ref (ad 1)), (1, .int x1), (3, .int x3)] [] w) (x1 : Int32) (x2 : Int32) (x3 : Int32) (w : pm_W) (hf : b_Text_append_25  S rec x1 x2 x3 w = some (r, w')) : pm_wk p l e { frames := 1, cells := 0, slots := 0, locals := 20 } s m args below meth c D vwCl (shC S) ca ad 4 (some (.int r), w') 25 [(0, .ref (ad 1)), (1, .int x1), (2, .int x2), (3, .int x3)] [] w := by
  unfold b_Text_append_25 at hf
  refine pm_iload_n K d_Text_append_25 3 rfl rfl ?_
  refine pm_iload_n K d_Text_append_26 2 rfl rfl ?_
  refine pm_icmp_ge K d_Text_append_27 54 (by decide) (fun c4 => ?_) (fun c4 => ?_)
  · have hf := pm_ift c4 hf
    refine pm_iload_n K d_Text_append_54 2 rfl rfl ?_
    refine pm_iconst (v := 1) K d_Text_append_55 (by decide) ?_
    refine pm_isub K d_Text_append_56 ?_
    refine pm_istore_n (lv' := [(3, .int (x2 - (1 : Int32))), (0, .ref (ad 1)), (1, .int x1), (2, .int x2)]) K d_Text_append_57 rfl (by decide) rfl ?_
    refine pm_sub (lv' := [(0, .ref (ad 1)), (1, .int x1), (3, .int (x2 - (1 : Int32)))]) [1, 2, 0] rfl ?_
    exact h58 x1 (x2 - (1 : Int32)) w hf
  · have hf := pm_iff c4 hf
    refine pm_iload_n K d_Text_append_30 1 rfl rfl ?_
    refine pm_bipush (v := 8) K d_Text_append_31 (by decide) ?_
    refine pm_iload_n K d_Text_append_33 3 rfl rfl ?_
    refine pm_imul K d_Text_append_34 ?_
    refine pm_iushr K d_Text_append_35 rfl ?_
    refine pm_sipush (v := 255) K d_Text_append_36 (by decide) ?_
    refine pm_iand K d_Text_append_39 ?_
    obtain ⟨o5, z5, hf⟩ := pm_bind hf
    refine pm_callS (As := [.int (((x1.toUInt32 >>> (((8 : Int32) * x3).toUInt32 &&& Int32.toUInt32 31)).toInt32) &&& (255 : Int32))]) (rest := []) K (c_Text_isCharacter K.2.2.2.2.2.2.2.2.2.2.2.2 o5.1 o5.2 (((x1.toUInt32 >>> (((8 : Int32) * x3).toUInt32 &&& Int32.toUInt32 31)).toInt32) &&& (255 : Int32)) w z5) mi_Text_isCharacter tw_303 tw_302 rfl ⟨rfl, rfl, Nat.le_of_ble_eq_true rfl, Nat.le_of_ble_eq_true rfl⟩ rfl (Nat.le_of_ble_eq_true rfl) d_Text_append_40 ?_
    refine pm_if_ne K d_Text_append_43 48 (by decide) (fun c6 => ?_) (fun c6 => ?_)
    · have hf := pm_iff c6 hf
      refine pm_iinc (v := x3 + (1 : Int32)) (lv' := [(3, .int (x3 + (1 : Int32))), (0, .ref (ad 1)), (1, .int x1), (2, .int x2)]) K d_Text_append_48 3 rfl rfl (by decide) rfl ?_
      refine pm_goto K d_Text_append_51 25 (by decide) ?_
      refine pm_sub (lv' := [(0, .ref (ad 1)), (1, .int x1), (2, .int x2), (3, .int (x3 + (1 : Int32)))]) [1, 2, 3, 0] rfl ?_
      exact h25 x1 x2 (x3 + (1 : Int32)) o5.2 hf
    · have hf := pm_ift c6 hf
      refine pm_iconst (v := 0) K d_Text_append_46 (by decide) ?_
      cases hf
      exact pm_zret K (by decide) d_Text_append_47
set_option maxHeartbeats 4000000 in
set_option maxRecDepth 100000 in
theorem t_Text_append_58 {p : Program} {l : Launch} {e : Env} {s : State} {m : MethodId} {args : Array Value} {below : List Frame} {meth : Method} {c : Code} {D : va_G} {ca : Nat → ClassId} {ad : Nat → Nat} {E : (Nat → Prop) → State → Heap → Prop} {S : Nat} (K : pm_ok p s m args meth c k_Text_append 4 pmTs R_Text D vwCl (tyl ca) (shC S) ad E (some .boolean)) (rec : Nat → Int32 → Int32 → Int32 → pm_W → Option (Int32 × pm_W)) (r : Int32) (w' : pm_W) (h25 : ∀ (x1 : Int32) (x2 : Int32) (x3 : Int32) (w : pm_W), rec 0 x1 x2 x3 w = some (r, w') → pm_wk p l e { frames := 1, cells := 0, slots := 0, locals := 20 } s m args below meth c D vwCl (shC S) ca ad 4 (some (.int r), w') 25 [(0, .ref (ad 1)), (1, .int x1), (2, .int x2), (3, .int x3)] [] w) (h58 : ∀ (x1 : Int32) (x3 : Int32) (w : pm_W), rec 1 x1 0 x3 w = some (r, w') → pm_wk p l e { frames := 1, cells := 0, slots := 0, locals := 20 } s m args below meth c D vwCl (shC S) ca ad 4 (some (.int r), w') 58 [(0, .ref (ad 1)), (1, .int x1), (3, .int x3)] [] w) (x1 : Int32) (x3 : Int32) (w : pm_W) (hf : b_Text_append_58  S rec x1 x3 w = some (r, w')) : pm_wk p l e { frames := 1, cells := 0, slots := 0, locals := 20 } s m args below meth c D vwCl (shC S) ca ad 4 (some (.int r), w') 58 [(0, .ref (ad 1)), (1, .int x1), (3, .int x3)] [] w := by
  unfold b_Text_append_58 at hf
  refine pm_iload_n K d_Text_append_58 2 rfl rfl ?_
  refine pm_if_lt K d_Text_append_59 107 (by decide) (fun c7 => ?_) (fun c7 => ?_)
  · have hf := pm_ift c7 hf
    refine pm_iconst (v := 1) K d_Text_append_107 (by decide) ?_
    cases hf
    exact pm_zret K (by decide) d_Text_append_108
  · have hf := pm_iff c7 hf
    refine pm_aload_n K d_Text_append_62 0 rfl rfl ?_
    refine pm_getI K fc_1 (o := 1) rfl 1 rfl (by decide) tw_120 d_Text_append_63 (v := w.1 1 1) rfl ?_
    refine pm_bipush (v := 120) K d_Text_append_66 (by decide) ?_
    refine pm_icmp_ge K d_Text_append_68 107 (by decide) (fun c8 => ?_) (fun c8 => ?_)
    · have hf := pm_ift c8 hf
      refine pm_iconst (v := 1) K d_Text_append_107 (by decide) ?_
      cases hf
      exact pm_zret K (by decide) d_Text_append_108
    · have hf := pm_iff c8 hf
      refine pm_aload_n K d_Text_append_71 0 rfl rfl ?_
      refine pm_getR K fc_1 (o := 1) rfl 0 rfl (by decide) tw_119 d_Text_append_72 ?_
      refine pm_aload_n K d_Text_append_75 0 rfl rfl ?_
      refine pm_getI K fc_1 (o := 1) rfl 1 rfl (by decide) tw_120 d_Text_append_76 (v := w.1 1 1) rfl ?_
      refine pm_iload_n K d_Text_append_79 1 rfl rfl ?_
      refine pm_bipush (v := 8) K d_Text_append_80 (by decide) ?_
      refine pm_iload_n K d_Text_append_82 2 rfl rfl ?_
      refine pm_imul K d_Text_append_83 ?_
      refine pm_iushr K d_Text_append_84 rfl ?_
      refine pm_sipush (v := 255) K d_Text_append_85 (by decide) ?_
      refine pm_iand K d_Text_append_88 ?_
      refine pm_i2c K d_Text_append_89 rfl ?_
      obtain ⟨q9, hf⟩ := pm_bnd hf
      refine pm_cast K (o := 9) rfl rfl q9 d_Text_append_90 ?_
      refine pm_aload_n K d_Text_append_91 0 rfl rfl ?_
      refine pm_dup K d_Text_append_92 rfl ?_
      refine pm_getI K fc_1 (o := 1) rfl 1 rfl (by decide) tw_120 d_Text_append_93 (v := w.1 1 1) rfl ?_
      refine pm_iconst (v := 1) K d_Text_append_96 (by decide) ?_
      refine pm_iadd K d_Text_append_97 ?_
      refine pm_putI K fc_1 (o := 1) (ty := .int) rfl 1 rfl (by decide) tw_120 rfl rfl rfl rfl d_Text_append_98 ?_
      refine pm_iinc (v := x3 + (-1 : Int32)) (lv' := [(3, .int (x3 + (-1 : Int32))), (0, .ref (ad 1)), (1, .int x1)]) K d_Text_append_101 2 rfl rfl (by decide) rfl ?_
      refine pm_goto K d_Text_append_104 58 (by decide) ?_
      refine pm_sub (lv' := [(0, .ref (ad 1)), (1, .int x1), (3, .int (x3 + (-1 : Int32)))]) [1, 2, 0] rfl ?_
      exact h58 x1 (x3 + (-1 : Int32)) (pm_setI (pm_setI w 9 (w.1 1 1).toNatClampNeg (vp_nar .char (((((x1.toUInt32 >>> (((8 : Int32) * x3).toUInt32 &&& Int32.toUInt32 31)).toInt32) &&& (255 : Int32)).toUInt32 % 65536).toInt32))) 1 1 ((w.1 1 1) + (1 : Int32))) hf
set_option maxHeartbeats 4000000 in
set_option maxRecDepth 100000 in
theorem a_Text_append {p : Program} {l : Launch} {e : Env} {s : State} {m : MethodId} {args : Array Value} {below : List Frame} {meth : Method} {c : Code} {D : va_G} {ca : Nat → ClassId} {ad : Nat → Nat} {E : (Nat → Prop) → State → Heap → Prop} {S : Nat} (K : pm_ok p s m args meth c k_Text_append 4 pmTs R_Text D vwCl (tyl ca) (shC S) ad E (some .boolean)) (r : Int32) (w' : pm_W) : ∀ n : Nat, (∀ (x1 : Int32) (x2 : Int32) (x3 : Int32) (w : pm_W), l_Text_append  S n 0 x1 x2 x3 w = some (r, w') → pm_wk p l e { frames := 1, cells := 0, slots := 0, locals := 20 } s m args below meth c D vwCl (shC S) ca ad 4 (some (.int r), w') 25 [(0, .ref (ad 1)), (1, .int x1), (2, .int x2), (3, .int x3)] [] w) ∧ (∀ (x1 : Int32) (x3 : Int32) (w : pm_W), l_Text_append  S n 1 x1 0 x3 w = some (r, w') → pm_wk p l e { frames := 1, cells := 0, slots := 0, locals := 20 } s m args below meth c D vwCl (shC S) ca ad 4 (some (.int r), w') 58 [(0, .ref (ad 1)), (1, .int x1), (3, .int x3)] [] w) := by
  intro n
  induction n with
  | zero => exact ⟨fun _ _ _ _ hf => (by cases hf), fun _ _ _ hf => (by cases hf)⟩
  | succ n ih => exact ⟨fun x1 x2 x3 w hf => t_Text_append_25 K (l_Text_append S n) r w' (ih.1) (ih.2) x1 x2 x3 w hf, fun x1 x3 w hf => t_Text_append_58 K (l_Text_append S n) r w' (ih.1) (ih.2) x1 x3 w hf⟩
set_option maxHeartbeats 4000000 in
set_option maxRecDepth 100000 in
theorem t_Text_append {p : Program} {l : Launch} {e : Env} {s : State} {m : MethodId} {args : Array Value} {below : List Frame} {meth : Method} {c : Code} {D : va_G} {ca : Nat → ClassId} {ad : Nat → Nat} {E : (Nat → Prop) → State → Heap → Prop} {S : Nat} (K : pm_ok p s m args meth c k_Text_append 4 pmTs R_Text D vwCl (tyl ca) (shC S) ad E (some .boolean)) (r : Int32) (w' : pm_W) (x1 : Int32) (x2 : Int32) (w : pm_W) (hf : f_Text_append  S x1 x2 w = some (r, w')) : pm_wk p l e { frames := 1, cells := 0, slots := 0, locals := 20 } s m args below meth c D vwCl (shC S) ca ad 4 (some (.int r), w') 0 [(0, .ref (ad 1)), (1, .int x1), (2, .int x2)] [] w := by
  unfold f_Text_append at hf
  have h25 := (a_Text_append (l := l) (e := e) (below := below) K  r w' pm_fuel).1
  have h58 := (a_Text_append (l := l) (e := e) (below := below) K  r w' pm_fuel).2
  refine pm_iload_n K d_Text_append_0 2 rfl rfl ?_
  refine pm_iconst (v := 1) K d_Text_append_1 (by decide) ?_
  refine pm_icmp_lt K d_Text_append_2 21 (by decide) (fun c1 => ?_) (fun c1 => ?_)
  · have hf := pm_ift c1 hf
    refine pm_iconst (v := 0) K d_Text_append_21 (by decide) ?_
    cases hf
    exact pm_zret K (by decide) d_Text_append_22
  · have hf := pm_iff c1 hf
    refine pm_iload_n K d_Text_append_5 2 rfl rfl ?_
    refine pm_iconst (v := 4) K d_Text_append_6 (by decide) ?_
    refine pm_icmp_gt K d_Text_append_7 21 (by decide) (fun c2 => ?_) (fun c2 => ?_)
    · have hf := pm_ift c2 hf
      refine pm_iconst (v := 0) K d_Text_append_21 (by decide) ?_
      cases hf
      exact pm_zret K (by decide) d_Text_append_22
    · have hf := pm_iff c2 hf
      refine pm_aload_n K d_Text_append_10 0 rfl rfl ?_
      refine pm_getI K fc_1 (o := 1) rfl 1 rfl (by decide) tw_120 d_Text_append_11 (v := w.1 1 1) rfl ?_
      refine pm_iload_n K d_Text_append_14 2 rfl rfl ?_
      refine pm_iadd K d_Text_append_15 ?_
      refine pm_bipush (v := 120) K d_Text_append_16 (by decide) ?_
      refine pm_icmp_le K d_Text_append_18 23 (by decide) (fun c3 => ?_) (fun c3 => ?_)
      · have hf := pm_ift c3 hf
        refine pm_iconst (v := 0) K d_Text_append_23 (by decide) ?_
        refine pm_istore_n (lv' := [(3, .int (0 : Int32)), (0, .ref (ad 1)), (1, .int x1), (2, .int x2)]) K d_Text_append_24 rfl (by decide) rfl ?_
        refine pm_sub (lv' := [(0, .ref (ad 1)), (1, .int x1), (2, .int x2), (3, .int (0 : Int32))]) [1, 2, 3, 0] rfl ?_
        exact h25 x1 x2 (0 : Int32) w hf
      · have hf := pm_iff c3 hf
        refine pm_iconst (v := 0) K d_Text_append_21 (by decide) ?_
        cases hf
        exact pm_zret K (by decide) d_Text_append_22
/-- CellLisp$Text.append(II)Z -/
theorem c_Text_append {l : Launch} {D : va_G} {ca : Nat → ClassId} {ad : Nat → Nat} {E : (Nat → Prop) → State → Heap → Prop} {S : Nat} (hEc : pm_Ecl E) (r : Int32) (w' : pm_W) (x1 : Int32) (x2 : Int32) (w : pm_W) (hf : f_Text_append  S x1 x2 w = some (r, w')) : pm_Met l pmTs D vwCl (tyl ca) (shC S) ca ad E y_Text_append k_Text_append 4 (some .boolean) { frames := 1, cells := 0, slots := 0, locals := 20 } [.ref (ad 1), .int x1, .int x2] w (some (.int r), w') :=
  pm_start pmTs_good hEc (by decide) (Nat.le_of_ble_eq_true rfl) (fun p e s m below meth c K => t_Text_append K r w' x1 x2 w hf)
def f_CL_feed (S : Nat) (x1 : Int32) (x2 : Int32) (w : pm_W) : Option (Int32 × pm_W) :=
  Option.bind (f_Text_append S x1 x2 w) fun o1 =>
  if o1.1 &&& 1 = o1.1 then
    some (o1.1, o1.2)
  else none
set_option maxHeartbeats 4000000 in
set_option maxRecDepth 100000 in
theorem t_CL_feed {p : Program} {l : Launch} {e : Env} {s : State} {m : MethodId} {args : Array Value} {below : List Frame} {meth : Method} {c : Code} {D : va_G} {ca : Nat → ClassId} {ad : Nat → Nat} {E : (Nat → Prop) → State → Heap → Prop} {S : Nat} (K : pm_ok p s m args meth c k_CL_feed 3 pmTs R_CL D vwCl (tyl ca) (shC S) ad E (some .boolean)) (r : Int32) (w' : pm_W) (x1 : Int32) (x2 : Int32) (w : pm_W) (hf : f_CL_feed  S x1 x2 w = some (r, w')) : pm_wk p l e { frames := 2, cells := 0, slots := 0, locals := 43 } s m args below meth c D vwCl (shC S) ca ad 3 (some (.int r), w') 0 [(0, .ref (ad 0)), (1, .int x1), (2, .int x2)] [] w := by
  unfold f_CL_feed at hf
  refine pm_aload_n K d_CL_feed_0 0 rfl rfl ?_
  refine pm_getR K fc_0 (o := 0) rfl 0 rfl (by decide) tw_288 d_CL_feed_1 ?_
  refine pm_iload_n K d_CL_feed_4 1 rfl rfl ?_
  refine pm_iload_n K d_CL_feed_5 2 rfl rfl ?_
  obtain ⟨o1, z1, hf⟩ := pm_bind hf
  refine pm_callV (As := [.int x1, .int x2]) (rest := []) (o := 1) K (c_Text_append K.2.2.2.2.2.2.2.2.2.2.2.2 o1.1 o1.2 x1 x2 w z1) mi_Text_append rfl rfl tw_299 tw_300 tw_298 rfl ⟨rfl, rfl, Nat.le_of_ble_eq_true rfl, Nat.le_of_ble_eq_true rfl⟩ rfl (Nat.le_of_ble_eq_true rfl) d_CL_feed_6 ?_
  obtain ⟨q2, hf⟩ := pm_chk hf
  cases hf
  exact pm_zret K (congrArg Value.int q2) d_CL_feed_9
/-- CellLisp.feed(II)Z -/
theorem c_CL_feed {l : Launch} {D : va_G} {ca : Nat → ClassId} {ad : Nat → Nat} {E : (Nat → Prop) → State → Heap → Prop} {S : Nat} (hEc : pm_Ecl E) (r : Int32) (w' : pm_W) (x1 : Int32) (x2 : Int32) (w : pm_W) (hf : f_CL_feed  S x1 x2 w = some (r, w')) : pm_Met l pmTs D vwCl (tyl ca) (shC S) ca ad E y_CL_feed k_CL_feed 3 (some .boolean) { frames := 2, cells := 0, slots := 0, locals := 43 } [.ref (ad 0), .int x1, .int x2] w (some (.int r), w') :=
  pm_start pmTs_good hEc (by decide) (Nat.le_of_ble_eq_true rfl) (fun p e s m below meth c K => t_CL_feed K r w' x1 x2 w hf)
def f_CL_outSize (S : Nat) (w : pm_W) : Option (Int32 × pm_W) :=
  some (w.1 2 1, w)
set_option maxHeartbeats 4000000 in
set_option maxRecDepth 100000 in
theorem t_CL_outSize {p : Program} {l : Launch} {e : Env} {s : State} {m : MethodId} {args : Array Value} {below : List Frame} {meth : Method} {c : Code} {D : va_G} {ca : Nat → ClassId} {ad : Nat → Nat} {E : (Nat → Prop) → State → Heap → Prop} {S : Nat} (K : pm_ok p s m args meth c k_CL_outSize 1 pmTs R_CL D vwCl (tyl ca) (shC S) ad E (some .int)) (r : Int32) (w' : pm_W) (w : pm_W) (hf : f_CL_outSize  S w = some (r, w')) : pm_wk p l e { frames := 0, cells := 0, slots := 0, locals := 0 } s m args below meth c D vwCl (shC S) ca ad 1 (some (.int r), w') 0 [(0, .ref (ad 0))] [] w := by
  unfold f_CL_outSize at hf
  refine pm_aload_n K d_CL_outSize_0 0 rfl rfl ?_
  refine pm_getR K fc_0 (o := 0) rfl 1 rfl (by decide) tw_289 d_CL_outSize_1 ?_
  refine pm_getIN K fc_2 (o := 2) rfl 1 rfl (by decide) tw_131 d_CL_outSize_4 (v := w.1 2 1) rfl ?_
  cases hf
  exact pm_iret K d_CL_outSize_7
/-- CellLisp.outSize()I -/
theorem c_CL_outSize {l : Launch} {D : va_G} {ca : Nat → ClassId} {ad : Nat → Nat} {E : (Nat → Prop) → State → Heap → Prop} {S : Nat} (hEc : pm_Ecl E) (r : Int32) (w' : pm_W) (w : pm_W) (hf : f_CL_outSize  S w = some (r, w')) : pm_Met l pmTs D vwCl (tyl ca) (shC S) ca ad E y_CL_outSize k_CL_outSize 1 (some .int) { frames := 0, cells := 0, slots := 0, locals := 0 } [.ref (ad 0)] w (some (.int r), w') :=
  pm_start pmTs_good hEc (by decide) (Nat.le_of_ble_eq_true rfl) (fun p e s m below meth c K => t_CL_outSize K r w'  w hf)
def f_Output_at (S : Nat) (x1 : Int32) (w : pm_W) : Option (Int32 × pm_W) :=
  if x1 < 0 then
    some ((-1 : Int32), w)
  else
    if (w.1 2 1) ≤ x1 then
      some ((-1 : Int32), w)
    else
      if (200 : Int32) ≤ x1 then
        some ((-1 : Int32), w)
      else
        if x1 < 0 ∨ 200 ≤ x1.toNatClampNeg then none else
        some (w.1 10 x1.toNatClampNeg, w)
set_option maxHeartbeats 4000000 in
set_option maxRecDepth 100000 in
theorem t_Output_at {p : Program} {l : Launch} {e : Env} {s : State} {m : MethodId} {args : Array Value} {below : List Frame} {meth : Method} {c : Code} {D : va_G} {ca : Nat → ClassId} {ad : Nat → Nat} {E : (Nat → Prop) → State → Heap → Prop} {S : Nat} (K : pm_ok p s m args meth c k_Output_at 2 pmTs R_Output D vwCl (tyl ca) (shC S) ad E (some .int)) (r : Int32) (w' : pm_W) (x1 : Int32) (w : pm_W) (hf : f_Output_at  S x1 w = some (r, w')) : pm_wk p l e { frames := 0, cells := 0, slots := 0, locals := 0 } s m args below meth c D vwCl (shC S) ca ad 2 (some (.int r), w') 0 [(0, .ref (ad 2)), (1, .int x1)] [] w := by
  unfold f_Output_at at hf
  refine pm_iload_n K d_Output_at_0 1 rfl rfl ?_
  refine pm_if_lt K d_Output_at_1 28 (by decide) (fun c1 => ?_) (fun c1 => ?_)
  · have hf := pm_ift c1 hf
    refine pm_iconst (v := -1) K d_Output_at_28 (by decide) ?_
    cases hf
    exact pm_iret K d_Output_at_29
  · have hf := pm_iff c1 hf
    refine pm_iload_n K d_Output_at_4 1 rfl rfl ?_
    refine pm_aload_n K d_Output_at_5 0 rfl rfl ?_
    refine pm_getI K fc_2 (o := 2) rfl 1 rfl (by decide) tw_130 d_Output_at_6 (v := w.1 2 1) rfl ?_
    refine pm_icmp_ge K d_Output_at_9 28 (by decide) (fun c2 => ?_) (fun c2 => ?_)
    · have hf := pm_ift c2 hf
      refine pm_iconst (v := -1) K d_Output_at_28 (by decide) ?_
      cases hf
      exact pm_iret K d_Output_at_29
    · have hf := pm_iff c2 hf
      refine pm_iload_n K d_Output_at_12 1 rfl rfl ?_
      refine pm_sipush (v := 200) K d_Output_at_13 (by decide) ?_
      refine pm_icmp_ge K d_Output_at_16 28 (by decide) (fun c3 => ?_) (fun c3 => ?_)
      · have hf := pm_ift c3 hf
        refine pm_iconst (v := -1) K d_Output_at_28 (by decide) ?_
        cases hf
        exact pm_iret K d_Output_at_29
      · have hf := pm_iff c3 hf
        refine pm_aload_n K d_Output_at_19 0 rfl rfl ?_
        refine pm_getR K fc_2 (o := 2) rfl 0 rfl (by decide) tw_129 d_Output_at_20 ?_
        refine pm_iload_n K d_Output_at_23 1 rfl rfl ?_
        obtain ⟨q4, hf⟩ := pm_bnd hf
        refine pm_cald K (o := 10) rfl rfl q4 d_Output_at_24 (v := w.1 10 x1.toNatClampNeg) rfl ?_
        refine pm_goto K d_Output_at_25 29 (by decide) ?_
        cases hf
        exact pm_iret K d_Output_at_29
/-- CellLisp$Output.at(I)I -/
theorem c_Output_at {l : Launch} {D : va_G} {ca : Nat → ClassId} {ad : Nat → Nat} {E : (Nat → Prop) → State → Heap → Prop} {S : Nat} (hEc : pm_Ecl E) (r : Int32) (w' : pm_W) (x1 : Int32) (w : pm_W) (hf : f_Output_at  S x1 w = some (r, w')) : pm_Met l pmTs D vwCl (tyl ca) (shC S) ca ad E y_Output_at k_Output_at 2 (some .int) { frames := 0, cells := 0, slots := 0, locals := 0 } [.ref (ad 2), .int x1] w (some (.int r), w') :=
  pm_start pmTs_good hEc (by decide) (Nat.le_of_ble_eq_true rfl) (fun p e s m below meth c K => t_Output_at K r w' x1 w hf)
def f_CL_out (S : Nat) (x1 : Int32) (w : pm_W) : Option (Int32 × pm_W) :=
  Option.bind (f_Output_at S x1 w) fun o1 =>
  some (o1.1, o1.2)
set_option maxHeartbeats 4000000 in
set_option maxRecDepth 100000 in
theorem t_CL_out {p : Program} {l : Launch} {e : Env} {s : State} {m : MethodId} {args : Array Value} {below : List Frame} {meth : Method} {c : Code} {D : va_G} {ca : Nat → ClassId} {ad : Nat → Nat} {E : (Nat → Prop) → State → Heap → Prop} {S : Nat} (K : pm_ok p s m args meth c k_CL_out 2 pmTs R_CL D vwCl (tyl ca) (shC S) ad E (some .int)) (r : Int32) (w' : pm_W) (x1 : Int32) (w : pm_W) (hf : f_CL_out  S x1 w = some (r, w')) : pm_wk p l e { frames := 1, cells := 0, slots := 0, locals := 21 } s m args below meth c D vwCl (shC S) ca ad 2 (some (.int r), w') 0 [(0, .ref (ad 0)), (1, .int x1)] [] w := by
  unfold f_CL_out at hf
  refine pm_aload_n K d_CL_out_0 0 rfl rfl ?_
  refine pm_getR K fc_0 (o := 0) rfl 1 rfl (by decide) tw_289 d_CL_out_1 ?_
  refine pm_iload_n K d_CL_out_4 1 rfl rfl ?_
  obtain ⟨o1, z1, hf⟩ := pm_bind hf
  refine pm_callV (As := [.int x1]) (rest := []) (o := 2) K (c_Output_at K.2.2.2.2.2.2.2.2.2.2.2.2 o1.1 o1.2 x1 w z1) mi_Output_at rfl rfl tw_637 tw_638 tw_636 rfl ⟨rfl, rfl, Nat.le_of_ble_eq_true rfl, Nat.le_of_ble_eq_true rfl⟩ rfl (Nat.le_of_ble_eq_true rfl) d_CL_out_5 ?_
  cases hf
  exact pm_iret K d_CL_out_8
/-- CellLisp.out(I)I -/
theorem c_CL_out {l : Launch} {D : va_G} {ca : Nat → ClassId} {ad : Nat → Nat} {E : (Nat → Prop) → State → Heap → Prop} {S : Nat} (hEc : pm_Ecl E) (r : Int32) (w' : pm_W) (x1 : Int32) (w : pm_W) (hf : f_CL_out  S x1 w = some (r, w')) : pm_Met l pmTs D vwCl (tyl ca) (shC S) ca ad E y_CL_out k_CL_out 2 (some .int) { frames := 1, cells := 0, slots := 0, locals := 21 } [.ref (ad 0), .int x1] w (some (.int r), w') :=
  pm_start pmTs_good hEc (by decide) (Nat.le_of_ble_eq_true rfl) (fun p e s m below meth c K => t_CL_out K r w' x1 w hf)
def f_CL_clearOut (S : Nat) (w : pm_W) : Option pm_W :=
  some (pm_setI w 2 1 (0 : Int32))
set_option maxHeartbeats 4000000 in
set_option maxRecDepth 100000 in
theorem t_CL_clearOut {p : Program} {l : Launch} {e : Env} {s : State} {m : MethodId} {args : Array Value} {below : List Frame} {meth : Method} {c : Code} {D : va_G} {ca : Nat → ClassId} {ad : Nat → Nat} {E : (Nat → Prop) → State → Heap → Prop} {S : Nat} (K : pm_ok p s m args meth c k_CL_clearOut 1 pmTs R_CL D vwCl (tyl ca) (shC S) ad E none) (w' : pm_W) (w : pm_W) (hf : f_CL_clearOut  S w = some w') : pm_wk p l e { frames := 0, cells := 0, slots := 0, locals := 0 } s m args below meth c D vwCl (shC S) ca ad 1 (none, w') 0 [(0, .ref (ad 0))] [] w := by
  unfold f_CL_clearOut at hf
  refine pm_aload_n K d_CL_clearOut_0 0 rfl rfl ?_
  refine pm_getR K fc_0 (o := 0) rfl 1 rfl (by decide) tw_289 d_CL_clearOut_1 ?_
  refine pm_iconst (v := 0) K d_CL_clearOut_4 (by decide) ?_
  refine pm_putIN K fc_2 (o := 2) (ty := .int) rfl 1 rfl (by decide) tw_131 rfl rfl rfl rfl d_CL_clearOut_5 ?_
  cases hf
  exact pm_vret K d_CL_clearOut_8
/-- CellLisp.clearOut()V -/
theorem c_CL_clearOut {l : Launch} {D : va_G} {ca : Nat → ClassId} {ad : Nat → Nat} {E : (Nat → Prop) → State → Heap → Prop} {S : Nat} (hEc : pm_Ecl E) (w' : pm_W) (w : pm_W) (hf : f_CL_clearOut  S w = some w') : pm_Met l pmTs D vwCl (tyl ca) (shC S) ca ad E y_CL_clearOut k_CL_clearOut 1 none { frames := 0, cells := 0, slots := 0, locals := 0 } [.ref (ad 0)] w (none, w') :=
  pm_start pmTs_good hEc (by decide) (Nat.le_of_ble_eq_true rfl) (fun p e s m below meth c K => t_CL_clearOut K w'  w hf)
def f_Value_kind (S : Nat) (x0 : Int32) (w : pm_W) : Option (Int32 × pm_W) :=
  some (x0 &&& (7 : Int32), w)
set_option maxHeartbeats 4000000 in
set_option maxRecDepth 100000 in
theorem t_Value_kind {p : Program} {l : Launch} {e : Env} {s : State} {m : MethodId} {args : Array Value} {below : List Frame} {meth : Method} {c : Code} {D : va_G} {ca : Nat → ClassId} {ad : Nat → Nat} {E : (Nat → Prop) → State → Heap → Prop} {S : Nat} (K : pm_ok p s m args meth c k_Value_kind 1 pmTs R_Value D vwCl (tyl ca) (shC S) ad E (some .int)) (r : Int32) (w' : pm_W) (x0 : Int32) (w : pm_W) (hf : f_Value_kind  S x0 w = some (r, w')) : pm_wk p l e { frames := 0, cells := 0, slots := 0, locals := 0 } s m args below meth c D vwCl (shC S) ca ad 1 (some (.int r), w') 0 [(0, .int x0)] [] w := by
  unfold f_Value_kind at hf
  refine pm_iload_n K d_Value_kind_0 0 rfl rfl ?_
  refine pm_bipush (v := 7) K d_Value_kind_1 (by decide) ?_
  refine pm_iand K d_Value_kind_3 ?_
  cases hf
  exact pm_iret K d_Value_kind_4
/-- CellLisp$Value.kind(I)I -/
theorem c_Value_kind {l : Launch} {D : va_G} {ca : Nat → ClassId} {ad : Nat → Nat} {E : (Nat → Prop) → State → Heap → Prop} {S : Nat} (hEc : pm_Ecl E) (r : Int32) (w' : pm_W) (x0 : Int32) (w : pm_W) (hf : f_Value_kind  S x0 w = some (r, w')) : pm_Met l pmTs D vwCl (tyl ca) (shC S) ca ad E y_Value_kind k_Value_kind 1 (some .int) { frames := 0, cells := 0, slots := 0, locals := 0 } [.int x0] w (some (.int r), w') :=
  pm_start pmTs_good hEc (by decide) (Nat.le_of_ble_eq_true rfl) (fun p e s m below meth c K => t_Value_kind K r w' x0 w hf)
def f_Value_content (S : Nat) (x0 : Int32) (w : pm_W) : Option (Int32 × pm_W) :=
  some (x0 >>> ((3 : Int32) &&& 31), w)
set_option maxHeartbeats 4000000 in
set_option maxRecDepth 100000 in
theorem t_Value_content {p : Program} {l : Launch} {e : Env} {s : State} {m : MethodId} {args : Array Value} {below : List Frame} {meth : Method} {c : Code} {D : va_G} {ca : Nat → ClassId} {ad : Nat → Nat} {E : (Nat → Prop) → State → Heap → Prop} {S : Nat} (K : pm_ok p s m args meth c k_Value_content 1 pmTs R_Value D vwCl (tyl ca) (shC S) ad E (some .int)) (r : Int32) (w' : pm_W) (x0 : Int32) (w : pm_W) (hf : f_Value_content  S x0 w = some (r, w')) : pm_wk p l e { frames := 0, cells := 0, slots := 0, locals := 0 } s m args below meth c D vwCl (shC S) ca ad 1 (some (.int r), w') 0 [(0, .int x0)] [] w := by
  unfold f_Value_content at hf
  refine pm_iload_n K d_Value_content_0 0 rfl rfl ?_
  refine pm_iconst (v := 3) K d_Value_content_1 (by decide) ?_
  refine pm_ishr K d_Value_content_2 ?_
  cases hf
  exact pm_iret K d_Value_content_3
/-- CellLisp$Value.content(I)I -/
theorem c_Value_content {l : Launch} {D : va_G} {ca : Nat → ClassId} {ad : Nat → Nat} {E : (Nat → Prop) → State → Heap → Prop} {S : Nat} (hEc : pm_Ecl E) (r : Int32) (w' : pm_W) (x0 : Int32) (w : pm_W) (hf : f_Value_content  S x0 w = some (r, w')) : pm_Met l pmTs D vwCl (tyl ca) (shC S) ca ad E y_Value_content k_Value_content 1 (some .int) { frames := 0, cells := 0, slots := 0, locals := 0 } [.int x0] w (some (.int r), w') :=
  pm_start pmTs_good hEc (by decide) (Nat.le_of_ble_eq_true rfl) (fun p e s m below meth c K => t_Value_content K r w' x0 w hf)
def b_Room_reach_25 (S : Nat) (x2 : Int32) (x3 : Int32) (s0 : Int32) (w : pm_W) : Option pm_W :=
  if s0 = 0 then
    some w
  else
    if x3 < 0 then
      some w
    else
      if (w.1 5 1) ≤ x3 then
        some w
      else
        if x3 < 0 ∨ S ≤ x3.toNatClampNeg then none else
        if (w.1 20 x3.toNatClampNeg) = 0 then
          if (w.1 5 8) < (w.1 5 1) then
            if x3 < 0 ∨ S ≤ x3.toNatClampNeg then none else
            if x2 = (4 : Int32) then
              if (w.1 5 8) < 0 ∨ S ≤ (w.1 5 8).toNatClampNeg then none else
              some (pm_setI (pm_setI (pm_setI (pm_setI w 20 x3.toNatClampNeg (vp_nar .boolean (1 : Int32))) 5 10 ((w.1 5 10) + (2 : Int32))) 21 (w.1 5 8).toNatClampNeg x3) 5 8 ((w.1 5 8) + (1 : Int32)))
            else
              if (w.1 5 8) < 0 ∨ S ≤ (w.1 5 8).toNatClampNeg then none else
              some (pm_setI (pm_setI (pm_setI (pm_setI w 20 x3.toNatClampNeg (vp_nar .boolean (1 : Int32))) 5 10 ((w.1 5 10) + (3 : Int32))) 21 (w.1 5 8).toNatClampNeg x3) 5 8 ((w.1 5 8) + (1 : Int32)))
          else
            some w
        else
          some w
def f_Room_reach (S : Nat) (x1 : Int32) (w : pm_W) : Option pm_W :=
  Option.bind (f_Value_kind S x1 w) fun o1 =>
  Option.bind (f_Value_content S x1 o1.2) fun o2 =>
  if o1.1 = (4 : Int32) then
    b_Room_reach_25  S  o1.1 o2.1 (1 : Int32) o2.2
  else
    if o1.1 = (5 : Int32) then
      b_Room_reach_25  S  o1.1 o2.1 (1 : Int32) o2.2
    else
      b_Room_reach_25  S  o1.1 o2.1 (0 : Int32) o2.2
set_option maxHeartbeats 4000000 in
set_option maxRecDepth 100000 in
theorem t_Room_reach_25 {p : Program} {l : Launch} {e : Env} {s : State} {m : MethodId} {args : Array Value} {below : List Frame} {meth : Method} {c : Code} {D : va_G} {ca : Nat → ClassId} {ad : Nat → Nat} {E : (Nat → Prop) → State → Heap → Prop} {S : Nat} (K : pm_ok p s m args meth c k_Room_reach 5 pmTs R_Room D vwCl (tyl ca) (shC S) ad E none) (w' : pm_W) (x2 : Int32) (x3 : Int32) (s0 : Int32) (w : pm_W) (hf : b_Room_reach_25  S x2 x3 s0 w = some w') : pm_wk p l e { frames := 1, cells := 0, slots := 0, locals := 20 } s m args below meth c D vwCl (shC S) ca ad 5 (none, w') 25 [(0, .ref (ad 5)), (2, .int x2), (3, .int x3)] [.int s0] w := by
  unfold b_Room_reach_25 at hf
  refine pm_istore (lv' := [(4, .int s0), (0, .ref (ad 5)), (2, .int x2), (3, .int x3)]) K d_Room_reach_25 (by decide) rfl ?_
  refine pm_iload K d_Room_reach_27 0 rfl ?_
  refine pm_if_eq K d_Room_reach_29 64 (by decide) (fun c5 => ?_) (fun c5 => ?_)
  · have hf := pm_ift c5 hf
    cases hf
    exact pm_vret K d_Room_reach_64
  · have hf := pm_iff c5 hf
    refine pm_iload_n K d_Room_reach_32 3 rfl rfl ?_
    refine pm_if_lt K d_Room_reach_33 64 (by decide) (fun c6 => ?_) (fun c6 => ?_)
    · have hf := pm_ift c6 hf
      cases hf
      exact pm_vret K d_Room_reach_64
    · have hf := pm_iff c6 hf
      refine pm_iload_n K d_Room_reach_36 3 rfl rfl ?_
      refine pm_aload_n K d_Room_reach_37 1 rfl rfl ?_
      refine pm_getI K fc_5 (o := 5) rfl 1 rfl (by decide) tw_236 d_Room_reach_38 (v := w.1 5 1) rfl ?_
      refine pm_icmp_ge K d_Room_reach_41 64 (by decide) (fun c7 => ?_) (fun c7 => ?_)
      · have hf := pm_ift c7 hf
        cases hf
        exact pm_vret K d_Room_reach_64
      · have hf := pm_iff c7 hf
        refine pm_aload_n K d_Room_reach_44 1 rfl rfl ?_
        refine pm_getR K fc_5 (o := 5) rfl 5 rfl (by decide) tw_240 d_Room_reach_45 ?_
        refine pm_iload_n K d_Room_reach_48 3 rfl rfl ?_
        obtain ⟨q8, hf⟩ := pm_bnd hf
        refine pm_zald K (o := 20) rfl rfl q8 d_Room_reach_49 (v := w.1 20 x3.toNatClampNeg) rfl ?_
        refine pm_if_ne K d_Room_reach_50 64 (by decide) (fun c9 => ?_) (fun c9 => ?_)
        · have hf := pm_iff c9 hf
          cases hf
          exact pm_vret K d_Room_reach_64
        · have hf := pm_ift c9 hf
          refine pm_aload_n K d_Room_reach_53 1 rfl rfl ?_
          refine pm_getI K fc_5 (o := 5) rfl 8 rfl (by decide) tw_243 d_Room_reach_54 (v := w.1 5 8) rfl ?_
          refine pm_aload_n K d_Room_reach_57 1 rfl rfl ?_
          refine pm_getI K fc_5 (o := 5) rfl 1 rfl (by decide) tw_236 d_Room_reach_58 (v := w.1 5 1) rfl ?_
          refine pm_icmp_lt K d_Room_reach_61 65 (by decide) (fun c10 => ?_) (fun c10 => ?_)
          · have hf := pm_ift c10 hf
            refine pm_aload_n K d_Room_reach_65 1 rfl rfl ?_
            refine pm_getR K fc_5 (o := 5) rfl 5 rfl (by decide) tw_240 d_Room_reach_66 ?_
            refine pm_iload_n K d_Room_reach_69 3 rfl rfl ?_
            refine pm_iconst (v := 1) K d_Room_reach_70 (by decide) ?_
            obtain ⟨q11, hf⟩ := pm_bnd hf
            refine pm_zast K (o := 20) rfl rfl q11 d_Room_reach_71 ?_
            refine pm_aload_n K d_Room_reach_72 1 rfl rfl ?_
            refine pm_dup K d_Room_reach_73 rfl ?_
            refine pm_getI K fc_5 (o := 5) rfl 10 rfl (by decide) tw_245 d_Room_reach_74 (v := w.1 5 10) rfl ?_
            refine pm_iload_n K d_Room_reach_77 2 rfl rfl ?_
            refine pm_iconst (v := 4) K d_Room_reach_78 (by decide) ?_
            refine pm_icmp_ne K d_Room_reach_79 86 (by decide) (fun c12 => ?_) (fun c12 => ?_)
            · have hf := pm_iff c12 hf
              refine pm_iconst (v := 3) K d_Room_reach_86 (by decide) ?_
              refine pm_iadd K d_Room_reach_87 ?_
              refine pm_putI K fc_5 (o := 5) (ty := .int) rfl 10 rfl (by decide) tw_245 rfl rfl rfl rfl d_Room_reach_88 ?_
              refine pm_aload_n K d_Room_reach_91 1 rfl rfl ?_
              refine pm_getR K fc_5 (o := 5) rfl 6 rfl (by decide) tw_241 d_Room_reach_92 ?_
              refine pm_aload_n K d_Room_reach_95 1 rfl rfl ?_
              refine pm_getI K fc_5 (o := 5) rfl 8 rfl (by decide) tw_243 d_Room_reach_96 (v := w.1 5 8) rfl ?_
              refine pm_iload_n K d_Room_reach_99 3 rfl rfl ?_
              obtain ⟨q13, hf⟩ := pm_bnd hf
              refine pm_iast K (o := 21) rfl rfl q13 d_Room_reach_100 ?_
              refine pm_aload_n K d_Room_reach_101 1 rfl rfl ?_
              refine pm_dup K d_Room_reach_102 rfl ?_
              refine pm_getI K fc_5 (o := 5) rfl 8 rfl (by decide) tw_243 d_Room_reach_103 (v := w.1 5 8) rfl ?_
              refine pm_iconst (v := 1) K d_Room_reach_106 (by decide) ?_
              refine pm_iadd K d_Room_reach_107 ?_
              refine pm_putI K fc_5 (o := 5) (ty := .int) rfl 8 rfl (by decide) tw_243 rfl rfl rfl rfl d_Room_reach_108 ?_
              cases hf
              exact pm_vret K d_Room_reach_111
            · have hf := pm_ift c12 hf
              refine pm_iconst (v := 2) K d_Room_reach_82 (by decide) ?_
              refine pm_goto K d_Room_reach_83 87 (by decide) ?_
              refine pm_iadd K d_Room_reach_87 ?_
              refine pm_putI K fc_5 (o := 5) (ty := .int) rfl 10 rfl (by decide) tw_245 rfl rfl rfl rfl d_Room_reach_88 ?_
              refine pm_aload_n K d_Room_reach_91 1 rfl rfl ?_
              refine pm_getR K fc_5 (o := 5) rfl 6 rfl (by decide) tw_241 d_Room_reach_92 ?_
              refine pm_aload_n K d_Room_reach_95 1 rfl rfl ?_
              refine pm_getI K fc_5 (o := 5) rfl 8 rfl (by decide) tw_243 d_Room_reach_96 (v := w.1 5 8) rfl ?_
              refine pm_iload_n K d_Room_reach_99 3 rfl rfl ?_
              obtain ⟨q14, hf⟩ := pm_bnd hf
              refine pm_iast K (o := 21) rfl rfl q14 d_Room_reach_100 ?_
              refine pm_aload_n K d_Room_reach_101 1 rfl rfl ?_
              refine pm_dup K d_Room_reach_102 rfl ?_
              refine pm_getI K fc_5 (o := 5) rfl 8 rfl (by decide) tw_243 d_Room_reach_103 (v := w.1 5 8) rfl ?_
              refine pm_iconst (v := 1) K d_Room_reach_106 (by decide) ?_
              refine pm_iadd K d_Room_reach_107 ?_
              refine pm_putI K fc_5 (o := 5) (ty := .int) rfl 8 rfl (by decide) tw_243 rfl rfl rfl rfl d_Room_reach_108 ?_
              cases hf
              exact pm_vret K d_Room_reach_111
          · have hf := pm_iff c10 hf
            cases hf
            exact pm_vret K d_Room_reach_64
set_option maxHeartbeats 4000000 in
set_option maxRecDepth 100000 in
theorem t_Room_reach {p : Program} {l : Launch} {e : Env} {s : State} {m : MethodId} {args : Array Value} {below : List Frame} {meth : Method} {c : Code} {D : va_G} {ca : Nat → ClassId} {ad : Nat → Nat} {E : (Nat → Prop) → State → Heap → Prop} {S : Nat} (K : pm_ok p s m args meth c k_Room_reach 5 pmTs R_Room D vwCl (tyl ca) (shC S) ad E none) (w' : pm_W) (x1 : Int32) (w : pm_W) (hf : f_Room_reach  S x1 w = some w') : pm_wk p l e { frames := 1, cells := 0, slots := 0, locals := 20 } s m args below meth c D vwCl (shC S) ca ad 5 (none, w') 0 [(0, .ref (ad 5)), (1, .int x1)] [] w := by
  unfold f_Room_reach at hf
  refine pm_iload_n K d_Room_reach_0 1 rfl rfl ?_
  obtain ⟨o1, z1, hf⟩ := pm_bind hf
  refine pm_callS (As := [.int x1]) (rest := []) K (c_Value_kind K.2.2.2.2.2.2.2.2.2.2.2.2 o1.1 o1.2 x1 w z1) mi_Value_kind tw_374 tw_373 rfl ⟨rfl, rfl, Nat.le_of_ble_eq_true rfl, Nat.le_of_ble_eq_true rfl⟩ rfl (Nat.le_of_ble_eq_true rfl) d_Room_reach_1 ?_
  refine pm_istore_n (lv' := [(2, .int o1.1), (0, .ref (ad 5)), (1, .int x1)]) K d_Room_reach_4 rfl (by decide) rfl ?_
  refine pm_iload_n K d_Room_reach_5 2 rfl rfl ?_
  obtain ⟨o2, z2, hf⟩ := pm_bind hf
  refine pm_callS (As := [.int x1]) (rest := []) K (c_Value_content K.2.2.2.2.2.2.2.2.2.2.2.2 o2.1 o2.2 x1 o1.2 z2) mi_Value_content tw_377 tw_376 rfl ⟨rfl, rfl, Nat.le_of_ble_eq_true rfl, Nat.le_of_ble_eq_true rfl⟩ rfl (Nat.le_of_ble_eq_true rfl) d_Room_reach_6 ?_
  refine pm_istore_n (lv' := [(3, .int o2.1), (2, .int o1.1), (0, .ref (ad 5)), (1, .int x1)]) K d_Room_reach_9 rfl (by decide) rfl ?_
  refine pm_iload_n K d_Room_reach_10 1 rfl rfl ?_
  refine pm_iconst (v := 4) K d_Room_reach_11 (by decide) ?_
  refine pm_icmp_eq K d_Room_reach_12 20 (by decide) (fun c3 => ?_) (fun c3 => ?_)
  · have hf := pm_ift c3 hf
    refine pm_iconst (v := 1) K d_Room_reach_20 (by decide) ?_
    refine pm_goto K d_Room_reach_21 25 (by decide) ?_
    refine pm_sub (lv' := [(0, .ref (ad 5)), (2, .int o1.1), (3, .int o2.1)]) [2, 1, 0] rfl ?_
    exact t_Room_reach_25 K  w'  o1.1 o2.1 (1 : Int32) o2.2 hf
  · have hf := pm_iff c3 hf
    refine pm_iload_n K d_Room_reach_15 1 rfl rfl ?_
    refine pm_iconst (v := 5) K d_Room_reach_16 (by decide) ?_
    refine pm_icmp_ne K d_Room_reach_17 24 (by decide) (fun c4 => ?_) (fun c4 => ?_)
    · have hf := pm_iff c4 hf
      refine pm_iconst (v := 0) K d_Room_reach_24 (by decide) ?_
      refine pm_sub (lv' := [(0, .ref (ad 5)), (2, .int o1.1), (3, .int o2.1)]) [2, 1, 0] rfl ?_
      exact t_Room_reach_25 K  w'  o1.1 o2.1 (0 : Int32) o2.2 hf
    · have hf := pm_ift c4 hf
      refine pm_iconst (v := 1) K d_Room_reach_20 (by decide) ?_
      refine pm_goto K d_Room_reach_21 25 (by decide) ?_
      refine pm_sub (lv' := [(0, .ref (ad 5)), (2, .int o1.1), (3, .int o2.1)]) [2, 1, 0] rfl ?_
      exact t_Room_reach_25 K  w'  o1.1 o2.1 (1 : Int32) o2.2 hf
/-- CellLisp$Room.reach(I)V -/
theorem c_Room_reach {l : Launch} {D : va_G} {ca : Nat → ClassId} {ad : Nat → Nat} {E : (Nat → Prop) → State → Heap → Prop} {S : Nat} (hEc : pm_Ecl E) (w' : pm_W) (x1 : Int32) (w : pm_W) (hf : f_Room_reach  S x1 w = some w') : pm_Met l pmTs D vwCl (tyl ca) (shC S) ca ad E y_Room_reach k_Room_reach 5 none { frames := 1, cells := 0, slots := 0, locals := 20 } [.ref (ad 5), .int x1] w (none, w') :=
  pm_start pmTs_good hEc (by decide) (Nat.le_of_ble_eq_true rfl) (fun p e s m below meth c K => t_Room_reach K w' x1 w hf)
def b_Room_freeUnreached_7 (S : Nat) (rec : Nat → Int32 → pm_W → Option pm_W) (x1 : Int32) (w : pm_W) : Option pm_W :=
  if (w.1 5 1) ≤ x1 then
    some w
  else
    if x1 < 0 ∨ S ≤ x1.toNatClampNeg then none else
    if (w.1 20 x1.toNatClampNeg) = 0 then
      if (w.1 5 1) ≤ (w.1 5 9) then
        if x1 < 0 ∨ S ≤ x1.toNatClampNeg then none else
        rec 0 (x1 + (1 : Int32)) (pm_setI w 20 x1.toNatClampNeg (vp_nar .boolean (0 : Int32)))
      else
        if (w.1 5 9) < 0 ∨ S ≤ (w.1 5 9).toNatClampNeg then none else
        if x1 < 0 ∨ S ≤ x1.toNatClampNeg then none else
        rec 0 (x1 + (1 : Int32)) (pm_setI (pm_setI (pm_setI w 22 (w.1 5 9).toNatClampNeg x1) 5 9 ((w.1 5 9) + (1 : Int32))) 20 x1.toNatClampNeg (vp_nar .boolean (0 : Int32)))
    else
      if x1 < 0 ∨ S ≤ x1.toNatClampNeg then none else
      rec 0 (x1 + (1 : Int32)) (pm_setI w 20 x1.toNatClampNeg (vp_nar .boolean (0 : Int32)))
def l_Room_freeUnreached (S : Nat) : Nat → Nat → Int32 → pm_W → Option pm_W := pm_it (fun _ _ _ => none) (fun rec k x1 w => b_Room_freeUnreached_7  S rec x1 w)
def f_Room_freeUnreached (S : Nat) (w : pm_W) : Option pm_W :=
  (l_Room_freeUnreached  S pm_fuel) 0 (0 : Int32) (pm_setI w 5 9 (0 : Int32))
set_option maxHeartbeats 4000000 in
set_option maxRecDepth 100000 in
theorem t_Room_freeUnreached_7 {p : Program} {l : Launch} {e : Env} {s : State} {m : MethodId} {args : Array Value} {below : List Frame} {meth : Method} {c : Code} {D : va_G} {ca : Nat → ClassId} {ad : Nat → Nat} {E : (Nat → Prop) → State → Heap → Prop} {S : Nat} (K : pm_ok p s m args meth c k_Room_freeUnreached 2 pmTs R_Room D vwCl (tyl ca) (shC S) ad E none) (rec : Nat → Int32 → pm_W → Option pm_W) (w' : pm_W) (h7 : ∀ (x1 : Int32) (w : pm_W), rec 0 x1 w = some w' → pm_wk p l e { frames := 0, cells := 0, slots := 0, locals := 0 } s m args below meth c D vwCl (shC S) ca ad 2 (none, w') 7 [(0, .ref (ad 5)), (1, .int x1)] [] w) (x1 : Int32) (w : pm_W) (hf : b_Room_freeUnreached_7  S rec x1 w = some w') : pm_wk p l e { frames := 0, cells := 0, slots := 0, locals := 0 } s m args below meth c D vwCl (shC S) ca ad 2 (none, w') 7 [(0, .ref (ad 5)), (1, .int x1)] [] w := by
  unfold b_Room_freeUnreached_7 at hf
  refine pm_iload_n K d_Room_freeUnreached_7 1 rfl rfl ?_
  refine pm_aload_n K d_Room_freeUnreached_8 0 rfl rfl ?_
  refine pm_getI K fc_5 (o := 5) rfl 1 rfl (by decide) tw_236 d_Room_freeUnreached_9 (v := w.1 5 1) rfl ?_
  refine pm_icmp_ge K d_Room_freeUnreached_12 68 (by decide) (fun c1 => ?_) (fun c1 => ?_)
  · have hf := pm_ift c1 hf
    cases hf
    exact pm_vret K d_Room_freeUnreached_68
  · have hf := pm_iff c1 hf
    refine pm_aload_n K d_Room_freeUnreached_15 0 rfl rfl ?_
    refine pm_getR K fc_5 (o := 5) rfl 5 rfl (by decide) tw_240 d_Room_freeUnreached_16 ?_
    refine pm_iload_n K d_Room_freeUnreached_19 1 rfl rfl ?_
    obtain ⟨q2, hf⟩ := pm_bnd hf
    refine pm_zald K (o := 20) rfl rfl q2 d_Room_freeUnreached_20 (v := w.1 20 x1.toNatClampNeg) rfl ?_
    refine pm_if_ne K d_Room_freeUnreached_21 55 (by decide) (fun c3 => ?_) (fun c3 => ?_)
    · have hf := pm_iff c3 hf
      refine pm_aload_n K d_Room_freeUnreached_55 0 rfl rfl ?_
      refine pm_getR K fc_5 (o := 5) rfl 5 rfl (by decide) tw_240 d_Room_freeUnreached_56 ?_
      refine pm_iload_n K d_Room_freeUnreached_59 1 rfl rfl ?_
      refine pm_iconst (v := 0) K d_Room_freeUnreached_60 (by decide) ?_
      obtain ⟨q4, hf⟩ := pm_bnd hf
      refine pm_zast K (o := 20) rfl rfl q4 d_Room_freeUnreached_61 ?_
      refine pm_iinc (v := x1 + (1 : Int32)) (lv' := [(1, .int (x1 + (1 : Int32))), (0, .ref (ad 5))]) K d_Room_freeUnreached_62 1 rfl rfl (by decide) rfl ?_
      refine pm_goto K d_Room_freeUnreached_65 7 (by decide) ?_
      refine pm_sub (lv' := [(0, .ref (ad 5)), (1, .int (x1 + (1 : Int32)))]) [1, 0] rfl ?_
      exact h7 (x1 + (1 : Int32)) (pm_setI w 20 x1.toNatClampNeg (vp_nar .boolean (0 : Int32))) hf
    · have hf := pm_ift c3 hf
      refine pm_aload_n K d_Room_freeUnreached_24 0 rfl rfl ?_
      refine pm_getI K fc_5 (o := 5) rfl 9 rfl (by decide) tw_244 d_Room_freeUnreached_25 (v := w.1 5 9) rfl ?_
      refine pm_aload_n K d_Room_freeUnreached_28 0 rfl rfl ?_
      refine pm_getI K fc_5 (o := 5) rfl 1 rfl (by decide) tw_236 d_Room_freeUnreached_29 (v := w.1 5 1) rfl ?_
      refine pm_icmp_ge K d_Room_freeUnreached_32 55 (by decide) (fun c5 => ?_) (fun c5 => ?_)
      · have hf := pm_ift c5 hf
        refine pm_aload_n K d_Room_freeUnreached_55 0 rfl rfl ?_
        refine pm_getR K fc_5 (o := 5) rfl 5 rfl (by decide) tw_240 d_Room_freeUnreached_56 ?_
        refine pm_iload_n K d_Room_freeUnreached_59 1 rfl rfl ?_
        refine pm_iconst (v := 0) K d_Room_freeUnreached_60 (by decide) ?_
        obtain ⟨q6, hf⟩ := pm_bnd hf
        refine pm_zast K (o := 20) rfl rfl q6 d_Room_freeUnreached_61 ?_
        refine pm_iinc (v := x1 + (1 : Int32)) (lv' := [(1, .int (x1 + (1 : Int32))), (0, .ref (ad 5))]) K d_Room_freeUnreached_62 1 rfl rfl (by decide) rfl ?_
        refine pm_goto K d_Room_freeUnreached_65 7 (by decide) ?_
        refine pm_sub (lv' := [(0, .ref (ad 5)), (1, .int (x1 + (1 : Int32)))]) [1, 0] rfl ?_
        exact h7 (x1 + (1 : Int32)) (pm_setI w 20 x1.toNatClampNeg (vp_nar .boolean (0 : Int32))) hf
      · have hf := pm_iff c5 hf
        refine pm_aload_n K d_Room_freeUnreached_35 0 rfl rfl ?_
        refine pm_getR K fc_5 (o := 5) rfl 7 rfl (by decide) tw_242 d_Room_freeUnreached_36 ?_
        refine pm_aload_n K d_Room_freeUnreached_39 0 rfl rfl ?_
        refine pm_getI K fc_5 (o := 5) rfl 9 rfl (by decide) tw_244 d_Room_freeUnreached_40 (v := w.1 5 9) rfl ?_
        refine pm_iload_n K d_Room_freeUnreached_43 1 rfl rfl ?_
        obtain ⟨q7, hf⟩ := pm_bnd hf
        refine pm_iast K (o := 22) rfl rfl q7 d_Room_freeUnreached_44 ?_
        refine pm_aload_n K d_Room_freeUnreached_45 0 rfl rfl ?_
        refine pm_dup K d_Room_freeUnreached_46 rfl ?_
        refine pm_getI K fc_5 (o := 5) rfl 9 rfl (by decide) tw_244 d_Room_freeUnreached_47 (v := w.1 5 9) rfl ?_
        refine pm_iconst (v := 1) K d_Room_freeUnreached_50 (by decide) ?_
        refine pm_iadd K d_Room_freeUnreached_51 ?_
        refine pm_putI K fc_5 (o := 5) (ty := .int) rfl 9 rfl (by decide) tw_244 rfl rfl rfl rfl d_Room_freeUnreached_52 ?_
        refine pm_aload_n K d_Room_freeUnreached_55 0 rfl rfl ?_
        refine pm_getR K fc_5 (o := 5) rfl 5 rfl (by decide) tw_240 d_Room_freeUnreached_56 ?_
        refine pm_iload_n K d_Room_freeUnreached_59 1 rfl rfl ?_
        refine pm_iconst (v := 0) K d_Room_freeUnreached_60 (by decide) ?_
        obtain ⟨q8, hf⟩ := pm_bnd hf
        refine pm_zast K (o := 20) rfl rfl q8 d_Room_freeUnreached_61 ?_
        refine pm_iinc (v := x1 + (1 : Int32)) (lv' := [(1, .int (x1 + (1 : Int32))), (0, .ref (ad 5))]) K d_Room_freeUnreached_62 1 rfl rfl (by decide) rfl ?_
        refine pm_goto K d_Room_freeUnreached_65 7 (by decide) ?_
        refine pm_sub (lv' := [(0, .ref (ad 5)), (1, .int (x1 + (1 : Int32)))]) [1, 0] rfl ?_
        exact h7 (x1 + (1 : Int32)) (pm_setI (pm_setI (pm_setI w 22 (w.1 5 9).toNatClampNeg x1) 5 9 ((w.1 5 9) + (1 : Int32))) 20 x1.toNatClampNeg (vp_nar .boolean (0 : Int32))) hf
set_option maxHeartbeats 4000000 in
set_option maxRecDepth 100000 in
theorem a_Room_freeUnreached {p : Program} {l : Launch} {e : Env} {s : State} {m : MethodId} {args : Array Value} {below : List Frame} {meth : Method} {c : Code} {D : va_G} {ca : Nat → ClassId} {ad : Nat → Nat} {E : (Nat → Prop) → State → Heap → Prop} {S : Nat} (K : pm_ok p s m args meth c k_Room_freeUnreached 2 pmTs R_Room D vwCl (tyl ca) (shC S) ad E none) (w' : pm_W) : ∀ n : Nat, (∀ (x1 : Int32) (w : pm_W), l_Room_freeUnreached  S n 0 x1 w = some w' → pm_wk p l e { frames := 0, cells := 0, slots := 0, locals := 0 } s m args below meth c D vwCl (shC S) ca ad 2 (none, w') 7 [(0, .ref (ad 5)), (1, .int x1)] [] w) := by
  intro n
  induction n with
  | zero => exact fun _ _ hf => (by cases hf)
  | succ n ih => exact fun x1 w hf => t_Room_freeUnreached_7 K (l_Room_freeUnreached S n) w' (ih) x1 w hf
set_option maxHeartbeats 4000000 in
set_option maxRecDepth 100000 in
theorem t_Room_freeUnreached {p : Program} {l : Launch} {e : Env} {s : State} {m : MethodId} {args : Array Value} {below : List Frame} {meth : Method} {c : Code} {D : va_G} {ca : Nat → ClassId} {ad : Nat → Nat} {E : (Nat → Prop) → State → Heap → Prop} {S : Nat} (K : pm_ok p s m args meth c k_Room_freeUnreached 2 pmTs R_Room D vwCl (tyl ca) (shC S) ad E none) (w' : pm_W) (w : pm_W) (hf : f_Room_freeUnreached  S w = some w') : pm_wk p l e { frames := 0, cells := 0, slots := 0, locals := 0 } s m args below meth c D vwCl (shC S) ca ad 2 (none, w') 0 [(0, .ref (ad 5))] [] w := by
  unfold f_Room_freeUnreached at hf
  have h7 := (a_Room_freeUnreached (l := l) (e := e) (below := below) K  w' pm_fuel)
  refine pm_aload_n K d_Room_freeUnreached_0 0 rfl rfl ?_
  refine pm_iconst (v := 0) K d_Room_freeUnreached_1 (by decide) ?_
  refine pm_putI K fc_5 (o := 5) (ty := .int) rfl 9 rfl (by decide) tw_244 rfl rfl rfl rfl d_Room_freeUnreached_2 ?_
  refine pm_iconst (v := 0) K d_Room_freeUnreached_5 (by decide) ?_
  refine pm_istore_n (lv' := [(1, .int (0 : Int32)), (0, .ref (ad 5))]) K d_Room_freeUnreached_6 rfl (by decide) rfl ?_
  refine pm_sub (lv' := [(0, .ref (ad 5)), (1, .int (0 : Int32))]) [1, 0] rfl ?_
  exact h7 (0 : Int32) (pm_setI w 5 9 (0 : Int32)) hf
/-- CellLisp$Room.freeUnreached()V -/
theorem c_Room_freeUnreached {l : Launch} {D : va_G} {ca : Nat → ClassId} {ad : Nat → Nat} {E : (Nat → Prop) → State → Heap → Prop} {S : Nat} (hEc : pm_Ecl E) (w' : pm_W) (w : pm_W) (hf : f_Room_freeUnreached  S w = some w') : pm_Met l pmTs D vwCl (tyl ca) (shC S) ca ad E y_Room_freeUnreached k_Room_freeUnreached 2 none { frames := 0, cells := 0, slots := 0, locals := 0 } [.ref (ad 5)] w (none, w') :=
  pm_start pmTs_good hEc (by decide) (Nat.le_of_ble_eq_true rfl) (fun p e s m below meth c K => t_Room_freeUnreached K w'  w hf)
def b_Room_collect_34 (S : Nat) (rec : Nat → Int32 → pm_W → Option pm_W) (x1 : Int32) (w : pm_W) : Option pm_W :=
  if (w.1 4 3) ≤ x1 then
    rec 1 (0 : Int32) w
  else
    if (30 : Int32) ≤ x1 then
      rec 1 (0 : Int32) w
    else
      if x1 < 0 ∨ 30 ≤ x1.toNatClampNeg then none else
      Option.bind (f_Room_reach S (w.1 14 x1.toNatClampNeg) w) fun o6 =>
      if x1 < 0 ∨ 30 ≤ x1.toNatClampNeg then none else
      Option.bind (f_Room_reach S (o6.1 15 x1.toNatClampNeg) o6) fun o8 =>
      if x1 < 0 ∨ 30 ≤ x1.toNatClampNeg then none else
      Option.bind (f_Room_reach S (o8.1 16 x1.toNatClampNeg) o8) fun o10 =>
      rec 0 (x1 + (1 : Int32)) o10
def b_Room_collect_98 (S : Nat) (rec : Nat → Int32 → pm_W → Option pm_W) (x1 : Int32) (w : pm_W) : Option pm_W :=
  if (w.1 3 2) ≤ x1 then
    rec 2 (0 : Int32) w
  else
    if (40 : Int32) ≤ x1 then
      rec 2 (0 : Int32) w
    else
      if x1 < 0 ∨ 40 ≤ x1.toNatClampNeg then none else
      Option.bind (f_Room_reach S (w.1 12 x1.toNatClampNeg) w) fun o14 =>
      rec 1 (x1 + (1 : Int32)) o14
def b_Room_collect_136 (S : Nat) (rec : Nat → Int32 → pm_W → Option pm_W) (x1 : Int32) (w : pm_W) : Option pm_W :=
  if (w.1 5 8) ≤ x1 then
    Option.bind (f_Room_freeUnreached S w) fun o16 =>
    some o16
  else
    if (w.1 5 1) ≤ x1 then
      Option.bind (f_Room_freeUnreached S w) fun o18 =>
      some o18
    else
      if x1 < 0 ∨ S ≤ x1.toNatClampNeg then none else
      if (w.1 21 x1.toNatClampNeg) < 0 then
        rec 2 (x1 + (1 : Int32)) w
      else
        if (w.1 5 1) ≤ (w.1 21 x1.toNatClampNeg) then
          rec 2 (x1 + (1 : Int32)) w
        else
          if (w.1 21 x1.toNatClampNeg) < 0 ∨ S ≤ (w.1 21 x1.toNatClampNeg).toNatClampNeg then none else
          Option.bind (f_Room_reach S (w.1 17 (w.1 21 x1.toNatClampNeg).toNatClampNeg) w) fun o23 =>
          if (w.1 21 x1.toNatClampNeg) < 0 ∨ S ≤ (w.1 21 x1.toNatClampNeg).toNatClampNeg then none else
          Option.bind (f_Room_reach S (o23.1 18 (w.1 21 x1.toNatClampNeg).toNatClampNeg) o23) fun o25 =>
          if (w.1 21 x1.toNatClampNeg) < 0 ∨ S ≤ (w.1 21 x1.toNatClampNeg).toNatClampNeg then none else
          Option.bind (f_Room_reach S (o25.1 19 (w.1 21 x1.toNatClampNeg).toNatClampNeg) o25) fun o27 =>
          rec 2 (x1 + (1 : Int32)) o27
def l_Room_collect (S : Nat) : Nat → Nat → Int32 → pm_W → Option pm_W := pm_it (fun _ _ _ => none) (fun rec k x1 w => match k with | 0 => b_Room_collect_34  S rec x1 w | 1 => b_Room_collect_98  S rec x1 w | _ => b_Room_collect_136  S rec x1 w)
def f_Room_collect (S : Nat) (w : pm_W) : Option pm_W :=
  Option.bind (f_Room_reach S (w.1 4 0) (pm_setI (pm_setI w 5 10 (0 : Int32)) 5 8 (0 : Int32))) fun o1 =>
  Option.bind (f_Room_reach S (o1.1 4 1) o1) fun o2 =>
  (l_Room_collect  S pm_fuel) 0 (0 : Int32) o2
set_option maxHeartbeats 4000000 in
set_option maxRecDepth 100000 in
theorem t_Room_collect_34 {p : Program} {l : Launch} {e : Env} {s : State} {m : MethodId} {args : Array Value} {below : List Frame} {meth : Method} {c : Code} {D : va_G} {ca : Nat → ClassId} {ad : Nat → Nat} {E : (Nat → Prop) → State → Heap → Prop} {S : Nat} (K : pm_ok p s m args meth c k_Room_collect 3 pmTs R_Room D vwCl (tyl ca) (shC S) ad E none) (rec : Nat → Int32 → pm_W → Option pm_W) (w' : pm_W) (h34 : ∀ (x1 : Int32) (w : pm_W), rec 0 x1 w = some w' → pm_wk p l e { frames := 2, cells := 0, slots := 0, locals := 44 } s m args below meth c D vwCl (shC S) ca ad 3 (none, w') 34 [(0, .ref (ad 5)), (1, .int x1)] [] w) (h98 : ∀ (x1 : Int32) (w : pm_W), rec 1 x1 w = some w' → pm_wk p l e { frames := 2, cells := 0, slots := 0, locals := 44 } s m args below meth c D vwCl (shC S) ca ad 3 (none, w') 98 [(0, .ref (ad 5)), (1, .int x1)] [] w) (h136 : ∀ (x1 : Int32) (w : pm_W), rec 2 x1 w = some w' → pm_wk p l e { frames := 2, cells := 0, slots := 0, locals := 44 } s m args below meth c D vwCl (shC S) ca ad 3 (none, w') 136 [(0, .ref (ad 5)), (1, .int x1)] [] w) (x1 : Int32) (w : pm_W) (hf : b_Room_collect_34  S rec x1 w = some w') : pm_wk p l e { frames := 2, cells := 0, slots := 0, locals := 44 } s m args below meth c D vwCl (shC S) ca ad 3 (none, w') 34 [(0, .ref (ad 5)), (1, .int x1)] [] w := by
  unfold b_Room_collect_34 at hf
  refine pm_iload_n K d_Room_collect_34 1 rfl rfl ?_
  refine pm_aload_n K d_Room_collect_35 0 rfl rfl ?_
  refine pm_getR K fc_5 (o := 5) rfl 11 rfl (by decide) tw_247 d_Room_collect_36 ?_
  refine pm_getIN K fc_4 (o := 4) rfl 3 rfl (by decide) tw_214 d_Room_collect_39 (v := w.1 4 3) rfl ?_
  refine pm_icmp_ge K d_Room_collect_42 96 (by decide) (fun c3 => ?_) (fun c3 => ?_)
  · have hf := pm_ift c3 hf
    refine pm_iconst (v := 0) K d_Room_collect_96 (by decide) ?_
    refine pm_istore_n (lv' := [(1, .int (0 : Int32)), (0, .ref (ad 5))]) K d_Room_collect_97 rfl (by decide) rfl ?_
    refine pm_sub (lv' := [(0, .ref (ad 5)), (1, .int (0 : Int32))]) [1, 0] rfl ?_
    exact h98 (0 : Int32) w hf
  · have hf := pm_iff c3 hf
    refine pm_iload_n K d_Room_collect_45 1 rfl rfl ?_
    refine pm_bipush (v := 30) K d_Room_collect_46 (by decide) ?_
    refine pm_icmp_ge K d_Room_collect_48 96 (by decide) (fun c4 => ?_) (fun c4 => ?_)
    · have hf := pm_ift c4 hf
      refine pm_iconst (v := 0) K d_Room_collect_96 (by decide) ?_
      refine pm_istore_n (lv' := [(1, .int (0 : Int32)), (0, .ref (ad 5))]) K d_Room_collect_97 rfl (by decide) rfl ?_
      refine pm_sub (lv' := [(0, .ref (ad 5)), (1, .int (0 : Int32))]) [1, 0] rfl ?_
      exact h98 (0 : Int32) w hf
    · have hf := pm_iff c4 hf
      refine pm_aload_n K d_Room_collect_51 0 rfl rfl ?_
      refine pm_aload_n K d_Room_collect_52 0 rfl rfl ?_
      refine pm_getR K fc_5 (o := 5) rfl 11 rfl (by decide) tw_247 d_Room_collect_53 ?_
      refine pm_getRN K fc_4 (o := 4) rfl 5 rfl (by decide) tw_217 d_Room_collect_56 ?_
      refine pm_iload_n K d_Room_collect_59 1 rfl rfl ?_
      obtain ⟨q5, hf⟩ := pm_bnd hf
      refine pm_iald K (o := 14) rfl rfl q5 d_Room_collect_60 (v := w.1 14 x1.toNatClampNeg) rfl ?_
      obtain ⟨o6, z6, hf⟩ := pm_bind hf
      refine pm_callV (As := [.int (w.1 14 x1.toNatClampNeg)]) (rest := []) (o := 5) K (c_Room_reach K.2.2.2.2.2.2.2.2.2.2.2.2 o6 (w.1 14 x1.toNatClampNeg) w z6) mi_Room_reach rfl rfl tw_371 tw_4 tw_370 rfl ⟨rfl, rfl, Nat.le_of_ble_eq_true rfl, Nat.le_of_ble_eq_true rfl⟩ rfl (Nat.le_of_ble_eq_true rfl) d_Room_collect_61 ?_
      refine pm_aload_n K d_Room_collect_64 0 rfl rfl ?_
      refine pm_aload_n K d_Room_collect_65 0 rfl rfl ?_
      refine pm_getR K fc_5 (o := 5) rfl 11 rfl (by decide) tw_247 d_Room_collect_66 ?_
      refine pm_getRN K fc_4 (o := 4) rfl 6 rfl (by decide) tw_219 d_Room_collect_69 ?_
      refine pm_iload_n K d_Room_collect_72 1 rfl rfl ?_
      obtain ⟨q7, hf⟩ := pm_bnd hf
      refine pm_iald K (o := 15) rfl rfl q7 d_Room_collect_73 (v := o6.1 15 x1.toNatClampNeg) rfl ?_
      obtain ⟨o8, z8, hf⟩ := pm_bind hf
      refine pm_callV (As := [.int (o6.1 15 x1.toNatClampNeg)]) (rest := []) (o := 5) K (c_Room_reach K.2.2.2.2.2.2.2.2.2.2.2.2 o8 (o6.1 15 x1.toNatClampNeg) o6 z8) mi_Room_reach rfl rfl tw_371 tw_4 tw_370 rfl ⟨rfl, rfl, Nat.le_of_ble_eq_true rfl, Nat.le_of_ble_eq_true rfl⟩ rfl (Nat.le_of_ble_eq_true rfl) d_Room_collect_74 ?_
      refine pm_aload_n K d_Room_collect_77 0 rfl rfl ?_
      refine pm_aload_n K d_Room_collect_78 0 rfl rfl ?_
      refine pm_getR K fc_5 (o := 5) rfl 11 rfl (by decide) tw_247 d_Room_collect_79 ?_
      refine pm_getRN K fc_4 (o := 4) rfl 7 rfl (by decide) tw_221 d_Room_collect_82 ?_
      refine pm_iload_n K d_Room_collect_85 1 rfl rfl ?_
      obtain ⟨q9, hf⟩ := pm_bnd hf
      refine pm_iald K (o := 16) rfl rfl q9 d_Room_collect_86 (v := o8.1 16 x1.toNatClampNeg) rfl ?_
      obtain ⟨o10, z10, hf⟩ := pm_bind hf
      refine pm_callV (As := [.int (o8.1 16 x1.toNatClampNeg)]) (rest := []) (o := 5) K (c_Room_reach K.2.2.2.2.2.2.2.2.2.2.2.2 o10 (o8.1 16 x1.toNatClampNeg) o8 z10) mi_Room_reach rfl rfl tw_371 tw_4 tw_370 rfl ⟨rfl, rfl, Nat.le_of_ble_eq_true rfl, Nat.le_of_ble_eq_true rfl⟩ rfl (Nat.le_of_ble_eq_true rfl) d_Room_collect_87 ?_
      refine pm_iinc (v := x1 + (1 : Int32)) (lv' := [(1, .int (x1 + (1 : Int32))), (0, .ref (ad 5))]) K d_Room_collect_90 1 rfl rfl (by decide) rfl ?_
      refine pm_goto K d_Room_collect_93 34 (by decide) ?_
      refine pm_sub (lv' := [(0, .ref (ad 5)), (1, .int (x1 + (1 : Int32)))]) [1, 0] rfl ?_
      exact h34 (x1 + (1 : Int32)) o10 hf
set_option maxHeartbeats 4000000 in
set_option maxRecDepth 100000 in
theorem t_Room_collect_98 {p : Program} {l : Launch} {e : Env} {s : State} {m : MethodId} {args : Array Value} {below : List Frame} {meth : Method} {c : Code} {D : va_G} {ca : Nat → ClassId} {ad : Nat → Nat} {E : (Nat → Prop) → State → Heap → Prop} {S : Nat} (K : pm_ok p s m args meth c k_Room_collect 3 pmTs R_Room D vwCl (tyl ca) (shC S) ad E none) (rec : Nat → Int32 → pm_W → Option pm_W) (w' : pm_W) (h34 : ∀ (x1 : Int32) (w : pm_W), rec 0 x1 w = some w' → pm_wk p l e { frames := 2, cells := 0, slots := 0, locals := 44 } s m args below meth c D vwCl (shC S) ca ad 3 (none, w') 34 [(0, .ref (ad 5)), (1, .int x1)] [] w) (h98 : ∀ (x1 : Int32) (w : pm_W), rec 1 x1 w = some w' → pm_wk p l e { frames := 2, cells := 0, slots := 0, locals := 44 } s m args below meth c D vwCl (shC S) ca ad 3 (none, w') 98 [(0, .ref (ad 5)), (1, .int x1)] [] w) (h136 : ∀ (x1 : Int32) (w : pm_W), rec 2 x1 w = some w' → pm_wk p l e { frames := 2, cells := 0, slots := 0, locals := 44 } s m args below meth c D vwCl (shC S) ca ad 3 (none, w') 136 [(0, .ref (ad 5)), (1, .int x1)] [] w) (x1 : Int32) (w : pm_W) (hf : b_Room_collect_98  S rec x1 w = some w') : pm_wk p l e { frames := 2, cells := 0, slots := 0, locals := 44 } s m args below meth c D vwCl (shC S) ca ad 3 (none, w') 98 [(0, .ref (ad 5)), (1, .int x1)] [] w := by
  unfold b_Room_collect_98 at hf
  refine pm_iload_n K d_Room_collect_98 1 rfl rfl ?_
  refine pm_aload_n K d_Room_collect_99 0 rfl rfl ?_
  refine pm_getR K fc_5 (o := 5) rfl 12 rfl (by decide) tw_248 d_Room_collect_100 ?_
  refine pm_getIN K fc_3 (o := 3) rfl 2 rfl (by decide) tw_197 d_Room_collect_103 (v := w.1 3 2) rfl ?_
  refine pm_icmp_ge K d_Room_collect_106 134 (by decide) (fun c11 => ?_) (fun c11 => ?_)
  · have hf := pm_ift c11 hf
    refine pm_iconst (v := 0) K d_Room_collect_134 (by decide) ?_
    refine pm_istore_n (lv' := [(1, .int (0 : Int32)), (0, .ref (ad 5))]) K d_Room_collect_135 rfl (by decide) rfl ?_
    refine pm_sub (lv' := [(0, .ref (ad 5)), (1, .int (0 : Int32))]) [1, 0] rfl ?_
    exact h136 (0 : Int32) w hf
  · have hf := pm_iff c11 hf
    refine pm_iload_n K d_Room_collect_109 1 rfl rfl ?_
    refine pm_bipush (v := 40) K d_Room_collect_110 (by decide) ?_
    refine pm_icmp_ge K d_Room_collect_112 134 (by decide) (fun c12 => ?_) (fun c12 => ?_)
    · have hf := pm_ift c12 hf
      refine pm_iconst (v := 0) K d_Room_collect_134 (by decide) ?_
      refine pm_istore_n (lv' := [(1, .int (0 : Int32)), (0, .ref (ad 5))]) K d_Room_collect_135 rfl (by decide) rfl ?_
      refine pm_sub (lv' := [(0, .ref (ad 5)), (1, .int (0 : Int32))]) [1, 0] rfl ?_
      exact h136 (0 : Int32) w hf
    · have hf := pm_iff c12 hf
      refine pm_aload_n K d_Room_collect_115 0 rfl rfl ?_
      refine pm_aload_n K d_Room_collect_116 0 rfl rfl ?_
      refine pm_getR K fc_5 (o := 5) rfl 12 rfl (by decide) tw_248 d_Room_collect_117 ?_
      refine pm_getRN K fc_3 (o := 3) rfl 1 rfl (by decide) tw_194 d_Room_collect_120 ?_
      refine pm_iload_n K d_Room_collect_123 1 rfl rfl ?_
      obtain ⟨q13, hf⟩ := pm_bnd hf
      refine pm_iald K (o := 12) rfl rfl q13 d_Room_collect_124 (v := w.1 12 x1.toNatClampNeg) rfl ?_
      obtain ⟨o14, z14, hf⟩ := pm_bind hf
      refine pm_callV (As := [.int (w.1 12 x1.toNatClampNeg)]) (rest := []) (o := 5) K (c_Room_reach K.2.2.2.2.2.2.2.2.2.2.2.2 o14 (w.1 12 x1.toNatClampNeg) w z14) mi_Room_reach rfl rfl tw_371 tw_4 tw_370 rfl ⟨rfl, rfl, Nat.le_of_ble_eq_true rfl, Nat.le_of_ble_eq_true rfl⟩ rfl (Nat.le_of_ble_eq_true rfl) d_Room_collect_125 ?_
      refine pm_iinc (v := x1 + (1 : Int32)) (lv' := [(1, .int (x1 + (1 : Int32))), (0, .ref (ad 5))]) K d_Room_collect_128 1 rfl rfl (by decide) rfl ?_
      refine pm_goto K d_Room_collect_131 98 (by decide) ?_
      refine pm_sub (lv' := [(0, .ref (ad 5)), (1, .int (x1 + (1 : Int32)))]) [1, 0] rfl ?_
      exact h98 (x1 + (1 : Int32)) o14 hf
set_option maxHeartbeats 4000000 in
set_option maxRecDepth 100000 in
theorem t_Room_collect_136 {p : Program} {l : Launch} {e : Env} {s : State} {m : MethodId} {args : Array Value} {below : List Frame} {meth : Method} {c : Code} {D : va_G} {ca : Nat → ClassId} {ad : Nat → Nat} {E : (Nat → Prop) → State → Heap → Prop} {S : Nat} (K : pm_ok p s m args meth c k_Room_collect 3 pmTs R_Room D vwCl (tyl ca) (shC S) ad E none) (rec : Nat → Int32 → pm_W → Option pm_W) (w' : pm_W) (h34 : ∀ (x1 : Int32) (w : pm_W), rec 0 x1 w = some w' → pm_wk p l e { frames := 2, cells := 0, slots := 0, locals := 44 } s m args below meth c D vwCl (shC S) ca ad 3 (none, w') 34 [(0, .ref (ad 5)), (1, .int x1)] [] w) (h98 : ∀ (x1 : Int32) (w : pm_W), rec 1 x1 w = some w' → pm_wk p l e { frames := 2, cells := 0, slots := 0, locals := 44 } s m args below meth c D vwCl (shC S) ca ad 3 (none, w') 98 [(0, .ref (ad 5)), (1, .int x1)] [] w) (h136 : ∀ (x1 : Int32) (w : pm_W), rec 2 x1 w = some w' → pm_wk p l e { frames := 2, cells := 0, slots := 0, locals := 44 } s m args below meth c D vwCl (shC S) ca ad 3 (none, w') 136 [(0, .ref (ad 5)), (1, .int x1)] [] w) (x1 : Int32) (w : pm_W) (hf : b_Room_collect_136  S rec x1 w = some w') : pm_wk p l e { frames := 2, cells := 0, slots := 0, locals := 44 } s m args below meth c D vwCl (shC S) ca ad 3 (none, w') 136 [(0, .ref (ad 5)), (1, .int x1)] [] w := by
  unfold b_Room_collect_136 at hf
  refine pm_iload_n K d_Room_collect_136 1 rfl rfl ?_
  refine pm_aload_n K d_Room_collect_137 0 rfl rfl ?_
  refine pm_getI K fc_5 (o := 5) rfl 8 rfl (by decide) tw_243 d_Room_collect_138 (v := w.1 5 8) rfl ?_
  refine pm_icmp_ge K d_Room_collect_141 207 (by decide) (fun c15 => ?_) (fun c15 => ?_)
  · have hf := pm_ift c15 hf
    refine pm_aload_n K d_Room_collect_207 0 rfl rfl ?_
    obtain ⟨o16, z16, hf⟩ := pm_bind hf
    refine pm_callV (As := []) (rest := []) (o := 5) K (c_Room_freeUnreached K.2.2.2.2.2.2.2.2.2.2.2.2 o16 w z16) mi_Room_freeUnreached rfl rfl tw_380 tw_5 tw_379 rfl ⟨rfl, rfl, Nat.le_of_ble_eq_true rfl, Nat.le_of_ble_eq_true rfl⟩ rfl (Nat.le_of_ble_eq_true rfl) d_Room_collect_208 ?_
    cases hf
    exact pm_vret K d_Room_collect_211
  · have hf := pm_iff c15 hf
    refine pm_iload_n K d_Room_collect_144 1 rfl rfl ?_
    refine pm_aload_n K d_Room_collect_145 0 rfl rfl ?_
    refine pm_getI K fc_5 (o := 5) rfl 1 rfl (by decide) tw_236 d_Room_collect_146 (v := w.1 5 1) rfl ?_
    refine pm_icmp_ge K d_Room_collect_149 207 (by decide) (fun c17 => ?_) (fun c17 => ?_)
    · have hf := pm_ift c17 hf
      refine pm_aload_n K d_Room_collect_207 0 rfl rfl ?_
      obtain ⟨o18, z18, hf⟩ := pm_bind hf
      refine pm_callV (As := []) (rest := []) (o := 5) K (c_Room_freeUnreached K.2.2.2.2.2.2.2.2.2.2.2.2 o18 w z18) mi_Room_freeUnreached rfl rfl tw_380 tw_5 tw_379 rfl ⟨rfl, rfl, Nat.le_of_ble_eq_true rfl, Nat.le_of_ble_eq_true rfl⟩ rfl (Nat.le_of_ble_eq_true rfl) d_Room_collect_208 ?_
      cases hf
      exact pm_vret K d_Room_collect_211
    · have hf := pm_iff c17 hf
      refine pm_aload_n K d_Room_collect_152 0 rfl rfl ?_
      refine pm_getR K fc_5 (o := 5) rfl 6 rfl (by decide) tw_241 d_Room_collect_153 ?_
      refine pm_iload_n K d_Room_collect_156 1 rfl rfl ?_
      obtain ⟨q19, hf⟩ := pm_bnd hf
      refine pm_iald K (o := 21) rfl rfl q19 d_Room_collect_157 (v := w.1 21 x1.toNatClampNeg) rfl ?_
      refine pm_istore_n (lv' := [(2, .int (w.1 21 x1.toNatClampNeg)), (0, .ref (ad 5)), (1, .int x1)]) K d_Room_collect_158 rfl (by decide) rfl ?_
      refine pm_iload_n K d_Room_collect_159 0 rfl rfl ?_
      refine pm_if_lt K d_Room_collect_160 201 (by decide) (fun c20 => ?_) (fun c20 => ?_)
      · have hf := pm_ift c20 hf
        refine pm_iinc (v := x1 + (1 : Int32)) (lv' := [(1, .int (x1 + (1 : Int32))), (2, .int (w.1 21 x1.toNatClampNeg)), (0, .ref (ad 5))]) K d_Room_collect_201 2 rfl rfl (by decide) rfl ?_
        refine pm_goto K d_Room_collect_204 136 (by decide) ?_
        refine pm_sub (lv' := [(0, .ref (ad 5)), (1, .int (x1 + (1 : Int32)))]) [2, 0] rfl ?_
        exact h136 (x1 + (1 : Int32)) w hf
      · have hf := pm_iff c20 hf
        refine pm_iload_n K d_Room_collect_163 0 rfl rfl ?_
        refine pm_aload_n K d_Room_collect_164 1 rfl rfl ?_
        refine pm_getI K fc_5 (o := 5) rfl 1 rfl (by decide) tw_236 d_Room_collect_165 (v := w.1 5 1) rfl ?_
        refine pm_icmp_ge K d_Room_collect_168 201 (by decide) (fun c21 => ?_) (fun c21 => ?_)
        · have hf := pm_ift c21 hf
          refine pm_iinc (v := x1 + (1 : Int32)) (lv' := [(1, .int (x1 + (1 : Int32))), (2, .int (w.1 21 x1.toNatClampNeg)), (0, .ref (ad 5))]) K d_Room_collect_201 2 rfl rfl (by decide) rfl ?_
          refine pm_goto K d_Room_collect_204 136 (by decide) ?_
          refine pm_sub (lv' := [(0, .ref (ad 5)), (1, .int (x1 + (1 : Int32)))]) [2, 0] rfl ?_
          exact h136 (x1 + (1 : Int32)) w hf
        · have hf := pm_iff c21 hf
          refine pm_aload_n K d_Room_collect_171 1 rfl rfl ?_
          refine pm_aload_n K d_Room_collect_172 1 rfl rfl ?_
          refine pm_getR K fc_5 (o := 5) rfl 2 rfl (by decide) tw_237 d_Room_collect_173 ?_
          refine pm_iload_n K d_Room_collect_176 0 rfl rfl ?_
          obtain ⟨q22, hf⟩ := pm_bnd hf
          refine pm_iald K (o := 17) rfl rfl q22 d_Room_collect_177 (v := w.1 17 (w.1 21 x1.toNatClampNeg).toNatClampNeg) rfl ?_
          obtain ⟨o23, z23, hf⟩ := pm_bind hf
          refine pm_callV (As := [.int (w.1 17 (w.1 21 x1.toNatClampNeg).toNatClampNeg)]) (rest := []) (o := 5) K (c_Room_reach K.2.2.2.2.2.2.2.2.2.2.2.2 o23 (w.1 17 (w.1 21 x1.toNatClampNeg).toNatClampNeg) w z23) mi_Room_reach rfl rfl tw_371 tw_4 tw_370 rfl ⟨rfl, rfl, Nat.le_of_ble_eq_true rfl, Nat.le_of_ble_eq_true rfl⟩ rfl (Nat.le_of_ble_eq_true rfl) d_Room_collect_178 ?_
          refine pm_aload_n K d_Room_collect_181 1 rfl rfl ?_
          refine pm_aload_n K d_Room_collect_182 1 rfl rfl ?_
          refine pm_getR K fc_5 (o := 5) rfl 3 rfl (by decide) tw_238 d_Room_collect_183 ?_
          refine pm_iload_n K d_Room_collect_186 0 rfl rfl ?_
          obtain ⟨q24, hf⟩ := pm_bnd hf
          refine pm_iald K (o := 18) rfl rfl q24 d_Room_collect_187 (v := o23.1 18 (w.1 21 x1.toNatClampNeg).toNatClampNeg) rfl ?_
          obtain ⟨o25, z25, hf⟩ := pm_bind hf
          refine pm_callV (As := [.int (o23.1 18 (w.1 21 x1.toNatClampNeg).toNatClampNeg)]) (rest := []) (o := 5) K (c_Room_reach K.2.2.2.2.2.2.2.2.2.2.2.2 o25 (o23.1 18 (w.1 21 x1.toNatClampNeg).toNatClampNeg) o23 z25) mi_Room_reach rfl rfl tw_371 tw_4 tw_370 rfl ⟨rfl, rfl, Nat.le_of_ble_eq_true rfl, Nat.le_of_ble_eq_true rfl⟩ rfl (Nat.le_of_ble_eq_true rfl) d_Room_collect_188 ?_
          refine pm_aload_n K d_Room_collect_191 1 rfl rfl ?_
          refine pm_aload_n K d_Room_collect_192 1 rfl rfl ?_
          refine pm_getR K fc_5 (o := 5) rfl 4 rfl (by decide) tw_239 d_Room_collect_193 ?_
          refine pm_iload_n K d_Room_collect_196 0 rfl rfl ?_
          obtain ⟨q26, hf⟩ := pm_bnd hf
          refine pm_iald K (o := 19) rfl rfl q26 d_Room_collect_197 (v := o25.1 19 (w.1 21 x1.toNatClampNeg).toNatClampNeg) rfl ?_
          obtain ⟨o27, z27, hf⟩ := pm_bind hf
          refine pm_callV (As := [.int (o25.1 19 (w.1 21 x1.toNatClampNeg).toNatClampNeg)]) (rest := []) (o := 5) K (c_Room_reach K.2.2.2.2.2.2.2.2.2.2.2.2 o27 (o25.1 19 (w.1 21 x1.toNatClampNeg).toNatClampNeg) o25 z27) mi_Room_reach rfl rfl tw_371 tw_4 tw_370 rfl ⟨rfl, rfl, Nat.le_of_ble_eq_true rfl, Nat.le_of_ble_eq_true rfl⟩ rfl (Nat.le_of_ble_eq_true rfl) d_Room_collect_198 ?_
          refine pm_iinc (v := x1 + (1 : Int32)) (lv' := [(1, .int (x1 + (1 : Int32))), (2, .int (w.1 21 x1.toNatClampNeg)), (0, .ref (ad 5))]) K d_Room_collect_201 2 rfl rfl (by decide) rfl ?_
          refine pm_goto K d_Room_collect_204 136 (by decide) ?_
          refine pm_sub (lv' := [(0, .ref (ad 5)), (1, .int (x1 + (1 : Int32)))]) [2, 0] rfl ?_
          exact h136 (x1 + (1 : Int32)) o27 hf
set_option maxHeartbeats 4000000 in
set_option maxRecDepth 100000 in
theorem a_Room_collect {p : Program} {l : Launch} {e : Env} {s : State} {m : MethodId} {args : Array Value} {below : List Frame} {meth : Method} {c : Code} {D : va_G} {ca : Nat → ClassId} {ad : Nat → Nat} {E : (Nat → Prop) → State → Heap → Prop} {S : Nat} (K : pm_ok p s m args meth c k_Room_collect 3 pmTs R_Room D vwCl (tyl ca) (shC S) ad E none) (w' : pm_W) : ∀ n : Nat, (∀ (x1 : Int32) (w : pm_W), l_Room_collect  S n 0 x1 w = some w' → pm_wk p l e { frames := 2, cells := 0, slots := 0, locals := 44 } s m args below meth c D vwCl (shC S) ca ad 3 (none, w') 34 [(0, .ref (ad 5)), (1, .int x1)] [] w) ∧ (∀ (x1 : Int32) (w : pm_W), l_Room_collect  S n 1 x1 w = some w' → pm_wk p l e { frames := 2, cells := 0, slots := 0, locals := 44 } s m args below meth c D vwCl (shC S) ca ad 3 (none, w') 98 [(0, .ref (ad 5)), (1, .int x1)] [] w) ∧ (∀ (x1 : Int32) (w : pm_W), l_Room_collect  S n 2 x1 w = some w' → pm_wk p l e { frames := 2, cells := 0, slots := 0, locals := 44 } s m args below meth c D vwCl (shC S) ca ad 3 (none, w') 136 [(0, .ref (ad 5)), (1, .int x1)] [] w) := by
  intro n
  induction n with
  | zero => exact ⟨fun _ _ hf => (by cases hf), fun _ _ hf => (by cases hf), fun _ _ hf => (by cases hf)⟩
  | succ n ih => exact ⟨fun x1 w hf => t_Room_collect_34 K (l_Room_collect S n) w' (ih.1) (ih.2.1) (ih.2.2) x1 w hf, fun x1 w hf => t_Room_collect_98 K (l_Room_collect S n) w' (ih.1) (ih.2.1) (ih.2.2) x1 w hf, fun x1 w hf => t_Room_collect_136 K (l_Room_collect S n) w' (ih.1) (ih.2.1) (ih.2.2) x1 w hf⟩
set_option maxHeartbeats 4000000 in
set_option maxRecDepth 100000 in
theorem t_Room_collect {p : Program} {l : Launch} {e : Env} {s : State} {m : MethodId} {args : Array Value} {below : List Frame} {meth : Method} {c : Code} {D : va_G} {ca : Nat → ClassId} {ad : Nat → Nat} {E : (Nat → Prop) → State → Heap → Prop} {S : Nat} (K : pm_ok p s m args meth c k_Room_collect 3 pmTs R_Room D vwCl (tyl ca) (shC S) ad E none) (w' : pm_W) (w : pm_W) (hf : f_Room_collect  S w = some w') : pm_wk p l e { frames := 2, cells := 0, slots := 0, locals := 44 } s m args below meth c D vwCl (shC S) ca ad 3 (none, w') 0 [(0, .ref (ad 5))] [] w := by
  unfold f_Room_collect at hf
  have h34 := (a_Room_collect (l := l) (e := e) (below := below) K  w' pm_fuel).1
  have h98 := (a_Room_collect (l := l) (e := e) (below := below) K  w' pm_fuel).2.1
  have h136 := (a_Room_collect (l := l) (e := e) (below := below) K  w' pm_fuel).2.2
  refine pm_aload_n K d_Room_collect_0 0 rfl rfl ?_
  refine pm_iconst (v := 0) K d_Room_collect_1 (by decide) ?_
  refine pm_putI K fc_5 (o := 5) (ty := .int) rfl 10 rfl (by decide) tw_245 rfl rfl rfl rfl d_Room_collect_2 ?_
  refine pm_aload_n K d_Room_collect_5 0 rfl rfl ?_
  refine pm_iconst (v := 0) K d_Room_collect_6 (by decide) ?_
  refine pm_putI K fc_5 (o := 5) (ty := .int) rfl 8 rfl (by decide) tw_243 rfl rfl rfl rfl d_Room_collect_7 ?_
  refine pm_aload_n K d_Room_collect_10 0 rfl rfl ?_
  refine pm_aload_n K d_Room_collect_11 0 rfl rfl ?_
  refine pm_getR K fc_5 (o := 5) rfl 11 rfl (by decide) tw_247 d_Room_collect_12 ?_
  refine pm_getIN K fc_4 (o := 4) rfl 0 rfl (by decide) tw_206 d_Room_collect_15 (v := w.1 4 0) rfl ?_
  obtain ⟨o1, z1, hf⟩ := pm_bind hf
  refine pm_callV (As := [.int (w.1 4 0)]) (rest := []) (o := 5) K (c_Room_reach K.2.2.2.2.2.2.2.2.2.2.2.2 o1 (w.1 4 0) (pm_setI (pm_setI w 5 10 (0 : Int32)) 5 8 (0 : Int32)) z1) mi_Room_reach rfl rfl tw_371 tw_4 tw_370 rfl ⟨rfl, rfl, Nat.le_of_ble_eq_true rfl, Nat.le_of_ble_eq_true rfl⟩ rfl (Nat.le_of_ble_eq_true rfl) d_Room_collect_18 ?_
  refine pm_aload_n K d_Room_collect_21 0 rfl rfl ?_
  refine pm_aload_n K d_Room_collect_22 0 rfl rfl ?_
  refine pm_getR K fc_5 (o := 5) rfl 11 rfl (by decide) tw_247 d_Room_collect_23 ?_
  refine pm_getIN K fc_4 (o := 4) rfl 1 rfl (by decide) tw_209 d_Room_collect_26 (v := o1.1 4 1) rfl ?_
  obtain ⟨o2, z2, hf⟩ := pm_bind hf
  refine pm_callV (As := [.int (o1.1 4 1)]) (rest := []) (o := 5) K (c_Room_reach K.2.2.2.2.2.2.2.2.2.2.2.2 o2 (o1.1 4 1) o1 z2) mi_Room_reach rfl rfl tw_371 tw_4 tw_370 rfl ⟨rfl, rfl, Nat.le_of_ble_eq_true rfl, Nat.le_of_ble_eq_true rfl⟩ rfl (Nat.le_of_ble_eq_true rfl) d_Room_collect_29 ?_
  refine pm_iconst (v := 0) K d_Room_collect_32 (by decide) ?_
  refine pm_istore_n (lv' := [(1, .int (0 : Int32)), (0, .ref (ad 5))]) K d_Room_collect_33 rfl (by decide) rfl ?_
  refine pm_sub (lv' := [(0, .ref (ad 5)), (1, .int (0 : Int32))]) [1, 0] rfl ?_
  exact h34 (0 : Int32) o2 hf
/-- CellLisp$Room.collect()V -/
theorem c_Room_collect {l : Launch} {D : va_G} {ca : Nat → ClassId} {ad : Nat → Nat} {E : (Nat → Prop) → State → Heap → Prop} {S : Nat} (hEc : pm_Ecl E) (w' : pm_W) (w : pm_W) (hf : f_Room_collect  S w = some w') : pm_Met l pmTs D vwCl (tyl ca) (shC S) ca ad E y_Room_collect k_Room_collect 3 none { frames := 2, cells := 0, slots := 0, locals := 44 } [.ref (ad 5)] w (none, w') :=
  pm_start pmTs_good hEc (by decide) (Nat.le_of_ble_eq_true rfl) (fun p e s m below meth c K => t_Room_collect K w'  w hf)
end
