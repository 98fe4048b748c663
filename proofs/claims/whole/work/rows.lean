section
/-! THE FRAME: a world of a FIXED SHAPE (objects and arrays that never come or go; references between them never change), its numbers as two functions; a walk is a goal about (pc, locals, stack, numbers) alone. -/
abbrev pm_W : Type := (Nat → Nat → Int32) × (Nat → Nat → Int64)
/-- a field: a reference to the object of that number, or a number (true: a long) -/
abbrev pm_F : Type := Nat ⊕ Bool
/-- an array (its class's place, its elements' type, its length), or an object (its class's place, its fields) -/
abbrev pm_E : Type := (Nat × FieldType × Nat) ⊕ (Nat × List pm_F)
def pm_val (ad : Nat → Nat) (w : pm_W) (o k : Nat) (f : pm_F) : Value := match f with
  | .inl t => .ref (ad t)
  | .inr false => .int (w.1 o k)
  | .inr true => .long (w.2 o k)
def pm_arr (w : pm_W) (o n : Nat) (ty : FieldType) : vp_A := match ty with
  | .long => (n, .inr (.inl (w.2 o)))
  | _ => (n, .inl (w.1 o))
def pm_cell (ca : Nat → ClassId) (ad : Nat → Nat) (w : pm_W) (o : Nat) (x : pm_E) : Nat × va_E := (ad o, match x with
  | .inl a => .inl (ca a.1, pm_arr w o a.2.2 a.2.1)
  | .inr b => .inr (b.1, b.2.mapIdx (fun k f => pm_val ad w o k f)))
def pm_cells (sh : List pm_E) (ca : Nat → ClassId) (ad : Nat → Nat) (w : pm_W) : va_W := sh.mapIdx (fun o x => pm_cell ca ad w o x)
def pm_up {α : Type} (f : Nat → Nat → α) (o k : Nat) (v : α) : Nat → Nat → α := fun a b => if a = o then (if b = k then v else f a b) else f a b
def pm_setI (w : pm_W) (o k : Nat) (v : Int32) : pm_W := (pm_up w.1 o k v, w.2)
def pm_setJ (w : pm_W) (o k : Nat) (v : Int64) : pm_W := (w.1, pm_up w.2 o k v)
theorem pm_up_off {α : Type} {f : Nat → Nat → α} {o k a : Nat} {v : α} (h : a ≠ o) : pm_up f o k v a = f a := by
  funext b
  simp [pm_up, h]
theorem pm_up_on {α : Type} {f : Nat → Nat → α} {o k : Nat} {v : α} : pm_up f o k v o = fun b => if b = k then v else f o b := by
  funext b
  simp [pm_up]
theorem pm_get {sh : List pm_E} {ca : Nat → ClassId} {ad : Nat → Nat} {w : pm_W} {o : Nat} {x : pm_E} (h : sh[o]? = some x) : (pm_cells sh ca ad w)[o]? = some (pm_cell ca ad w o x) := by
  unfold pm_cells
  rw [List.getElem?_mapIdx, h]
  rfl
theorem pm_len {sh : List pm_E} {ca : Nat → ClassId} {ad : Nat → Nat} {w : pm_W} : (pm_cells sh ca ad w).length = sh.length := by
  unfold pm_cells
  exact List.length_mapIdx
/-- the worlds differ at one object alone -/
theorem pm_off {w w' : pm_W} {o : Nat} (h1 : ∀ a, a ≠ o → w'.1 a = w.1 a) (h2 : ∀ a, a ≠ o → w'.2 a = w.2 a) {ca : Nat → ClassId} {ad : Nat → Nat} {a : Nat} (ha : a ≠ o) (x : pm_E) : pm_cell ca ad w' a x = pm_cell ca ad w a x := by
  have e1 := h1 a ha
  have e2 := h2 a ha
  rcases x with ⟨t, ty, n⟩ | ⟨ci, fk⟩
  · cases ty <;> simp [pm_cell, pm_arr, e1, e2]
  · have e : (fun (k : Nat) (f : pm_F) => pm_val ad w' a k f) = fun (k : Nat) (f : pm_F) => pm_val ad w a k f := by
      funext k f
      rcases f with t | b
      · rfl
      · cases b
        · simp [pm_val, e1]
        · simp [pm_val, e2]
    simp [pm_cell, e]
theorem pm_set {sh : List pm_E} {ca : Nat → ClassId} {ad : Nat → Nat} {w w' : pm_W} {o : Nat} {x : pm_E} {q : Nat × va_E} (hs : sh[o]? = some x) (h1 : ∀ a, a ≠ o → w'.1 a = w.1 a) (h2 : ∀ a, a ≠ o → w'.2 a = w.2 a) (hq : q = pm_cell ca ad w' o x) : (pm_cells sh ca ad w).set o q = pm_cells sh ca ad w' := by
  have hl : o < (pm_cells sh ca ad w).length := by rw [pm_len]; exact (List.getElem?_eq_some_iff.mp hs).1
  apply List.ext_getElem?
  intro j
  by_cases hj : j = o
  · subst hj
    rw [List.getElem?_set_self hl, pm_get hs, hq]
  · rw [List.getElem?_set_ne (Ne.symm hj)]
    unfold pm_cells
    rw [List.getElem?_mapIdx, List.getElem?_mapIdx]
    cases hx : sh[j]? with
    | none => rfl
    | some y => simp [pm_off h1 h2 hj]
theorem pm_setFI {sh : List pm_E} {ca : Nat → ClassId} {ad : Nat → Nat} {w : pm_W} {o ci k : Nat} {fk : List pm_F} {v : Int32} (hs : sh[o]? = some (.inr (ci, fk))) (hk : fk[k]? = some (.inr false)) :
    (pm_cells sh ca ad w).set o (ad o, .inr (ci, (fk.mapIdx (fun k f => pm_val ad w o k f)).set k (.int v))) = pm_cells sh ca ad (pm_setI w o k v) := by
  refine pm_set hs (fun a ha => pm_up_off ha) (fun a _ => rfl) ?_
  have e : (fk.mapIdx (fun k f => pm_val ad w o k f)).set k (.int v) = fk.mapIdx (fun j f => pm_val ad (pm_setI w o k v) o j f) := by
    apply List.ext_getElem?
    intro j
    by_cases hj : j = k
    · subst hj
      rw [List.getElem?_set_self (by rw [List.length_mapIdx]; exact (List.getElem?_eq_some_iff.mp hk).1), List.getElem?_mapIdx, hk]
      simp [pm_val, pm_setI, pm_up]
    · rw [List.getElem?_set_ne (Ne.symm hj), List.getElem?_mapIdx, List.getElem?_mapIdx]
      cases hx : fk[j]? with
      | none => rfl
      | some y =>
        rcases y with t | b
        · rfl
        · cases b
          · simp [pm_val, pm_setI, pm_up, hj]
          · rfl
  rw [e]
  rfl
theorem pm_setFJ {sh : List pm_E} {ca : Nat → ClassId} {ad : Nat → Nat} {w : pm_W} {o ci k : Nat} {fk : List pm_F} {v : Int64} (hs : sh[o]? = some (.inr (ci, fk))) (hk : fk[k]? = some (.inr true)) :
    (pm_cells sh ca ad w).set o (ad o, .inr (ci, (fk.mapIdx (fun k f => pm_val ad w o k f)).set k (.long v))) = pm_cells sh ca ad (pm_setJ w o k v) := by
  refine pm_set hs (fun a _ => rfl) (fun a ha => pm_up_off ha) ?_
  have e : (fk.mapIdx (fun k f => pm_val ad w o k f)).set k (.long v) = fk.mapIdx (fun j f => pm_val ad (pm_setJ w o k v) o j f) := by
    apply List.ext_getElem?
    intro j
    by_cases hj : j = k
    · subst hj
      rw [List.getElem?_set_self (by rw [List.length_mapIdx]; exact (List.getElem?_eq_some_iff.mp hk).1), List.getElem?_mapIdx, hk]
      simp [pm_val, pm_setJ, pm_up]
    · rw [List.getElem?_set_ne (Ne.symm hj), List.getElem?_mapIdx, List.getElem?_mapIdx]
      cases hx : fk[j]? with
      | none => rfl
      | some y =>
        rcases y with t | b
        · rfl
        · cases b
          · rfl
          · simp [pm_val, pm_setJ, pm_up, hj]
  rw [e]
  rfl
/-- what an element type of one slot says of an array's cell -/
def pm_one (ty : FieldType) : Prop := ty ≠ .long
theorem pm_arrI {w : pm_W} {o n : Nat} {ty : FieldType} (h : pm_one ty) : pm_arr w o n ty = (n, .inl (w.1 o)) := by
  cases ty <;> first | rfl | exact absurd rfl h
theorem pm_setAI {sh : List pm_E} {ca : Nat → ClassId} {ad : Nat → Nat} {w : pm_W} {o t n i : Nat} {ty : FieldType} {v : Int32} (hs : sh[o]? = some (.inl (t, ty, n))) (h : pm_one ty) :
    (pm_cells sh ca ad w).set o (ad o, .inl (ca t, n, .inl (upd (w.1 o) i v))) = pm_cells sh ca ad (pm_setI w o i v) := by
  refine pm_set hs (fun a ha => pm_up_off ha) (fun a _ => rfl) ?_
  have e : (pm_setI w o i v).1 o = upd (w.1 o) i v := by
    show pm_up w.1 o i v o = _
    rw [pm_up_on]
    rfl
  show _ = (ad o, Sum.inl (ca t, pm_arr (pm_setI w o i v) o n ty))
  rw [pm_arrI h, e]
theorem pm_setAJ {sh : List pm_E} {ca : Nat → ClassId} {ad : Nat → Nat} {w : pm_W} {o t n i : Nat} {v : Int64} (hs : sh[o]? = some (.inl (t, .long, n))) :
    (pm_cells sh ca ad w).set o (ad o, .inl (ca t, n, .inr (.inl (vp_updL (w.2 o) i v)))) = pm_cells sh ca ad (pm_setJ w o i v) := by
  refine pm_set hs (fun a _ => rfl) (fun a ha => pm_up_off ha) ?_
  have e : (pm_setJ w o i v).2 o = vp_updL (w.2 o) i v := by
    show pm_up w.2 o i v o = _
    rw [pm_up_on]
    rfl
  show _ = (ad o, Sum.inl (ca t, pm_arr (pm_setJ w o i v) o n .long))
  rw [show pm_arr (pm_setJ w o i v) o n .long = (n, .inr (.inl ((pm_setJ w o i v).2 o))) from rfl, e]
def pm_inj (sh : List pm_E) (ad : Nat → Nat) : Prop := ∀ i j, i < sh.length → j < sh.length → ad i = ad j → i = j
def pm_A (sh : List pm_E) (ad : Nat → Nat) (sz : Nat) : Nat → Prop := fun q => (∃ o, o < sh.length ∧ q = ad o) ∨ sz ≤ q
theorem pm_D {sh : List pm_E} {ca : Nat → ClassId} {ad : Nat → Nat} {w : pm_W} {sz : Nat} (h : pm_inj sh ad) : va_D (pm_A sh ad sz) (pm_cells sh ca ad w) := by
  have key : ∀ (k : Nat) (q : Nat × va_E), (pm_cells sh ca ad w)[k]? = some q → k < sh.length ∧ q.1 = ad k := by
    intro k q hk
    have hl : k < sh.length := by rw [← pm_len (ca := ca) (ad := ad) (w := w)]; exact (List.getElem?_eq_some_iff.mp hk).1
    obtain ⟨x, hx⟩ : ∃ x, sh[k]? = some x := ⟨_, List.getElem?_eq_getElem hl⟩
    rw [pm_get hx] at hk
    cases hk
    exact ⟨hl, rfl⟩
  refine ⟨fun i j p q hi hj e => ?_, fun k q hk => ?_⟩
  · obtain ⟨l1, e1⟩ := key i p hi
    obtain ⟨l2, e2⟩ := key j q hj
    exact h i j l1 l2 (by rw [← e1, ← e2, e])
  · obtain ⟨l1, e1⟩ := key k q hk
    exact Or.inl ⟨k, l1, e1⟩
theorem pm_A_in {sh : List pm_E} {ca : Nat → ClassId} {ad : Nat → Nat} {w : pm_W} {sz q : Nat} : pm_A sh ad sz q ↔ va_A (pm_cells sh ca ad w) sz q := by
  constructor
  · rintro (⟨o, ho, rfl⟩ | h)
    · obtain ⟨x, hx⟩ : ∃ x, sh[o]? = some x := ⟨_, List.getElem?_eq_getElem ho⟩
      exact Or.inl ⟨o, _, pm_get hx⟩
    · exact Or.inr h
  · rintro (⟨k, e, hk⟩ | h)
    · have hl : k < sh.length := by rw [← pm_len (ca := ca) (ad := ad) (w := w)]; exact (List.getElem?_eq_some_iff.mp hk).1
      obtain ⟨x, hx⟩ : ∃ x, sh[k]? = some x := ⟨_, List.getElem?_eq_getElem hl⟩
      rw [pm_get hx] at hk
      exact Or.inl ⟨k, hl, (congrArg Prod.fst (Option.some.inj hk)).symm⟩
    · exact Or.inr h
theorem pm_A_mono {sh : List pm_E} {ad : Nat → Nat} {a b : Nat} (h : a ≤ b) (q : Nat) (hq : pm_A sh ad b q) : pm_A sh ad a q := by
  rcases hq with h1 | h1
  · exact Or.inl h1
  · exact Or.inr (Nat.le_trans h h1)
-- the tables' words
def pm_good (w : Cond) : Bool := match w with
  | .fieldLinkNest .. => true
  | .methodLinkNest .. => true
  | w => w.onTables && w.keeps
theorem pm_good_on {w : Cond} (h : pm_good w = true) : w.onTables = true := by
  cases w <;> first | rfl | (simp only [pm_good, Bool.and_eq_true] at h; exact h.1)
def pm_T (Ts : List Cond) (U : State) : Prop := ∀ w ∈ Ts, w.before #[] U = true
def pm_Tg (Ts : List Cond) : Prop := ∀ w ∈ Ts, pm_good w = true
theorem pm_T_warm {Ts : List Cond} {s U : State} (hg : pm_Tg Ts) (hW : s.WarmedH U.vm) (h : pm_T Ts s) : pm_T Ts U := by
  intro w hw
  have h1 := hg w hw
  have h2 := h w hw
  cases w
  case fieldLinkNest => exact va_Nw.warmF hW h2
  case methodLinkNest => exact va_Nw.warmM hW h2
  all_goals exact word_at hW (Or.inl h1) h2
theorem pm_T_same {Ts : List Cond} {s U : State} (hg : pm_Tg Ts) (e : s.vm = U.vm) (h : pm_T Ts s) : pm_T Ts U := fun w hw => va_tabs (pm_good_on (hg w hw)) e (h w hw)
theorem pm_T_use {Ts : List Cond} {s : State} (hg : pm_Tg Ts) (h : pm_T Ts s) (args : Array Value) : ∀ w ∈ Ts, w.before args s = true := fun w hw => va_tabs (pm_good_on (hg w hw)) rfl (h w hw)
end
section
/-! what the functions of the methods are made of -/
def pm_it {α : Type} (base : α) (step : α → α) : Nat → α
  | 0 => base
  | n + 1 => step (pm_it base step n)
def pm_fuel : Nat := 100000
theorem pm_bind {α β : Type} {x : Option α} {f : α → Option β} {b : β} (h : x.bind f = some b) : ∃ a, x = some a ∧ f a = some b := by
  cases x with
  | none => cases h
  | some a => exact ⟨a, rfl, h⟩
theorem pm_ift {β : Type} {c : Prop} {i : Decidable c} {a b : Option β} {o : Option β} (h : c) (e : (@ite _ c i a b) = o) : a = o := by
  rw [if_pos h] at e
  exact e
theorem pm_iff {β : Type} {c : Prop} {i : Decidable c} {a b : Option β} {o : Option β} (h : ¬ c) (e : (@ite _ c i a b) = o) : b = o := by
  rw [if_neg h] at e
  exact e
theorem pm_bnd {β : Type} {c : Prop} {i : Decidable c} {b : Option β} {o : β} (e : (@ite _ c i none b) = some o) : ¬ c ∧ b = some o := by
  by_cases h : c
  · rw [if_pos h] at e
    cases e
  · rw [if_neg h] at e
    exact ⟨h, e⟩
theorem pm_chk {β : Type} {c : Prop} {i : Decidable c} {b : Option β} {o : β} (e : (@ite _ c i b none) = some o) : c ∧ b = some o := by
  by_cases h : c
  · rw [if_pos h] at e
    exact ⟨h, e⟩
  · rw [if_neg h] at e
    cases e
theorem pm_zn {v : Int32} (h : v = 0 ∨ v = 1) : narrow .boolean (.int v) = .int v := by
  rcases h with rfl | rfl <;> rfl
theorem pm_zf {v : Int32} (h : v = 0 ∨ v = 1) : fits .boolean (.int v) = true := by
  rcases h with rfl | rfl <;> rfl
/-! THE WALK over a world of a fixed shape -/
def pm_Q (D : va_G) (cl : List vw_C) (sh : List pm_E) (ca : Nat → ClassId) (ad : Nat → Nat) (fin : Option Value × pm_W) (sz : Nat) : Array Value → State → Outcome → State → Prop := fun _ st oc t =>
  oc = .returned fin.1 ∧ va_P D cl (pm_cells sh ca ad fin.2) t.heap ∧ va_F (pm_A sh ad sz) st t
/-- the machine comes, from pc with these locals, this stack and this world, to the method's end with the answer and the world 'fin' -/
def pm_wk (p : Program) (l : Launch) (e : Env) (R : Room) (s : State) (m : MethodId) (args : Array Value) (below : List Frame) (meth : Method) (c : Code) (D : va_G) (cl : List vw_C) (sh : List pm_E) (ca : Nat → ClassId) (ad : Nat → Nat) (nL : Nat) (fin : Option Value × pm_W) (pc : Nat) (lv : List (Nat × Value)) (st : List Value) (w : pm_W) : Prop :=
  ∀ (H : Heap) (locs : List Loc) (ls : Array Slot), lv_has ls nL lv → va_P D cl (pm_cells sh ca ad w) H → va_S (pm_A sh ad s.heap.size) s.heap H locs →
    W p l e R s m args below meth c H locs 0 0 (MQ below (pm_Q D cl sh ca ad fin s.heap.size) args s 0 0 (pm_A sh ad s.heap.size)) (F0 m pc ls st)
/-- what else holds of the heap, outside of the world, and stays -/
def pm_Ecl (E : (Nat → Prop) → State → Heap → Prop) : Prop := ∀ (A B : Nat → Prop) (s U : State) (H : Heap), E A s s.heap → (∀ q, q < s.heap.size → ¬ A q → H[q]? = s.heap[q]?) → (∀ q, B q → A q) → s.vm.Alike U.vm → s.WarmedH U.vm → U.heap = H → E B U U.heap
def pm_Met (l : Launch) (Ts : List Cond) (D : va_G) (cl : List vw_C) (tys : List (ClassId × FieldType)) (sh : List pm_E) (ca : Nat → ClassId) (ad : Nat → Nat) (E : (Nat → Prop) → State → Heap → Prop) (y : MethodName) (cc : ByteArray) (maxL : Nat) (ret : Option FieldType) (rm : Room) (avs : List Value) (w : pm_W) (fin : Option Value × pm_W) : Prop :=
  ∀ sz : Nat, Met l y [Cond.code y cc maxL ret] rm (va_Pc avs (fun U => U.heap.size = sz ∧ pm_T Ts U ∧ va_K D cl tys U ∧ pm_inj sh ad ∧ va_P D cl (pm_cells sh ca ad w) U.heap ∧ E (pm_A sh ad sz) U U.heap)) (pm_Q D cl sh ca ad fin sz) 0 0 (pm_A sh ad sz)
def pm_ok (p : Program) (s : State) (m : MethodId) (args : Array Value) (meth : Method) (c : Code) (cc : ByteArray) (nL : Nat) (Ts : List Cond) (own : String) (D : va_G) (cl : List vw_C) (tys : List (ClassId × FieldType)) (sh : List pm_E) (ad : Nat → Nat) (E : (Nat → Prop) → State → Heap → Prop) (ret : Option FieldType) : Prop :=
  p.tables.exec = Jvm.exec ∧ c.code = cc ∧ c.maxLocals = nL ∧ s.vm.findClass own = some m.cls ∧ (∀ w ∈ Ts, w.before args s = true) ∧ pm_T Ts s ∧ pm_Tg Ts ∧ va_K D cl tys s ∧ pm_inj sh ad ∧ meth.locks = false ∧ meth.sig.returnType = ret ∧ E (pm_A sh ad s.heap.size) s s.heap ∧ pm_Ecl E
/-- a class's place and words -/
def pm_cls (Ts : List Cond) (cl : List vw_C) (ci : Nat) (C : String) (T : u_T) (N : Nat) (ty : Nat → FieldType) : Prop :=
  cl[ci]? = some (C, T, N) ∧ (∀ w ∈ u_ws C T N, w ∈ Ts) ∧ (∀ k, k < N → parseFieldDescriptor (T k).2.2.1 = some (ty k)) ∧ ∀ a, a < N → ∀ b, b < N → a ≠ b → (T a).2.1 ≠ (T b).2.1
section PMW
variable {p : Program} {l : Launch} {e : Env} {R : Room} {s : State} {m : MethodId} {args : Array Value} {below : List Frame} {meth : Method} {c : Code} {cc : ByteArray} {nL : Nat} {Ts : List Cond} {own : String}
variable {D : va_G} {cl : List vw_C} {tys : List (ClassId × FieldType)} {sh : List pm_E} {ca : Nat → ClassId} {ad : Nat → Nat} {E : (Nat → Prop) → State → Heap → Prop} {ret : Option FieldType} {fin : Option Value × pm_W} {pc : Nat} {lv : List (Nat × Value)} {st : List Value} {w : pm_W}
theorem pm_start {y : MethodName} {rm : Room} {avs : List Value} (hg : pm_Tg Ts) (hEc : pm_Ecl E) (hy : plainName y.cls = true) (hL : (lg_sl avs).length ≤ nL)
    (body : ∀ (p : Program) (e : Env) (s : State) (m : MethodId) (below : List Frame) (meth : Method) (c : Code), pm_ok p s m avs.toArray meth c cc nL Ts y.cls D cl tys sh ad E ret → pm_wk p l e rm s m avs.toArray below meth c D cl sh ca ad nL fin 0 (lv_args 0 avs) [] w) : pm_Met l Ts D cl tys sh ca ad E y cc nL ret rm avs w fin := by
  intro sz
  refine Met.ofW (cc := cc) (maxL := nL) (ret := ret) hy rfl ?_
  intro p e s m args below meth c s₁ B hml hv
  obtain ⟨rfl, hsz, hT, hK, hJ, hP, hE⟩ := hv
  subst hsz
  have h := body p e s m below meth c ⟨B.exec, B.bytes, hml, findClass_of_methodNamed B.named, pm_T_use hg hT _, hT, hg, hK, hJ, B.notSynchronized, B.returns, hE, hEc⟩ s.heap [] _ (lv_entry avs hL) hP va_S.rf
  rw [lg_entry_eq]
  exact h
theorem pm_sub (ks : List Nat) {lv' : List (Nat × Value)} (h : lv_pick lv ks = lv') (k : pm_wk p l e R s m args below meth c D cl sh ca ad nL fin pc lv' st w) : pm_wk p l e R s m args below meth c D cl sh ca ad nL fin pc lv st w := fun H locs ls hl hP hS => k H locs ls (lv_sub hl ks h) hP hS
theorem pm_iconst (K : pm_ok p s m args meth c cc nL Ts own D cl tys sh ad E ret) {n : Int} {v : Int32} (hd : decode cc pc = .ok (.iconst n, 1)) (hv : Int32.ofInt n = v)
    (k : pm_wk p l e R s m args below meth c D cl sh ca ad nL fin (pc + 1) lv (.int v :: st) w) : pm_wk p l e R s m args below meth c D cl sh ca ad nL fin pc lv st w := fun H locs ls hl hP hS => lv_iconst K.1 K.2.1 hd hv (k H locs ls hl hP hS)
theorem pm_bipush (K : pm_ok p s m args meth c cc nL Ts own D cl tys sh ad E ret) {n : Int} {v : Int32} (hd : decode cc pc = .ok (.bipush n, 2)) (hv : (Int8.ofInt n).toInt32 = v)
    (k : pm_wk p l e R s m args below meth c D cl sh ca ad nL fin (pc + 2) lv (.int v :: st) w) : pm_wk p l e R s m args below meth c D cl sh ca ad nL fin pc lv st w := fun H locs ls hl hP hS => lv_bipush K.1 K.2.1 hd hv (k H locs ls hl hP hS)
theorem pm_sipush (K : pm_ok p s m args meth c cc nL Ts own D cl tys sh ad E ret) {n : Int} {v : Int32} (hd : decode cc pc = .ok (.sipush n, 3)) (hv : (Int16.ofInt n).toInt32 = v)
    (k : pm_wk p l e R s m args below meth c D cl sh ca ad nL fin (pc + 3) lv (.int v :: st) w) : pm_wk p l e R s m args below meth c D cl sh ca ad nL fin pc lv st w := fun H locs ls hl hP hS => lv_sipush K.1 K.2.1 hd hv (k H locs ls hl hP hS)
theorem pm_lconst (K : pm_ok p s m args meth c cc nL Ts own D cl tys sh ad E ret) {n : Fin 2} {v : Int64} (hd : decode cc pc = .ok (.lconst n, 1)) (hv : Int64.ofNat (n : Nat) = v)
    (k : pm_wk p l e R s m args below meth c D cl sh ca ad nL fin (pc + 1) lv (.long v :: st) w) : pm_wk p l e R s m args below meth c D cl sh ca ad nL fin pc lv st w := fun H locs ls hl hP hS => lv_lconst K.1 K.2.1 hd hv (k H locs ls hl hP hS)
theorem pm_iload_n (K : pm_ok p s m args meth c cc nL Ts own D cl tys sh ad E ret) {n : Fin 4} {i : Nat} {x : Int32} (hd : decode cc pc = .ok (.iload_n n, 1)) (j : Nat) (hi : (n : Nat) = i) (hj : lv[j]? = some (i, .int x))
    (k : pm_wk p l e R s m args below meth c D cl sh ca ad nL fin (pc + 1) lv (.int x :: st) w) : pm_wk p l e R s m args below meth c D cl sh ca ad nL fin pc lv st w := fun H locs ls hl hP hS => lv_iload_n K.1 K.2.1 hd hi (lv_at hl j hj) (k H locs ls hl hP hS)
theorem pm_iload (K : pm_ok p s m args meth c cc nL Ts own D cl tys sh ad E ret) {i : Nat} {x : Int32} (hd : decode cc pc = .ok (.iload i, 2)) (j : Nat) (hj : lv[j]? = some (i, .int x))
    (k : pm_wk p l e R s m args below meth c D cl sh ca ad nL fin (pc + 2) lv (.int x :: st) w) : pm_wk p l e R s m args below meth c D cl sh ca ad nL fin pc lv st w := fun H locs ls hl hP hS => lv_iload K.1 K.2.1 hd (lv_at hl j hj) (k H locs ls hl hP hS)
theorem pm_lload_n (K : pm_ok p s m args meth c cc nL Ts own D cl tys sh ad E ret) {n : Fin 4} {i : Nat} {x : Int64} (hd : decode cc pc = .ok (.lload_n n, 1)) (j : Nat) (hi : (n : Nat) = i) (hj : lv[j]? = some (i, .long x))
    (k : pm_wk p l e R s m args below meth c D cl sh ca ad nL fin (pc + 1) lv (.long x :: st) w) : pm_wk p l e R s m args below meth c D cl sh ca ad nL fin pc lv st w := fun H locs ls hl hP hS => lv_lload_n K.1 K.2.1 hd hi (lv_at hl j hj) (k H locs ls hl hP hS)
theorem pm_lload (K : pm_ok p s m args meth c cc nL Ts own D cl tys sh ad E ret) {i : Nat} {x : Int64} (hd : decode cc pc = .ok (.lload i, 2)) (j : Nat) (hj : lv[j]? = some (i, .long x))
    (k : pm_wk p l e R s m args below meth c D cl sh ca ad nL fin (pc + 2) lv (.long x :: st) w) : pm_wk p l e R s m args below meth c D cl sh ca ad nL fin pc lv st w := fun H locs ls hl hP hS => lv_lload K.1 K.2.1 hd (lv_at hl j hj) (k H locs ls hl hP hS)
theorem pm_aload_n (K : pm_ok p s m args meth c cc nL Ts own D cl tys sh ad E ret) {n : Fin 4} {i x : Nat} (hd : decode cc pc = .ok (.aload_n n, 1)) (j : Nat) (hi : (n : Nat) = i) (hj : lv[j]? = some (i, .ref x))
    (k : pm_wk p l e R s m args below meth c D cl sh ca ad nL fin (pc + 1) lv (.ref x :: st) w) : pm_wk p l e R s m args below meth c D cl sh ca ad nL fin pc lv st w := fun H locs ls hl hP hS => lv_aload_n K.1 K.2.1 hd hi (lv_at hl j hj) (k H locs ls hl hP hS)
theorem pm_aload (K : pm_ok p s m args meth c cc nL Ts own D cl tys sh ad E ret) {i x : Nat} (hd : decode cc pc = .ok (.aload i, 2)) (j : Nat) (hj : lv[j]? = some (i, .ref x))
    (k : pm_wk p l e R s m args below meth c D cl sh ca ad nL fin (pc + 2) lv (.ref x :: st) w) : pm_wk p l e R s m args below meth c D cl sh ca ad nL fin pc lv st w := fun H locs ls hl hP hS => lv_aload K.1 K.2.1 hd (lv_at hl j hj) (k H locs ls hl hP hS)
theorem pm_istore_n (K : pm_ok p s m args meth c cc nL Ts own D cl tys sh ad E ret) {n : Fin 4} {i : Nat} {x : Int32} {lv' : List (Nat × Value)} (hd : decode cc pc = .ok (.istore_n n, 1)) (hi : (n : Nat) = i) (hn : i < nL) (hl' : (i, Value.int x) :: lv.filter (fun q => !(q.1 == i) && !(q.1 + 1 == i && q.2.category == 2)) = lv')
    (k : pm_wk p l e R s m args below meth c D cl sh ca ad nL fin (pc + 1) lv' st w) : pm_wk p l e R s m args below meth c D cl sh ca ad nL fin pc lv (.int x :: st) w := fun H locs ls hl hP hS => lv_istore_n K.1 K.2.1 hd hi hl hn hl' (fun ls' h' => k H locs ls' h' hP hS)
theorem pm_istore (K : pm_ok p s m args meth c cc nL Ts own D cl tys sh ad E ret) {i : Nat} {x : Int32} {lv' : List (Nat × Value)} (hd : decode cc pc = .ok (.istore i, 2)) (hn : i < nL) (hl' : (i, Value.int x) :: lv.filter (fun q => !(q.1 == i) && !(q.1 + 1 == i && q.2.category == 2)) = lv')
    (k : pm_wk p l e R s m args below meth c D cl sh ca ad nL fin (pc + 2) lv' st w) : pm_wk p l e R s m args below meth c D cl sh ca ad nL fin pc lv (.int x :: st) w := fun H locs ls hl hP hS => lv_istore K.1 K.2.1 hd hl hn hl' (fun ls' h' => k H locs ls' h' hP hS)
theorem pm_lstore_n (K : pm_ok p s m args meth c cc nL Ts own D cl tys sh ad E ret) {n : Fin 4} {i : Nat} {x : Int64} {lv' : List (Nat × Value)} (hd : decode cc pc = .ok (.lstore_n n, 1)) (hi : (n : Nat) = i) (hn : i + 1 < nL) (hl' : (i, Value.long x) :: lv.filter (fun q => !(q.1 == i) && (!(q.1 == i + 1) && !(q.1 + 1 == i && q.2.category == 2))) = lv')
    (k : pm_wk p l e R s m args below meth c D cl sh ca ad nL fin (pc + 1) lv' st w) : pm_wk p l e R s m args below meth c D cl sh ca ad nL fin pc lv (.long x :: st) w := fun H locs ls hl hP hS => lv_lstore_n K.1 K.2.1 hd hi hl hn hl' (fun ls' h' => k H locs ls' h' hP hS)
theorem pm_lstore (K : pm_ok p s m args meth c cc nL Ts own D cl tys sh ad E ret) {i : Nat} {x : Int64} {lv' : List (Nat × Value)} (hd : decode cc pc = .ok (.lstore i, 2)) (hn : i + 1 < nL) (hl' : (i, Value.long x) :: lv.filter (fun q => !(q.1 == i) && (!(q.1 == i + 1) && !(q.1 + 1 == i && q.2.category == 2))) = lv')
    (k : pm_wk p l e R s m args below meth c D cl sh ca ad nL fin (pc + 2) lv' st w) : pm_wk p l e R s m args below meth c D cl sh ca ad nL fin pc lv (.long x :: st) w := fun H locs ls hl hP hS => lv_lstore K.1 K.2.1 hd hl hn hl' (fun ls' h' => k H locs ls' h' hP hS)
theorem pm_astore_n (K : pm_ok p s m args meth c cc nL Ts own D cl tys sh ad E ret) {n : Fin 4} {i : Nat} {x : Nat} {lv' : List (Nat × Value)} (hd : decode cc pc = .ok (.astore_n n, 1)) (hi : (n : Nat) = i) (hn : i < nL) (hl' : (i, Value.ref x) :: lv.filter (fun q => !(q.1 == i) && !(q.1 + 1 == i && q.2.category == 2)) = lv')
    (k : pm_wk p l e R s m args below meth c D cl sh ca ad nL fin (pc + 1) lv' st w) : pm_wk p l e R s m args below meth c D cl sh ca ad nL fin pc lv (.ref x :: st) w := fun H locs ls hl hP hS => lv_astore_n K.1 K.2.1 hd hi hl hn hl' (fun ls' h' => k H locs ls' h' hP hS)
theorem pm_astore (K : pm_ok p s m args meth c cc nL Ts own D cl tys sh ad E ret) {i : Nat} {x : Nat} {lv' : List (Nat × Value)} (hd : decode cc pc = .ok (.astore i, 2)) (hn : i < nL) (hl' : (i, Value.ref x) :: lv.filter (fun q => !(q.1 == i) && !(q.1 + 1 == i && q.2.category == 2)) = lv')
    (k : pm_wk p l e R s m args below meth c D cl sh ca ad nL fin (pc + 2) lv' st w) : pm_wk p l e R s m args below meth c D cl sh ca ad nL fin pc lv (.ref x :: st) w := fun H locs ls hl hP hS => lv_astore K.1 K.2.1 hd hl hn hl' (fun ls' h' => k H locs ls' h' hP hS)
theorem pm_iinc (K : pm_ok p s m args meth c cc nL Ts own D cl tys sh ad E ret) {i : Nat} {n : Int} {x v : Int32} {lv' : List (Nat × Value)} (hd : decode cc pc = .ok (.iinc i n, 3)) (j : Nat) (hj : lv[j]? = some (i, .int x)) (hv : x + Int32.ofInt n = v) (hn : i < nL) (hl' : (i, Value.int v) :: lv.filter (fun q => !(q.1 == i) && !(q.1 + 1 == i && q.2.category == 2)) = lv')
    (k : pm_wk p l e R s m args below meth c D cl sh ca ad nL fin (pc + 3) lv' st w) : pm_wk p l e R s m args below meth c D cl sh ca ad nL fin pc lv st w := fun H locs ls hl hP hS => lv_iinc K.1 K.2.1 hd hl hj hv hn hl' (fun ls' h' => k H locs ls' h' hP hS)
theorem pm_iadd (K : pm_ok p s m args meth c cc nL Ts own D cl tys sh ad E ret) {x y : Int32} (hd : decode cc pc = .ok (.iadd, 1)) 
    (k : pm_wk p l e R s m args below meth c D cl sh ca ad nL fin (pc + 1) lv (.int (x + y) :: st) w) : pm_wk p l e R s m args below meth c D cl sh ca ad nL fin pc lv (.int y :: .int x :: st) w := fun H locs ls hl hP hS => lv_iadd K.1 K.2.1 hd  (k H locs ls hl hP hS)
theorem pm_isub (K : pm_ok p s m args meth c cc nL Ts own D cl tys sh ad E ret) {x y : Int32} (hd : decode cc pc = .ok (.isub, 1)) 
    (k : pm_wk p l e R s m args below meth c D cl sh ca ad nL fin (pc + 1) lv (.int (x - y) :: st) w) : pm_wk p l e R s m args below meth c D cl sh ca ad nL fin pc lv (.int y :: .int x :: st) w := fun H locs ls hl hP hS => lv_isub K.1 K.2.1 hd  (k H locs ls hl hP hS)
theorem pm_imul (K : pm_ok p s m args meth c cc nL Ts own D cl tys sh ad E ret) {x y : Int32} (hd : decode cc pc = .ok (.imul, 1)) 
    (k : pm_wk p l e R s m args below meth c D cl sh ca ad nL fin (pc + 1) lv (.int (x * y) :: st) w) : pm_wk p l e R s m args below meth c D cl sh ca ad nL fin pc lv (.int y :: .int x :: st) w := fun H locs ls hl hP hS => lv_imul K.1 K.2.1 hd  (k H locs ls hl hP hS)
theorem pm_iand (K : pm_ok p s m args meth c cc nL Ts own D cl tys sh ad E ret) {x y : Int32} (hd : decode cc pc = .ok (.iand, 1)) 
    (k : pm_wk p l e R s m args below meth c D cl sh ca ad nL fin (pc + 1) lv (.int (x &&& y) :: st) w) : pm_wk p l e R s m args below meth c D cl sh ca ad nL fin pc lv (.int y :: .int x :: st) w := fun H locs ls hl hP hS => lv_iand K.1 K.2.1 hd  (k H locs ls hl hP hS)
theorem pm_ior (K : pm_ok p s m args meth c cc nL Ts own D cl tys sh ad E ret) {x y : Int32} (hd : decode cc pc = .ok (.ior, 1)) 
    (k : pm_wk p l e R s m args below meth c D cl sh ca ad nL fin (pc + 1) lv (.int (x ||| y) :: st) w) : pm_wk p l e R s m args below meth c D cl sh ca ad nL fin pc lv (.int y :: .int x :: st) w := fun H locs ls hl hP hS => lv_ior K.1 K.2.1 hd  (k H locs ls hl hP hS)
theorem pm_ixor (K : pm_ok p s m args meth c cc nL Ts own D cl tys sh ad E ret) {x y : Int32} (hd : decode cc pc = .ok (.ixor, 1)) 
    (k : pm_wk p l e R s m args below meth c D cl sh ca ad nL fin (pc + 1) lv (.int (x ^^^ y) :: st) w) : pm_wk p l e R s m args below meth c D cl sh ca ad nL fin pc lv (.int y :: .int x :: st) w := fun H locs ls hl hP hS => lv_ixor K.1 K.2.1 hd  (k H locs ls hl hP hS)
theorem pm_ishl (K : pm_ok p s m args meth c cc nL Ts own D cl tys sh ad E ret) {x y : Int32} (hd : decode cc pc = .ok (.ishl, 1)) 
    (k : pm_wk p l e R s m args below meth c D cl sh ca ad nL fin (pc + 1) lv (.int (x <<< (y &&& 31)) :: st) w) : pm_wk p l e R s m args below meth c D cl sh ca ad nL fin pc lv (.int y :: .int x :: st) w := fun H locs ls hl hP hS => lv_ishl K.1 K.2.1 hd  (k H locs ls hl hP hS)
theorem pm_ishr (K : pm_ok p s m args meth c cc nL Ts own D cl tys sh ad E ret) {x y : Int32} (hd : decode cc pc = .ok (.ishr, 1)) 
    (k : pm_wk p l e R s m args below meth c D cl sh ca ad nL fin (pc + 1) lv (.int (x >>> (y &&& 31)) :: st) w) : pm_wk p l e R s m args below meth c D cl sh ca ad nL fin pc lv (.int y :: .int x :: st) w := fun H locs ls hl hP hS => lv_ishr K.1 K.2.1 hd  (k H locs ls hl hP hS)
theorem pm_idiv (K : pm_ok p s m args meth c cc nL Ts own D cl tys sh ad E ret) {x y : Int32} (hd : decode cc pc = .ok (.idiv, 1)) (hne : ¬ y = 0)
    (k : pm_wk p l e R s m args below meth c D cl sh ca ad nL fin (pc + 1) lv (.int (x / y) :: st) w) : pm_wk p l e R s m args below meth c D cl sh ca ad nL fin pc lv (.int y :: .int x :: st) w := fun H locs ls hl hP hS => lv_idiv K.1 K.2.1 hd hne (k H locs ls hl hP hS)
theorem pm_irem (K : pm_ok p s m args meth c cc nL Ts own D cl tys sh ad E ret) {x y : Int32} (hd : decode cc pc = .ok (.irem, 1)) (hne : ¬ y = 0)
    (k : pm_wk p l e R s m args below meth c D cl sh ca ad nL fin (pc + 1) lv (.int (x - x / y * y) :: st) w) : pm_wk p l e R s m args below meth c D cl sh ca ad nL fin pc lv (.int y :: .int x :: st) w := fun H locs ls hl hP hS => lv_irem K.1 K.2.1 hd hne (k H locs ls hl hP hS)
theorem pm_ineg (K : pm_ok p s m args meth c cc nL Ts own D cl tys sh ad E ret) {x : Int32} (hd : decode cc pc = .ok (.ineg, 1)) 
    (k : pm_wk p l e R s m args below meth c D cl sh ca ad nL fin (pc + 1) lv (.int (-x) :: st) w) : pm_wk p l e R s m args below meth c D cl sh ca ad nL fin pc lv (.int x :: st) w := fun H locs ls hl hP hS => lv_ineg K.1 K.2.1 hd  (k H locs ls hl hP hS)
theorem pm_ladd (K : pm_ok p s m args meth c cc nL Ts own D cl tys sh ad E ret) {x y : Int64} (hd : decode cc pc = .ok (.ladd, 1)) 
    (k : pm_wk p l e R s m args below meth c D cl sh ca ad nL fin (pc + 1) lv (.long (x + y) :: st) w) : pm_wk p l e R s m args below meth c D cl sh ca ad nL fin pc lv (.long y :: .long x :: st) w := fun H locs ls hl hP hS => lv_ladd K.1 K.2.1 hd  (k H locs ls hl hP hS)
theorem pm_lsub (K : pm_ok p s m args meth c cc nL Ts own D cl tys sh ad E ret) {x y : Int64} (hd : decode cc pc = .ok (.lsub, 1)) 
    (k : pm_wk p l e R s m args below meth c D cl sh ca ad nL fin (pc + 1) lv (.long (x - y) :: st) w) : pm_wk p l e R s m args below meth c D cl sh ca ad nL fin pc lv (.long y :: .long x :: st) w := fun H locs ls hl hP hS => lv_lsub K.1 K.2.1 hd  (k H locs ls hl hP hS)
theorem pm_lmul (K : pm_ok p s m args meth c cc nL Ts own D cl tys sh ad E ret) {x y : Int64} (hd : decode cc pc = .ok (.lmul, 1)) 
    (k : pm_wk p l e R s m args below meth c D cl sh ca ad nL fin (pc + 1) lv (.long (x * y) :: st) w) : pm_wk p l e R s m args below meth c D cl sh ca ad nL fin pc lv (.long y :: .long x :: st) w := fun H locs ls hl hP hS => lv_lmul K.1 K.2.1 hd  (k H locs ls hl hP hS)
theorem pm_land (K : pm_ok p s m args meth c cc nL Ts own D cl tys sh ad E ret) {x y : Int64} (hd : decode cc pc = .ok (.land, 1)) 
    (k : pm_wk p l e R s m args below meth c D cl sh ca ad nL fin (pc + 1) lv (.long (x &&& y) :: st) w) : pm_wk p l e R s m args below meth c D cl sh ca ad nL fin pc lv (.long y :: .long x :: st) w := fun H locs ls hl hP hS => lv_land K.1 K.2.1 hd  (k H locs ls hl hP hS)
theorem pm_lor (K : pm_ok p s m args meth c cc nL Ts own D cl tys sh ad E ret) {x y : Int64} (hd : decode cc pc = .ok (.lor, 1)) 
    (k : pm_wk p l e R s m args below meth c D cl sh ca ad nL fin (pc + 1) lv (.long (x ||| y) :: st) w) : pm_wk p l e R s m args below meth c D cl sh ca ad nL fin pc lv (.long y :: .long x :: st) w := fun H locs ls hl hP hS => lv_lor K.1 K.2.1 hd  (k H locs ls hl hP hS)
theorem pm_lxor (K : pm_ok p s m args meth c cc nL Ts own D cl tys sh ad E ret) {x y : Int64} (hd : decode cc pc = .ok (.lxor, 1)) 
    (k : pm_wk p l e R s m args below meth c D cl sh ca ad nL fin (pc + 1) lv (.long (x ^^^ y) :: st) w) : pm_wk p l e R s m args below meth c D cl sh ca ad nL fin pc lv (.long y :: .long x :: st) w := fun H locs ls hl hP hS => lv_lxor K.1 K.2.1 hd  (k H locs ls hl hP hS)
theorem pm_lshl (K : pm_ok p s m args meth c cc nL Ts own D cl tys sh ad E ret) {x v : Int64} {y : Int32} (hd : decode cc pc = .ok (.lshl, 1)) (hv : x <<< (y.toInt64 &&& 63) = v)
    (k : pm_wk p l e R s m args below meth c D cl sh ca ad nL fin (pc + 1) lv (.long v :: st) w) : pm_wk p l e R s m args below meth c D cl sh ca ad nL fin pc lv (.int y :: .long x :: st) w := fun H locs ls hl hP hS => lv_lshl K.1 K.2.1 hd hv (k H locs ls hl hP hS)
theorem pm_lshr (K : pm_ok p s m args meth c cc nL Ts own D cl tys sh ad E ret) {x v : Int64} {y : Int32} (hd : decode cc pc = .ok (.lshr, 1)) (hv : x >>> (y.toInt64 &&& 63) = v)
    (k : pm_wk p l e R s m args below meth c D cl sh ca ad nL fin (pc + 1) lv (.long v :: st) w) : pm_wk p l e R s m args below meth c D cl sh ca ad nL fin pc lv (.int y :: .long x :: st) w := fun H locs ls hl hP hS => lv_lshr K.1 K.2.1 hd hv (k H locs ls hl hP hS)
theorem pm_lushr (K : pm_ok p s m args meth c cc nL Ts own D cl tys sh ad E ret) {x v : Int64} {y : Int32} (hd : decode cc pc = .ok (.lushr, 1)) (hv : (x.toUInt64 >>> (y.toInt64.toUInt64 &&& Int64.toUInt64 63)).toInt64 = v)
    (k : pm_wk p l e R s m args below meth c D cl sh ca ad nL fin (pc + 1) lv (.long v :: st) w) : pm_wk p l e R s m args below meth c D cl sh ca ad nL fin pc lv (.int y :: .long x :: st) w := fun H locs ls hl hP hS => lv_lushr K.1 K.2.1 hd hv (k H locs ls hl hP hS)
theorem pm_iushr (K : pm_ok p s m args meth c cc nL Ts own D cl tys sh ad E ret) {x y v : Int32} (hd : decode cc pc = .ok (.iushr, 1)) (hv : (x.toUInt32 >>> (y.toUInt32 &&& Int32.toUInt32 31)).toInt32 = v)
    (k : pm_wk p l e R s m args below meth c D cl sh ca ad nL fin (pc + 1) lv (.int v :: st) w) : pm_wk p l e R s m args below meth c D cl sh ca ad nL fin pc lv (.int y :: .int x :: st) w := fun H locs ls hl hP hS => lv_iushr K.1 K.2.1 hd hv (k H locs ls hl hP hS)
theorem pm_i2l (K : pm_ok p s m args meth c cc nL Ts own D cl tys sh ad E ret) {x : Int32} {v : Int64} (hd : decode cc pc = .ok (.i2l, 1)) (hv : x.toInt64 = v)
    (k : pm_wk p l e R s m args below meth c D cl sh ca ad nL fin (pc + 1) lv (.long v :: st) w) : pm_wk p l e R s m args below meth c D cl sh ca ad nL fin pc lv (.int x :: st) w := fun H locs ls hl hP hS => lv_i2l K.1 K.2.1 hd hv (k H locs ls hl hP hS)
theorem pm_l2i (K : pm_ok p s m args meth c cc nL Ts own D cl tys sh ad E ret) {x : Int64} {v : Int32} (hd : decode cc pc = .ok (.l2i, 1)) (hv : x.toInt32 = v)
    (k : pm_wk p l e R s m args below meth c D cl sh ca ad nL fin (pc + 1) lv (.int v :: st) w) : pm_wk p l e R s m args below meth c D cl sh ca ad nL fin pc lv (.long x :: st) w := fun H locs ls hl hP hS => lv_l2i K.1 K.2.1 hd hv (k H locs ls hl hP hS)
theorem pm_i2c (K : pm_ok p s m args meth c cc nL Ts own D cl tys sh ad E ret) {x v : Int32} (hd : decode cc pc = .ok (.i2c, 1)) (hv : (x.toUInt32 % 65536).toInt32 = v)
    (k : pm_wk p l e R s m args below meth c D cl sh ca ad nL fin (pc + 1) lv (.int v :: st) w) : pm_wk p l e R s m args below meth c D cl sh ca ad nL fin pc lv (.int x :: st) w := fun H locs ls hl hP hS => lv_i2c K.1 K.2.1 hd hv (k H locs ls hl hP hS)
theorem pm_i2b (K : pm_ok p s m args meth c cc nL Ts own D cl tys sh ad E ret) {x v : Int32} (hd : decode cc pc = .ok (.i2b, 1)) (hv : x.toInt8.toInt32 = v)
    (k : pm_wk p l e R s m args below meth c D cl sh ca ad nL fin (pc + 1) lv (.int v :: st) w) : pm_wk p l e R s m args below meth c D cl sh ca ad nL fin pc lv (.int x :: st) w := fun H locs ls hl hP hS => lv_i2b K.1 K.2.1 hd hv (k H locs ls hl hP hS)
theorem pm_i2s (K : pm_ok p s m args meth c cc nL Ts own D cl tys sh ad E ret) {x v : Int32} (hd : decode cc pc = .ok (.i2s, 1)) (hv : x.toInt16.toInt32 = v)
    (k : pm_wk p l e R s m args below meth c D cl sh ca ad nL fin (pc + 1) lv (.int v :: st) w) : pm_wk p l e R s m args below meth c D cl sh ca ad nL fin pc lv (.int x :: st) w := fun H locs ls hl hP hS => lv_i2s K.1 K.2.1 hd hv (k H locs ls hl hP hS)
theorem pm_lcmp (K : pm_ok p s m args meth c cc nL Ts own D cl tys sh ad E ret) {x y : Int64} (hd : decode cc pc = .ok (.lcmp, 1)) 
    (k : pm_wk p l e R s m args below meth c D cl sh ca ad nL fin (pc + 1) lv (.int (lg_cmp x y) :: st) w) : pm_wk p l e R s m args below meth c D cl sh ca ad nL fin pc lv (.long y :: .long x :: st) w := fun H locs ls hl hP hS => W.lcmp K.1 K.2.1 hd  (k H locs ls hl hP hS)
theorem pm_dup (K : pm_ok p s m args meth c cc nL Ts own D cl tys sh ad E ret) {va : Value} (hd : decode cc pc = .ok (.dup, 1)) (ha : va.category = 1)
    (k : pm_wk p l e R s m args below meth c D cl sh ca ad nL fin (pc + 1) lv (va :: va :: st) w) : pm_wk p l e R s m args below meth c D cl sh ca ad nL fin pc lv (va :: st) w := fun H locs ls hl hP hS => lv_dup K.1 K.2.1 hd ha (k H locs ls hl hP hS)
theorem pm_pop (K : pm_ok p s m args meth c cc nL Ts own D cl tys sh ad E ret) {va : Value} (hd : decode cc pc = .ok (.pop, 1)) (ha : va.category = 1)
    (k : pm_wk p l e R s m args below meth c D cl sh ca ad nL fin (pc + 1) lv st w) : pm_wk p l e R s m args below meth c D cl sh ca ad nL fin pc lv (va :: st) w := fun H locs ls hl hP hS => lv_pop K.1 K.2.1 hd ha (k H locs ls hl hP hS)
theorem pm_dup_x1 (K : pm_ok p s m args meth c cc nL Ts own D cl tys sh ad E ret) {va vb : Value} (hd : decode cc pc = .ok (.dup_x1, 1)) (ha : va.category = 1) (hb : vb.category = 1)
    (k : pm_wk p l e R s m args below meth c D cl sh ca ad nL fin (pc + 1) lv (va :: vb :: va :: st) w) : pm_wk p l e R s m args below meth c D cl sh ca ad nL fin pc lv (va :: vb :: st) w := fun H locs ls hl hP hS => lv_dup_x1 K.1 K.2.1 hd ha hb (k H locs ls hl hP hS)
theorem pm_dup_x2 (K : pm_ok p s m args meth c cc nL Ts own D cl tys sh ad E ret) {va vb vd : Value} (hd : decode cc pc = .ok (.dup_x2, 1)) (ha : va.category = 1) (hb : vb.category = 1) (hc : vd.category = 1)
    (k : pm_wk p l e R s m args below meth c D cl sh ca ad nL fin (pc + 1) lv (va :: vb :: vd :: va :: st) w) : pm_wk p l e R s m args below meth c D cl sh ca ad nL fin pc lv (va :: vb :: vd :: st) w := fun H locs ls hl hP hS => lv_dup_x2 K.1 K.2.1 hd ha hb hc (k H locs ls hl hP hS)
theorem pm_dup2_11 (K : pm_ok p s m args meth c cc nL Ts own D cl tys sh ad E ret) {va vb : Value} (hd : decode cc pc = .ok (.dup2, 1)) (ha : va.category = 1) (hb : vb.category = 1)
    (k : pm_wk p l e R s m args below meth c D cl sh ca ad nL fin (pc + 1) lv (va :: vb :: va :: vb :: st) w) : pm_wk p l e R s m args below meth c D cl sh ca ad nL fin pc lv (va :: vb :: st) w := fun H locs ls hl hP hS => lv_dup2_11 K.1 K.2.1 hd ha hb (k H locs ls hl hP hS)
theorem pm_if_eq (K : pm_ok p s m args meth c cc nL Ts own D cl tys sh ad E ret) {x : Int32} {off : Int} (hd : decode cc pc = .ok (.ifCond .eq off, 3)) (tgt : Nat) (ht : (pc : Int) + off = (tgt : Int))
    (kt : x = 0 → pm_wk p l e R s m args below meth c D cl sh ca ad nL fin tgt lv st w) (kf : ¬ x = 0 → pm_wk p l e R s m args below meth c D cl sh ca ad nL fin (pc + 3) lv st w) : pm_wk p l e R s m args below meth c D cl sh ca ad nL fin pc lv (.int x :: st) w := fun H locs ls hl hP hS => lv_if_eq K.1 K.2.1 hd ht (fun q => kt q H locs ls hl hP hS) (fun q => kf q H locs ls hl hP hS)
theorem pm_icmp_eq (K : pm_ok p s m args meth c cc nL Ts own D cl tys sh ad E ret) {x y : Int32} {off : Int} (hd : decode cc pc = .ok (.if_icmp .eq off, 3)) (tgt : Nat) (ht : (pc : Int) + off = (tgt : Int))
    (kt : x = y → pm_wk p l e R s m args below meth c D cl sh ca ad nL fin tgt lv st w) (kf : ¬ x = y → pm_wk p l e R s m args below meth c D cl sh ca ad nL fin (pc + 3) lv st w) : pm_wk p l e R s m args below meth c D cl sh ca ad nL fin pc lv (.int y :: .int x :: st) w := fun H locs ls hl hP hS => lv_icmp_eq K.1 K.2.1 hd ht (fun q => kt q H locs ls hl hP hS) (fun q => kf q H locs ls hl hP hS)
theorem pm_if_ne (K : pm_ok p s m args meth c cc nL Ts own D cl tys sh ad E ret) {x : Int32} {off : Int} (hd : decode cc pc = .ok (.ifCond .ne off, 3)) (tgt : Nat) (ht : (pc : Int) + off = (tgt : Int))
    (kt : ¬ x = 0 → pm_wk p l e R s m args below meth c D cl sh ca ad nL fin tgt lv st w) (kf : x = 0 → pm_wk p l e R s m args below meth c D cl sh ca ad nL fin (pc + 3) lv st w) : pm_wk p l e R s m args below meth c D cl sh ca ad nL fin pc lv (.int x :: st) w := fun H locs ls hl hP hS => lv_if_ne K.1 K.2.1 hd ht (fun q => kt q H locs ls hl hP hS) (fun q => kf q H locs ls hl hP hS)
theorem pm_icmp_ne (K : pm_ok p s m args meth c cc nL Ts own D cl tys sh ad E ret) {x y : Int32} {off : Int} (hd : decode cc pc = .ok (.if_icmp .ne off, 3)) (tgt : Nat) (ht : (pc : Int) + off = (tgt : Int))
    (kt : ¬ x = y → pm_wk p l e R s m args below meth c D cl sh ca ad nL fin tgt lv st w) (kf : x = y → pm_wk p l e R s m args below meth c D cl sh ca ad nL fin (pc + 3) lv st w) : pm_wk p l e R s m args below meth c D cl sh ca ad nL fin pc lv (.int y :: .int x :: st) w := fun H locs ls hl hP hS => lv_icmp_ne K.1 K.2.1 hd ht (fun q => kt q H locs ls hl hP hS) (fun q => kf q H locs ls hl hP hS)
theorem pm_if_lt (K : pm_ok p s m args meth c cc nL Ts own D cl tys sh ad E ret) {x : Int32} {off : Int} (hd : decode cc pc = .ok (.ifCond .lt off, 3)) (tgt : Nat) (ht : (pc : Int) + off = (tgt : Int))
    (kt : x < 0 → pm_wk p l e R s m args below meth c D cl sh ca ad nL fin tgt lv st w) (kf : ¬ x < 0 → pm_wk p l e R s m args below meth c D cl sh ca ad nL fin (pc + 3) lv st w) : pm_wk p l e R s m args below meth c D cl sh ca ad nL fin pc lv (.int x :: st) w := fun H locs ls hl hP hS => lv_if_lt K.1 K.2.1 hd ht (fun q => kt q H locs ls hl hP hS) (fun q => kf q H locs ls hl hP hS)
theorem pm_icmp_lt (K : pm_ok p s m args meth c cc nL Ts own D cl tys sh ad E ret) {x y : Int32} {off : Int} (hd : decode cc pc = .ok (.if_icmp .lt off, 3)) (tgt : Nat) (ht : (pc : Int) + off = (tgt : Int))
    (kt : x < y → pm_wk p l e R s m args below meth c D cl sh ca ad nL fin tgt lv st w) (kf : ¬ x < y → pm_wk p l e R s m args below meth c D cl sh ca ad nL fin (pc + 3) lv st w) : pm_wk p l e R s m args below meth c D cl sh ca ad nL fin pc lv (.int y :: .int x :: st) w := fun H locs ls hl hP hS => lv_icmp_lt K.1 K.2.1 hd ht (fun q => kt q H locs ls hl hP hS) (fun q => kf q H locs ls hl hP hS)
theorem pm_if_ge (K : pm_ok p s m args meth c cc nL Ts own D cl tys sh ad E ret) {x : Int32} {off : Int} (hd : decode cc pc = .ok (.ifCond .ge off, 3)) (tgt : Nat) (ht : (pc : Int) + off = (tgt : Int))
    (kt : 0 ≤ x → pm_wk p l e R s m args below meth c D cl sh ca ad nL fin tgt lv st w) (kf : ¬ 0 ≤ x → pm_wk p l e R s m args below meth c D cl sh ca ad nL fin (pc + 3) lv st w) : pm_wk p l e R s m args below meth c D cl sh ca ad nL fin pc lv (.int x :: st) w := fun H locs ls hl hP hS => lv_if_ge K.1 K.2.1 hd ht (fun q => kt q H locs ls hl hP hS) (fun q => kf q H locs ls hl hP hS)
theorem pm_icmp_ge (K : pm_ok p s m args meth c cc nL Ts own D cl tys sh ad E ret) {x y : Int32} {off : Int} (hd : decode cc pc = .ok (.if_icmp .ge off, 3)) (tgt : Nat) (ht : (pc : Int) + off = (tgt : Int))
    (kt : y ≤ x → pm_wk p l e R s m args below meth c D cl sh ca ad nL fin tgt lv st w) (kf : ¬ y ≤ x → pm_wk p l e R s m args below meth c D cl sh ca ad nL fin (pc + 3) lv st w) : pm_wk p l e R s m args below meth c D cl sh ca ad nL fin pc lv (.int y :: .int x :: st) w := fun H locs ls hl hP hS => lv_icmp_ge K.1 K.2.1 hd ht (fun q => kt q H locs ls hl hP hS) (fun q => kf q H locs ls hl hP hS)
theorem pm_if_gt (K : pm_ok p s m args meth c cc nL Ts own D cl tys sh ad E ret) {x : Int32} {off : Int} (hd : decode cc pc = .ok (.ifCond .gt off, 3)) (tgt : Nat) (ht : (pc : Int) + off = (tgt : Int))
    (kt : 0 < x → pm_wk p l e R s m args below meth c D cl sh ca ad nL fin tgt lv st w) (kf : ¬ 0 < x → pm_wk p l e R s m args below meth c D cl sh ca ad nL fin (pc + 3) lv st w) : pm_wk p l e R s m args below meth c D cl sh ca ad nL fin pc lv (.int x :: st) w := fun H locs ls hl hP hS => lv_if_gt K.1 K.2.1 hd ht (fun q => kt q H locs ls hl hP hS) (fun q => kf q H locs ls hl hP hS)
theorem pm_icmp_gt (K : pm_ok p s m args meth c cc nL Ts own D cl tys sh ad E ret) {x y : Int32} {off : Int} (hd : decode cc pc = .ok (.if_icmp .gt off, 3)) (tgt : Nat) (ht : (pc : Int) + off = (tgt : Int))
    (kt : y < x → pm_wk p l e R s m args below meth c D cl sh ca ad nL fin tgt lv st w) (kf : ¬ y < x → pm_wk p l e R s m args below meth c D cl sh ca ad nL fin (pc + 3) lv st w) : pm_wk p l e R s m args below meth c D cl sh ca ad nL fin pc lv (.int y :: .int x :: st) w := fun H locs ls hl hP hS => lv_icmp_gt K.1 K.2.1 hd ht (fun q => kt q H locs ls hl hP hS) (fun q => kf q H locs ls hl hP hS)
theorem pm_if_le (K : pm_ok p s m args meth c cc nL Ts own D cl tys sh ad E ret) {x : Int32} {off : Int} (hd : decode cc pc = .ok (.ifCond .le off, 3)) (tgt : Nat) (ht : (pc : Int) + off = (tgt : Int))
    (kt : x ≤ 0 → pm_wk p l e R s m args below meth c D cl sh ca ad nL fin tgt lv st w) (kf : ¬ x ≤ 0 → pm_wk p l e R s m args below meth c D cl sh ca ad nL fin (pc + 3) lv st w) : pm_wk p l e R s m args below meth c D cl sh ca ad nL fin pc lv (.int x :: st) w := fun H locs ls hl hP hS => lv_if_le K.1 K.2.1 hd ht (fun q => kt q H locs ls hl hP hS) (fun q => kf q H locs ls hl hP hS)
theorem pm_icmp_le (K : pm_ok p s m args meth c cc nL Ts own D cl tys sh ad E ret) {x y : Int32} {off : Int} (hd : decode cc pc = .ok (.if_icmp .le off, 3)) (tgt : Nat) (ht : (pc : Int) + off = (tgt : Int))
    (kt : x ≤ y → pm_wk p l e R s m args below meth c D cl sh ca ad nL fin tgt lv st w) (kf : ¬ x ≤ y → pm_wk p l e R s m args below meth c D cl sh ca ad nL fin (pc + 3) lv st w) : pm_wk p l e R s m args below meth c D cl sh ca ad nL fin pc lv (.int y :: .int x :: st) w := fun H locs ls hl hP hS => lv_icmp_le K.1 K.2.1 hd ht (fun q => kt q H locs ls hl hP hS) (fun q => kf q H locs ls hl hP hS)
theorem pm_goto (K : pm_ok p s m args meth c cc nL Ts own D cl tys sh ad E ret) {off : Int} (hd : decode cc pc = .ok (.goto off, 3)) (tgt : Nat) (ht : (pc : Int) + off = (tgt : Int)) (k : pm_wk p l e R s m args below meth c D cl sh ca ad nL fin tgt lv st w) : pm_wk p l e R s m args below meth c D cl sh ca ad nL fin pc lv st w := fun H locs ls hl hP hS => lv_goto K.1 K.2.1 hd ht (k H locs ls hl hP hS)
theorem pm_tableOut (K : pm_ok p s m args meth c cc nL Ts own D cl tys sh ad E ret) {dflt lo hi : Int} {offs : Array Int} {len : Nat} {x : Int32} (hd : decode cc pc = .ok (.tableswitch dflt lo hi offs, len)) (h : x.toInt < lo ∨ hi < x.toInt) (tgt : Nat) (ht : (pc : Int) + dflt = (tgt : Int)) (k : pm_wk p l e R s m args below meth c D cl sh ca ad nL fin tgt lv st w) : pm_wk p l e R s m args below meth c D cl sh ca ad nL fin pc lv (.int x :: st) w := fun H locs ls hl hP hS => lv_tableOut K.1 K.2.1 hd h ht (k H locs ls hl hP hS)
theorem pm_tableIn (K : pm_ok p s m args meth c cc nL Ts own D cl tys sh ad E ret) {dflt lo hi : Int} {offs : Array Int} {len : Nat} {x : Int32} {off : Int} (hd : decode cc pc = .ok (.tableswitch dflt lo hi offs, len)) (h1 : ¬ x.toInt < lo) (h2 : ¬ hi < x.toInt) (ho : offs[(x.toInt - lo).toNat]? = some off) (tgt : Nat) (ht : (pc : Int) + off = (tgt : Int)) (k : pm_wk p l e R s m args below meth c D cl sh ca ad nL fin tgt lv st w) : pm_wk p l e R s m args below meth c D cl sh ca ad nL fin pc lv (.int x :: st) w := fun H locs ls hl hP hS => lv_tableIn K.1 K.2.1 hd h1 h2 ho ht (k H locs ls hl hP hS)
theorem pm_lookup (K : pm_ok p s m args meth c cc nL Ts own D cl tys sh ad E ret) {dflt : Int} {ps : Array (Int × Int)} {len : Nat} {x : Int32} {off : Int} (hd : decode cc pc = .ok (.lookupswitch dflt ps, len)) (hp : (ps.toList.zip (ps.toList.drop 1)).all (fun (a, next) => a.1 < next.1) = true) (ho : Op.lookupswitch.offset ps.toList dflt x.toInt = off) (tgt : Nat) (ht : (pc : Int) + off = (tgt : Int)) (k : pm_wk p l e R s m args below meth c D cl sh ca ad nL fin tgt lv st w) : pm_wk p l e R s m args below meth c D cl sh ca ad nL fin pc lv (.int x :: st) w := fun H locs ls hl hP hS => lv_lookup K.1 K.2.1 hd hp ho ht (k H locs ls hl hP hS)
theorem pm_ldc (K : pm_ok p s m args meth c cc nL Ts own D cl tys sh ad E ret) {ix : Nat} {v : Int32} (hw : Cond.constant own ix v ∈ Ts) (hd : decode cc pc = .ok (.ldc ix, 2)) (k : pm_wk p l e R s m args below meth c D cl sh ca ad nL fin (pc + 2) lv (.int v :: st) w) : pm_wk p l e R s m args below meth c D cl sh ca ad nL fin pc lv st w := fun H locs ls hl hP hS => lv_ldc K.1 K.2.1 K.2.2.2.1 (K.2.2.2.2.1 _ hw) hd (k H locs ls hl hP hS)
theorem pm_ldc2 (K : pm_ok p s m args meth c cc nL Ts own D cl tys sh ad E ret) {ix : Nat} {v : Int64} (hw : Cond.constantLong own ix v ∈ Ts) (hd : decode cc pc = .ok (.ldc2_w ix, 3)) (k : pm_wk p l e R s m args below meth c D cl sh ca ad nL fin (pc + 3) lv (.long v :: st) w) : pm_wk p l e R s m args below meth c D cl sh ca ad nL fin pc lv st w := fun H locs ls hl hP hS => lv_ldc2 K.1 K.2.1 K.2.2.2.1 (K.2.2.2.2.1 _ hw) hd (k H locs ls hl hP hS)
theorem pm_getI (K : pm_ok p s m args meth c cc nL Ts own D cl tys sh ad E ret) {C : String} {T : u_T} {N : Nat} {ty0 : Nat → FieldType} {ci o ix : Nat} {fk : List pm_F} (F : pm_cls Ts cl ci C T N ty0) {v : Int32} (hs : sh[o]? = some (.inr (ci, fk))) (k : Nat) (hf : fk[k]? = some (.inr false)) (hk : k < N) (hw : Cond.fieldLink own ix (T k).1 (T k).2.1 (T k).2.2.1 ∈ Ts) (hd : decode cc pc = .ok (.getfield ix, 3)) (hv : w.1 o k = v)
    (kk : pm_wk p l e R s m args below meth c D cl sh ca ad nL fin (pc + 3) lv (.int v :: st) w) : pm_wk p l e R s m args below meth c D cl sh ca ad nL fin pc lv (.ref (ad o) :: st) w := fun H locs ls hl hP hS =>
  va_get (D := D) (tys := tys) (ws := pm_cells sh ca ad w) (fs := fk.mapIdx (fun k f => pm_val ad w o k f)) K.1 K.2.1 K.2.2.2.2.1 F.2.1 K.2.2.2.1 K.2.2.2.2.2.2.2.1 hP o (pm_get hs) F.1 k hk (K.2.2.2.2.1 _ hw) (fun _ h => h) (by rw [List.getElem?_mapIdx, hf]; exact congrArg some (congrArg Value.int hv)) hd (kk H locs ls hl hP hS)
theorem pm_getJ (K : pm_ok p s m args meth c cc nL Ts own D cl tys sh ad E ret) {C : String} {T : u_T} {N : Nat} {ty0 : Nat → FieldType} {ci o ix : Nat} {fk : List pm_F} (F : pm_cls Ts cl ci C T N ty0) {v : Int64} (hs : sh[o]? = some (.inr (ci, fk))) (k : Nat) (hf : fk[k]? = some (.inr true)) (hk : k < N) (hw : Cond.fieldLink own ix (T k).1 (T k).2.1 (T k).2.2.1 ∈ Ts) (hd : decode cc pc = .ok (.getfield ix, 3)) (hv : w.2 o k = v)
    (kk : pm_wk p l e R s m args below meth c D cl sh ca ad nL fin (pc + 3) lv (.long v :: st) w) : pm_wk p l e R s m args below meth c D cl sh ca ad nL fin pc lv (.ref (ad o) :: st) w := fun H locs ls hl hP hS =>
  va_get (D := D) (tys := tys) (ws := pm_cells sh ca ad w) (fs := fk.mapIdx (fun k f => pm_val ad w o k f)) K.1 K.2.1 K.2.2.2.2.1 F.2.1 K.2.2.2.1 K.2.2.2.2.2.2.2.1 hP o (pm_get hs) F.1 k hk (K.2.2.2.2.1 _ hw) (fun _ h => h) (by rw [List.getElem?_mapIdx, hf]; exact congrArg some (congrArg Value.long hv)) hd (kk H locs ls hl hP hS)
theorem pm_getR (K : pm_ok p s m args meth c cc nL Ts own D cl tys sh ad E ret) {C : String} {T : u_T} {N : Nat} {ty0 : Nat → FieldType} {ci o ix : Nat} {fk : List pm_F} (F : pm_cls Ts cl ci C T N ty0) {t : Nat} (hs : sh[o]? = some (.inr (ci, fk))) (k : Nat) (hf : fk[k]? = some (.inl t)) (hk : k < N) (hw : Cond.fieldLink own ix (T k).1 (T k).2.1 (T k).2.2.1 ∈ Ts) (hd : decode cc pc = .ok (.getfield ix, 3))
    (kk : pm_wk p l e R s m args below meth c D cl sh ca ad nL fin (pc + 3) lv (.ref (ad t) :: st) w) : pm_wk p l e R s m args below meth c D cl sh ca ad nL fin pc lv (.ref (ad o) :: st) w := fun H locs ls hl hP hS =>
  va_get (D := D) (tys := tys) (ws := pm_cells sh ca ad w) (fs := fk.mapIdx (fun k f => pm_val ad w o k f)) K.1 K.2.1 K.2.2.2.2.1 F.2.1 K.2.2.2.1 K.2.2.2.2.2.2.2.1 hP o (pm_get hs) F.1 k hk (K.2.2.2.2.1 _ hw) (fun _ h => h) (by rw [List.getElem?_mapIdx, hf]; rfl) hd (kk H locs ls hl hP hS)
theorem pm_putI (K : pm_ok p s m args meth c cc nL Ts own D cl tys sh ad E ret) {C : String} {T : u_T} {N : Nat} {ty0 : Nat → FieldType} {ci o ix : Nat} {fk : List pm_F} (F : pm_cls Ts cl ci C T N ty0) {ty : FieldType} {v : Int32} (hs : sh[o]? = some (.inr (ci, fk))) (k : Nat) (hf : fk[k]? = some (.inr false)) (hk : k < N) (hw : Cond.fieldLink own ix (T k).1 (T k).2.1 (T k).2.2.1 ∈ Ts) (hfin : (T k).2.2.2 = false) (hty : parseFieldDescriptor (T k).2.2.1 = some ty) (hn : narrow ty (.int v) = .int v) (hfit : fits ty (.int v) = true) (hd : decode cc pc = .ok (.putfield ix, 3))
    (kk : pm_wk p l e R s m args below meth c D cl sh ca ad nL fin (pc + 3) lv st (pm_setI w o k v)) : pm_wk p l e R s m args below meth c D cl sh ca ad nL fin pc lv (.int v :: .ref (ad o) :: st) w := fun H locs ls hl hP hS =>
  va_put (D := D) (tys := tys) (ws := pm_cells sh ca ad w) (fs := fk.mapIdx (fun k f => pm_val ad w o k f)) K.1 K.2.1 K.2.2.2.2.1 F.2.1 ty0 F.2.2.1 F.2.2.2 K.2.2.2.1 K.2.2.2.2.2.2.2.1 hP (pm_D K.2.2.2.2.2.2.2.2.1) hS o (pm_get hs) F.1 k hk (K.2.2.2.2.1 _ hw) (fun _ h => h) hfin hty hn hfit (by rw [List.length_mapIdx]; exact (List.getElem?_eq_some_iff.mp hf).1) hd
    (fun H1 locs1 hP1 _ hS1 => kk H1 locs1 ls hl ((pm_setFI (ca := ca) (ad := ad) (w := w) (v := v) hs hf) ▸ hP1) hS1)
theorem pm_putJ (K : pm_ok p s m args meth c cc nL Ts own D cl tys sh ad E ret) {C : String} {T : u_T} {N : Nat} {ty0 : Nat → FieldType} {ci o ix : Nat} {fk : List pm_F} (F : pm_cls Ts cl ci C T N ty0) {ty : FieldType} {v : Int64} (hs : sh[o]? = some (.inr (ci, fk))) (k : Nat) (hf : fk[k]? = some (.inr true)) (hk : k < N) (hw : Cond.fieldLink own ix (T k).1 (T k).2.1 (T k).2.2.1 ∈ Ts) (hfin : (T k).2.2.2 = false) (hty : parseFieldDescriptor (T k).2.2.1 = some ty) (hn : narrow ty (.long v) = .long v) (hfit : fits ty (.long v) = true) (hd : decode cc pc = .ok (.putfield ix, 3))
    (kk : pm_wk p l e R s m args below meth c D cl sh ca ad nL fin (pc + 3) lv st (pm_setJ w o k v)) : pm_wk p l e R s m args below meth c D cl sh ca ad nL fin pc lv (.long v :: .ref (ad o) :: st) w := fun H locs ls hl hP hS =>
  va_put (D := D) (tys := tys) (ws := pm_cells sh ca ad w) (fs := fk.mapIdx (fun k f => pm_val ad w o k f)) K.1 K.2.1 K.2.2.2.2.1 F.2.1 ty0 F.2.2.1 F.2.2.2 K.2.2.2.1 K.2.2.2.2.2.2.2.1 hP (pm_D K.2.2.2.2.2.2.2.2.1) hS o (pm_get hs) F.1 k hk (K.2.2.2.2.1 _ hw) (fun _ h => h) hfin hty hn hfit (by rw [List.length_mapIdx]; exact (List.getElem?_eq_some_iff.mp hf).1) hd
    (fun H1 locs1 hP1 _ hS1 => kk H1 locs1 ls hl ((pm_setFJ (ca := ca) (ad := ad) (w := w) (v := v) hs hf) ▸ hP1) hS1)
theorem pm_getIN (K : pm_ok p s m args meth c cc nL Ts own D cl tys sh ad E ret) {C : String} {T : u_T} {N : Nat} {ty0 : Nat → FieldType} {ci o ix : Nat} {fk : List pm_F} {host : String} (F : pm_cls Ts cl ci C T N ty0) {v : Int32} (hs : sh[o]? = some (.inr (ci, fk))) (k : Nat) (hf : fk[k]? = some (.inr false)) (hk : k < N) (hw : Cond.fieldLinkNest own ix (T k).1 (T k).2.1 (T k).2.2.1 host ∈ Ts) (hd : decode cc pc = .ok (.getfield ix, 3)) (hv : w.1 o k = v)
    (kk : pm_wk p l e R s m args below meth c D cl sh ca ad nL fin (pc + 3) lv (.int v :: st) w) : pm_wk p l e R s m args below meth c D cl sh ca ad nL fin pc lv (.ref (ad o) :: st) w := fun H locs ls hl hP hS =>
  va_getN (D := D) (tys := tys) (ws := pm_cells sh ca ad w) (fs := fk.mapIdx (fun k f => pm_val ad w o k f)) K.1 K.2.1 K.2.2.2.2.1 F.2.1 K.2.2.2.1 K.2.2.2.2.2.2.2.1 hP o (pm_get hs) F.1 k hk (K.2.2.2.2.1 _ hw) (fun _ h => h) (by rw [List.getElem?_mapIdx, hf]; exact congrArg some (congrArg Value.int hv)) hd (kk H locs ls hl hP hS)
theorem pm_getJN (K : pm_ok p s m args meth c cc nL Ts own D cl tys sh ad E ret) {C : String} {T : u_T} {N : Nat} {ty0 : Nat → FieldType} {ci o ix : Nat} {fk : List pm_F} {host : String} (F : pm_cls Ts cl ci C T N ty0) {v : Int64} (hs : sh[o]? = some (.inr (ci, fk))) (k : Nat) (hf : fk[k]? = some (.inr true)) (hk : k < N) (hw : Cond.fieldLinkNest own ix (T k).1 (T k).2.1 (T k).2.2.1 host ∈ Ts) (hd : decode cc pc = .ok (.getfield ix, 3)) (hv : w.2 o k = v)
    (kk : pm_wk p l e R s m args below meth c D cl sh ca ad nL fin (pc + 3) lv (.long v :: st) w) : pm_wk p l e R s m args below meth c D cl sh ca ad nL fin pc lv (.ref (ad o) :: st) w := fun H locs ls hl hP hS =>
  va_getN (D := D) (tys := tys) (ws := pm_cells sh ca ad w) (fs := fk.mapIdx (fun k f => pm_val ad w o k f)) K.1 K.2.1 K.2.2.2.2.1 F.2.1 K.2.2.2.1 K.2.2.2.2.2.2.2.1 hP o (pm_get hs) F.1 k hk (K.2.2.2.2.1 _ hw) (fun _ h => h) (by rw [List.getElem?_mapIdx, hf]; exact congrArg some (congrArg Value.long hv)) hd (kk H locs ls hl hP hS)
theorem pm_getRN (K : pm_ok p s m args meth c cc nL Ts own D cl tys sh ad E ret) {C : String} {T : u_T} {N : Nat} {ty0 : Nat → FieldType} {ci o ix : Nat} {fk : List pm_F} {host : String} (F : pm_cls Ts cl ci C T N ty0) {t : Nat} (hs : sh[o]? = some (.inr (ci, fk))) (k : Nat) (hf : fk[k]? = some (.inl t)) (hk : k < N) (hw : Cond.fieldLinkNest own ix (T k).1 (T k).2.1 (T k).2.2.1 host ∈ Ts) (hd : decode cc pc = .ok (.getfield ix, 3))
    (kk : pm_wk p l e R s m args below meth c D cl sh ca ad nL fin (pc + 3) lv (.ref (ad t) :: st) w) : pm_wk p l e R s m args below meth c D cl sh ca ad nL fin pc lv (.ref (ad o) :: st) w := fun H locs ls hl hP hS =>
  va_getN (D := D) (tys := tys) (ws := pm_cells sh ca ad w) (fs := fk.mapIdx (fun k f => pm_val ad w o k f)) K.1 K.2.1 K.2.2.2.2.1 F.2.1 K.2.2.2.1 K.2.2.2.2.2.2.2.1 hP o (pm_get hs) F.1 k hk (K.2.2.2.2.1 _ hw) (fun _ h => h) (by rw [List.getElem?_mapIdx, hf]; rfl) hd (kk H locs ls hl hP hS)
theorem pm_putIN (K : pm_ok p s m args meth c cc nL Ts own D cl tys sh ad E ret) {C : String} {T : u_T} {N : Nat} {ty0 : Nat → FieldType} {ci o ix : Nat} {fk : List pm_F} {host : String} (F : pm_cls Ts cl ci C T N ty0) {ty : FieldType} {v : Int32} (hs : sh[o]? = some (.inr (ci, fk))) (k : Nat) (hf : fk[k]? = some (.inr false)) (hk : k < N) (hw : Cond.fieldLinkNest own ix (T k).1 (T k).2.1 (T k).2.2.1 host ∈ Ts) (hfin : (T k).2.2.2 = false) (hty : parseFieldDescriptor (T k).2.2.1 = some ty) (hn : narrow ty (.int v) = .int v) (hfit : fits ty (.int v) = true) (hd : decode cc pc = .ok (.putfield ix, 3))
    (kk : pm_wk p l e R s m args below meth c D cl sh ca ad nL fin (pc + 3) lv st (pm_setI w o k v)) : pm_wk p l e R s m args below meth c D cl sh ca ad nL fin pc lv (.int v :: .ref (ad o) :: st) w := fun H locs ls hl hP hS =>
  va_putN (D := D) (tys := tys) (ws := pm_cells sh ca ad w) (fs := fk.mapIdx (fun k f => pm_val ad w o k f)) K.1 K.2.1 K.2.2.2.2.1 F.2.1 ty0 F.2.2.1 F.2.2.2 K.2.2.2.1 K.2.2.2.2.2.2.2.1 hP (pm_D K.2.2.2.2.2.2.2.2.1) hS o (pm_get hs) F.1 k hk (K.2.2.2.2.1 _ hw) (fun _ h => h) hfin hty hn hfit (by rw [List.length_mapIdx]; exact (List.getElem?_eq_some_iff.mp hf).1) hd
    (fun H1 locs1 hP1 _ hS1 => kk H1 locs1 ls hl ((pm_setFI (ca := ca) (ad := ad) (w := w) (v := v) hs hf) ▸ hP1) hS1)
theorem pm_putJN (K : pm_ok p s m args meth c cc nL Ts own D cl tys sh ad E ret) {C : String} {T : u_T} {N : Nat} {ty0 : Nat → FieldType} {ci o ix : Nat} {fk : List pm_F} {host : String} (F : pm_cls Ts cl ci C T N ty0) {ty : FieldType} {v : Int64} (hs : sh[o]? = some (.inr (ci, fk))) (k : Nat) (hf : fk[k]? = some (.inr true)) (hk : k < N) (hw : Cond.fieldLinkNest own ix (T k).1 (T k).2.1 (T k).2.2.1 host ∈ Ts) (hfin : (T k).2.2.2 = false) (hty : parseFieldDescriptor (T k).2.2.1 = some ty) (hn : narrow ty (.long v) = .long v) (hfit : fits ty (.long v) = true) (hd : decode cc pc = .ok (.putfield ix, 3))
    (kk : pm_wk p l e R s m args below meth c D cl sh ca ad nL fin (pc + 3) lv st (pm_setJ w o k v)) : pm_wk p l e R s m args below meth c D cl sh ca ad nL fin pc lv (.long v :: .ref (ad o) :: st) w := fun H locs ls hl hP hS =>
  va_putN (D := D) (tys := tys) (ws := pm_cells sh ca ad w) (fs := fk.mapIdx (fun k f => pm_val ad w o k f)) K.1 K.2.1 K.2.2.2.2.1 F.2.1 ty0 F.2.2.1 F.2.2.2 K.2.2.2.1 K.2.2.2.2.2.2.2.1 hP (pm_D K.2.2.2.2.2.2.2.2.1) hS o (pm_get hs) F.1 k hk (K.2.2.2.2.1 _ hw) (fun _ h => h) hfin hty hn hfit (by rw [List.length_mapIdx]; exact (List.getElem?_eq_some_iff.mp hf).1) hd
    (fun H1 locs1 hP1 _ hS1 => kk H1 locs1 ls hl ((pm_setFJ (ca := ca) (ad := ad) (w := w) (v := v) hs hf) ▸ hP1) hS1)
theorem pm_iald (K : pm_ok p s m args meth c cc nL Ts own D cl tys sh ad E ret) {o t n : Nat} {i v : Int32} (hs : sh[o]? = some (.inl (t, .int, n))) (ht : tys[t]? = some (ca t, .int)) (hin : ¬ (i < 0 ∨ n ≤ i.toNatClampNeg)) (hd : decode cc pc = .ok (.iaload, 1)) (hv : w.1 o i.toNatClampNeg = v)
    (kk : pm_wk p l e R s m args below meth c D cl sh ca ad nL fin (pc + 1) lv (.int v :: st) w) : pm_wk p l e R s m args below meth c D cl sh ca ad nL fin pc lv (.int i :: .ref (ad o) :: st) w := fun H locs ls hl hP hS =>
  va_iald (n := n) (f := w.1 o) K.1 K.2.1 K.2.2.2.2.2.2.2.1 hP o t (pm_get hs) ht hin hd (by rw [hv]; exact kk H locs ls hl hP hS)
theorem pm_cald (K : pm_ok p s m args meth c cc nL Ts own D cl tys sh ad E ret) {o t n : Nat} {i v : Int32} (hs : sh[o]? = some (.inl (t, .char, n))) (ht : tys[t]? = some (ca t, .char)) (hin : ¬ (i < 0 ∨ n ≤ i.toNatClampNeg)) (hd : decode cc pc = .ok (.caload, 1)) (hv : w.1 o i.toNatClampNeg = v)
    (kk : pm_wk p l e R s m args below meth c D cl sh ca ad nL fin (pc + 1) lv (.int v :: st) w) : pm_wk p l e R s m args below meth c D cl sh ca ad nL fin pc lv (.int i :: .ref (ad o) :: st) w := fun H locs ls hl hP hS =>
  va_cald (n := n) (f := w.1 o) K.1 K.2.1 K.2.2.2.2.2.2.2.1 hP o t (pm_get hs) ht hin hd (by rw [hv]; exact kk H locs ls hl hP hS)
theorem pm_zald (K : pm_ok p s m args meth c cc nL Ts own D cl tys sh ad E ret) {o t n : Nat} {i v : Int32} (hs : sh[o]? = some (.inl (t, .boolean, n))) (ht : tys[t]? = some (ca t, .boolean)) (hin : ¬ (i < 0 ∨ n ≤ i.toNatClampNeg)) (hd : decode cc pc = .ok (.baload, 1)) (hv : w.1 o i.toNatClampNeg = v)
    (kk : pm_wk p l e R s m args below meth c D cl sh ca ad nL fin (pc + 1) lv (.int v :: st) w) : pm_wk p l e R s m args below meth c D cl sh ca ad nL fin pc lv (.int i :: .ref (ad o) :: st) w := fun H locs ls hl hP hS =>
  va_zald (n := n) (f := w.1 o) K.1 K.2.1 K.2.2.2.2.2.2.2.1 hP o t (pm_get hs) ht hin hd (by rw [hv]; exact kk H locs ls hl hP hS)
theorem pm_bald (K : pm_ok p s m args meth c cc nL Ts own D cl tys sh ad E ret) {o t n : Nat} {i v : Int32} (hs : sh[o]? = some (.inl (t, .byte, n))) (ht : tys[t]? = some (ca t, .byte)) (hin : ¬ (i < 0 ∨ n ≤ i.toNatClampNeg)) (hd : decode cc pc = .ok (.baload, 1)) (hv : w.1 o i.toNatClampNeg = v)
    (kk : pm_wk p l e R s m args below meth c D cl sh ca ad nL fin (pc + 1) lv (.int v :: st) w) : pm_wk p l e R s m args below meth c D cl sh ca ad nL fin pc lv (.int i :: .ref (ad o) :: st) w := fun H locs ls hl hP hS =>
  va_bald (n := n) (f := w.1 o) K.1 K.2.1 K.2.2.2.2.2.2.2.1 hP o t (pm_get hs) ht hin hd (by rw [hv]; exact kk H locs ls hl hP hS)
theorem pm_sald (K : pm_ok p s m args meth c cc nL Ts own D cl tys sh ad E ret) {o t n : Nat} {i v : Int32} (hs : sh[o]? = some (.inl (t, .short, n))) (ht : tys[t]? = some (ca t, .short)) (hin : ¬ (i < 0 ∨ n ≤ i.toNatClampNeg)) (hd : decode cc pc = .ok (.saload, 1)) (hv : w.1 o i.toNatClampNeg = v)
    (kk : pm_wk p l e R s m args below meth c D cl sh ca ad nL fin (pc + 1) lv (.int v :: st) w) : pm_wk p l e R s m args below meth c D cl sh ca ad nL fin pc lv (.int i :: .ref (ad o) :: st) w := fun H locs ls hl hP hS =>
  va_sald (n := n) (f := w.1 o) K.1 K.2.1 K.2.2.2.2.2.2.2.1 hP o t (pm_get hs) ht hin hd (by rw [hv]; exact kk H locs ls hl hP hS)
theorem pm_lald (K : pm_ok p s m args meth c cc nL Ts own D cl tys sh ad E ret) {o t n : Nat} {i : Int32} {v : Int64} (hs : sh[o]? = some (.inl (t, .long, n))) (ht : tys[t]? = some (ca t, .long)) (hin : ¬ (i < 0 ∨ n ≤ i.toNatClampNeg)) (hd : decode cc pc = .ok (.laload, 1)) (hv : w.2 o i.toNatClampNeg = v)
    (kk : pm_wk p l e R s m args below meth c D cl sh ca ad nL fin (pc + 1) lv (.long v :: st) w) : pm_wk p l e R s m args below meth c D cl sh ca ad nL fin pc lv (.int i :: .ref (ad o) :: st) w := fun H locs ls hl hP hS =>
  va_lald (n := n) (f := w.2 o) K.1 K.2.1 K.2.2.2.2.2.2.2.1 hP o t (pm_get hs) ht hin hd (by rw [hv]; exact kk H locs ls hl hP hS)
theorem pm_iast (K : pm_ok p s m args meth c cc nL Ts own D cl tys sh ad E ret) {o t n : Nat} {i x : Int32} (hs : sh[o]? = some (.inl (t, .int, n))) (ht : tys[t]? = some (ca t, .int)) (hin : ¬ (i < 0 ∨ n ≤ i.toNatClampNeg)) (hd : decode cc pc = .ok (.iastore, 1))
    (kk : pm_wk p l e R s m args below meth c D cl sh ca ad nL fin (pc + 1) lv st (pm_setI w o i.toNatClampNeg x)) : pm_wk p l e R s m args below meth c D cl sh ca ad nL fin pc lv (.int x :: .int i :: .ref (ad o) :: st) w := fun H locs ls hl hP hS =>
  va_iast (n := n) (f := w.1 o) K.1 K.2.1 K.2.2.2.2.2.2.2.1 hP (pm_D K.2.2.2.2.2.2.2.2.1) hS o t (pm_get hs) ht hin hd (fun H1 locs1 hP1 _ hS1 => kk H1 locs1 ls hl ((pm_setAI (ca := ca) (ad := ad) (w := w) (i := i.toNatClampNeg) (v := x) hs (fun h => by cases h)) ▸ hP1) hS1)
theorem pm_cast (K : pm_ok p s m args meth c cc nL Ts own D cl tys sh ad E ret) {o t n : Nat} {i x : Int32} (hs : sh[o]? = some (.inl (t, .char, n))) (ht : tys[t]? = some (ca t, .char)) (hin : ¬ (i < 0 ∨ n ≤ i.toNatClampNeg)) (hd : decode cc pc = .ok (.castore, 1))
    (kk : pm_wk p l e R s m args below meth c D cl sh ca ad nL fin (pc + 1) lv st (pm_setI w o i.toNatClampNeg (vp_nar .char x))) : pm_wk p l e R s m args below meth c D cl sh ca ad nL fin pc lv (.int x :: .int i :: .ref (ad o) :: st) w := fun H locs ls hl hP hS =>
  va_cast (n := n) (f := w.1 o) K.1 K.2.1 K.2.2.2.2.2.2.2.1 hP (pm_D K.2.2.2.2.2.2.2.2.1) hS o t (pm_get hs) ht hin hd (fun H1 locs1 hP1 _ hS1 => kk H1 locs1 ls hl ((pm_setAI (ca := ca) (ad := ad) (w := w) (i := i.toNatClampNeg) (v := (vp_nar .char x)) hs (fun h => by cases h)) ▸ hP1) hS1)
theorem pm_zast (K : pm_ok p s m args meth c cc nL Ts own D cl tys sh ad E ret) {o t n : Nat} {i x : Int32} (hs : sh[o]? = some (.inl (t, .boolean, n))) (ht : tys[t]? = some (ca t, .boolean)) (hin : ¬ (i < 0 ∨ n ≤ i.toNatClampNeg)) (hd : decode cc pc = .ok (.bastore, 1))
    (kk : pm_wk p l e R s m args below meth c D cl sh ca ad nL fin (pc + 1) lv st (pm_setI w o i.toNatClampNeg (vp_nar .boolean x))) : pm_wk p l e R s m args below meth c D cl sh ca ad nL fin pc lv (.int x :: .int i :: .ref (ad o) :: st) w := fun H locs ls hl hP hS =>
  va_zast (n := n) (f := w.1 o) K.1 K.2.1 K.2.2.2.2.2.2.2.1 hP (pm_D K.2.2.2.2.2.2.2.2.1) hS o t (pm_get hs) ht hin hd (fun H1 locs1 hP1 _ hS1 => kk H1 locs1 ls hl ((pm_setAI (ca := ca) (ad := ad) (w := w) (i := i.toNatClampNeg) (v := (vp_nar .boolean x)) hs (fun h => by cases h)) ▸ hP1) hS1)
theorem pm_bast (K : pm_ok p s m args meth c cc nL Ts own D cl tys sh ad E ret) {o t n : Nat} {i x : Int32} (hs : sh[o]? = some (.inl (t, .byte, n))) (ht : tys[t]? = some (ca t, .byte)) (hin : ¬ (i < 0 ∨ n ≤ i.toNatClampNeg)) (hd : decode cc pc = .ok (.bastore, 1))
    (kk : pm_wk p l e R s m args below meth c D cl sh ca ad nL fin (pc + 1) lv st (pm_setI w o i.toNatClampNeg (vp_nar .byte x))) : pm_wk p l e R s m args below meth c D cl sh ca ad nL fin pc lv (.int x :: .int i :: .ref (ad o) :: st) w := fun H locs ls hl hP hS =>
  va_bast (n := n) (f := w.1 o) K.1 K.2.1 K.2.2.2.2.2.2.2.1 hP (pm_D K.2.2.2.2.2.2.2.2.1) hS o t (pm_get hs) ht hin hd (fun H1 locs1 hP1 _ hS1 => kk H1 locs1 ls hl ((pm_setAI (ca := ca) (ad := ad) (w := w) (i := i.toNatClampNeg) (v := (vp_nar .byte x)) hs (fun h => by cases h)) ▸ hP1) hS1)
theorem pm_sast (K : pm_ok p s m args meth c cc nL Ts own D cl tys sh ad E ret) {o t n : Nat} {i x : Int32} (hs : sh[o]? = some (.inl (t, .short, n))) (ht : tys[t]? = some (ca t, .short)) (hin : ¬ (i < 0 ∨ n ≤ i.toNatClampNeg)) (hd : decode cc pc = .ok (.sastore, 1))
    (kk : pm_wk p l e R s m args below meth c D cl sh ca ad nL fin (pc + 1) lv st (pm_setI w o i.toNatClampNeg (vp_nar .short x))) : pm_wk p l e R s m args below meth c D cl sh ca ad nL fin pc lv (.int x :: .int i :: .ref (ad o) :: st) w := fun H locs ls hl hP hS =>
  va_sast (n := n) (f := w.1 o) K.1 K.2.1 K.2.2.2.2.2.2.2.1 hP (pm_D K.2.2.2.2.2.2.2.2.1) hS o t (pm_get hs) ht hin hd (fun H1 locs1 hP1 _ hS1 => kk H1 locs1 ls hl ((pm_setAI (ca := ca) (ad := ad) (w := w) (i := i.toNatClampNeg) (v := (vp_nar .short x)) hs (fun h => by cases h)) ▸ hP1) hS1)
theorem pm_last (K : pm_ok p s m args meth c cc nL Ts own D cl tys sh ad E ret) {o t n : Nat} {i : Int32} {x : Int64} (hs : sh[o]? = some (.inl (t, .long, n))) (ht : tys[t]? = some (ca t, .long)) (hin : ¬ (i < 0 ∨ n ≤ i.toNatClampNeg)) (hd : decode cc pc = .ok (.lastore, 1))
    (kk : pm_wk p l e R s m args below meth c D cl sh ca ad nL fin (pc + 1) lv st (pm_setJ w o i.toNatClampNeg x)) : pm_wk p l e R s m args below meth c D cl sh ca ad nL fin pc lv (.long x :: .int i :: .ref (ad o) :: st) w := fun H locs ls hl hP hS =>
  va_last (n := n) (f := w.2 o) K.1 K.2.1 K.2.2.2.2.2.2.2.1 hP (pm_D K.2.2.2.2.2.2.2.2.1) hS o t (pm_get hs) ht hin hd (fun H1 locs1 hP1 _ hS1 => kk H1 locs1 ls hl ((pm_setAJ (ca := ca) (ad := ad) (w := w) (i := i.toNatClampNeg) (v := x) hs) ▸ hP1) hS1)
theorem pm_alen (K : pm_ok p s m args meth c cc nL Ts own D cl tys sh ad E ret) {o t n : Nat} {ty : FieldType} {v : Int32} (hs : sh[o]? = some (.inl (t, ty, n))) (ht : tys[t]? = some (ca t, ty)) (hv : Int32.ofNat n = v) (hd : decode cc pc = .ok (.arraylength, 1))
    (kk : pm_wk p l e R s m args below meth c D cl sh ca ad nL fin (pc + 1) lv (.int v :: st) w) : pm_wk p l e R s m args below meth c D cl sh ca ad nL fin pc lv (.ref (ad o) :: st) w := fun H locs ls hl hP hS =>
  va_alen K.1 K.2.1 K.2.2.2.2.2.2.2.1 hP o t (x := pm_arr w o n ty) (pm_get hs) ht (by cases ty <;> exact hv) hd (kk H locs ls hl hP hS)
theorem pm_mmax (K : pm_ok p s m args meth c cc nL Ts own D cl tys sh ad E ret) {x y : Int32} {ix : Nat} (h1 : Cond.methodLink own ix Lib.Math.max.name ∈ Ts) (h2 : Cond.static Lib.Math.max.name ∈ Ts) (h3 : Cond.initialized "java/lang/Math" ∈ Ts) (h4 : Cond.code Lib.Math.max.name Lib.Math.max.code 2 (some .int) ∈ Ts) (hf : 1 ≤ R.frames) (hlo : (st.map fun v => v.category).sum + 13 ≤ R.locals) (hd : decode cc pc = .ok (.invokestatic ix, 3))
    (kk : pm_wk p l e R s m args below meth c D cl sh ca ad nL fin (pc + 3) lv (.int (if x < y then y else x) :: st) w) : pm_wk p l e R s m args below meth c D cl sh ca ad nL fin pc lv (.int y :: .int x :: st) w := fun H locs ls hl hP hS =>
  va_mmax K.1 K.2.1 (by rw [K.2.2.1, hl.1]) K.2.2.2.1 (K.2.2.2.2.1 _ h1) (K.2.2.2.2.1 _ h2) (K.2.2.2.2.1 _ h3) (K.2.2.2.2.1 _ h4) hf hlo (Nat.zero_le _) (Nat.zero_le _) hd (kk H locs ls hl hP hS)
theorem pm_mmin (K : pm_ok p s m args meth c cc nL Ts own D cl tys sh ad E ret) {x y : Int32} {ix : Nat} (h1 : Cond.methodLink own ix Lib.Math.min.name ∈ Ts) (h2 : Cond.static Lib.Math.min.name ∈ Ts) (h3 : Cond.initialized "java/lang/Math" ∈ Ts) (h4 : Cond.code Lib.Math.min.name Lib.Math.min.code 2 (some .int) ∈ Ts) (hf : 1 ≤ R.frames) (hlo : (st.map fun v => v.category).sum + 13 ≤ R.locals) (hd : decode cc pc = .ok (.invokestatic ix, 3))
    (kk : pm_wk p l e R s m args below meth c D cl sh ca ad nL fin (pc + 3) lv (.int (if y < x then y else x) :: st) w) : pm_wk p l e R s m args below meth c D cl sh ca ad nL fin pc lv (.int y :: .int x :: st) w := fun H locs ls hl hP hS =>
  va_mmin K.1 K.2.1 (by rw [K.2.2.1, hl.1]) K.2.2.2.1 (K.2.2.2.2.1 _ h1) (K.2.2.2.2.1 _ h2) (K.2.2.2.2.1 _ h3) (K.2.2.2.2.1 _ h4) hf hlo (Nat.zero_le _) (Nat.zero_le _) hd (kk H locs ls hl hP hS)
theorem pm_mabs (K : pm_ok p s m args meth c cc nL Ts own D cl tys sh ad E ret) {x : Int32} {ix : Nat} (h1 : Cond.methodLink own ix Lib.Math.abs.name ∈ Ts) (h2 : Cond.static Lib.Math.abs.name ∈ Ts) (h3 : Cond.initialized "java/lang/Math" ∈ Ts) (h4 : Cond.code Lib.Math.abs.name Lib.Math.abs.code 1 (some .int) ∈ Ts) (hf : 1 ≤ R.frames) (hlo : (st.map fun v => v.category).sum + 13 ≤ R.locals) (hd : decode cc pc = .ok (.invokestatic ix, 3))
    (kk : pm_wk p l e R s m args below meth c D cl sh ca ad nL fin (pc + 3) lv (.int (if 0 ≤ x then x else 0 - x) :: st) w) : pm_wk p l e R s m args below meth c D cl sh ca ad nL fin pc lv (.int x :: st) w := fun H locs ls hl hP hS =>
  va_mabs K.1 K.2.1 (by rw [K.2.2.1, hl.1]) K.2.2.2.1 (K.2.2.2.2.1 _ h1) (K.2.2.2.2.1 _ h2) (K.2.2.2.2.1 _ h3) (K.2.2.2.2.1 _ h4) hf hlo (Nat.zero_le _) (Nat.zero_le _) hd (kk H locs ls hl hP hS)
theorem pm_ret {r : Option Value} {locs : List Loc} {H : Heap} (hP : va_P D cl (pm_cells sh ca ad w) H) (hS : va_S (pm_A sh ad s.heap.size) s.heap H locs) : ∀ t : State, t.heap = H → s.WarmedH t.vm → pm_Q D cl sh ca ad (r, w) s.heap.size args s (.returned r) t := fun t ht _ => ⟨rfl, by rw [ht]; exact hP, hS.F ht⟩
theorem pm_iret (K : pm_ok p s m args meth c cc nL Ts own D cl tys sh ad E (some .int)) {v : Int32} (hd : decode cc pc = .ok (.ireturn, 1)) : pm_wk p l e R s m args below meth c D cl sh ca ad nL (some (.int v), w) pc lv [.int v] w := fun H locs ls hl hP hS =>
  W.iret K.1 K.2.1 K.2.2.2.2.2.2.2.2.2.2.1 (pm_ret hP hS) hS.2.2 hd (hlocks := K.2.2.2.2.2.2.2.2.2.1)
theorem pm_zret {ty : FieldType} (K : pm_ok p s m args meth c cc nL Ts own D cl tys sh ad E (some ty)) {v : Int32} (hn : narrow ty (.int v) = .int v) (hd : decode cc pc = .ok (.ireturn, 1)) : pm_wk p l e R s m args below meth c D cl sh ca ad nL (some (.int v), w) pc lv [.int v] w := fun H locs ls hl hP hS =>
  W.zret K.1 K.2.1 K.2.2.2.2.2.2.2.2.2.2.1 hn (pm_ret hP hS) hS.2.2 hd (hlocks := K.2.2.2.2.2.2.2.2.2.1)
theorem pm_lret (K : pm_ok p s m args meth c cc nL Ts own D cl tys sh ad E (some .long)) {v : Int64} (hd : decode cc pc = .ok (.lreturn, 1)) : pm_wk p l e R s m args below meth c D cl sh ca ad nL (some (.long v), w) pc lv [.long v] w := fun H locs ls hl hP hS =>
  W.lret K.1 K.2.1 K.2.2.2.2.2.2.2.2.2.2.1 (pm_ret hP hS) hS.2.2 hd (hlocks := K.2.2.2.2.2.2.2.2.2.1)
theorem pm_vret (K : pm_ok p s m args meth c cc nL Ts own D cl tys sh ad E none) (hd : decode cc pc = .ok (.return_, 1)) : pm_wk p l e R s m args below meth c D cl sh ca ad nL (none, w) pc lv [] w := fun H locs ls hl hP hS =>
  W.vret K.1 K.2.1 K.2.2.2.2.2.2.2.2.2.2.1 (pm_ret hP hS) hS.2.2 hd (hlocks := K.2.2.2.2.2.2.2.2.2.1)
theorem pm_run (K : pm_ok p s m args meth c cc nL Ts own D cl tys sh ad E ret) {H : Heap} {locs : List Loc} {ls : Array Slot} {st0 rest : List Value} {av : Array Value} {r : Option Value} {w' : pm_W} (hl : lv_has ls nL lv) (hS : va_S (pm_A sh ad s.heap.size) s.heap H locs)
    (hr : va_Run p l e R s m args below meth c H locs 0 0 0 0 (F0 m pc ls st0) rest (pm_Q D cl sh ca ad (r, w') H.size av) (pm_A sh ad H.size)) (kk : pm_wk p l e R s m args below meth c D cl sh ca ad nL fin (pc + 3) lv (r.toList ++ rest) w') :
    W p l e R s m args below meth c H locs 0 0 (MQ below (pm_Q D cl sh ca ad fin s.heap.size) args s 0 0 (pm_A sh ad s.heap.size)) (F0 m pc ls st0) := by
  intro T hT X
  obtain ⟨v, st₀, t, T', L, h0, X', hL, e1, e2, ⟨hv, hP', hz, hk⟩, sg⟩ := hr T hT X
  have hv : v = r := Outcome.returned.inj hv
  subst hv
  rw [h0] at hz hk
  have hm : ∀ q, pm_A sh ad H.size q → pm_A sh ad s.heap.size q := fun q h => pm_A_mono hS.1 q h
  obtain ⟨t2, a1, b1⟩ := kk T'.heap (locs ++ L) ls hl (by rw [e1]; exact hP')
    ⟨Nat.le_trans hS.1 (by rw [e1]; exact hz), fun q h1 h2 => by rw [e1, hk q (Nat.lt_of_lt_of_le h1 hS.1) (fun z => h2 (hm q z))]; exact hS.2.1 q h1 h2, fun q hq => by
      rcases List.mem_append.mp hq with h | h
      · exact hS.2.2 q h
      · exact hm _ (hL q h)⟩ T' rfl X'
  exact ⟨t2, sg t2 a1, b1⟩
theorem pm_blind {sz : Nat} {avs : List Value} (hg : pm_Tg Ts) (hEc : pm_Ecl E) : FrameBlind (va_Pc avs (fun U => U.heap.size = sz ∧ pm_T Ts U ∧ va_K D cl tys U ∧ pm_inj sh ad ∧ va_P D cl (pm_cells sh ca ad w) U.heap ∧ E (pm_A sh ad sz) U U.heap)) := by
  intro a U g mk h
  obtain ⟨h0, h1, h2, h3, h4, h5, h6⟩ := h
  exact ⟨h0, h1, pm_T_same (s := U) (U := U.calling g mk a) hg rfl h2, va_K.moved (u := U) (U := U.calling g mk a) (Vm.Alike.refl U.vm) h3, h4, h5, hEc _ _ U (U.calling g mk a) U.heap h6 (fun _ _ _ => rfl) (fun _ h => h) (Vm.Alike.refl U.vm) (State.WarmedH.refl U) rfl⟩
theorem pm_pre (K : pm_ok p s m args meth c cc nL Ts own D cl tys sh ad E ret) {H : Heap} {locs : List Loc} {avs : List Value} (hP : va_P D cl (pm_cells sh ca ad w) H) (hS : va_S (pm_A sh ad s.heap.size) s.heap H locs) (U : State) (hU : U.heap = H) (hW : s.WarmedH U.vm) :
    va_Pc avs (fun U => U.heap.size = H.size ∧ pm_T Ts U ∧ va_K D cl tys U ∧ pm_inj sh ad ∧ va_P D cl (pm_cells sh ca ad w) U.heap ∧ E (pm_A sh ad H.size) U U.heap) avs.toArray U :=
  ⟨rfl, by rw [hU], pm_T_warm K.2.2.2.2.2.2.1 hW K.2.2.2.2.2.1, va_K.moved hW.alike K.2.2.2.2.2.2.2.1, K.2.2.2.2.2.2.2.2.1, by rw [hU]; exact hP,
    K.2.2.2.2.2.2.2.2.2.2.2.2 _ _ s U H K.2.2.2.2.2.2.2.2.2.2.2.1 hS.2.1 (pm_A_mono hS.1) hW.alike hW hU⟩
/-- a method's place in the tables -/
def pm_mi (Ts : List Cond) (y : MethodName) (bytes : ByteArray) (maxL : Nat) (ret : Option FieldType) (n : Nat) : Prop := Cond.code y bytes maxL ret ∈ Ts ∧ Cond.initialized y.cls ∈ Ts ∧ (y.cls ≠ "java/lang/invoke/MethodHandle" ∧ y.cls ≠ "java/lang/invoke/VarHandle") ∧ (parseMethodDescriptor y.desc).map (fun d => d.parameters.length) = some n
def pm_rm (rm R : Room) (maxL : Nat) : Prop := rm.cells = 0 ∧ rm.slots = 0 ∧ rm.frames + 1 ≤ R.frames ∧ 8 + (maxL + 11) + rm.locals ≤ R.locals
theorem pm_cw (K : pm_ok p s m args meth c cc nL Ts own D cl tys sh ad E ret) {y : MethodName} {bytes : ByteArray} {maxL n : Nat} {rt : Option FieldType} (hi : pm_mi Ts y bytes maxL rt n) : (∀ x ∈ [Cond.code y bytes maxL rt], ∀ (a' : Array Value) (U : State), s.WarmedH U.vm → x.before a' U = true) ∧ (Cond.code y bytes maxL rt).before args s = true ∧ (Cond.initialized y.cls).before args s = true ∧ ∀ sig, parseMethodDescriptor y.desc = some sig → n = sig.parameters.length := by
  refine ⟨fun x hx a' U hW => ?_, K.2.2.2.2.1 _ hi.1, K.2.2.2.2.1 _ hi.2.1, fun sig h => ?_⟩
  · rw [List.mem_singleton] at hx
    subst hx
    exact pm_T_use K.2.2.2.2.2.2.1 (pm_T_warm K.2.2.2.2.2.2.1 hW K.2.2.2.2.2.1) a' _ hi.1
  · have h2 := hi.2.2.2
    rw [h] at h2
    exact (Option.some.inj h2).symm
theorem pm_recv (K : pm_ok p s m args meth c cc nL Ts own D cl tys sh ad E ret) {H : Heap} {o ci : Nat} {fk : List pm_F} {q : vw_C} (hP : va_P D cl (pm_cells sh ca ad w) H) (hs : sh[o]? = some (.inr (ci, fk))) (hc : cl[ci]? = some q) : ∃ cell : Cell, H[ad o]? = some cell ∧ cell.vm.isStatics = false ∧ s.vm.findClass q.1 = some cell.cls :=
  va_recv K.2.2.2.2.2.2.2.1 hP hc (q0 := o) (pm_get hs)
theorem pm_callV (K : pm_ok p s m args meth c cc nL Ts own D cl tys sh ad E ret) {y : MethodName} {bytes : ByteArray} {maxL n ix : Nat} {rt : Option FieldType} {rm : Room} {o ci : Nat} {fk : List pm_F} {T : u_T} {N : Nat} {As rest st0 : List Value} {r : Option Value} {w' : pm_W} (hM : pm_Met l Ts D cl tys sh ca ad E y bytes maxL rt rm (.ref (ad o) :: As) w (r, w')) (hi : pm_mi Ts y bytes maxL rt n) (hs : sh[o]? = some (.inr (ci, fk))) (hc : cl[ci]? = some (y.cls, T, N)) (hin : Cond.instanceMethod y ∈ Ts) (hse : Cond.selects y.cls y y ∈ Ts) (hw : Cond.methodLink own ix y ∈ Ts) (hn : As.length = n) (hr : pm_rm rm R maxL) (hst : st0 = As.reverse ++ .ref (ad o) :: rest) (hrest : (rest.map fun v => v.category).sum ≤ 8) (hd : decode cc pc = .ok (.invokevirtual ix, 3))
    (kk : pm_wk p l e R s m args below meth c D cl sh ca ad nL fin (pc + 3) lv (r.toList ++ rest) w') : pm_wk p l e R s m args below meth c D cl sh ca ad nL fin pc lv st0 w := fun H locs ls hl hP hS => by
  have cw := pm_cw K hi
  exact pm_run K hl hS (va_runV (As := As) (rest := rest) (nL := nL) (cc := cc) (Ts := Ts) (own := own) ⟨K.1, K.2.1, K.2.2.1, K.2.2.2.1, K.2.2.2.2.1⟩ (hM H.size) ⟨⟨hr.1, hr.2.1, hr.2.2.1, hr.2.2.2, cw.1, List.mem_singleton.mpr rfl, cw.2.1, cw.2.2.1, hi.2.2.1, cw.2.2.2, K.2.2.2.2.1 _ hw⟩, K.2.2.2.2.1 _ hin, K.2.2.2.2.1 _ hse⟩ ⟨pm_blind K.2.2.2.2.2.2.1 K.2.2.2.2.2.2.2.2.2.2.2.2, pm_recv K hP hs hc, fun U hU hW => pm_pre K hP hS U hU hW⟩ rfl hn hl.1 hst (lv_room hrest) hd ⟨Nat.zero_le _, Nat.zero_le _⟩) kk
theorem pm_callVN (K : pm_ok p s m args meth c cc nL Ts own D cl tys sh ad E ret) {y : MethodName} {bytes : ByteArray} {maxL n ix : Nat} {rt : Option FieldType} {rm : Room} {host : String} {o ci : Nat} {fk : List pm_F} {T : u_T} {N : Nat} {As rest st0 : List Value} {r : Option Value} {w' : pm_W} (hM : pm_Met l Ts D cl tys sh ca ad E y bytes maxL rt rm (.ref (ad o) :: As) w (r, w')) (hi : pm_mi Ts y bytes maxL rt n) (hs : sh[o]? = some (.inr (ci, fk))) (hc : cl[ci]? = some (y.cls, T, N)) (hin : Cond.instanceMethod y ∈ Ts) (hse : Cond.selects y.cls y y ∈ Ts) (hw : Cond.methodLinkNest own ix y host ∈ Ts) (hn : As.length = n) (hr : pm_rm rm R maxL) (hst : st0 = As.reverse ++ .ref (ad o) :: rest) (hrest : (rest.map fun v => v.category).sum ≤ 8) (hd : decode cc pc = .ok (.invokevirtual ix, 3))
    (kk : pm_wk p l e R s m args below meth c D cl sh ca ad nL fin (pc + 3) lv (r.toList ++ rest) w') : pm_wk p l e R s m args below meth c D cl sh ca ad nL fin pc lv st0 w := fun H locs ls hl hP hS => by
  have cw := pm_cw K hi
  exact pm_run K hl hS (va_runVN (As := As) (rest := rest) (nL := nL) (cc := cc) (Ts := Ts) (own := own) ⟨K.1, K.2.1, K.2.2.1, K.2.2.2.1, K.2.2.2.2.1⟩ (hM H.size) ⟨⟨⟨hr.1, hr.2.1, hr.2.2.1, hr.2.2.2, cw.1, List.mem_singleton.mpr rfl⟩, cw.2.1, cw.2.2.1, hi.2.2.1, cw.2.2.2, K.2.2.2.2.1 _ hw⟩, K.2.2.2.2.1 _ hin, K.2.2.2.2.1 _ hse⟩ ⟨pm_blind K.2.2.2.2.2.2.1 K.2.2.2.2.2.2.2.2.2.2.2.2, pm_recv K hP hs hc, fun U hU hW => pm_pre K hP hS U hU hW⟩ rfl hn hl.1 hst (lv_room hrest) hd ⟨Nat.zero_le _, Nat.zero_le _⟩) kk
theorem pm_callS (K : pm_ok p s m args meth c cc nL Ts own D cl tys sh ad E ret) {y : MethodName} {bytes : ByteArray} {maxL n ix : Nat} {rt : Option FieldType} {rm : Room} {As rest st0 : List Value} {r : Option Value} {w' : pm_W} (hM : pm_Met l Ts D cl tys sh ca ad E y bytes maxL rt rm As w (r, w')) (hi : pm_mi Ts y bytes maxL rt n) (hin : Cond.static y ∈ Ts) (hw : Cond.methodLink own ix y ∈ Ts) (hn : As.length = n) (hr : pm_rm rm R maxL) (hst : st0 = As.reverse ++ rest) (hrest : (rest.map fun v => v.category).sum ≤ 8) (hd : decode cc pc = .ok (.invokestatic ix, 3))
    (kk : pm_wk p l e R s m args below meth c D cl sh ca ad nL fin (pc + 3) lv (r.toList ++ rest) w') : pm_wk p l e R s m args below meth c D cl sh ca ad nL fin pc lv st0 w := fun H locs ls hl hP hS => by
  have cw := pm_cw K hi
  exact pm_run K hl hS (va_runS (As := As) (rest := rest) (nL := nL) (cc := cc) (Ts := Ts) (own := own) ⟨K.1, K.2.1, K.2.2.1, K.2.2.2.1, K.2.2.2.2.1⟩ (hM H.size) ⟨⟨hr.1, hr.2.1, hr.2.2.1, hr.2.2.2, cw.1, List.mem_singleton.mpr rfl, cw.2.1, cw.2.2.1, hi.2.2.1, cw.2.2.2, K.2.2.2.2.1 _ hw⟩, K.2.2.2.2.1 _ hin⟩ ⟨pm_blind K.2.2.2.2.2.2.1 K.2.2.2.2.2.2.2.2.2.2.2.2, fun U hU hW => pm_pre K hP hS U hU hW⟩ rfl hn hl.1 hst (lv_room hrest) hd ⟨Nat.zero_le _, Nat.zero_le _⟩) kk
theorem pm_callSN (K : pm_ok p s m args meth c cc nL Ts own D cl tys sh ad E ret) {y : MethodName} {bytes : ByteArray} {maxL n ix : Nat} {rt : Option FieldType} {rm : Room} {host : String} {As rest st0 : List Value} {r : Option Value} {w' : pm_W} (hM : pm_Met l Ts D cl tys sh ca ad E y bytes maxL rt rm As w (r, w')) (hi : pm_mi Ts y bytes maxL rt n) (hin : Cond.static y ∈ Ts) (hw : Cond.methodLinkNest own ix y host ∈ Ts) (hn : As.length = n) (hr : pm_rm rm R maxL) (hst : st0 = As.reverse ++ rest) (hrest : (rest.map fun v => v.category).sum ≤ 8) (hd : decode cc pc = .ok (.invokestatic ix, 3))
    (kk : pm_wk p l e R s m args below meth c D cl sh ca ad nL fin (pc + 3) lv (r.toList ++ rest) w') : pm_wk p l e R s m args below meth c D cl sh ca ad nL fin pc lv st0 w := fun H locs ls hl hP hS => by
  have cw := pm_cw K hi
  exact pm_run K hl hS (va_runSN (As := As) (rest := rest) (nL := nL) (cc := cc) (Ts := Ts) (own := own) ⟨K.1, K.2.1, K.2.2.1, K.2.2.2.1, K.2.2.2.2.1⟩ (hM H.size) ⟨⟨⟨hr.1, hr.2.1, hr.2.2.1, hr.2.2.2, cw.1, List.mem_singleton.mpr rfl⟩, cw.2.1, cw.2.2.1, hi.2.2.1, cw.2.2.2, K.2.2.2.2.1 _ hw⟩, K.2.2.2.2.1 _ hin, trivial⟩ ⟨pm_blind K.2.2.2.2.2.2.1 K.2.2.2.2.2.2.2.2.2.2.2.2, fun U hU hW => pm_pre K hP hS U hU hW⟩ rfl hn hl.1 hst (lv_room hrest) hd ⟨Nat.zero_le _, Nat.zero_le _⟩) kk
end PMW
end
section
theorem zz_t : pm_fuel = 3 := rfl
end
