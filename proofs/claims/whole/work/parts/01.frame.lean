/-! THE FRAME: a world of a FIXED SHAPE (objects and arrays that never come or go; references between them never change), its numbers as two functions; a walk is a goal about (pc, locals, stack, numbers) alone. -/
abbrev pm_W : Type := (Nat → Nat → Int32) × (Nat → Nat → Int64)
/-- a field: a reference to the object of that number, or a number (true: a long) -/
abbrev pm_F : Type := Nat ⊕ Bool
/-- an array (its class's place, its elements' type, its length), or an object (its class's place, its fields) -/
abbrev pm_E : Type := (Nat × FieldType × Nat) ⊕ (Nat × List pm_F)
def pm_val (ad : Nat → Nat) (w : pm_W) (o k : Nat) (f : pm_F) : Value := match f with
  | .inl t => .ref (ad t)
  | .inr false => .int (w.1 o k)
  | .inr true => .long (w.2 o k)
def pm_arr (w : pm_W) (o n : Nat) (ty : FieldType) : vp_A := match ty with
  | .long => (n, .inr (.inl (w.2 o)))
  | _ => (n, .inl (w.1 o))
def pm_cell (ca : Nat → ClassId) (ad : Nat → Nat) (w : pm_W) (o : Nat) (x : pm_E) : Nat × va_E := (ad o, match x with
  | .inl a => .inl (ca a.1, pm_arr w o a.2.2 a.2.1)
  | .inr b => .inr (b.1, b.2.mapIdx (fun k f => pm_val ad w o k f)))
def pm_cells (sh : List pm_E) (ca : Nat → ClassId) (ad : Nat → Nat) (w : pm_W) : va_W := sh.mapIdx (fun o x => pm_cell ca ad w o x)
def pm_up {α : Type} (f : Nat → Nat → α) (o k : Nat) (v : α) : Nat → Nat → α := fun a b => if a = o then (if b = k then v else f a b) else f a b
def pm_setI (w : pm_W) (o k : Nat) (v : Int32) : pm_W := (pm_up w.1 o k v, w.2)
def pm_setJ (w : pm_W) (o k : Nat) (v : Int64) : pm_W := (w.1, pm_up w.2 o k v)
theorem pm_up_off {α : Type} {f : Nat → Nat → α} {o k a : Nat} {v : α} (h : a ≠ o) : pm_up f o k v a = f a := by
  funext b
  simp [pm_up, h]
theorem pm_up_on {α : Type} {f : Nat → Nat → α} {o k : Nat} {v : α} : pm_up f o k v o = fun b => if b = k then v else f o b := by
  funext b
  simp [pm_up]
theorem pm_get {sh : List pm_E} {ca : Nat → ClassId} {ad : Nat → Nat} {w : pm_W} {o : Nat} {x : pm_E} (h : sh[o]? = some x) : (pm_cells sh ca ad w)[o]? = some (pm_cell ca ad w o x) := by
  unfold pm_cells
  rw [List.getElem?_mapIdx, h]
  rfl
theorem pm_len {sh : List pm_E} {ca : Nat → ClassId} {ad : Nat → Nat} {w : pm_W} : (pm_cells sh ca ad w).length = sh.length := by
  unfold pm_cells
  exact List.length_mapIdx
/-- the worlds differ at one object alone -/
theorem pm_off {w w' : pm_W} {o : Nat} (h1 : ∀ a, a ≠ o → w'.1 a = w.1 a) (h2 : ∀ a, a ≠ o → w'.2 a = w.2 a) {ca : Nat → ClassId} {ad : Nat → Nat} {a : Nat} (ha : a ≠ o) (x : pm_E) : pm_cell ca ad w' a x = pm_cell ca ad w a x := by
  have e1 := h1 a ha
  have e2 := h2 a ha
  rcases x with ⟨t, ty, n⟩ | ⟨ci, fk⟩
  · cases ty <;> simp [pm_cell, pm_arr, e1, e2]
  · have e : (fun (k : Nat) (f : pm_F) => pm_val ad w' a k f) = fun (k : Nat) (f : pm_F) => pm_val ad w a k f := by
      funext k f
      rcases f with t | b
      · rfl
      · cases b
        · simp [pm_val, e1]
        · simp [pm_val, e2]
    simp [pm_cell, e]
theorem pm_set {sh : List pm_E} {ca : Nat → ClassId} {ad : Nat → Nat} {w w' : pm_W} {o : Nat} {x : pm_E} {q : Nat × va_E} (hs : sh[o]? = some x) (h1 : ∀ a, a ≠ o → w'.1 a = w.1 a) (h2 : ∀ a, a ≠ o → w'.2 a = w.2 a) (hq : q = pm_cell ca ad w' o x) : (pm_cells sh ca ad w).set o q = pm_cells sh ca ad w' := by
  have hl : o < (pm_cells sh ca ad w).length := by rw [pm_len]; exact (List.getElem?_eq_some_iff.mp hs).1
  apply List.ext_getElem?
  intro j
  by_cases hj : j = o
  · subst hj
    rw [List.getElem?_set_self hl, pm_get hs, hq]
  · rw [List.getElem?_set_ne (Ne.symm hj)]
    unfold pm_cells
    rw [List.getElem?_mapIdx, List.getElem?_mapIdx]
    cases hx : sh[j]? with
    | none => rfl
    | some y => simp [pm_off h1 h2 hj]
theorem pm_setFI {sh : List pm_E} {ca : Nat → ClassId} {ad : Nat → Nat} {w : pm_W} {o ci k : Nat} {fk : List pm_F} {v : Int32} (hs : sh[o]? = some (.inr (ci, fk))) (hk : fk[k]? = some (.inr false)) :
    (pm_cells sh ca ad w).set o (ad o, .inr (ci, (fk.mapIdx (fun k f => pm_val ad w o k f)).set k (.int v))) = pm_cells sh ca ad (pm_setI w o k v) := by
  refine pm_set hs (fun a ha => pm_up_off ha) (fun a _ => rfl) ?_
  have e : (fk.mapIdx (fun k f => pm_val ad w o k f)).set k (.int v) = fk.mapIdx (fun j f => pm_val ad (pm_setI w o k v) o j f) := by
    apply List.ext_getElem?
    intro j
    by_cases hj : j = k
    · subst hj
      rw [List.getElem?_set_self (by rw [List.length_mapIdx]; exact (List.getElem?_eq_some_iff.mp hk).1), List.getElem?_mapIdx, hk]
      simp [pm_val, pm_setI, pm_up]
    · rw [List.getElem?_set_ne (Ne.symm hj), List.getElem?_mapIdx, List.getElem?_mapIdx]
      cases hx : fk[j]? with
      | none => rfl
      | some y =>
        rcases y with t | b
        · rfl
        · cases b
          · simp [pm_val, pm_setI, pm_up, hj]
          · rfl
  rw [e]
  rfl
theorem pm_setFJ {sh : List pm_E} {ca : Nat → ClassId} {ad : Nat → Nat} {w : pm_W} {o ci k : Nat} {fk : List pm_F} {v : Int64} (hs : sh[o]? = some (.inr (ci, fk))) (hk : fk[k]? = some (.inr true)) :
    (pm_cells sh ca ad w).set o (ad o, .inr (ci, (fk.mapIdx (fun k f => pm_val ad w o k f)).set k (.long v))) = pm_cells sh ca ad (pm_setJ w o k v) := by
  refine pm_set hs (fun a _ => rfl) (fun a ha => pm_up_off ha) ?_
  have e : (fk.mapIdx (fun k f => pm_val ad w o k f)).set k (.long v) = fk.mapIdx (fun j f => pm_val ad (pm_setJ w o k v) o j f) := by
    apply List.ext_getElem?
    intro j
    by_cases hj : j = k
    · subst hj
      rw [List.getElem?_set_self (by rw [List.length_mapIdx]; exact (List.getElem?_eq_some_iff.mp hk).1), List.getElem?_mapIdx, hk]
      simp [pm_val, pm_setJ, pm_up]
    · rw [List.getElem?_set_ne (Ne.symm hj), List.getElem?_mapIdx, List.getElem?_mapIdx]
      cases hx : fk[j]? with
      | none => rfl
      | some y =>
        rcases y with t | b
        · rfl
        · cases b
          · rfl
          · simp [pm_val, pm_setJ, pm_up, hj]
  rw [e]
  rfl
/-- what an element type of one slot says of an array's cell -/
def pm_one (ty : FieldType) : Prop := ty ≠ .long
theorem pm_arrI {w : pm_W} {o n : Nat} {ty : FieldType} (h : pm_one ty) : pm_arr w o n ty = (n, .inl (w.1 o)) := by
  cases ty <;> first | rfl | exact absurd rfl h
theorem pm_setAI {sh : List pm_E} {ca : Nat → ClassId} {ad : Nat → Nat} {w : pm_W} {o t n i : Nat} {ty : FieldType} {v : Int32} (hs : sh[o]? = some (.inl (t, ty, n))) (h : pm_one ty) :
    (pm_cells sh ca ad w).set o (ad o, .inl (ca t, n, .inl (upd (w.1 o) i v))) = pm_cells sh ca ad (pm_setI w o i v) := by
  refine pm_set hs (fun a ha => pm_up_off ha) (fun a _ => rfl) ?_
  have e : (pm_setI w o i v).1 o = upd (w.1 o) i v := by
    show pm_up w.1 o i v o = _
    rw [pm_up_on]
    rfl
  show _ = (ad o, Sum.inl (ca t, pm_arr (pm_setI w o i v) o n ty))
  rw [pm_arrI h, e]
theorem pm_setAJ {sh : List pm_E} {ca : Nat → ClassId} {ad : Nat → Nat} {w : pm_W} {o t n i : Nat} {v : Int64} (hs : sh[o]? = some (.inl (t, .long, n))) :
    (pm_cells sh ca ad w).set o (ad o, .inl (ca t, n, .inr (.inl (vp_updL (w.2 o) i v)))) = pm_cells sh ca ad (pm_setJ w o i v) := by
  refine pm_set hs (fun a _ => rfl) (fun a ha => pm_up_off ha) ?_
  have e : (pm_setJ w o i v).2 o = vp_updL (w.2 o) i v := by
    show pm_up w.2 o i v o = _
    rw [pm_up_on]
    rfl
  show _ = (ad o, Sum.inl (ca t, pm_arr (pm_setJ w o i v) o n .long))
  rw [show pm_arr (pm_setJ w o i v) o n .long = (n, .inr (.inl ((pm_setJ w o i v).2 o))) from rfl, e]
def pm_inj (sh : List pm_E) (ad : Nat → Nat) : Prop := ∀ i j, i < sh.length → j < sh.length → ad i = ad j → i = j
def pm_A (sh : List pm_E) (ad : Nat → Nat) (sz : Nat) : Nat → Prop := fun q => (∃ o, o < sh.length ∧ q = ad o) ∨ sz ≤ q
theorem pm_D {sh : List pm_E} {ca : Nat → ClassId} {ad : Nat → Nat} {w : pm_W} {sz : Nat} (h : pm_inj sh ad) : va_D (pm_A sh ad sz) (pm_cells sh ca ad w) := by
  have key : ∀ (k : Nat) (q : Nat × va_E), (pm_cells sh ca ad w)[k]? = some q → k < sh.length ∧ q.1 = ad k := by
    intro k q hk
    have hl : k < sh.length := by rw [← pm_len (ca := ca) (ad := ad) (w := w)]; exact (List.getElem?_eq_some_iff.mp hk).1
    obtain ⟨x, hx⟩ : ∃ x, sh[k]? = some x := ⟨_, List.getElem?_eq_getElem hl⟩
    rw [pm_get hx] at hk
    cases hk
    exact ⟨hl, rfl⟩
  refine ⟨fun i j p q hi hj e => ?_, fun k q hk => ?_⟩
  · obtain ⟨l1, e1⟩ := key i p hi
    obtain ⟨l2, e2⟩ := key j q hj
    exact h i j l1 l2 (by rw [← e1, ← e2, e])
  · obtain ⟨l1, e1⟩ := key k q hk
    exact Or.inl ⟨k, l1, e1⟩
theorem pm_A_in {sh : List pm_E} {ca : Nat → ClassId} {ad : Nat → Nat} {w : pm_W} {sz q : Nat} : pm_A sh ad sz q ↔ va_A (pm_cells sh ca ad w) sz q := by
  constructor
  · rintro (⟨o, ho, rfl⟩ | h)
    · obtain ⟨x, hx⟩ : ∃ x, sh[o]? = some x := ⟨_, List.getElem?_eq_getElem ho⟩
      exact Or.inl ⟨o, _, pm_get hx⟩
    · exact Or.inr h
  · rintro (⟨k, e, hk⟩ | h)
    · have hl : k < sh.length := by rw [← pm_len (ca := ca) (ad := ad) (w := w)]; exact (List.getElem?_eq_some_iff.mp hk).1
      obtain ⟨x, hx⟩ : ∃ x, sh[k]? = some x := ⟨_, List.getElem?_eq_getElem hl⟩
      rw [pm_get hx] at hk
      exact Or.inl ⟨k, hl, (congrArg Prod.fst (Option.some.inj hk)).symm⟩
    · exact Or.inr h
theorem pm_A_mono {sh : List pm_E} {ad : Nat → Nat} {a b : Nat} (h : a ≤ b) (q : Nat) (hq : pm_A sh ad b q) : pm_A sh ad a q := by
  rcases hq with h1 | h1
  · exact Or.inl h1
  · exact Or.inr (Nat.le_trans h h1)
-- the tables' words
def pm_good (w : Cond) : Bool := match w with
  | .fieldLinkNest .. => true
  | .methodLinkNest .. => true
  | w => w.onTables && w.keeps
theorem pm_good_on {w : Cond} (h : pm_good w = true) : w.onTables = true := by
  cases w <;> first | rfl | (simp only [pm_good, Bool.and_eq_true] at h; exact h.1)
def pm_T (Ts : List Cond) (U : State) : Prop := ∀ w ∈ Ts, w.before #[] U = true
def pm_Tg (Ts : List Cond) : Prop := ∀ w ∈ Ts, pm_good w = true
theorem pm_T_warm {Ts : List Cond} {s U : State} (hg : pm_Tg Ts) (hW : s.WarmedH U.vm) (h : pm_T Ts s) : pm_T Ts U := by
  intro w hw
  have h1 := hg w hw
  have h2 := h w hw
  cases w
  case fieldLinkNest => exact va_Nw.warmF hW h2
  case methodLinkNest => exact va_Nw.warmM hW h2
  all_goals exact word_at hW (Or.inl h1) h2
theorem pm_T_same {Ts : List Cond} {s U : State} (hg : pm_Tg Ts) (e : s.vm = U.vm) (h : pm_T Ts s) : pm_T Ts U := fun w hw => va_tabs (pm_good_on (hg w hw)) e (h w hw)
theorem pm_T_use {Ts : List Cond} {s : State} (hg : pm_Tg Ts) (h : pm_T Ts s) (args : Array Value) : ∀ w ∈ Ts, w.before args s = true := fun w hw => va_tabs (pm_good_on (hg w hw)) rfl (h w hw)
