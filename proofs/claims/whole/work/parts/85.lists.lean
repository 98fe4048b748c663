/-! lists: length, the n-th, bindings -/
/-- the pairs of a list, in their order -/
def chl (κ : Nat → Nat) (L : List Nat) (g : Nat → Int32) : List Nat → Int32 → Prop
  | [], a => a = 2
  | s :: l, a => s ∈ L ∧ κ s = 2 ∧ a = vC s ∧ chl κ L g l (g s)
theorem vC_ne2 {s : Nat} (h : s < 1000) : vC s ≠ 2 := fun e => by
  have h4 := (kd_C h).1
  rw [e] at h4
  exact absurd h4 (by decide)
section
variable {S kn : Nat} {κ τ ρ φ : Nat → Nat} {L : List Nat} {w v : pm_W}
theorem chl_det {g : Nat → Int32} (hL : ∀ s ∈ L, s < 1000) : ∀ (l m : List Nat) (a : Int32), chl κ L g l a → chl κ L g m a → l = m := by
  intro l
  induction l with
  | nil =>
    intro m a h1 h2
    cases m with
    | nil => rfl
    | cons t m =>
      obtain ⟨q1, _, q2, _⟩ := h2
      rw [show a = 2 from h1] at q2
      exact absurd q2.symm (vC_ne2 (hL t q1))
  | cons s l ih =>
    intro m a h1 h2
    obtain ⟨p1, _, p2, p3⟩ := h1
    cases m with
    | nil =>
      rw [show a = 2 from h2] at p2
      exact absurd p2.symm (vC_ne2 (hL s p1))
    | cons t m =>
      obtain ⟨q1, _, q2, q3⟩ := h2
      have e : s = t := vC_inj (hL s p1) (hL t q1) (p2.symm.trans q2)
      subst e
      rw [ih m _ p3 q3]
theorem chl_in {g : Nat → Int32} : ∀ (l : List Nat) (a : Int32), chl κ L g l a → ∀ x ∈ l, ∃ l2, l2.length < l.length ∧ chl κ L g (x :: l2) (vC x) := by
  intro l
  induction l with
  | nil => intro a _ x hx; exact absurd hx List.not_mem_nil
  | cons s l ih =>
    intro a h x hx
    obtain ⟨p1, p2, p3, p4⟩ := h
    rcases List.mem_cons.mp hx with e | e
    · subst e
      exact ⟨l, by simp, p1, p2, rfl, p4⟩
    · obtain ⟨l2, q1, q2⟩ := ih _ p4 x e
      exact ⟨l2, by simp only [List.length_cons]; omega, q2⟩
theorem chl_nd {g : Nat → Int32} (hL : ∀ s ∈ L, s < 1000) : ∀ (l : List Nat) (a : Int32), chl κ L g l a → l.Nodup := by
  intro l
  induction l with
  | nil => intro a _; exact List.nodup_nil
  | cons s l ih =>
    intro a h
    obtain ⟨p1, p2, p3, p4⟩ := h
    refine List.nodup_cons.mpr ⟨fun hs => ?_, ih _ p4⟩
    obtain ⟨l2, q1, q2⟩ := chl_in l _ p4 s hs
    have e := chl_det hL _ _ _ q2 (show chl κ L g (s :: l) (vC s) from ⟨p1, p2, rfl, p4⟩)
    have := congrArg List.length e
    simp only [List.length_cons] at this
    omega
theorem chl_mem {g : Nat → Int32} : ∀ (l : List Nat) (a : Int32), chl κ L g l a → ∀ x ∈ l, x ∈ L ∧ κ x = 2 := by
  intro l
  induction l with
  | nil => intro a _ x hx; exact absurd hx List.not_mem_nil
  | cons s l ih =>
    intro a h x hx
    obtain ⟨p1, p2, p3, p4⟩ := h
    rcases List.mem_cons.mp hx with e | e
    · subst e; exact ⟨p1, p2⟩
    · exact ih _ p4 x e
theorem chl_len (h : Rd S kn κ τ ρ φ L w v) {g : Nat → Int32} {l : List Nat} {a : Int32} (hl : chl κ L g l a) : l.length ≤ S := nd_len S l (chl_nd (fun s hs => (Rd_L h s hs).1) l a hl) (fun s hs => Rd_lt h (chl_mem l a hl s hs).1)
theorem chl_ex (h : Rd S kn κ τ ρ φ L w v) {t : Nat} (ht : t < 3) : ∀ (n : Nat) (a : Int32), Lst κ τ L t a → (∀ s ∈ L, a = vC s → ρ s < n) → ∃ l, chl κ L (w.1 18) l a ∧ ∀ x ∈ l, τ x = t := by
  intro n
  induction n with
  | zero =>
    intro a ha hn
    rcases ha with ha | ⟨s, h1, h2, h3, h4⟩
    · exact ⟨[], ha, fun x hx => absurd hx List.not_mem_nil⟩
    · exact absurd (hn s h1 h4) (Nat.not_lt_zero _)
  | succ n ih =>
    intro a ha hn
    rcases ha with ha | ⟨s, h1, h2, h3, h4⟩
    · exact ⟨[], ha, fun x hx => absurd hx List.not_mem_nil⟩
    · obtain ⟨_, _, _, _, t5⟩ := h.2.1.2.2.2.2 s h1
      obtain ⟨k1, k2⟩ := (t5 h2).2.2.2 (by omega)
      rw [h3] at k1
      have := hn s h1 h4
      obtain ⟨l, l1, l2⟩ := ih _ k1 (fun x hx e => by have := k2 x hx e; omega)
      refine ⟨s :: l, ⟨h1, h2, h4, l1⟩, fun x hx => ?_⟩
      rcases List.mem_cons.mp hx with e | e
      · rw [e]; exact h3
      · exact l2 x e
theorem chl_of (h : Rd S kn κ τ ρ φ L w v) {t : Nat} (ht : t < 3) {a : Int32} (ha : Lst κ τ L t a) : ∃ l, chl κ L (w.1 18) l a ∧ (∀ x ∈ l, τ x = t) ∧ l.length ≤ S := by
  rcases ha with q | ⟨s, h1, h2, h3, h4⟩
  · exact ⟨[], q, fun x hx => absurd hx List.not_mem_nil, Nat.zero_le _⟩
  · obtain ⟨l, l1, l2⟩ := chl_ex h ht (ρ s + 1) a (Or.inr ⟨s, h1, h2, h3, h4⟩) (fun x hx e => by
      rw [← vC_inj (Rd_L h s h1).1 (Rd_L h x hx).1 (h4.symm.trans e)]
      omega)
    exact ⟨l, l1, l2, chl_len h l1⟩
theorem chl_gv {g : Nat → Int32} {l : List Nat} {a : Int32} (h : chl κ L g l a) : gv kn κ L a := by
  cases l with
  | nil => rw [show a = 2 from h]; exact gv_2
  | cons s l => exact Or.inr (Or.inr (Or.inr (Or.inr ⟨s, h.1, by rw [h.2.2.1, ptr_C h.2.1]⟩)))
theorem chl_kind {g : Nat → Int32} (hL : ∀ s ∈ L, s < 1000) {l : List Nat} {a : Int32} (h : chl κ L g l a) : (a &&& 7 = 4) = (l ≠ []) := by
  cases l with
  | nil => rw [show a = 2 from h, kd_2]; simp
  | cons s l => rw [h.2.2.1, (kd_C (hL s h.1)).1]; simp
theorem len_l (h : Rd S kn κ τ ρ φ L w v) : ∀ (l : List Nat) (i m : Nat) (a : Int32), chl κ L (w.1 18) l a → i + l.length ≤ S → l_Room_length S (m + l.length + 1) 0 a (nI i) w = some (nI (i + l.length), w) := by
  have hS := h.2.1.2.2.1
  intro l
  induction l with
  | nil =>
    intro i m a ha hi
    simp only [List.length_nil, Nat.add_zero] at hi ⊢
    rw [l_Room_length_s]
    unfold b_Room_length_4
    rw [h.1, isPair_C, show a = 2 from ha, kd_2]
    by_cases q : S ≤ i
    · rw [if_pos (q_le q (by omega))]
    · rw [if_neg (q_nle (by omega) (by omega))]
      rfl
  | cons s l ih =>
    intro i m a ha hi
    simp only [List.length_cons] at hi ⊢
    rw [show m + (l.length + 1) + 1 = (m + l.length + 1) + 1 by omega, l_Room_length_s]
    unfold b_Room_length_4
    obtain ⟨p1, p2, p3, p4⟩ := ha
    rw [h.1, isPair_C, p3, (kd_C (Rd_L h s p1).1).1, if_neg (q_nle (by omega) (by omega))]
    simp only [Option.bind_some, if_true]
    rw [if_neg (by decide), Rd_snd h p1]
    simp only [Option.bind_some]
    rw [nI_1, ih (i + 1) m _ p4 (by omega), show i + 1 + l.length = i + (l.length + 1) by omega]
theorem len_C (h : Rd S kn κ τ ρ φ L w v) {l : List Nat} {a : Int32} (ha : chl κ L (w.1 18) l a) : f_Room_length S a w = some (nI l.length, w) := by
  have hS := h.2.1.2.2.1
  have hl := chl_len h ha
  have e := len_l h l 0 (pm_fuel - (l.length + 1)) a ha (by omega)
  rw [show pm_fuel - (l.length + 1) + l.length + 1 = pm_fuel by show 100000 - (l.length + 1) + l.length + 1 = 100000; omega, nI_0, Nat.zero_add] at e
  exact e
theorem len_lM (h : Rd S kn κ τ ρ φ L w v) : ∀ (l : List Nat) (i m : Nat) (a : Int32), chl κ L (w.1 18) l a → l_Md_lengthOf (m + l.length + 1) 0 (nI i) (tr φ a) v = some (nI (i + l.length), v) := by
  intro l
  induction l with
  | nil =>
    intro i m a ha
    simp only [List.length_nil, Nat.add_zero]
    rw [l_Md_lengthOf_s]
    unfold b_Md_lengthOf_4
    rw [Rd_isP h (chl_gv ha), show a = 2 from ha, kd_2]
    rfl
  | cons s l ih =>
    intro i m a ha
    simp only [List.length_cons]
    rw [show m + (l.length + 1) + 1 = (m + l.length + 1) + 1 by omega, l_Md_lengthOf_s]
    unfold b_Md_lengthOf_4
    obtain ⟨p1, p2, p3, p4⟩ := id ha
    rw [Rd_isP h (chl_gv ha), p3, (kd_C (Rd_L h s p1).1).1]
    simp only [Option.bind_some, if_true]
    rw [if_neg (by decide), Rd_cdr h p1]
    simp only [Option.bind_some]
    rw [nI_1, ih (i + 1) m _ p4, show i + 1 + l.length = i + (l.length + 1) by omega]
theorem len_M (h : Rd S kn κ τ ρ φ L w v) {l : List Nat} {a : Int32} (ha : chl κ L (w.1 18) l a) : f_Md_lengthOf (tr φ a) v = some (nI l.length, v) := by
  have hS := h.2.1.2.2.1
  have hl := chl_len h ha
  have e := len_lM h l 0 (pm_fuel - (l.length + 1)) a ha
  rw [show pm_fuel - (l.length + 1) + l.length + 1 = pm_fuel by show 100000 - (l.length + 1) + l.length + 1 = 100000; omega, nI_0, Nat.zero_add] at e
  exact e
/-- the list's rest behind n pairs -/
theorem tail_l (h : Rd S kn κ τ ρ φ L w v) : ∀ (l : List Nat) (n i m : Nat) (a : Int32), chl κ L (w.1 18) l a → i ≤ n → n < 100000 → n ≤ i + l.length → ∃ b, l_Room_tail S (m + l.length + 1) 0 (nI n) a (nI i) w = some (b, w) ∧ chl κ L (w.1 18) (l.drop (n - i)) b := by
  intro l
  induction l with
  | nil =>
    intro n i m a ha h1 h2 h3
    simp only [List.length_nil, Nat.add_zero] at h3 ⊢
    refine ⟨a, ?_, by simpa using ha⟩
    rw [l_Room_tail_s]
    unfold b_Room_tail_5
    rw [if_pos (q_le h3 (by omega))]
  | cons s l ih =>
    intro n i m a ha h1 h2 h3
    simp only [List.length_cons] at h3 ⊢
    rw [show m + (l.length + 1) + 1 = (m + l.length + 1) + 1 by omega, l_Room_tail_s]
    unfold b_Room_tail_5
    by_cases q : n ≤ i
    · refine ⟨a, by rw [if_pos (q_le q (by omega))], ?_⟩
      rw [show n - i = 0 by omega]
      exact ha
    · obtain ⟨p1, p2, p3, p4⟩ := id ha
      obtain ⟨b, b1, b2⟩ := ih n (i + 1) m _ p4 (by omega) h2 (by omega)
      refine ⟨b, ?_, ?_⟩
      · rw [if_neg (q_nle (by omega) (by omega)), isPair_C, p3, (kd_C (Rd_L h s p1).1).1]
        simp only [Option.bind_some, if_true]
        rw [if_neg (by decide), Rd_snd h p1]
        simp only [Option.bind_some]
        rw [nI_1, b1]
      · rw [show n - i = (n - (i + 1)) + 1 by omega, List.drop_succ_cons]
        exact b2
theorem tail_C (h : Rd S kn κ τ ρ φ L w v) {l : List Nat} {n : Nat} {a : Int32} (ha : chl κ L (w.1 18) l a) (hn : n ≤ l.length) : ∃ b, f_Room_tail S a (nI n) w = some (b, w) ∧ chl κ L (w.1 18) (l.drop n) b := by
  have hS := h.2.1.2.2.1
  have hl := chl_len h ha
  obtain ⟨b, b1, b2⟩ := tail_l h l n 0 (pm_fuel - (l.length + 1)) a ha (by omega) (by omega) (by omega)
  rw [show pm_fuel - (l.length + 1) + l.length + 1 = pm_fuel by show 100000 - (l.length + 1) + l.length + 1 = 100000; omega, nI_0] at b1
  exact ⟨b, b1, b2⟩
/-- the n-th thing: first of the tail -/
theorem nth_C (h : Rd S kn κ τ ρ φ L w v) {l : List Nat} {n : Nat} {a : Int32} (ha : chl κ L (w.1 18) l a) (hn : n < l.length) : (Option.bind (f_Room_tail S a (nI n) w) fun o1 => f_Room_first S o1.1 o1.2) = some (w.1 17 l[n], w) := by
  obtain ⟨b, b1, b2⟩ := tail_C h ha (Nat.le_of_lt hn)
  rw [b1]
  simp only [Option.bind_some]
  rw [List.drop_eq_getElem_cons hn] at b2
  rw [b2.2.2.1, Rd_fst h b2.1]
theorem at_l (h : Rd S kn κ τ ρ φ L w v) : ∀ (l : List Nat) (n i m : Nat) (a : Int32), chl κ L (w.1 18) l a → i ≤ n → n < 100000 → (hn : n - i < l.length) → l_Md_at (m + l.length + 1) 0 (nI n) (tr φ a) (nI i) v = some (tr φ (w.1 17 (l[n - i])), v) := by
  intro l
  induction l with
  | nil => intro n i m a ha h1 h2 h3; exact absurd h3 (Nat.not_lt_zero _)
  | cons s l ih =>
    intro n i m a ha h1 h2 h3
    simp only [List.length_cons] at h3 ⊢
    rw [show m + (l.length + 1) + 1 = (m + l.length + 1) + 1 by omega, l_Md_at_s]
    unfold b_Md_at_5
    obtain ⟨p1, p2, p3, p4⟩ := id ha
    by_cases q : n ≤ i
    · rw [if_pos (q_le q (by omega)), p3, Rd_car h p1]
      simp only [Option.bind_some]
      have : n - i = 0 := by omega
      simp only [this, List.getElem_cons_zero]
    · rw [if_neg (q_nle (by omega) (by omega)), p3, Rd_cdr h p1]
      simp only [Option.bind_some]
      have e : n - i = (n - (i + 1)) + 1 := by omega
      rw [nI_1, ih n (i + 1) m _ p4 (by omega) h2 (by omega)]
      simp only [e, List.getElem_cons_succ]
theorem at_M (h : Rd S kn κ τ ρ φ L w v) {l : List Nat} {n : Nat} {a : Int32} (ha : chl κ L (w.1 18) l a) (hn : n < l.length) : f_Md_at (tr φ a) (nI n) v = some (tr φ (w.1 17 (l[n])), v) := by
  have hS := h.2.1.2.2.1
  have hl := chl_len h ha
  have e := at_l h l n 0 (pm_fuel - (l.length + 1)) a ha (by omega) (by omega) (by omega)
  rw [show pm_fuel - (l.length + 1) + l.length + 1 = pm_fuel by show 100000 - (l.length + 1) + l.length + 1 = 100000; omega, nI_0] at e
  exact e
/-- bindings -/
theorem bnd_l (h : Rd S kn κ τ ρ φ L w v) {y : Int32} (hy : gv kn κ L y) : ∀ (l : List Nat) (i m m2 : Nat) (a : Int32), chl κ L (w.1 18) l a → (∀ x ∈ l, τ x = 2) → i + l.length ≤ S → ∃ r, l_Room_binding S (m + l.length + 1) 0 y a (nI i) w = some (r, w) ∧ l_Md_binding (m2 + l.length + 1) 0 (tr φ y) (tr φ a) v = some (tr φ r, v) ∧ (r = 2 ∨ ∃ b, b ∈ L ∧ κ b = 2 ∧ τ b = 3 ∧ r = vC b) := by
  have hS := h.2.1.2.2.1
  intro l
  induction l with
  | nil =>
    intro i m m2 a ha ht hi
    simp only [List.length_nil, Nat.add_zero] at hi ⊢
    refine ⟨2, ?_, ?_, Or.inl rfl⟩
    · rw [l_Room_binding_s]
      unfold b_Room_binding_5
      rw [h.1, isPair_C, show a = 2 from ha, kd_2]
      by_cases q : S ≤ i
      · rw [if_pos (q_le q (by omega))]
      · rw [if_neg (q_nle (by omega) (by omega))]
        rfl
    · rw [l_Md_binding_s]
      unfold b_Md_binding_2
      rw [Rd_isP h (chl_gv ha), show a = 2 from ha, kd_2, tr_2]
      rfl
  | cons s l ih =>
    intro i m m2 a ha ht hi
    simp only [List.length_cons] at hi ⊢
    obtain ⟨p1, p2, p3, p4⟩ := id ha
    obtain ⟨b, b1, b2, b3, b4⟩ := ((h.2.1.2.2.2.2 s p1).2.2.2.2 p2).2.2.1 (ht s List.mem_cons_self)
    have hg : gv kn κ L (w.1 17 b) := (h.2.1.2.2.2.2 b b1).2.1
    rw [show m + (l.length + 1) + 1 = (m + l.length + 1) + 1 by omega, l_Room_binding_s, show m2 + (l.length + 1) + 1 = (m2 + l.length + 1) + 1 by omega, l_Md_binding_s]
    unfold b_Room_binding_5 b_Md_binding_2
    rw [h.1, isPair_C, Rd_isP h (chl_gv ha), p3, (kd_C (Rd_L h s p1).1).1, if_neg (q_nle (by omega) (by omega))]
    simp only [Option.bind_some, if_true]
    rw [if_neg (by decide), if_neg (by decide), Rd_fst h p1, Rd_car h p1]
    simp only [Option.bind_some]
    rw [b4, Rd_fst h b1, Rd_car h b1]
    simp only [Option.bind_some]
    by_cases e : w.1 17 b = y
    · refine ⟨vC b, ?_, ?_, Or.inr ⟨b, b1, b2, b3, rfl⟩⟩
      · rw [if_pos e, Rd_fst h p1, b4]
        rfl
      · rw [if_pos (by rw [e]), Rd_car h p1, b4]
        rfl
    · obtain ⟨r, r1, r2, r3⟩ := ih (i + 1) m m2 _ p4 (fun x hx => ht x (List.mem_cons_of_mem _ hx)) (by omega)
      refine ⟨r, ?_, ?_, r3⟩
      · rw [if_neg e, Rd_snd h p1]
        simp only [Option.bind_some]
        rw [nI_1, r1]
      · rw [if_neg (by rw [Rd_eq h hg hy]; exact e), Rd_cdr h p1]
        simp only [Option.bind_some]
        exact r2
theorem bnd_sim (h : Rd S kn κ τ ρ φ L w v) {y a : Int32} (hy : gv kn κ L y) (ha : Lst κ τ L 2 a) : ∃ r, f_Room_binding S y a w = some (r, w) ∧ f_Md_binding (tr φ y) (tr φ a) v = some (tr φ r, v) ∧ (r = 2 ∨ ∃ b, b ∈ L ∧ κ b = 2 ∧ τ b = 3 ∧ r = vC b) := by
  have hS := h.2.1.2.2.1
  obtain ⟨l, l1, l2, l3⟩ := chl_of h (by decide) ha
  obtain ⟨r, r1, r2, r3⟩ := bnd_l h hy l 0 (pm_fuel - (l.length + 1)) (pm_fuel - (l.length + 1)) a l1 l2 (by omega)
  rw [show pm_fuel - (l.length + 1) + l.length + 1 = pm_fuel by show 100000 - (l.length + 1) + l.length + 1 = 100000; omega] at r1 r2
  rw [nI_0] at r1
  exact ⟨r, r1, r2, r3⟩
end
