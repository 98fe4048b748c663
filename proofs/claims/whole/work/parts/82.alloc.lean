/-! one thing more: pair and closure on both sides -/
def RH (S sz m kn : Nat) (κ τ ρ φ : Nat → Nat) (L : List Nat) (w v : pm_W) : Prop := CH S sz m κ L w ∧ MH sz m φ κ L w v ∧ HT S kn κ τ ρ L w ∧ MGl φ kn w v ∧ GTy kn κ L w
theorem RL_RH {S sz m kn dn : Nat} {κ τ ρ φ : Nat → Nat} {L : List Nat} {w v : pm_W} (h : RL S sz m kn dn κ τ ρ φ L w v) : RH S sz m kn κ τ ρ φ L w v := ⟨h.1, h.2.1, h.2.2.1, h.2.2.2.2.2⟩
def smA (w w1 : pm_W) : Prop := w1.2 = w.2 ∧ ∀ o, o ≠ 5 → o ≠ 17 → o ≠ 18 → o ≠ 19 → w1.1 o = w.1 o
def smB (v v1 : pm_W) : Prop := v1.2 = v.2 ∧ ∀ o, o ≠ 1 → o ≠ 2 → o ≠ 3 → o ≠ 4 → v1.1 o = v.1 o
theorem smA_rf {w : pm_W} : smA w w := ⟨rfl, fun _ _ _ _ _ => rfl⟩
theorem smB_rf {w : pm_W} : smB w w := ⟨rfl, fun _ _ _ _ _ => rfl⟩
theorem smA_tr {a b c : pm_W} (h1 : smA a b) (h2 : smA b c) : smA a c := ⟨h2.1.trans h1.1, fun o x y z u => (h2.2 o x y z u).trans (h1.2 o x y z u)⟩
theorem smB_tr {a b c : pm_W} (h1 : smB a b) (h2 : smB b c) : smB a c := ⟨h2.1.trans h1.1, fun o x y z u => (h2.2 o x y z u).trans (h1.2 o x y z u)⟩
/-- what was good stays so -/
def Ext (kn : Nat) (κ τ φ : Nat → Nat) (L : List Nat) (κ' τ' φ' : Nat → Nat) (L' : List Nat) (w w1 : pm_W) : Prop := (∀ s ∈ L, s ∈ L' ∧ κ' s = κ s ∧ τ' s = τ s ∧ φ' s = φ s ∧ w1.1 17 s = w.1 17 s ∧ w1.1 18 s = w.1 18 s ∧ w1.1 19 s = w.1 19 s) ∧ (∀ a, gv kn κ L a → gv kn κ' L' a ∧ tr φ' a = tr φ a)
theorem Ext_rf {kn : Nat} {κ τ φ : Nat → Nat} {L : List Nat} {w : pm_W} : Ext kn κ τ φ L κ τ φ L w w := ⟨fun _ h => ⟨h, rfl, rfl, rfl, rfl, rfl, rfl⟩, fun _ h => ⟨h, rfl⟩⟩
theorem Ext_tr {kn : Nat} {κ τ φ κ1 τ1 φ1 κ2 τ2 φ2 : Nat → Nat} {L L1 L2 : List Nat} {w w1 w2 : pm_W} (h1 : Ext kn κ τ φ L κ1 τ1 φ1 L1 w w1) (h2 : Ext kn κ1 τ1 φ1 L1 κ2 τ2 φ2 L2 w1 w2) : Ext kn κ τ φ L κ2 τ2 φ2 L2 w w2 := ⟨fun s h => by
  obtain ⟨a0, a1, a2, a3, a4, a5, a6⟩ := h1.1 s h
  obtain ⟨b0, b1, b2, b3, b4, b5, b6⟩ := h2.1 s a0
  exact ⟨b0, b1.trans a1, b2.trans a2, b3.trans a3, b4.trans a4, b5.trans a5, b6.trans a6⟩, fun a h => ⟨(h2.2 a (h1.2 a h).1).1, ((h2.2 a (h1.2 a h).1).2).trans (h1.2 a h).2⟩⟩
theorem Ext_Lst {kn : Nat} {κ τ φ κ' τ' φ' : Nat → Nat} {L L' : List Nat} {w w1 : pm_W} (h : Ext kn κ τ φ L κ' τ' φ' L' w w1) {t : Nat} {a : Int32} (ha : Lst κ τ L t a) : Lst κ' τ' L' t a := by
  rcases ha with ha | ⟨s, h1, h2, h3, h4⟩
  · exact Or.inl ha
  · obtain ⟨q0, q1, q2, _⟩ := h.1 s h1
    exact Or.inr ⟨s, q0, by rw [q1, h2], by rw [q2, h3], h4⟩
theorem Ext_Fmv {kn : Nat} {κ τ φ κ' τ' φ' : Nat → Nat} {L L' : List Nat} {w w1 : pm_W} (h : Ext kn κ τ φ L κ' τ' φ' L' w w1) {a : Int32} (ha : Fmv kn κ τ L a) : Fmv kn κ' τ' L' a := by
  rcases ha with ha | ha | ha
  · exact Or.inl ha
  · exact Or.inr (Or.inl ha)
  · exact Or.inr (Or.inr (Ext_Lst h ha))
theorem Ext_frT {kn : Nat} {κ τ φ κ' τ' φ' : Nat → Nat} {L L' : List Nat} {w w1 : pm_W} (h : Ext kn κ τ φ L κ' τ' φ' L' w w1) {k a b c : Int32} (ha : frT kn κ τ L k a b c) : frT kn κ' τ' L' k a b c := by
  obtain ⟨h1, h2, h3⟩ := ha
  refine ⟨Ext_Lst h h1, Ext_Lst h h2, ?_⟩
  rcases h3 with ⟨q, s, h4, h5, h6, h7⟩ | h3 | ⟨q, h3⟩
  · obtain ⟨q0, q1, q2, _⟩ := h.1 s h4
    exact Or.inl ⟨q, s, q0, by rw [q1, h5], by rw [q2, h6], h7⟩
  · exact Or.inr (Or.inl h3)
  · exact Or.inr (Or.inr ⟨q, Ext_Lst h h3⟩)
theorem frT_gv {kn : Nat} {κ τ : Nat → Nat} {L : List Nat} {k a b c : Int32} (h : frT kn κ τ L k a b c) : gv kn κ L a ∧ gv kn κ L b ∧ gv kn κ L c := by
  obtain ⟨h1, h2, h3⟩ := h
  refine ⟨?_, Lst_gv h1, Lst_gv h2⟩
  rcases h3 with ⟨q, s, h4, h5, h6, h7⟩ | ⟨_, y, a1, a2⟩ | ⟨q, h3⟩
  · exact Or.inr (Or.inr (Or.inr (Or.inr ⟨s, h4, by rw [h7, ptr_C h5]⟩)))
  · exact Or.inr (Or.inl ⟨y, a1, a2⟩)
  · exact Lst_gv h3
/-- the class makes a thing -/
theorem make_C {S sz m k : Nat} {κ : Nat → Nat} {L : List Nat} {w : pm_W} (h : CH S sz (m + k) κ L w) (hk : k = 2 ∨ k = 3) (a b c : Int32) : ∃ (s : Nat) (w1 : pm_W), s ∉ L ∧ s < S ∧ f_Room_make S (nI (k + 2)) a b c (pm_setI w 5 10 ((w.1 5 10) + nI k)) = some (nI (8 * s + (k + 2)), w1) ∧ CH S sz m (up1 κ s k) (s :: L) w1 ∧ smA w w1 ∧ w1.1 17 = up1 (w.1 17) s a ∧ w1.1 18 = up1 (w.1 18) s b ∧ w1.1 19 = up1 (w.1 19) s c := by
  obtain ⟨⟨c0, c1, c1'⟩, c2, c3, c4, un, F, c5, c6, c7, c8, c9, c10, c11, c12⟩ := h
  have hF : F.length ≠ 0 := by omega
  obtain ⟨s, T, rfl⟩ : ∃ (s : Nat) (T : List Nat), F = T ++ [s] := by
    rcases List.eq_nil_or_concat F with q | ⟨T, s, q⟩
    · rw [q] at hF; exact absurd rfl hF
    · exact ⟨s, T, by rw [q, List.concat_eq_append]⟩
  have hs := c9 s (by simp)
  have hlen : (T ++ [s]).length = T.length + 1 := by simp
  have hTl : T.length < S := by
    have := nd_len S (T ++ [s]) c8 (fun x hx => (c9 x hx).1)
    omega
  have h22 : w.1 22 T.length = nI s := by
    have := c7 T.length (by simp)
    simpa using this
  have hnd := List.nodup_append.mp c8
  have hsT : s ∉ T := fun q => hnd.2.2 s q s (by simp) rfl
  have hls : lsum (up1 κ s k) (s :: L) = k + lsum κ L := by
    have e1 : lsum (up1 κ s k) (s :: L) = up1 κ s k s + lsum (up1 κ s k) L := by simp [lsum]
    have e2 : lsum (up1 κ s k) L = lsum κ L := by
      unfold lsum
      congr 1
      exact List.map_congr_left (fun x hx => up1_n κ k (fun e => hs.2 (e ▸ hx)))
    rw [e1, e2, up1_s]
  refine ⟨s, pm_setI (pm_setI (pm_setI (pm_setI (pm_setI w 5 10 (nI un + nI k)) 5 9 (nI T.length)) 17 s a) 18 s b) 19 s c, hs.2, hs.1, ?_, ⟨⟨c0, c1, c1'⟩, ?_, ?_, fun x hx => ?_, un + k, T, ?_, ?_, fun j hj => ?_, hnd.1, fun x hx => ⟨(c9 x (by simp [hx])).1, fun q => ?_⟩, by omega, by omega, by omega⟩, ⟨rfl, fun o o1 o2 o3 o4 => ?_⟩, ?_, ?_, ?_⟩
  · unfold f_Room_make
    have r1 : (pm_setI w 5 10 (w.1 5 10 + nI k)).1 5 9 = nI (T.length + 1) := by rw [rdI_n _ (Or.inr (by decide)), c6, hlen]
    have r2 : (pm_setI w 5 10 (w.1 5 10 + nI k)).1 5 1 = nI S := by rw [rdI_n _ (Or.inr (by decide)), c3]
    have r3 : (pm_setI w 5 10 (w.1 5 10 + nI k)).1 22 = w.1 22 := rdI_o _ (by decide)
    have r4 : nI (T.length + 1) - 1 = nI T.length := by
      rw [← nI_1, Int32.add_sub_cancel]
    rw [r1, r2, r3, r4, nI_clamp (by omega), h22, nI_clamp (by omega)]
    rw [if_neg (show ¬ nI (T.length + 1) < 1 from q_nlt (b := 1) (by omega) (by omega)), if_pos (q_le (by omega) (by omega)), if_neg (ixc hTl (by omega)), if_neg (nI_pos (by omega)), if_pos (q_lt hs.1 (by omega)), if_neg (ixc hs.1 (by omega)), if_neg (ixc hs.1 (by omega)), if_neg (ixc hs.1 (by omega)), shl3_or (by omega) (by omega), c5]
  · simp [pm_setI, pm_up, c2]
  · simp [pm_setI, pm_up, c3]
  · have := c4 x hx
    simp [pm_setI, pm_up, this]
  · simp [pm_setI, pm_up, nI_add]
  · simp [pm_setI, pm_up]
  · have := c7 j (by omega)
    rw [List.getElem_append_left hj] at this
    simp [pm_setI, pm_up, this]
  · rcases List.mem_cons.mp q with r | r
    · exact hsT (r ▸ hx)
    · exact (c9 x (by simp [hx])).2 r
  · rw [rdI_o _ o4, rdI_o _ o3, rdI_o _ o2, rdI_o _ o1, rdI_o _ o1]
  · funext x; simp [pm_setI, pm_up, up1]
  · funext x; simp [pm_setI, pm_up, up1]
  · funext x; simp [pm_setI, pm_up, up1]
theorem make_l {v : pm_W} {k a b c : Int32} : ∀ (d i m : Nat), (∃ t, i ≤ t ∧ t < i + d ∧ v.1 1 t = 0) → i + d ≤ 206 → ∃ t, t < 206 ∧ v.1 1 t = 0 ∧ l_Md_make (m + d) 0 k a b c (nI i) v = some (ptrM t, pm_setI (pm_setI (pm_setI (pm_setI v 1 t k) 2 t a) 3 t b) 4 t c) := by
  intro d
  induction d with
  | zero => rintro i m ⟨t, h1, h2, _⟩ _; omega
  | succ d ih =>
    intro i m ⟨t, h1, h2, h3⟩ hi
    rw [show m + (d + 1) = (m + d) + 1 by omega, l_Md_make_s]
    unfold b_Md_make_3
    rw [if_neg (nI_in (N := 206) (by omega) (by omega)), nI_clamp (by omega)]
    by_cases e : v.1 1 i = 0
    · refine ⟨i, by omega, e, ?_⟩
      rw [if_pos e, if_neg (ixc (by omega) (by omega)), if_neg (ixc (by omega) (by omega)), if_neg (ixc (by omega) (by omega)), if_neg (ixc (by omega) (by omega))]
      unfold ptrM
      rw [← nI_add]
      rfl
    · rw [if_neg e, nI_1]
      exact ih (i + 1) m ⟨t, by rcases Nat.eq_or_lt_of_le h1 with q | q; · exact absurd (q ▸ h3) e
                                · omega, by omega, h3⟩ (by omega)
theorem cnt_free {v : pm_W} (h : cnt v < 206) : ∃ t, 0 ≤ t ∧ t < 0 + 206 ∧ v.1 1 t = 0 := by
  apply Classical.byContradiction
  intro q
  have : cnt v = sumTo (fun _ => 1) 206 := by
    unfold cnt
    refine sumTo_cg 206 (fun t ht => ?_)
    rw [if_neg (fun e => q ⟨t, by omega, by omega, e⟩)]
  rw [this] at h
  exact absurd h (by decide +kernel)
theorem cnt_up {v : pm_W} {t : Nat} (ht : t < 206) (h0 : v.1 1 t = 0) {v1 : pm_W} {x : Int32} (h1 : v1.1 1 = up1 (v.1 1) t x) (hx : x ≠ 0) : cnt v1 = cnt v + 1 := by
  unfold cnt
  refine sumTo_ins (t0 := t) (x := 1) 206 ht (fun u _ hu => ?_) ?_ ?_
  · rw [h1, up1_n _ _ hu]
  · rw [if_pos h0]
  · rw [h1, up1_s, if_neg hx]
theorem make_M {v : pm_W} {k a b c : Int32} (h : cnt v < 206) : ∃ (t : Nat) (v1 : pm_W), t < 206 ∧ v.1 1 t = 0 ∧ f_Md_make k a b c v = some (ptrM t, v1) ∧ smB v v1 ∧ v1.1 1 = up1 (v.1 1) t k ∧ v1.1 2 = up1 (v.1 2) t a ∧ v1.1 3 = up1 (v.1 3) t b ∧ v1.1 4 = up1 (v.1 4) t c := by
  obtain ⟨t, h1, h2, h3⟩ := make_l (v := v) (k := k) (a := a) (b := b) (c := c) 206 0 (pm_fuel - 206) (cnt_free h) (by omega)
  rw [show pm_fuel - 206 + 206 = pm_fuel by show 100000 - 206 + 206 = 100000; omega, nI_0] at h3
  refine ⟨t, _, h1, h2, h3, ⟨rfl, fun o o1 o2 o3 o4 => ?_⟩, ?_, ?_, ?_, ?_⟩
  · rw [rdI_o _ o4, rdI_o _ o3, rdI_o _ o2, rdI_o _ o1]
  · funext x; simp [pm_setI, pm_up, up1]
  · funext x; simp [pm_setI, pm_up, up1]
  · funext x; simp [pm_setI, pm_up, up1]
  · funext x; simp [pm_setI, pm_up, up1]
