/-! one thing more, both sides at once -/
theorem vC_inj {s t : Nat} (hs : s < 1000) (ht : t < 1000) (h : vC s = vC t) : s = t := by
  have := (nI_eq (a := 8 * s + 4) (b := 8 * t + 4) (by omega) (by omega)).mp h
  omega
def nwT (kn : Nat) (κ τ ρ : Nat → Nat) (L : List Nat) (k ty r : Nat) (a b c : Int32) : Prop := (k = 3 → Lst κ τ L 0 a ∧ Fmv kn κ τ L b ∧ Lst κ τ L 2 c) ∧ (k = 2 → c = 2 ∧ (ty = 0 → Fmv kn κ τ L a) ∧ (ty = 2 → ∃ x, x ∈ L ∧ κ x = 2 ∧ τ x = 3 ∧ a = vC x) ∧ (ty < 3 → Lst κ τ L ty b ∧ ∀ t ∈ L, b = vC t → ρ t < r))
theorem Ext_al {S kn k ty t s : Nat} {κ τ φ : Nat → Nat} {L : List Nat} {w w1 : pm_W} {a b c : Int32} (hκ : k23 κ) (hkn : kn ≤ 40) (hL : ∀ x ∈ L, x < S) (hS : S ≤ 200) (hs : s ∉ L) (h17 : w1.1 17 = up1 (w.1 17) s a) (h18 : w1.1 18 = up1 (w.1 18) s b) (h19 : w1.1 19 = up1 (w.1 19) s c) : Ext kn κ τ φ L (up1 κ s k) (up1 τ s ty) (up1 φ s t) (s :: L) w w1 := by
  have ne : ∀ x ∈ L, x ≠ s := fun x hx e => hs (e ▸ hx)
  refine ⟨fun x hx => ⟨List.mem_cons_of_mem _ hx, up1_n _ _ (ne x hx), up1_n _ _ (ne x hx), up1_n _ _ (ne x hx), by rw [h17, up1_n _ _ (ne x hx)], by rw [h18, up1_n _ _ (ne x hx)], by rw [h19, up1_n _ _ (ne x hx)]⟩, fun q hq => ?_⟩
  rcases hq with h | ⟨y, h1, h2⟩ | h | ⟨y, h1, h2⟩ | ⟨y, h1, h2⟩
  · exact ⟨Or.inl h, by rw [tr_N h, tr_N h]⟩
  · exact ⟨Or.inr (Or.inl ⟨y, h1, h2⟩), by rw [h2, tr_S (by omega), tr_S (by omega)]⟩
  · exact ⟨Or.inr (Or.inr (Or.inl h)), by rw [h, tr_2, tr_2]⟩
  · exact ⟨Or.inr (Or.inr (Or.inr (Or.inl ⟨y, h1, h2⟩))), by rw [h2, tr_P (by omega), tr_P (by omega)]⟩
  · have hy := hL y h1
    refine ⟨Or.inr (Or.inr (Or.inr (Or.inr ⟨y, List.mem_cons_of_mem _ h1, ?_⟩))), ?_⟩
    · rw [h2]; unfold ptr; rw [up1_n _ _ (ne y h1)]
    · rw [h2, tr_ptr hκ (by omega), tr_ptr hκ (by omega), up1_n _ _ (ne y h1)]
theorem al_sim {S sz m kn k ty r : Nat} {κ τ ρ φ : Nat → Nat} {L : List Nat} {w v : pm_W} {a b c c' : Int32} (h : RH S sz (m + k) kn κ τ ρ φ L w v) (hk : k = 2 ∨ k = 3) (ha : gv kn κ L a) (hb : gv kn κ L b) (hn : nwT kn κ τ ρ L k ty r a b c) (hc : k = 3 → c' = tr φ c) : ∃ (s t : Nat) (w1 v1 : pm_W), s ∉ L ∧ s < S ∧ t < 206 ∧ f_Room_make S (nI (k + 2)) a b c (pm_setI w 5 10 ((w.1 5 10) + nI k)) = some (nI (8 * s + (k + 2)), w1) ∧ f_Md_make (nI k) (tr φ a) (tr φ b) c' v = some (ptrM t, v1) ∧ RH S sz m kn (up1 κ s k) (up1 τ s ty) (up1 ρ s r) (up1 φ s t) (s :: L) w1 v1 ∧ Ext kn κ τ φ L (up1 κ s k) (up1 τ s ty) (up1 φ s t) (s :: L) w w1 ∧ smA w w1 ∧ smB v v1 ∧ w1.1 17 s = a ∧ w1.1 18 s = b ∧ w1.1 19 s = c := by
  obtain ⟨hC, ⟨m0, m1, mj, m3⟩, ⟨hnd, hκ, hS, hkn, hsl⟩, mg, gt⟩ := h
  obtain ⟨s, w1, a1, a2, a3, a4, a5, h17, h18, h19⟩ := make_C hC hk a b c
  obtain ⟨t, v1, b1, b2, b3, b4, b5, b6, b7, b8⟩ := make_M (v := v) (k := nI k) (a := tr φ a) (b := tr φ b) (c := c') (by omega)
  have hL : ∀ x ∈ L, x < S := fun x hx => (hsl x hx).1
  have E : Ext kn κ τ φ L (up1 κ s k) (up1 τ s ty) (up1 φ s t) (s :: L) w w1 := Ext_al hκ hkn hL hS a1 h17 h18 h19
  have ne : ∀ x ∈ L, x ≠ s := fun x hx e => a1 (e ▸ hx)
  have net : ∀ x ∈ L, φ x ≠ t := fun x hx e => by
    have := (m1 x hx).2.1
    rw [e, b2] at this
    rcases hκ x with q | q <;> (rw [q] at this; exact absurd this (by decide))
  have hκ' : k23 (up1 κ s k) := fun x => by
    by_cases e : x = s
    · rw [e, up1_s]; exact hk
    · rw [up1_n _ _ e]; exact hκ x
  refine ⟨s, t, w1, v1, a1, a2, b1, a3, b3, ⟨a4, ⟨?_, fun x hx => ?_, fun x hx y hy e => ?_, ?_⟩, ⟨List.nodup_cons.mpr ⟨a1, hnd⟩, hκ', hS, hkn, fun x hx => ?_⟩, ?_, ?_⟩, E, a5, b4, by rw [h17, up1_s], by rw [h18, up1_s], by rw [h19, up1_s]⟩
  · rw [b4.2 0 (by decide) (by decide) (by decide) (by decide)]; exact m0
  · rw [b5, b6, b7, b8, h17, h18, h19]
    rcases List.mem_cons.mp hx with e | hx
    · subst e
      simp only [up1_s]
      exact ⟨b1, trivial, (E.2 a ha).2.symm, (E.2 b hb).2.symm, fun q => by rw [hc q]; exact ((E.2 c (Lst_gv ((hn.1 q).2.2))).2).symm⟩
    · rw [up1_n φ _ (ne x hx), up1_n κ _ (ne x hx), up1_n _ _ (net x hx), up1_n _ _ (net x hx), up1_n _ _ (net x hx), up1_n _ _ (net x hx), up1_n _ _ (ne x hx), up1_n _ _ (ne x hx), up1_n _ _ (ne x hx)]
      obtain ⟨q1, q2, q3, q4, q5⟩ := m1 x hx
      obtain ⟨t1, t2, t3, t4, t5⟩ := hsl x hx
      exact ⟨q1, q2, by rw [q3, (E.2 _ t2).2], by rw [q4, (E.2 _ t3).2], fun q => by rw [q5 q, (E.2 _ (Lst_gv (t4 q).2.2)).2]⟩
  · rcases List.mem_cons.mp hx with ex | hx <;> rcases List.mem_cons.mp hy with ey | hy
    · rw [ex, ey]
    · rw [ex, up1_s, up1_n _ _ (ne y hy)] at e
      exact absurd e.symm (net y hy)
    · rw [ey, up1_s, up1_n _ _ (ne x hx)] at e
      exact absurd e (net x hx)
    · rw [up1_n _ _ (ne x hx), up1_n _ _ (ne y hy)] at e
      exact mj x hx y hy e
  · rw [cnt_up b1 b2 b5 (by rcases hk with q | q <;> (rw [q]; decide))]
    omega
  · unfold slT
    rcases List.mem_cons.mp hx with e | hx
    · subst e
      rw [h17, h18, h19, up1_s, up1_s, up1_s, up1_s, up1_s]
      refine ⟨a2, (E.2 _ ha).1, (E.2 _ hb).1, fun q => ?_, fun q => ?_⟩
      · obtain ⟨n1, n2, n3⟩ := hn.1 q
        exact ⟨Ext_Lst E n1, Ext_Fmv E n2, Ext_Lst E n3⟩
      · obtain ⟨n1, n2, n3, n4⟩ := hn.2 q
        refine ⟨n1, fun z => Ext_Fmv E (n2 z), fun z => ?_, fun z => ⟨Ext_Lst E (n4 z).1, fun y hy e => ?_⟩⟩
        · obtain ⟨y, y1, y2, y3, y4⟩ := n3 z
          exact ⟨y, List.mem_cons_of_mem _ y1, by rw [up1_n _ _ (ne y y1), y2], by rw [up1_n _ _ (ne y y1), y3], y4⟩
        · rcases List.mem_cons.mp hy with ey | hy
          · exfalso
            rcases (n4 z).1 with r1 | ⟨u, u1, _, _, u2⟩
            · rw [ey, r1] at e
              have h4 := (kd_C (s := x) (by omega)).1
              rw [← e] at h4
              exact absurd h4 (by decide)
            · rw [ey, u2] at e
              have hu := hL u u1
              exact ne u u1 (vC_inj (by omega) (by omega) e)
          · rw [up1_n _ _ (ne y hy), up1_s]
            exact (n4 z).2 y hy e
    · obtain ⟨t1, t2, t3, t4, t5⟩ := hsl x hx
      obtain ⟨_, x2, x3, x4, x5, x6, x7⟩ := E.1 x hx
      rw [x2, x3, x5, x6, x7]
      refine ⟨t1, (E.2 _ t2).1, (E.2 _ t3).1, fun q => ?_, fun q => ?_⟩
      · obtain ⟨n1, n2, n3⟩ := t4 q
        exact ⟨Ext_Lst E n1, Ext_Fmv E n2, Ext_Lst E n3⟩
      · obtain ⟨n1, n2, n3, n4⟩ := t5 q
        refine ⟨n1, fun z => Ext_Fmv E (n2 z), fun z => ?_, fun z => ⟨Ext_Lst E (n4 z).1, fun y hy e => ?_⟩⟩
        · obtain ⟨y, y1, y2, y3, y4⟩ := n3 z
          exact ⟨y, List.mem_cons_of_mem _ y1, by rw [up1_n _ _ (ne y y1), y2], by rw [up1_n _ _ (ne y y1), y3], y4⟩
        · rcases List.mem_cons.mp hy with ey | hy
          · exfalso
            rcases (n4 z).1 with r1 | ⟨u, u1, _, _, u2⟩
            · rw [ey, r1] at e
              have h4 := (kd_C (s := s) (by omega)).1
              rw [← e] at h4
              exact absurd h4 (by decide)
            · rw [ey, u2] at e
              have hu := hL u u1
              exact ne u u1 (vC_inj (by omega) (by omega) e)
          · rw [up1_n _ _ (ne y hy), up1_n _ _ (ne x hx)]
            exact (n4 z).2 y hy e
  · refine ⟨?_, ?_, fun i hi => ?_, fun i hi hj => ?_⟩
    · rw [a5.2 3 (by decide) (by decide) (by decide) (by decide)]; exact mg.1
    · rw [b4.2 0 (by decide) (by decide) (by decide) (by decide)]; exact mg.2.1
    · rw [b4.2 11 (by decide) (by decide) (by decide) (by decide), a5.2 12 (by decide) (by decide) (by decide) (by decide), mg.2.2.1 i hi]
      rcases gt i hi with q | q
      · rw [q, tr_6, tr_6]
      · exact (E.2 _ q).2.symm
    · rw [b4.2 11 (by decide) (by decide) (by decide) (by decide)]; exact mg.2.2.2 i hi hj
  · intro i hi
    rw [a5.2 12 (by decide) (by decide) (by decide) (by decide)]
    rcases gt i hi with q | q
    · exact Or.inl q
    · exact Or.inr (E.2 _ q).1
/-- a pair -/
theorem pair_sim {S sz m kn : Nat} (ty r : Nat) {κ τ ρ φ : Nat → Nat} {L : List Nat} {w v : pm_W} {a b : Int32} (h : RH S sz (m + 2) kn κ τ ρ φ L w v) (ha : gv kn κ L a) (hb : gv kn κ L b) (hn : nwT kn κ τ ρ L 2 ty r a b 2) : ∃ (s t : Nat) (w1 v1 : pm_W), s ∉ L ∧ s < S ∧ t < 206 ∧ f_Room_pair S a b w = some (vC s, w1) ∧ f_Md_pair (tr φ a) (tr φ b) v = some (tr (up1 φ s t) (vC s), v1) ∧ RH S sz m kn (up1 κ s 2) (up1 τ s ty) (up1 ρ s r) (up1 φ s t) (s :: L) w1 v1 ∧ Ext kn κ τ φ L (up1 κ s 2) (up1 τ s ty) (up1 φ s t) (s :: L) w w1 ∧ smA w w1 ∧ smB v v1 ∧ w1.1 17 s = a ∧ w1.1 18 s = b := by
  obtain ⟨s, t, w1, v1, a1, a2, a3, a4, a5, a6, a7, a8, a9, a10, a11, a12⟩ := al_sim (c' := 536870912) h (Or.inl rfl) ha hb hn (fun q => absurd q (by decide))
  have hS := a6.2.2.1.2.2.1
  refine ⟨s, t, w1, v1, a1, a2, a3, ?_, ?_, a6, a7, a8, a9, a10, a11⟩
  · unfold f_Room_pair
    rw [show f_Room_make S 4 a b 2 (pm_setI w 5 10 (w.1 5 10 + 2)) = some (nI (8 * s + (2 + 2)), w1) from a4]
    rfl
  · unfold f_Md_pair
    rw [show f_Md_make 2 (tr φ a) (tr φ b) 536870912 v = some (ptrM t, v1) from a5]
    rw [tr_C (by omega), up1_s]
    rfl
/-- a closure -/
theorem clo_sim {S sz m kn : Nat} {κ τ ρ φ : Nat → Nat} {L : List Nat} {w v : pm_W} {a b c : Int32} (h : RH S sz (m + 3) kn κ τ ρ φ L w v) (ha : Lst κ τ L 0 a) (hb : Fmv kn κ τ L b) (hc : Lst κ τ L 2 c) : ∃ (s t : Nat) (w1 v1 : pm_W), s ∉ L ∧ s < S ∧ t < 206 ∧ f_Room_closure S a b c w = some (vK s, w1) ∧ f_Md_make 3 (tr φ a) (tr φ b) (tr φ c) v = some (tr (up1 φ s t) (vK s), v1) ∧ RH S sz m kn (up1 κ s 3) (up1 τ s 4) (up1 ρ s 0) (up1 φ s t) (s :: L) w1 v1 ∧ Ext kn κ τ φ L (up1 κ s 3) (up1 τ s 4) (up1 φ s t) (s :: L) w w1 ∧ smA w w1 ∧ smB v v1 := by
  obtain ⟨s, t, w1, v1, a1, a2, a3, a4, a5, a6, a7, a8, a9, a10, a11, a12⟩ := al_sim (ty := 4) (r := 0) (c' := tr φ c) h (Or.inr rfl) (Lst_gv ha) (Fmv_gv hb) ⟨fun _ => ⟨ha, hb, hc⟩, fun q => absurd q (by decide)⟩ (fun _ => rfl)
  have hS := a6.2.2.1.2.2.1
  refine ⟨s, t, w1, v1, a1, a2, a3, ?_, ?_, a6, a7, a8, a9⟩
  · unfold f_Room_closure
    rw [show f_Room_make S 5 a b c (pm_setI w 5 10 (w.1 5 10 + 3)) = some (nI (8 * s + (3 + 2)), w1) from a4]
    rfl
  · rw [show f_Md_make 3 (tr φ a) (tr φ b) (tr φ c) v = some (ptrM t, v1) from a5, tr_K (by omega), up1_s]
