/-! reading: the form is laid into the room -/
def lvl (κ τ φ : Nat → Nat) (L : List Nat) (w v : pm_W) : List Bool → Prop
  | [] => True
  | b :: r => (w.1 25 (r.length + 1) = b2 b ∧ v.1 16 r.length = b2 b ∧ v.1 14 (r.length + 1) = tr φ (w.1 23 (r.length + 1)) ∧ Lst κ τ L 0 (w.1 23 (r.length + 1)) ∧ (w.1 23 (r.length + 1) ≠ 2 → v.1 15 (r.length + 1) = tr φ (w.1 24 (r.length + 1)) ∧ ∃ s, s ∈ L ∧ κ s = 2 ∧ τ s = 0 ∧ w.1 24 (r.length + 1) = vC s)) ∧ lvl κ τ φ L w v r
section
variable {S sz m kn : Nat} {κ τ ρ φ κ' τ' φ' : Nat → Nat} {L L' : List Nat} {w v w1 v1 : pm_W}
theorem lvl_ext (E : Ext kn κ τ φ L κ' τ' φ' L' w w1) : ∀ (qs : List Bool), lvl κ τ φ L w v qs → (∀ j, j ≤ qs.length → w1.1 23 j = w.1 23 j ∧ w1.1 24 j = w.1 24 j ∧ w1.1 25 j = w.1 25 j ∧ v1.1 14 j = v.1 14 j ∧ v1.1 15 j = v.1 15 j ∧ (j < qs.length → v1.1 16 j = v.1 16 j)) → lvl κ' τ' φ' L' w1 v1 qs := by
  intro qs
  induction qs with
  | nil => intro _ _; trivial
  | cons b r ih =>
    intro h hj
    obtain ⟨⟨h1, h2, h3, h4, h5⟩, h6⟩ := h
    obtain ⟨a1, a2, a3, a4, a5, _⟩ := hj (r.length + 1) (by simp)
    have a6 := (hj r.length (by simp)).2.2.2.2.2 (by simp)
    refine ⟨⟨by rw [a3]; exact h1, by rw [a6]; exact h2, by rw [a4, a1, h3, (E.2 _ (Lst_gv h4)).2], by rw [a1]; exact Ext_Lst E h4, fun z => ?_⟩, ih h6 (fun j hh => ?_)⟩
    · rw [a1] at z
      obtain ⟨g1, s, g2, g3, g4, g5⟩ := h5 z
      obtain ⟨e0, e1, e2, _⟩ := E.1 s g2
      refine ⟨?_, s, e0, by rw [e1, g3], by rw [e2, g4], by rw [a2, g5]⟩
      rw [a5, a2, g1, g5, (E.2 (vC s) (gv_Cm g2 g3)).2]
    · obtain ⟨b1, b2, b3, b4, b5, b6⟩ := hj j (by simp only [List.length_cons]; omega)
      exact ⟨b1, b2, b3, b4, b5, fun _ => b6 (by simp only [List.length_cons]; omega)⟩
theorem lvl_cg {qs : List Bool} (h : lvl κ τ φ L w v qs) (hj : ∀ j, j ≤ qs.length → w1.1 23 j = w.1 23 j ∧ w1.1 24 j = w.1 24 j ∧ w1.1 25 j = w.1 25 j ∧ v1.1 14 j = v.1 14 j ∧ v1.1 15 j = v.1 15 j ∧ (j < qs.length → v1.1 16 j = v.1 16 j)) : lvl κ τ φ L w1 v1 qs := by
  revert hj
  induction qs with
  | nil => intro _; trivial
  | cons b r ih =>
    intro hj
    obtain ⟨⟨h1, h2, h3, h4, h5⟩, h6⟩ := h
    obtain ⟨a1, a2, a3, a4, a5, _⟩ := hj (r.length + 1) (by simp)
    have a6 := (hj r.length (by simp)).2.2.2.2.2 (by simp)
    refine ⟨⟨by rw [a3]; exact h1, by rw [a6]; exact h2, by rw [a4, a1, h3], by rw [a1]; exact h4, fun z => ?_⟩, ih h6 (fun j hh => ?_)⟩
    · rw [a1] at z
      rw [a5, a2]
      exact h5 z
    · obtain ⟨b1, b2, b3, b4, b5, b6⟩ := hj j (by simp only [List.length_cons]; omega)
      exact ⟨b1, b2, b3, b4, b5, fun _ => b6 (by simp only [List.length_cons]; omega)⟩
theorem RH_up (h : RH S sz m kn κ τ ρ φ L w v) : RH S sz m kn κ τ (fun i => ρ i + 1) φ L w v := by
  obtain ⟨hC, hM, ⟨t1, t2, t3, t4, t5⟩, hG⟩ := h
  refine ⟨hC, hM, ⟨t1, t2, t3, t4, fun s hs => ?_⟩, hG⟩
  obtain ⟨u1, u2, u3, u4, u5⟩ := t5 s hs
  refine ⟨u1, u2, u3, u4, fun q => ?_⟩
  obtain ⟨x1, x2, x3, x4⟩ := u5 q
  exact ⟨x1, x2, x3, fun r => ⟨(x4 r).1, fun t ht e => Nat.succ_lt_succ ((x4 r).2 t ht e)⟩⟩
theorem setS_sim (h : RH S sz m kn κ τ ρ φ L w v) {s t : Nat} (hs : s ∈ L) (hk : κ s = 2) (ht0 : τ s = 0) (ht : t ∈ L) (htk : κ t = 2) (htt : τ t = 0) (hr : ρ t < ρ s) : RH S sz m kn κ τ ρ φ L (pm_setI w 18 s (vC t)) (pm_setI v 3 (φ s) (tr φ (vC t))) := by
  have R := RH_Rd h
  obtain ⟨hC, hM, hT, hG, hZ⟩ := h
  refine ⟨?_, ?_, ?_, ?_, ?_⟩
  · simpa [CH, pm_setI, pm_up] using hC
  · obtain ⟨m0, m1, m2, m3⟩ := hM
    refine ⟨by simpa [pm_setI, pm_up] using m0, fun x hx => ?_, m2, by simpa [cnt, pm_setI, pm_up] using m3⟩
    have q := m1 x hx
    by_cases e : x = s
    · subst e
      simpa [pm_setI, pm_up] using ⟨q.1, q.2.1, q.2.2.1, q.2.2.2.2⟩
    · have e2 : φ x ≠ φ s := fun r => e (m2 x hx s hs r)
      simpa [pm_setI, pm_up, e, e2] using q
  · refine ⟨hT.1, hT.2.1, hT.2.2.1, hT.2.2.2.1, fun x hx => ?_⟩
    obtain ⟨t1, t2, t3, t4, t5⟩ := hT.2.2.2.2 x hx
    by_cases e : x = s
    · subst e
      have g := gv_Cm (kn := kn) ht htk
      have f1 : (pm_setI w 18 x (vC t)).1 17 x = w.1 17 x := by rw [rdI_n _ (Or.inl (by decide))]
      have f2 : (pm_setI w 18 x (vC t)).1 18 x = vC t := rdI_s _ _ _ _
      have f3 : (pm_setI w 18 x (vC t)).1 19 x = w.1 19 x := by rw [rdI_n _ (Or.inl (by decide))]
      unfold slT
      rw [f1, f2, f3]
      refine ⟨t1, t2, g, fun q => ?_, fun q => ⟨(t5 q).1, (t5 q).2.1, (t5 q).2.2.1, fun r => ⟨?_, fun y hy e => ?_⟩⟩⟩
      · rw [hk] at q; exact absurd q (by decide)
      · rw [ht0]; exact Or.inr ⟨t, ht, htk, htt, rfl⟩
      · rw [← vC_inj (Rd_L R t ht).1 (Rd_L R y hy).1 e]; exact hr
    · have : slT S kn κ τ ρ L w x := ⟨t1, t2, t3, t4, t5⟩
      simpa [slT, pm_setI, pm_up, e] using this
  · simpa [MGl, pm_setI, pm_up] using hG
  · simpa [GTy, pm_setI, pm_up] using hZ
theorem nwT_0 {a b : Int32} {r : Nat} (ha : Fmv kn κ τ L a) (hb : Lst κ τ L 0 b) (hr : ∀ t ∈ L, b = vC t → ρ t < r) : nwT kn κ τ ρ L 2 0 r a b 2 := ⟨fun q => absurd q (by decide), fun _ => ⟨rfl, fun _ => ha, fun q => absurd q (by decide), fun _ => ⟨hb, hr⟩⟩⟩
theorem nar_b (q : Bool) : vp_nar .boolean (b2 q) = b2 q := by cases q <;> decide +kernel
/-- frames of reading -/
def frB (w w1 : pm_W) : Prop := smC w w1 [5, 7, 17, 18, 19, 23, 24, 25] ∧ w1.1 7 3 = w.1 7 3
def frD (v v1 : pm_W) : Prop := smM v v1 [15] [1, 2, 3, 4, 14, 15, 16]
theorem frB_rf {w : pm_W} : frB w w := ⟨smC_rf, rfl⟩
theorem frD_rf {w : pm_W} : frD w w := smM_rf
theorem frB_tr {a b c : pm_W} (h1 : frB a b) (h2 : frB b c) : frB a c := ⟨smC_tr h1.1 h2.1, h2.2.trans h1.2⟩
theorem frD_tr {a b c : pm_W} (h1 : frD a b) (h2 : frD b c) : frD a c := smM_tr h1 h2
theorem smA_frB {w w1 : pm_W} (h : smA w w1) : frB w w1 := ⟨⟨h.1, fun o ho => h.2 o (fun z => ho (by simp [z])) (fun z => ho (by simp [z])) (fun z => ho (by simp [z])) (fun z => ho (by simp [z]))⟩, by rw [h.2 7 (by decide) (by decide) (by decide) (by decide)]⟩
theorem smB_frD {v v1 : pm_W} (h : smB v v1) : frD v v1 := ⟨h.1, fun k _ => by rw [h.2 0 (by decide) (by decide) (by decide) (by decide)], fun o _ ho => h.2 o (fun z => ho (by simp [z])) (fun z => ho (by simp [z])) (fun z => ho (by simp [z])) (fun z => ho (by simp [z]))⟩
theorem frB_s {w w1 : pm_W} {o k : Nat} {x : Int32} (h : frB w w1) (ho : o ∈ [5, 17, 18, 19, 23, 24, 25]) : frB w (pm_setI w1 o k x) := by
  have h7 : (7 : Nat) ≠ o := fun z => by subst z; revert ho; decide
  refine ⟨smC_set h.1 (by simp at ho ⊢; omega), ?_⟩
  rw [rdI_n _ (Or.inl h7)]
  exact h.2
theorem frB_7 {w w1 : pm_W} {x : Int32} (h : frB w w1) : frB w (pm_setI w1 7 5 x) := ⟨smC_set h.1 (by decide), by rw [rdI_n _ (Or.inr (by decide))]; exact h.2⟩
theorem frD_s {v v1 : pm_W} {o k : Nat} {x : Int32} (h : frD v v1) (h0 : o ≠ 0) (ho : o ∈ [1, 2, 3, 4, 14, 15, 16]) : frD v (pm_setI v1 o k x) := smM_a h h0 ho
/-- what a placing gives -/
def PLo (S sz m kn : Nat) (w v : pm_W) (o : Nat) (qs : List Bool) (rc rm : Option pm_W) : Prop := ∃ (κ τ ρ φ : Nat → Nat) (L : List Nat) (w1 v1 : pm_W), rc = some w1 ∧ rm = some v1 ∧ RH S sz m kn κ τ ρ φ L w1 v1 ∧ lvl κ τ φ L w1 v1 qs ∧ v1.1 16 o = 0 ∧ v1.1 0 15 = tr φ (w1.1 7 5) ∧ Fmv kn κ τ L (w1.1 7 5) ∧ frB w w1 ∧ frD v v1
theorem PLo_fr {w0 v0 : pm_W} {o : Nat} {qs : List Bool} {rc rm : Option pm_W} (h : PLo S sz m kn w v o qs rc rm) (h1 : frB w0 w) (h2 : frD v0 v) : PLo S sz m kn w0 v0 o qs rc rm := by
  obtain ⟨κ, τ, ρ, φ, L, w1, v1, a1, a2, a3, a4, a5, a6, a7, a8, a9⟩ := h
  exact ⟨κ, τ, ρ, φ, L, w1, v1, a1, a2, a3, a4, a5, a6, a7, frB_tr h1 a8, frD_tr h2 a9⟩
/-- a thing comes to its place -/
theorem place_2 {qs : List Bool} {a : Int32} (h : RH S sz (m + if 0 < qs.length then 2 else 0) kn κ τ ρ φ L w v) (hq : qs.length ≤ 10) (ha : Fmv kn κ τ L a) (hl : lvl κ τ φ L w v qs) (hf : v.1 0 15 = tr φ (w.1 7 5)) (hff : Fmv kn κ τ L (w.1 7 5)) : PLo S sz m kn w v qs.length qs (b_Reader_place_31 S (nI qs.length) a w) (b_Md_arrived_26 (nI qs.length) (tr φ a) v) := by
  have hin : ¬ (nI qs.length < 0 ∨ 12 ≤ (nI qs.length).toNatClampNeg) := nI_in (by omega) (by omega)
  have hin11 : ¬ (nI qs.length < 0 ∨ 11 ≤ (nI qs.length).toNatClampNeg) := nI_in (by omega) (by omega)
  unfold b_Reader_place_31 b_Md_arrived_26
  rw [if_neg hin, show vp_nar .boolean (0 : Int32) = 0 from nar_b false]
  cases qs with
  | nil =>
    rw [if_pos (show nI ([] : List Bool).length < 1 by decide), if_pos (show nI ([] : List Bool).length = 0 from rfl)]
    refine ⟨κ, τ, ρ, φ, L, _, _, rfl, rfl, RH_st h (by omega) (ag_set ag_rf (by decide)) (ag_set (ag_set ag_rf (by decide)) (by decide)) (agF_set (agF_o agF_rf (by decide)) (by decide)), trivial, ?_, ?_, ?_, frB_7 frB_rf, ?_⟩
    · rw [rdI_n _ (Or.inl (by decide)), show (nI ([] : List Bool).length).toNatClampNeg = 0 from rfl]
      exact rdI_s _ _ _ _
    · rw [rdI_s, rdI_s]
    · rw [rdI_s]; exact ha
    · exact smM_f (smM_a smM_rf (by decide) (by decide)) (by decide)
  | cons b r =>
    have ho : (b :: r).length = r.length + 1 := rfl
    rw [ho] at hin hin11 hq h ⊢
    rw [if_neg (show ¬ nI (r.length + 1) < 1 from q_nlt (b := 1) (by omega) (by omega)), if_pos (show nI (r.length + 1) ≤ 10 from q_le (b := 10) (by omega) (by omega)), if_neg (show ¬ nI (r.length + 1) = 0 from nI_ne0 (by omega) (by omega))]
    rw [if_pos (show 0 < r.length + 1 by omega)] at h
    -- the quote's mark goes
    have hv0 : frD v (pm_setI v 16 (nI (r.length + 1)).toNatClampNeg 0) := frD_s frD_rf (by decide) (by decide)
    have h0 : RH S sz (m + 2) kn κ τ (fun i => ρ i + 1) φ L w (pm_setI v 16 (nI (r.length + 1)).toNatClampNeg 0) := RH_up (RH_st h (Nat.le_refl _) ag_rf (ag_set ag_rf (by decide)) (agF_o agF_rf (by decide)))
    obtain ⟨s, t, w1, v1, x1, x2, x3, x4, x5, x6, x7, x8, x9, x10, x11⟩ := pair_sim (m := m) 0 0 h0 (Fmv_gv ha) gv_2 (nwT_0 ha (Or.inl rfl) (fun t ht e => absurd e.symm (vC_ne2 (Rd_L (RH_Rd h) t ht).1)))
    rw [x4, show (536870912 : Int32) = tr φ 2 from tr_2.symm, x5]
    simp only [Option.bind_some]
    have R1 := RH_Rd x6
    have hc : nI (r.length + 1) = nI (r.length + 1) := rfl
    obtain ⟨⟨h1, h2, h3, h4, h5⟩, h6⟩ := hl
    have hw1 : frB w w1 := smA_frB x8
    have hv1 : frD v v1 := frD_tr hv0 (smB_frD x9)
    have W : ∀ o, o ≠ 5 → o ≠ 17 → o ≠ 18 → o ≠ 19 → w1.1 o = w.1 o := x8.2
    have V : ∀ o, o ≠ 1 → o ≠ 2 → o ≠ 3 → o ≠ 4 → v1.1 o = (pm_setI v 16 (nI (r.length + 1)).toNatClampNeg 0).1 o := x9.2
    have hcl : (nI (r.length + 1)).toNatClampNeg = r.length + 1 := nI_clamp (by omega)
    rw [hcl] at V hin hin11
    have v14 : v1.1 14 = v.1 14 := by rw [V 14 (by decide) (by decide) (by decide) (by decide), rdI_o _ (by decide)]
    have v15 : v1.1 15 = v.1 15 := by rw [V 15 (by decide) (by decide) (by decide) (by decide), rdI_o _ (by decide)]
    have v16 : ∀ j, v1.1 16 j = if j = r.length + 1 then 0 else v.1 16 j := fun j => by
      rw [V 16 (by decide) (by decide) (by decide) (by decide)]
      by_cases z : j = r.length + 1
      · subst z; rw [rdI_s, if_pos rfl]
      · rw [rdI_n _ (Or.inr z), if_neg z]
    have v0 : v1.1 0 = v.1 0 := by rw [V 0 (by decide) (by decide) (by decide) (by decide), rdI_o _ (by decide)]
    have w23 := W 23 (by decide) (by decide) (by decide) (by decide)
    have w24 := W 24 (by decide) (by decide) (by decide) (by decide)
    have w25 := W 25 (by decide) (by decide) (by decide) (by decide)
    have w7 := W 7 (by decide) (by decide) (by decide) (by decide)
    have hE := x7
    have hlr : lvl (up1 κ s 2) (up1 τ s 0) (up1 φ s t) (s :: L) w1 v1 r := lvl_ext hE r h6 (fun j hj => ⟨by rw [w23], by rw [w24], by rw [w25], by rw [v14], by rw [v15], fun hh => by rw [v16, if_neg (by omega)]⟩)
    have hform : v1.1 0 15 = tr (up1 φ s t) (w1.1 7 5) := by rw [v0, w7, hf, (hE.2 _ (Fmv_gv hff)).2]
    have hformF : Fmv kn (up1 κ s 2) (up1 τ s 0) (s :: L) (w1.1 7 5) := by rw [w7]; exact Ext_Fmv hE hff
    have hh14 : v1.1 14 (r.length + 1) = tr (up1 φ s t) (w1.1 23 (r.length + 1)) := by rw [v14, w23, h3, (hE.2 _ (Lst_gv h4)).2]
    have hL23 : Lst (up1 κ s 2) (up1 τ s 0) (s :: L) 0 (w1.1 23 (r.length + 1)) := by rw [w23]; exact Ext_Lst hE h4
    have hnew : Lst (up1 κ s 2) (up1 τ s 0) (s :: L) 0 (vC s) := Or.inr ⟨s, List.mem_cons_self, up1_s _ _ _, up1_s _ _ _, rfl⟩
    rw [hcl, if_neg hin11, if_neg hin, hh14]
    have hnil := Rd_nil R1 (Lst_gv hL23)
    rw [tr_2]
    by_cases z : w1.1 23 (r.length + 1) = 2
    · rw [if_pos z, if_pos (hnil.mpr z), if_neg hin11, if_neg hin11, if_neg hin, if_neg hin]
      refine ⟨_, _, _, _, _, _, _, rfl, rfl, RH_st x6 (Nat.le_refl _) (ag_set (ag_set ag_rf (by decide)) (by decide)) (ag_set (ag_set ag_rf (by decide)) (by decide)) (agF_o (agF_o agF_rf (by decide)) (by decide)), ⟨⟨?_, ?_, ?_, ?_, fun _ => ⟨?_, s, List.mem_cons_self, up1_s _ _ _, up1_s _ _ _, ?_⟩⟩, lvl_cg hlr (fun j hj => ?_)⟩, ?_, ?_, ?_, frB_s (frB_s hw1 (by decide)) (by decide), frD_s (frD_s hv1 (by decide) (by decide)) (by decide) (by decide)⟩
      · rw [rdI_n _ (Or.inl (by decide)), rdI_n _ (Or.inl (by decide)), w25]; exact h1
      · rw [rdI_n _ (Or.inl (by decide)), rdI_n _ (Or.inl (by decide)), v16, if_neg (by omega)]; exact h2
      · rw [rdI_n _ (Or.inl (by decide)), rdI_s, rdI_n _ (Or.inl (by decide)), rdI_s]
      · rw [rdI_n _ (Or.inl (by decide)), rdI_s]; exact hnew
      · rw [rdI_s, rdI_s]
      · rw [rdI_s]
      · refine ⟨?_, ?_, ?_, ?_, ?_, fun _ => ?_⟩
        · rw [rdI_n _ (Or.inl (by decide)), rdI_n _ (Or.inr (by omega))]
        · rw [rdI_n _ (Or.inr (by omega)), rdI_n _ (Or.inl (by decide))]
        · rw [rdI_n _ (Or.inl (by decide)), rdI_n _ (Or.inl (by decide))]
        · rw [rdI_n _ (Or.inl (by decide)), rdI_n _ (Or.inr (by omega))]
        · rw [rdI_n _ (Or.inr (by omega)), rdI_n _ (Or.inl (by decide))]
        · rw [rdI_n _ (Or.inl (by decide)), rdI_n _ (Or.inl (by decide))]
      · rw [rdI_n _ (Or.inl (by decide)), rdI_n _ (Or.inl (by decide)), v16, if_pos rfl]
      · rw [rdI_n _ (Or.inl (by decide)), rdI_n _ (Or.inl (by decide)), rdI_n _ (Or.inl (by decide)), rdI_n _ (Or.inl (by decide))]; exact hform
      · rw [rdI_n _ (Or.inl (by decide)), rdI_n _ (Or.inl (by decide))]; exact hformF
    · have z' : w.1 23 (r.length + 1) ≠ 2 := by rw [← w23]; exact z
      obtain ⟨g1, y, g2, g3, g4, g5⟩ := h5 z'
      obtain ⟨e0, e1, e2, e3, _⟩ := hE.1 y g2
      have hys : y ≠ s := fun q => x1 (q ▸ g2)
      have w24y : w1.1 24 (r.length + 1) = vC y := by rw [w24]; exact g5
      have v15y : v1.1 15 (r.length + 1) = ptrM (φ y) := by rw [v15, g1, g5, Rd_trC (RH_Rd h) g2]
      have hy206 : φ y < 206 := (Rd_L (RH_Rd h) y g2).2
      have hset := setS_sim x6 e0 (by rw [e1, g3]) (by rw [e2, g4]) (t := s) List.mem_cons_self (up1_s _ _ _) (up1_s _ _ _) (by rw [up1_s, up1_n _ _ hys]; omega)
      rw [if_neg z, if_neg (fun q => z (hnil.mp q)), if_neg hin11, if_neg hin, w24y, v15y, ptrM_sub, setS_C R1.1 R1.2.1.2.2.1 (Rd_lt R1 e0)]
      simp only [Option.bind_some]
      rw [if_neg (nI_in hy206 (by omega)), nI_clamp (by omega), if_neg hin11, if_neg hin, ← e3]
      refine ⟨_, _, _, _, _, _, _, rfl, rfl, RH_st hset (Nat.le_refl _) (ag_set ag_rf (by decide)) (ag_set ag_rf (by decide)) (agF_o agF_rf (by decide)), ⟨⟨?_, ?_, ?_, ?_, fun _ => ⟨?_, s, List.mem_cons_self, up1_s _ _ _, up1_s _ _ _, ?_⟩⟩, lvl_cg hlr (fun j hj => ?_)⟩, ?_, ?_, ?_, frB_s (frB_s hw1 (by decide)) (by decide), frD_s (frD_s hv1 (by decide) (by decide)) (by decide) (by decide)⟩
      · rw [rdI_n _ (Or.inl (by decide)), rdI_n _ (Or.inl (by decide)), w25]; exact h1
      · rw [rdI_n _ (Or.inl (by decide)), rdI_n _ (Or.inl (by decide)), v16, if_neg (by omega)]; exact h2
      · rw [rdI_n _ (Or.inl (by decide)), rdI_n _ (Or.inl (by decide)), rdI_n _ (Or.inl (by decide)), rdI_n _ (Or.inl (by decide))]; exact hh14
      · rw [rdI_n _ (Or.inl (by decide)), rdI_n _ (Or.inl (by decide))]; exact hL23
      · rw [rdI_s, rdI_s]
      · rw [rdI_s]
      · refine ⟨?_, ?_, ?_, ?_, ?_, fun _ => ?_⟩
        · rw [rdI_n _ (Or.inl (by decide)), rdI_n _ (Or.inl (by decide))]
        · rw [rdI_n _ (Or.inr (by omega)), rdI_n _ (Or.inl (by decide))]
        · rw [rdI_n _ (Or.inl (by decide)), rdI_n _ (Or.inl (by decide))]
        · rw [rdI_n _ (Or.inl (by decide)), rdI_n _ (Or.inl (by decide))]
        · rw [rdI_n _ (Or.inr (by omega)), rdI_n _ (Or.inl (by decide))]
        · rw [rdI_n _ (Or.inl (by decide)), rdI_n _ (Or.inl (by decide))]
      · rw [rdI_n _ (Or.inl (by decide)), rdI_n _ (Or.inl (by decide)), v16, if_pos rfl]
      · rw [rdI_n _ (Or.inl (by decide)), rdI_n _ (Or.inl (by decide)), rdI_n _ (Or.inl (by decide)), rdI_n _ (Or.inl (by decide))]; exact hform
      · rw [rdI_n _ (Or.inl (by decide)), rdI_n _ (Or.inl (by decide))]; exact hformF
/-- with or without a quote -/
theorem place_1 (h16 : 16 ≤ kn) {qs : List Bool} {a : Int32} {b : Bool} (h : RH S sz (m + (if b = true then 4 else 0) + (if 0 < qs.length then 2 else 0)) kn κ τ ρ φ L w v) (hq : qs.length ≤ 10) (ha : Fmv kn κ τ L a) (hl : lvl κ τ φ L w v qs) (hb : v.1 16 qs.length = b2 b) (hf : v.1 0 15 = tr φ (w.1 7 5)) (hff : Fmv kn κ τ L (w.1 7 5)) : PLo S sz m kn w v qs.length qs (f_Reader_place S a (b2 b) (nI qs.length) w) (f_Md_arrived (nI qs.length) (tr φ a) v) := by
  unfold f_Reader_place f_Md_arrived
  rw [if_neg (nI_in (by omega) (by omega)), nI_clamp (by omega), hb]
  cases b with
  | false =>
    rw [if_pos (show b2 false = 0 from rfl), if_pos (show b2 false = 0 from rfl)]
    exact place_2 (by simpa using h) hq ha hl hf hff
  | true =>
    rw [if_neg (by decide), if_neg (by decide)]
    unfold f_Value_of
    simp only [Option.bind_some]
    rw [show ((10 : Int32) <<< ((3 : Int32) &&& 31)) ||| 1 = vS 10 by decide +kernel]
    have h' : RH S sz ((m + (if 0 < qs.length then 2 else 0) + 2) + 2) kn κ τ ρ φ L w v := by
      rw [if_pos rfl] at h
      rw [show m + (if 0 < qs.length then 2 else 0) + 2 + 2 = m + 4 + (if 0 < qs.length then 2 else 0) by omega]
      exact h
    obtain ⟨s, t, w1, v1, x1, x2, x3, x4, x5, x6, x7, x8, x9, x10, x11⟩ := pair_sim (m := m + (if 0 < qs.length then 2 else 0) + 2) 0 0 h' (Fmv_gv ha) gv_2 (nwT_0 ha (Or.inl rfl) (fun t ht e => absurd e.symm (vC_ne2 (Rd_L (RH_Rd h) t ht).1)))
    rw [x4, show (536870912 : Int32) = tr φ 2 from tr_2.symm, x5]
    simp only [Option.bind_some]
    have g10 : gv kn (up1 κ s 2) (s :: L) (vS 10) := Or.inr (Or.inl ⟨10, by omega, rfl⟩)
    obtain ⟨s', t', w2, v2, y1, y2, y3, y4, y5, y6, y7, y8, y9, y10, y11⟩ := pair_sim (m := m + (if 0 < qs.length then 2 else 0)) 0 1 x6 g10 (gv_Cm (kn := kn) List.mem_cons_self (up1_s κ s 2)) (nwT_0 (Or.inr (Or.inl ⟨10, by omega, rfl⟩)) (Or.inr ⟨s, List.mem_cons_self, up1_s _ _ _, up1_s _ _ _, rfl⟩) (fun t ht e => by
      rw [← vC_inj (Rd_L (RH_Rd x6) s List.mem_cons_self).1 (Rd_L (RH_Rd x6) t ht).1 e, up1_s]
      decide))
    rw [y4, show (536871010 : Int32) = tr (up1 φ s t) (vS 10) by rw [tr_S (by omega)]; rfl, y5]
    simp only [Option.bind_some]
    have E := Ext_tr x7 y7
    have W : ∀ o, o ≠ 5 → o ≠ 17 → o ≠ 18 → o ≠ 19 → w2.1 o = w.1 o := (smA_tr x8 y8).2
    have V : ∀ o, o ≠ 1 → o ≠ 2 → o ≠ 3 → o ≠ 4 → v2.1 o = v.1 o := (smB_tr x9 y9).2
    refine PLo_fr (place_2 y6 hq (Or.inr (Or.inr (Or.inr ⟨s', List.mem_cons_self, up1_s _ _ _, up1_s _ _ _, rfl⟩))) (lvl_ext E qs hl (fun j hj => ⟨?_, ?_, ?_, ?_, ?_, fun _ => ?_⟩)) ?_ ?_) (smA_frB (smA_tr x8 y8)) (smB_frD (smB_tr x9 y9))
    · rw [W 23 (by decide) (by decide) (by decide) (by decide)]
    · rw [W 24 (by decide) (by decide) (by decide) (by decide)]
    · rw [W 25 (by decide) (by decide) (by decide) (by decide)]
    · rw [V 14 (by decide) (by decide) (by decide) (by decide)]
    · rw [V 15 (by decide) (by decide) (by decide) (by decide)]
    · rw [V 16 (by decide) (by decide) (by decide) (by decide)]
    · rw [V 0 (by decide) (by decide) (by decide) (by decide), W 7 (by decide) (by decide) (by decide) (by decide), hf, (E.2 _ (Fmv_gv hff)).2]
    · rw [W 7 (by decide) (by decide) (by decide) (by decide)]; exact Ext_Fmv E hff
end
