/-! steps and runs -/
def CX (kn : Nat) (nm : Nat → List Nat) (n : Nat) (tx : Nat → Nat) (O : List Nat) (w v : pm_W) : Prop := TxC n tx w ∧ TxM n tx v ∧ oC O w ∧ oM O v ∧ NmR kn nm w v ∧ NmX kn nm ∧ 16 ≤ kn ∧ w.1 6 6 = v.1 0 19
def STu (S sz : Nat) (w v : pm_W) : Prop := ∃ (kn dn : Nat) (κ τ ρ φ : Nat → Nat) (L : List Nat) (nm : Nat → List Nat) (n : Nat) (tx : Nat → Nat) (O : List Nat), RL S sz 0 kn dn κ τ ρ φ L w v ∧ CX kn nm n tx O w v ∧ w.1 6 5 = 1 ∧ v.1 0 17 = 1 ∧ EvR kn κ τ L w v
def STi (S sz : Nat) (w v : pm_W) : Prop := ∃ (kn : Nat) (κ τ ρ φ : Nat → Nat) (L : List Nat) (nm : Nat → List Nat) (n : Nat) (tx : Nat → Nat) (O : List Nat), RL S sz 0 kn 0 κ τ ρ φ L w v ∧ CX kn nm n tx O w v ∧ w.1 6 5 = 0 ∧ v.1 0 17 = 0 ∧ w.1 4 0 = 2 ∧ w.1 4 1 = 2
def ST (S sz : Nat) (w v : pm_W) : Prop := STu S sz w v ∨ STi S sz w v
/-- the reference's end of a form -/
def clr (v : pm_W) : pm_W := pm_setI (pm_setI (pm_setI (pm_setI v 0 17 0) 0 11 0) 0 15 536870912) 0 16 536870912
/-- the class's -/
def clc (w : pm_W) : pm_W := pm_setI (pm_setI (pm_setI (pm_setI w 6 5 0) 4 0 2) 4 1 2) 4 3 0
section
variable {S sz m kn dn n : Nat} {κ τ ρ φ : Nat → Nat} {L O : List Nat} {w v w1 v1 : pm_W} {tx : Nat → Nat} {nm : Nat → List Nat}
theorem oC_ag (h : oC O w) (h2 : w1.1 2 = w.1 2) (h10 : w1.1 10 = w.1 10) : oC O w1 := by
  unfold oC
  rw [h2, h10]
  exact h
theorem oM_ag (h : oM O v) (h2 : v1.1 0 22 = v.1 0 22) (h10 : v1.1 13 = v.1 13) : oM O v1 := by
  unfold oM
  rw [h2, h10]
  exact h
theorem CX_fr (h : CX kn nm n tx O w v) (f1 : frW w w1) (f2 : frV v v1) : CX kn nm n tx O w1 v1 := by
  obtain ⟨a1, a2, a3, a4, a5, a6, a7, a8⟩ := h
  exact ⟨TxC_sm a1 (f1.2 1 (by decide)) (f1.2 9 (by decide)), TxM_sm a2 (f2.2.1 20 (by decide)) (f2.2.2 12 (by decide)), oC_ag a3 (f1.2 2 (by decide)) (f1.2 10 (by decide)), oM_ag a4 (f2.2.1 22 (by decide)) (f2.2.2 13 (by decide)), NmR_ag a5 (by rw [f1.1]) (f2.2.2 10 (by decide)), a6, a7, by rw [f1.2 6 (by decide), f2.2.1 19 (by decide)]; exact a8⟩
theorem RL_idle (h : RH S sz m kn κ τ ρ φ L w v) (h40 : w.1 4 0 = 2) (h41 : w.1 4 1 = 2) (h43 : w.1 4 3 = 0) (g11 : v.1 0 11 = 0) (g15 : v.1 0 15 = 536870912) (g16 : v.1 0 16 = 536870912) : RL S sz 0 kn 0 κ τ ρ φ L w v := RL_mk (RH_0 h) ⟨by omega, h43, g11, by rw [h40, tr_2]; exact g15, by rw [h41, tr_2]; exact g16, fun i hi => absurd hi (by omega)⟩ ⟨by rw [h40]; exact gv_2, by rw [h41]; exact Or.inl rfl, fun i hi => absurd hi (by omega)⟩
/-- the form's end, both sides -/
theorem end_sim (h : RH S sz m kn κ τ ρ φ L w v) (hX : CX kn nm n tx O w v) : STi S sz (clc w) (clr v) := by
  refine ⟨kn, κ, τ, ρ, φ, L, nm, n, tx, O, RL_idle (RH_st h (Nat.le_refl _) ?_ ?_ ?_) ?_ ?_ ?_ ?_ ?_ ?_, ?_, ?_, ?_, ?_, ?_⟩
  · unfold clc
    exact ag_set (ag_set (ag_set (ag_set ag_rf (by decide)) (by decide)) (by decide)) (by decide)
  · unfold clr
    exact ag_set (ag_set (ag_set (ag_set ag_rf (by decide)) (by decide)) (by decide)) (by decide)
  · unfold clr
    exact agF_set (agF_set (agF_set (agF_set agF_rf (by decide)) (by decide)) (by decide)) (by decide)
  · unfold clc; rw [rdI_n _ (Or.inr (by decide)), rdI_n _ (Or.inr (by decide)), rdI_s]
  · unfold clc; rw [rdI_n _ (Or.inr (by decide)), rdI_s]
  · unfold clc; rw [rdI_s]
  · unfold clr; rw [rdI_n _ (Or.inr (by decide)), rdI_n _ (Or.inr (by decide)), rdI_s]
  · unfold clr; rw [rdI_n _ (Or.inr (by decide)), rdI_s]
  · unfold clr; rw [rdI_s]
  · obtain ⟨a1, a2, a3, a4, a5, a6, a7, a8⟩ := hX
    have cw : ∀ o, o ≠ 6 → o ≠ 4 → (clc w).1 o = w.1 o := fun o h6 h4 => by unfold clc; rw [rdI_o _ h4, rdI_o _ h4, rdI_o _ h4, rdI_o _ h6]
    have cv : ∀ o, o ≠ 0 → (clr v).1 o = v.1 o := fun o h0 => by unfold clr; rw [rdI_o _ h0, rdI_o _ h0, rdI_o _ h0, rdI_o _ h0]
    have cf : ∀ k, k ∉ [11, 15, 16, 17] → (clr v).1 0 k = v.1 0 k := fun k hk => by
      simp only [List.mem_cons, List.not_mem_nil, or_false, not_or] at hk
      unfold clr
      rw [rdI_n _ (Or.inr hk.2.2.1), rdI_n _ (Or.inr hk.2.1), rdI_n _ (Or.inr hk.1), rdI_n _ (Or.inr hk.2.2.2)]
    refine ⟨TxC_sm a1 (cw 1 (by decide) (by decide)) (cw 9 (by decide) (by decide)), TxM_sm a2 (cf 20 (by decide)) (cv 12 (by decide)), oC_ag a3 (cw 2 (by decide) (by decide)) (cw 10 (by decide) (by decide)), oM_ag a4 (cf 22 (by decide)) (cv 13 (by decide)), NmR_ag a5 rfl (cv 10 (by decide)), a6, a7, ?_⟩
    rw [cf 19 (by decide), ← a8]
    unfold clc
    rw [rdI_n _ (Or.inl (by decide)), rdI_n _ (Or.inl (by decide)), rdI_n _ (Or.inl (by decide)), rdI_n _ (Or.inr (by decide))]
  · unfold clc; rw [rdI_n _ (Or.inl (by decide)), rdI_n _ (Or.inl (by decide)), rdI_n _ (Or.inl (by decide)), rdI_s]
  · unfold clr; rw [rdI_n _ (Or.inr (by decide)), rdI_n _ (Or.inr (by decide)), rdI_n _ (Or.inr (by decide)), rdI_s]
  · unfold clc; rw [rdI_n _ (Or.inr (by decide)), rdI_n _ (Or.inr (by decide)), rdI_s]
  · unfold clc; rw [rdI_n _ (Or.inr (by decide)), rdI_s]
/-- the outcome of one step -/
def RO (S sz : Nat) (rc rm : Option (Int32 × pm_W)) : Prop := ∃ (r : Int32) (w1 v1 : pm_W), rc = some (r, w1) ∧ rm = some (r, v1) ∧ ((r = 1 ∧ STu S sz w1 v1) ∨ (r = 0 ∧ STi S sz w1 v1) ∨ (r < 0 ∧ STi S sz w1 (clr v1)))
theorem RO_SO {w0 v0 : pm_W} {rc rm : Option (Int32 × pm_W)} (h : SO S sz kn w0 v0 rc rm) (hX : CX kn nm n tx O w0 v0) (h5 : w0.1 6 5 = 1) (h17 : v0.1 0 17 = 1) : RO S sz (Option.bind rc fun o => if o.1 = (1 : Int32) then some (o.1, o.2) else Option.bind (f_Machine_endForm S o.2) fun o5 => some (o.1, o5)) rm := by
  obtain ⟨r, w1, v1, a1, a2, a3, a4, a5⟩ := h
  have hX1 := CX_fr hX a3 a4
  rw [a1]
  simp only [Option.bind_some]
  rcases a5 with ⟨r1, dn, κ, τ, ρ, φ, L, b1, b2⟩ | ⟨r1, κ, τ, ρ, φ, L, b1⟩
  · subst r1
    rw [if_pos rfl]
    exact ⟨1, w1, v1, rfl, a2, Or.inl ⟨rfl, kn, dn, κ, τ, ρ, φ, L, nm, n, tx, O, b1, hX1, by rw [a3.2 6 (by decide)]; exact h5, by rw [a4.2.1 17 (by decide)]; exact h17, b2⟩⟩
  · have n1 : ¬ r = 1 := fun z => by rw [z] at r1; exact absurd r1 (by decide)
    rw [if_neg n1]
    exact ⟨r, clc w1, v1, rfl, a2, Or.inr (Or.inr ⟨r1, end_sim b1 hX1⟩)⟩
/-- one step of a form that is under way -/
theorem step_sim (h : STu S sz w v) : RO S sz (f_Machine_step S w) (if v.1 0 18 = 0 then f_Md_evaluate (pm_setI v 0 19 (v.1 0 19 + 1)) else f_Md_back (pm_setI v 0 19 (v.1 0 19 + 1))) := by
  obtain ⟨kn, dn, κ, τ, ρ, φ, L, nm, n, tx, O, h, hX, h5, h17, hE⟩ := h
  obtain ⟨a1, a2, a3, a4, a5, a6, a7, a8⟩ := hX
  have hw : ∀ o, o ≠ 6 → (pm_setI w 6 6 (w.1 6 6 + 1)).1 o = w.1 o := fun o ho => rdI_o _ ho
  have hv : ∀ o, o ≠ 0 → (pm_setI v 0 19 (v.1 0 19 + 1)).1 o = v.1 o := fun o ho => rdI_o _ ho
  have hf : ∀ k, k ≠ 19 → (pm_setI v 0 19 (v.1 0 19 + 1)).1 0 k = v.1 0 k := fun k hk => rdI_n _ (Or.inr hk)
  have hX' : CX kn nm n tx O (pm_setI w 6 6 (w.1 6 6 + 1)) (pm_setI v 0 19 (v.1 0 19 + 1)) := ⟨TxC_sm a1 (hw 1 (by decide)) (hw 9 (by decide)), TxM_sm a2 (hf 20 (by decide)) (hv 12 (by decide)), oC_ag a3 (hw 2 (by decide)) (hw 10 (by decide)), oM_ag a4 (hf 22 (by decide)) (hv 13 (by decide)), NmR_ag a5 rfl (hv 10 (by decide)), a6, a7, by rw [rdI_s, rdI_s, a8]⟩
  have h' : RL S sz 0 kn dn κ τ ρ φ L (pm_setI w 6 6 (w.1 6 6 + 1)) (pm_setI v 0 19 (v.1 0 19 + 1)) := RL_ag h (ag_set ag_rf (by decide)) (ag_set ag_rf (by decide)) (agF_set agF_rf (by decide))
  have h5' : (pm_setI w 6 6 (w.1 6 6 + 1)).1 6 5 = 1 := by rw [rdI_n _ (Or.inr (by decide))]; exact h5
  have h17' : (pm_setI v 0 19 (v.1 0 19 + 1)).1 0 17 = 1 := by rw [hf 17 (by decide)]; exact h17
  unfold f_Machine_step
  rw [h5, if_neg (by decide)]
  rcases hE with ⟨e1, e2, e3⟩ | ⟨e1, e2⟩
  · rw [e1, if_neg (by decide), e2, if_pos rfl]
    exact RO_SO (SO_eval h' (by rw [hw 4 (by decide)]; exact e3)) hX' h5' h17'
  · rw [e1, if_pos rfl, e2, if_neg (by decide)]
    cases dn with
    | succ d => exact RO_SO (SO_back a7 h') hX' h5' h17'
    | zero =>
      -- the form is done: it is printed
      obtain ⟨d1, d2, d3, d4, d5, d6⟩ := RL_dn h'
      have R := RL_Rd h'
      have hg := (RL_st h').1
      obtain ⟨b1, b2, b3, b4, b5, b6, b7, b8⟩ := hX'
      obtain ⟨w1, p1, p2, p3⟩ := prC_line (S := S) R b5 a7 hg O _ smC_rf b3
      obtain ⟨v1, q1, q2, q3⟩ := print_M R b5 a7 hg d4 b4
      have hX1 : CX kn nm n tx (ap O (pt nm ((pm_setI w 6 6 (w.1 6 6 + 1)).1 17) ((pm_setI w 6 6 (w.1 6 6 + 1)).1 18) 16 ((pm_setI w 6 6 (w.1 6 6 + 1)).1 4 0) ++ [10])) w1 v1 := ⟨TxC_sm b1 (p3.2 1 (by decide)) (p3.2 9 (by decide)), TxM_sm b2 (q2.2.1 20 (by decide)) (q2.2.2 12 (by decide) (by decide)), p2, q3, NmR_ag b5 (by rw [p3.1]) (q2.2.2 10 (by decide) (by decide)), b6, b7, by rw [p3.2 6 (by decide), q2.2.1 19 (by decide)]; exact b8⟩
      have hR1 : RH S sz 0 kn κ τ ρ φ L w1 v1 := RH_st (RL_RH h') (Nat.le_refl _) (ag_sm p3 (by decide)) (agM_sm q2 (by decide) (by decide)) (agF_sm q2 (by decide))
      unfold f_Machine_giveBack f_Md_back
      rw [kind_0 d2, d3, if_pos (show nI 0 = 0 from rfl), q1]
      simp only [Option.bind_some]
      rw [if_neg (by decide), if_neg (by decide), if_neg (by decide), if_neg (by decide), p1]
      simp only [Option.bind_some]
      rw [if_neg (by decide)]
      exact ⟨0, clc w1, clr v1, rfl, rfl, Or.inr (Or.inl ⟨rfl, end_sim hR1 hX1⟩)⟩
/-- the loop of a run -/
theorem run_l {N : Nat} (hN : N ≤ 1000) : ∀ (j f1 f2 : Nat) (w v : pm_W), j ≤ N → STu S sz w v → ∃ (r : Int32) (w1 v1 : pm_W), l_CL_run S (f1 + j + 1) 0 (nI N) 1 (nI (N - j)) w = some (r, w1) ∧ l_Md_run (f2 + j + 1) 0 (nI j) 1 v = some (r, v1) ∧ ST S sz w1 v1 := by
  intro j
  induction j with
  | zero =>
    intro f1 f2 w v hj h
    refine ⟨1, w, v, ?_, ?_, Or.inl h⟩
    · rw [l_CL_run_s]
      unfold b_CL_run_17
      rw [Nat.sub_zero, if_pos (Int32.le_refl _)]
    · rw [l_Md_run_s]
      unfold b_Md_run_46
      rw [if_pos rfl, if_pos (by decide), if_pos (by decide)]
  | succ j ih =>
    intro f1 f2 w v hj h
    obtain ⟨r, w1, v1, a1, a2, a3⟩ := step_sim h
    have eC : l_CL_run S (f1 + (j + 1) + 1) 0 (nI N) 1 (nI (N - (j + 1))) w = l_CL_run S (f1 + j + 1) 0 (nI N) r (nI (N - j)) w1 := by
      rw [show f1 + (j + 1) + 1 = (f1 + j + 1) + 1 by omega, l_CL_run_s]
      unfold b_CL_run_17
      rw [if_neg (q_nle (by omega) (by omega)), if_pos rfl, a1]
      simp only [Option.bind_some]
      rw [nI_1, show N - (j + 1) + 1 = N - j by omega]
    have eM : l_Md_run (f2 + (j + 1) + 1) 0 (nI (j + 1)) 1 v = l_Md_run (f2 + j + 1) 0 (nI j) r v1 := by
      rw [show f2 + (j + 1) + 1 = (f2 + j + 1) + 1 by omega, l_Md_run_s]
      unfold b_Md_run_46
      rw [if_pos rfl, if_neg (nI_nle (by omega) (by omega)), z_m1]
      by_cases z : v.1 0 18 = 0
      · rw [if_pos z] at a2 ⊢
        rw [a2]
        rfl
      · rw [if_neg z] at a2 ⊢
        rw [a2]
        rfl
    rw [eC, eM]
    rcases a3 with ⟨r1, b1⟩ | ⟨r1, b1⟩ | ⟨r1, b1⟩
    · subst r1
      exact ih f1 f2 w1 v1 (by omega) b1
    · subst r1
      refine ⟨0, w1, v1, ?_, ?_, Or.inr b1⟩
      · rw [l_CL_run_s]
        unfold b_CL_run_17
        rw [if_neg (show ¬ (0 : Int32) = 1 by decide)]
        split <;> rfl
      · rw [l_Md_run_s]
        unfold b_Md_run_46
        rw [if_neg (by decide), if_pos (by decide)]
    · have n1 : ¬ r = 1 := fun z => by rw [z] at r1; exact absurd r1 (by decide)
      refine ⟨r, w1, clr v1, ?_, ?_, Or.inr b1⟩
      · rw [l_CL_run_s]
        unfold b_CL_run_17
        rw [if_neg n1]
        split <;> rfl
      · rw [l_Md_run_s]
        unfold b_Md_run_46
        rw [if_neg n1, if_neg (Int32.not_le.mpr r1)]
        rfl
/-- a run of at most N steps -/
theorem run_N {N : Nat} (h1 : 1 ≤ N) (hN : N ≤ 1000) (h : ST S sz w v) : ∃ (r : Int32) (w1 v1 : pm_W), l_CL_run S pm_fuel 0 (nI N) 1 0 w = some (r, w1) ∧ (if v.1 0 17 = 0 then (Option.bind (f_Md_reading (pm_setI v 0 0 0)) fun o4 => l_Md_run pm_fuel 0 (nI N + (-1)) o4.1 o4.2) else l_Md_run pm_fuel 0 (nI N) 1 (pm_setI v 0 0 0)) = some (r, v1) ∧ ST S sz w1 v1 := by
  have hv : ∀ o, o ≠ 0 → (pm_setI v 0 0 0).1 o = v.1 o := fun o ho => rdI_o _ ho
  have hf : ∀ k, k ≠ 0 → (pm_setI v 0 0 0).1 0 k = v.1 0 k := fun k hk => rdI_n _ (Or.inr hk)
  rcases h with ⟨kn, dn, κ, τ, ρ, φ, L, nm, n, tx, O, h, hX, h5, h17, hE⟩ | ⟨kn, κ, τ, ρ, φ, L, nm, n, tx, O, h, hX, h5, h17, h40, h41⟩
  · obtain ⟨a1, a2, a3, a4, a5, a6, a7, a8⟩ := hX
    have hu : STu S sz w (pm_setI v 0 0 0) := ⟨kn, dn, κ, τ, ρ, φ, L, nm, n, tx, O, RL_ag h ag_rf (ag_set ag_rf (by decide)) (agF_set agF_rf (by decide)), ⟨a1, TxM_sm a2 (hf 20 (by decide)) (hv 12 (by decide)), a3, oM_ag a4 (hf 22 (by decide)) (hv 13 (by decide)), NmR_ag a5 rfl (hv 10 (by decide)), a6, a7, by rw [hf 19 (by decide)]; exact a8⟩, h5, by rw [hf 17 (by decide)]; exact h17, by unfold EvR; rw [hf 18 (by decide)]; exact hE⟩
    obtain ⟨r, w1, v1, b1, b2, b3⟩ := run_l (S := S) (sz := sz) hN N (pm_fuel - (N + 1)) (pm_fuel - (N + 1)) w _ (Nat.le_refl _) hu
    rw [fuel_s _ (by omega)] at b1 b2
    rw [Nat.sub_self] at b1
    exact ⟨r, w1, v1, b1, by rw [h17, if_neg (by decide)]; exact b2, b3⟩
  · obtain ⟨a1, a2, a3, a4, a5, a6, a7, a8⟩ := hX
    have hb := begin_sim (S := S) (sz := sz) (RL_ag h ag_rf (ag_set (o := 0) (k := 0) (x := 0) ag_rf (by decide)) (agF_set agF_rf (by decide))) (NmR_ag a5 rfl (hv 10 (by decide))) a6 a7 a1 (TxM_sm a2 (hf 20 (by decide)) (hv 12 (by decide))) h40 h41
    obtain ⟨r, w1, v1, n1, tx1, kn1, nm1, κ1, τ1, ρ1, φ1, L1, b1, b2, b3, b4, b5, b6, b7, b8, b9, b10, b11, b12, b13⟩ := hb
    have eo1 : oC O w1 := oC_ag a3 b9 b10
    have eo2 : oM O v1 := oM_ag a4 (b11.trans (hf 22 (by decide))) (b12.trans (hv 13 (by decide)))
    obtain ⟨F, hF⟩ : ∃ F, pm_fuel = (F + (N - 1) + 1) + 1 := ⟨99998 - (N - 1), by show 100000 = _; omega⟩
    have eC : l_CL_run S pm_fuel 0 (nI N) 1 0 w = l_CL_run S (F + (N - 1) + 1) 0 (nI N) r (nI (N - (N - 1))) w1 := by
      rw [hF, l_CL_run_s]
      unfold b_CL_run_17 f_Machine_step
      rw [if_neg (show ¬ nI N ≤ 0 from nI_nle (by omega) (by omega)), if_pos rfl, h5, if_pos rfl]
      simp only [bind_pair]
      rw [b1]
      simp only [Option.bind_some]
      rw [show N - (N - 1) = 1 by omega]
      rfl
    rw [eC, h17, if_pos rfl, b2]
    simp only [Option.bind_some]
    rw [dec1 (by omega)]
    rcases b13 with ⟨r1, c1, c2, c3, c4⟩ | ⟨r1, c1, c2, c3, c4, c5⟩ | ⟨r1, c1, c2, c3, c4, c5⟩
    · subst r1
      refine ⟨2, w1, v1, ?_, ?_, Or.inr ⟨kn1, κ1, τ1, ρ1, φ1, L1, nm1, n1, tx1, O, b8, ⟨b3, b4, eo1, eo2, b5, b6, b7, ?_⟩, ?_, ?_, ?_, ?_⟩⟩
      · rw [l_CL_run_s]
        unfold b_CL_run_17
        rw [if_neg (show ¬ (2 : Int32) = 1 by decide)]
        split <;> rfl
      · rw [hF, l_Md_run_s]
        unfold b_Md_run_46
        rw [if_neg (show ¬ (2 : Int32) = 1 by decide), if_pos (by decide)]
      · rw [c1, c3, hf 19 (by decide)]; exact a8
      · rw [c1]; exact h5
      · rw [c2, hf 17 (by decide)]; exact h17
      · rw [c4]; exact h40
      · rw [c4]; exact h41
    · subst r1
      have hu : STu S sz w1 v1 := ⟨kn1, 0, κ1, τ1, ρ1, φ1, L1, nm1, n1, tx1, O, b8, ⟨b3, b4, eo1, eo2, b5, b6, b7, by rw [c2, c4]⟩, c1, c3, c5⟩
      obtain ⟨r, w2, v2, d1, d2, d3⟩ := run_l (S := S) (sz := sz) hN (N - 1) F (pm_fuel - (N - 1 + 1)) w1 v1 (by omega) hu
      rw [fuel_s _ (by omega)] at d2
      exact ⟨r, w2, v2, d1, d2, d3⟩
    · have n1' : ¬ r = 1 := fun z => by rw [z] at r1; exact absurd r1 (by decide)
      have hst : STi S sz w1 (clr v1) := by
        obtain ⟨d1, d2, d3, d4, d5, d6⟩ := RL_dn b8
        have cv : ∀ o, o ≠ 0 → (clr v1).1 o = v1.1 o := fun o h0 => by unfold clr; rw [rdI_o _ h0, rdI_o _ h0, rdI_o _ h0, rdI_o _ h0]
        have cf : ∀ k, k ∉ [11, 15, 16, 17] → (clr v1).1 0 k = v1.1 0 k := fun k hk => by
          simp only [List.mem_cons, List.not_mem_nil, or_false, not_or] at hk
          unfold clr
          rw [rdI_n _ (Or.inr hk.2.2.1), rdI_n _ (Or.inr hk.2.1), rdI_n _ (Or.inr hk.1), rdI_n _ (Or.inr hk.2.2.2)]
        refine ⟨kn1, κ1, τ1, ρ1, φ1, L1, nm1, n1, tx1, O, RL_idle (RH_st (RL_RH b8) (Nat.le_refl _) ag_rf (fun o ho => cv o (fun z => by subst z; revert ho; decide)) (fun k hk => cf k (fun z => by revert hk z; revert k; decide))) (by rw [c5]; exact h40) (by rw [c5]; exact h41) d2 ?_ ?_ ?_, ⟨b3, TxM_sm b4 (cf 20 (by decide)) (cv 12 (by decide)), eo1, oM_ag eo2 (cf 22 (by decide)) (cv 13 (by decide)), NmR_ag b5 rfl (cv 10 (by decide)), b6, b7, by rw [cf 19 (by decide), c2, c4]⟩, by rw [c1]; exact h5, ?_, by rw [c5]; exact h40, by rw [c5]; exact h41⟩
        · unfold clr; rw [rdI_n _ (Or.inr (by decide)), rdI_n _ (Or.inr (by decide)), rdI_s]
        · unfold clr; rw [rdI_n _ (Or.inr (by decide)), rdI_s]
        · unfold clr; rw [rdI_s]
        · unfold clr; rw [rdI_n _ (Or.inr (by decide)), rdI_n _ (Or.inr (by decide)), rdI_n _ (Or.inr (by decide)), rdI_s]
      refine ⟨r, w1, clr v1, ?_, ?_, Or.inr hst⟩
      · rw [l_CL_run_s]
        unfold b_CL_run_17
        rw [if_neg n1']
        split <;> rfl
      · rw [hF, l_Md_run_s]
        unfold b_Md_run_46
        rw [if_neg n1', if_neg (Int32.not_le.mpr r1)]
        rfl
theorem run_sim (h : ST S sz w v) (a : Int32) : ∃ (r : Int32) (w1 v1 : pm_W), f_CL_run S a w = some (r, w1) ∧ f_Md_run a v = some (r, v1) ∧ ST S sz w1 v1 := by
  unfold f_CL_run f_Md_run
  by_cases z1 : (1 : Int32) ≤ a
  · by_cases z2 : a ≤ 1000
    · obtain ⟨N, n1, n2⟩ := nI_of2 (M := 1000) (n := 1000) (by decide) (x := a) (fun q => Int32.lt_irrefl (Int32.lt_of_lt_of_le (Int32.lt_of_lt_of_le q (show (0 : Int32) ≤ 1 by decide)) z1)) z2
      subst n2
      have hN1 : 1 ≤ N := by
        apply Classical.byContradiction
        intro z
        have : N = 0 := by omega
        subst this
        exact absurd z1 (by decide)
      rw [if_neg (show ¬ (1000 : Int32) < nI N from q_nlt (a := 1000) n1 (by omega)), if_pos z1, if_pos z2]
      have e : (if (1 : Int32) < nI N then nI N else 1) = nI N := by
        by_cases y : N = 1
        · subst y; rfl
        · rw [if_pos (show (1 : Int32) < nI N from q_lt (a := 1) (by omega) (by omega))]
      rw [e]
      exact run_N hN1 n1 h
    · rw [if_pos (Int32.not_le.mp z2), if_pos z1, if_neg z2, if_pos (by decide)]
      exact run_N (N := 1000) (by omega) (by omega) h
  · have z3 : a < 1 := Int32.not_le.mp z1
    rw [if_neg z1, if_neg (show ¬ (1000 : Int32) < a from fun q => Int32.lt_irrefl (Int32.lt_trans (Int32.lt_trans q z3) (by decide))), if_neg (show ¬ (1 : Int32) < a from fun q => Int32.lt_irrefl (Int32.lt_trans q z3))]
    exact run_N (N := 1) (by omega) (by omega) h
end
