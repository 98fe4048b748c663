/-! every call keeps the relation -/
section
variable {S sz m kn dn n : Nat} {κ τ ρ φ : Nat → Nat} {L O : List Nat} {w v w1 v1 : pm_W} {tx : Nat → Nat} {nm : Nat → List Nat}
/-- text or output changed, all else as it was -/
theorem ST_map (h : ST S sz w v) (h2 : w1.2 = w.2) (hw : ag [3, 4, 5, 6, 12, 13, 14, 15, 16, 17, 18, 19, 20, 22] w w1) (hv : ag [1, 2, 3, 4, 6, 7, 8, 9, 10, 11] v v1) (hf : agF [1, 11, 12, 15, 16, 17, 18, 19] v v1) (ht : ∀ n tx, TxC n tx w → TxM n tx v → ∃ n1 tx1, TxC n1 tx1 w1 ∧ TxM n1 tx1 v1) (ho : ∀ O, oC O w → oM O v → ∃ O1, oC O1 w1 ∧ oM O1 v1) : ST S sz w1 v1 := by
  rcases h with ⟨kn, dn, κ, τ, ρ, φ, L, nm, n, tx, O, h, ⟨a1, a2, a3, a4, a5, a6, a7, a8⟩, h5, h17, hE⟩ | ⟨kn, κ, τ, ρ, φ, L, nm, n, tx, O, h, ⟨a1, a2, a3, a4, a5, a6, a7, a8⟩, h5, h17, h40, h41⟩
  · obtain ⟨n1, tx1, b1, b2⟩ := ht n tx a1 a2
    obtain ⟨O1, c1, c2⟩ := ho O a3 a4
    refine Or.inl ⟨kn, dn, κ, τ, ρ, φ, L, nm, n1, tx1, O1, RL_ag h (ag_sub hw (by decide)) (ag_sub hv (by decide)) (fun k hk => hf k (by revert k; decide)), ⟨b1, b2, c1, c2, NmR_ag a5 (by rw [h2]) (hv 10 (by decide)), a6, a7, by rw [hw 6 (by decide), hf 19 (by decide)]; exact a8⟩, by rw [hw 6 (by decide)]; exact h5, by rw [hf 17 (by decide)]; exact h17, ?_⟩
    unfold EvR
    rw [hw 4 (by decide), hf 18 (by decide)]
    exact hE
  · obtain ⟨n1, tx1, b1, b2⟩ := ht n tx a1 a2
    obtain ⟨O1, c1, c2⟩ := ho O a3 a4
    exact Or.inr ⟨kn, κ, τ, ρ, φ, L, nm, n1, tx1, O1, RL_ag h (ag_sub hw (by decide)) (ag_sub hv (by decide)) (fun k hk => hf k (by revert k; decide)), ⟨b1, b2, c1, c2, NmR_ag a5 (by rw [h2]) (hv 10 (by decide)), a6, a7, by rw [hw 6 (by decide), hf 19 (by decide)]; exact a8⟩, by rw [hw 6 (by decide)]; exact h5, by rw [hf 17 (by decide)]; exact h17, by rw [hw 4 (by decide)]; exact h40, by rw [hw 4 (by decide)]; exact h41⟩
theorem ST_0 (h : ST S sz w v) : ST S sz w (pm_setI v 0 0 0) := ST_map h rfl ag_rf (ag_set ag_rf (by decide)) (agF_set agF_rf (by decide)) (fun n tx a b => ⟨n, tx, a, TxM_sm b (rdI_n _ (Or.inr (by decide))) (rdI_o _ (by decide))⟩) (fun O a b => ⟨O, a, oM_ag b (rdI_n _ (Or.inr (by decide))) (rdI_o _ (by decide))⟩)
/-- what ST tells -/
theorem ST_cx (h : ST S sz w v) : ∃ (kn dn : Nat) (κ τ ρ φ : Nat → Nat) (L : List Nat) (nm : Nat → List Nat) (n : Nat) (tx : Nat → Nat) (O : List Nat), RL S sz 0 kn dn κ τ ρ φ L w v ∧ CX kn nm n tx O w v := by
  rcases h with ⟨kn, dn, κ, τ, ρ, φ, L, nm, n, tx, O, h, hX, _⟩ | ⟨kn, κ, τ, ρ, φ, L, nm, n, tx, O, h, hX, _⟩
  · exact ⟨kn, dn, κ, τ, ρ, φ, L, nm, n, tx, O, h, hX⟩
  · exact ⟨kn, 0, κ, τ, ρ, φ, L, nm, n, tx, O, h, hX⟩
theorem sim_feed (h : ST S sz w v) (a b : Int32) : ∃ (r : Int32) (w1 v1 : pm_W), f_CL_feed S a b w = some (r, w1) ∧ f_Md_feed a b v = some (r, v1) ∧ ST S sz w1 v1 := by
  obtain ⟨kn, dn, κ, τ, ρ, φ, L, nm, n, tx, O, hR, ⟨a1, a2, a3, a4, a5, a6, a7, a8⟩⟩ := ST_cx h
  have hT : TxR w v n tx := ⟨a1.1, a1.2.1, a2.2.1, fun i hi => ⟨(a1.2.2 i hi).1, (a1.2.2 i hi).2, (a2.2.2 i hi).2⟩⟩
  obtain ⟨r, w1, v1, n1, tx1, b1, b2, b3, b4, b5⟩ := feed_sim (S := S) hT a b
  refine ⟨r, w1, v1, b1, b2, ST_map h b4.1 (ag_sm b4 (by decide)) (agM_sm b5 (by decide) (by decide)) (agF_sm b5 (by decide)) (fun _ _ _ _ => ⟨n1, tx1, ⟨b3.1, b3.2.1, fun i hi => ⟨(b3.2.2.2 i hi).1, (b3.2.2.2 i hi).2.1⟩⟩, ⟨b3.1, b3.2.2.1, fun i hi => ⟨(b3.2.2.2 i hi).1, (b3.2.2.2 i hi).2.2⟩⟩⟩) (fun O x y => ⟨O, oC_ag x (b4.2 2 (by decide)) (b4.2 10 (by decide)), oM_ag y (b5.2.1 22 (by decide)) (b5.2.2 13 (by decide) (by decide))⟩)⟩
theorem sim_outSize (h : ST S sz w v) : ∃ (r : Int32) (w1 v1 : pm_W), f_CL_outSize S w = some (r, w1) ∧ f_Md_outSize v = some (r, v1) ∧ ST S sz w1 v1 := by
  obtain ⟨kn, dn, κ, τ, ρ, φ, L, nm, n, tx, O, hR, ⟨a1, a2, a3, a4, a5, a6, a7, a8⟩⟩ := ST_cx h
  refine ⟨nI O.length, w, pm_setI v 0 0 0, ?_, ?_, ST_0 h⟩
  · unfold f_CL_outSize
    rw [a3.2.1]
  · unfold f_Md_outSize
    rw [a4.2.1]
theorem sim_out (h : ST S sz w v) (a : Int32) : ∃ (r : Int32) (w1 v1 : pm_W), f_CL_out S a w = some (r, w1) ∧ f_Md_out a v = some (r, v1) ∧ ST S sz w1 v1 := by
  obtain ⟨kn, dn, κ, τ, ρ, φ, L, nm, n, tx, O, hR, ⟨a1, a2, ⟨a3, h2, h4⟩, ⟨a4, h3, h4'⟩, a5, a6, a7, a8⟩⟩ := ST_cx h
  have key : ∃ r, f_CL_out S a w = some (r, w) ∧ f_Md_out a v = some (r, pm_setI v 0 0 0) := by
    rcases pk_ix a (n := O.length) (by omega) with h | h | ⟨j, hj, rfl⟩
    · exact ⟨-1, by simp [f_CL_out, f_Output_at, h], by simp [f_Md_out, h]⟩
    · have h0 : ¬ a < 0 := fun q => by
        have := Int32.lt_of_lt_of_le q (Int32.le_trans (nI_pos' (n := O.length) (by omega)) h)
        exact absurd this (by simp)
      have h5 : ¬ a < nI O.length := Int32.not_lt.mpr h
      exact ⟨-1, by simp [f_CL_out, f_Output_at, h0, h2, h], by simp [f_Md_out, h0, h3, h5]⟩
    · refine ⟨nI O[j], ?_, ?_⟩
      · unfold f_CL_out f_Output_at
        rw [if_neg (nI_pos (by omega)), h2, if_neg (q_nle hj (by omega)), if_neg (show ¬ (200 : Int32) ≤ nI j from q_nle (a := 200) (by omega) (by omega)), if_neg (nI_in (by omega) (by omega)), nI_clamp (by omega), h4 j hj]
        rfl
      · unfold f_Md_out
        rw [if_neg (nI_pos (by omega)), h3, if_pos (q_lt hj (by omega)), if_neg (nI_in (by omega) (by omega)), nI_clamp (by omega), h4' j hj]
  obtain ⟨r, r1, r2⟩ := key
  exact ⟨r, w, _, r1, r2, ST_0 h⟩
theorem sim_clear (h : ST S sz w v) : ∃ (w1 v1 : pm_W), f_CL_clearOut S w = some w1 ∧ f_Md_clearOut v = some v1 ∧ ST S sz w1 v1 := by
  refine ⟨_, _, rfl, rfl, ST_map (ST_0 h) rfl (ag_set ag_rf (by decide)) (ag_set ag_rf (by decide)) (agF_set agF_rf (by decide)) (fun n tx a b => ⟨n, tx, TxC_sm a (rdI_o _ (by decide)) (rdI_o _ (by decide)), TxM_sm b (rdI_n _ (Or.inr (by decide))) (rdI_o _ (by decide))⟩) (fun O a b => ⟨[], ⟨by simp, rdI_s _ _ _ _, fun i hi => absurd hi (by simp)⟩, ⟨by simp, rdI_s _ _ _ _, fun i hi => absurd hi (by simp)⟩⟩)⟩
theorem Fmv_L {L2 : List Nat} (R2 : Rd S kn κ τ ρ φ L2 w v) (hL : ∀ s ∈ L, s < 1000) {a : Int32} (h : Fmv kn κ τ L a) (h2 : gv kn κ L2 a) : Fmv kn κ τ L2 a := by
  rcases h with h | h | h
  · exact Or.inl h
  · exact Or.inr (Or.inl h)
  · refine Or.inr (Or.inr ?_)
    rcases h with h | ⟨s, s1, s2, s3, s4⟩
    · exact Or.inl h
    · rw [s4] at h2
      exact Or.inr ⟨s, (gv_C R2 (hL s s1) h2).1, s2, s3, s4⟩
theorem sim_live (h : ST S sz w v) : ∃ (r : Int32) (w1 v1 : pm_W), f_CL_liveCells S w = some (r, w1) ∧ f_Md_liveCells v = some (r, v1) ∧ ST S sz w1 v1 := by
  have h0 := ST_0 h
  have fin : ∀ (kn dn : Nat) (κ τ ρ φ : Nat → Nat) (L : List Nat) (nm : Nat → List Nat) (n : Nat) (tx : Nat → Nat) (O : List Nat), RL S sz 0 kn dn κ τ ρ φ L w (pm_setI v 0 0 0) → CX kn nm n tx O w (pm_setI v 0 0 0) → ∃ (r : Int32) (w1 v1 : pm_W) (L2 : List Nat), f_CL_liveCells S w = some (r, w1) ∧ f_Md_liveCells v = some (r, v1) ∧ RL S sz 0 kn dn κ τ ρ φ L2 w1 v1 ∧ CX kn nm n tx O w1 v1 ∧ w1.1 6 = w.1 6 ∧ w1.1 4 = w.1 4 ∧ v1.1 0 = (pm_setI v 0 0 0).1 0 := by
    intro kn dn κ τ ρ φ L nm n tx O hR hX
    obtain ⟨a1, a2, a3, a4, a5, a6, a7, a8⟩ := hX
    obtain ⟨L2, w2, v2, k, c1, c2, c3, c4, c5, c6⟩ := live_sim hR
    have W : ∀ o, o ≠ 5 → o ≠ 20 → o ≠ 21 → o ≠ 22 → w2.1 o = w.1 o := c5.2.1
    refine ⟨nI k, w2, v2, L2, ?_, ?_, c4, ⟨TxC_sm a1 (W 1 (by decide) (by decide) (by decide) (by decide)) (W 9 (by decide) (by decide) (by decide) (by decide)), TxM_sm a2 (by rw [c6.2 0 (by decide)]) (c6.2 12 (by decide)), oC_ag a3 (W 2 (by decide) (by decide) (by decide) (by decide)) (W 10 (by decide) (by decide) (by decide) (by decide)), oM_ag a4 (by rw [c6.2 0 (by decide)]) (c6.2 13 (by decide)), NmR_ag a5 (by rw [c5.1]) (c6.2 10 (by decide)), a6, a7, by rw [W 6 (by decide) (by decide) (by decide) (by decide), c6.2 0 (by decide)]; exact a8⟩, W 6 (by decide) (by decide) (by decide) (by decide), W 4 (by decide) (by decide) (by decide) (by decide), c6.2 0 (by decide)⟩
    · unfold f_CL_liveCells
      rw [c1]
      simp only [Option.bind_some]
      rw [c2]
    · unfold f_Md_liveCells
      rw [c3]
      rfl
  rcases h0 with ⟨kn, dn, κ, τ, ρ, φ, L, nm, n, tx, O, hR, hX, h5, h17, hE⟩ | ⟨kn, κ, τ, ρ, φ, L, nm, n, tx, O, hR, hX, h5, h17, h40, h41⟩
  · obtain ⟨r, w1, v1, L2, b1, b2, b3, b4, b5, b6, b7⟩ := fin kn dn κ τ ρ φ L nm n tx O hR hX
    refine ⟨r, w1, v1, b1, b2, Or.inl ⟨kn, dn, κ, τ, ρ, φ, L2, nm, n, tx, O, b3, b4, by rw [b5]; exact h5, by rw [b7]; exact h17, ?_⟩⟩
    rcases hE with ⟨e1, e2, e3⟩ | ⟨e1, e2⟩
    · refine Or.inl ⟨by rw [b6]; exact e1, by rw [b7]; exact e2, Fmv_L (RL_Rd b3) (fun s hs => (Rd_L (RL_Rd hR) s hs).1) (by rw [b6]; exact e3) (RL_st b3).1⟩
    · exact Or.inr ⟨by rw [b6]; exact e1, by rw [b7]; exact e2⟩
  · obtain ⟨r, w1, v1, L2, b1, b2, b3, b4, b5, b6, b7⟩ := fin kn 0 κ τ ρ φ L nm n tx O hR hX
    exact ⟨r, w1, v1, b1, b2, Or.inr ⟨kn, κ, τ, ρ, φ, L2, nm, n, tx, O, b3, b4, by rw [b5]; exact h5, by rw [b7]; exact h17, by rw [b6]; exact h40, by rw [b6]; exact h41⟩⟩
theorem sim_count (h : ST S sz w v) (a : Int32) : ∃ (r : Int32) (w1 v1 : pm_W), f_CL_count S a w = some (r, w1) ∧ f_Md_count a v = some (r, v1) ∧ ST S sz w1 v1 := by
  obtain ⟨kn, dn, κ, τ, ρ, φ, L, nm, n, tx, O, hR, ⟨a1, a2, a3, a4, a5, a6, a7, a8⟩⟩ := ST_cx h
  obtain ⟨d1, d2, d3, _⟩ := RL_dn hR
  obtain ⟨m1, m2, _⟩ := hR.2.2.2.2.2.1
  unfold f_CL_count f_Md_count
  by_cases z0 : a = 0
  · rw [if_pos z0, if_pos z0]
    exact ⟨nI n, w, _, by rw [a1.2.1], by rw [a2.2.1], ST_0 h⟩
  · rw [if_neg z0, if_neg z0]
    by_cases z1 : a = 1
    · rw [if_pos z1, if_pos z1]
      exact ⟨nI dn, w, _, by rw [d2], by rw [d3], ST_0 h⟩
    · rw [if_neg z1, if_neg z1]
      by_cases z2 : a = 2
      · rw [if_pos z2, if_pos z2]
        exact ⟨nI kn, w, _, by rw [m1], by rw [m2], ST_0 h⟩
      · rw [if_neg z2, if_neg z2]
        by_cases z3 : a = 3
        · rw [if_pos z3, if_pos z3]
          exact ⟨v.1 0 19, w, _, by rw [a8], rfl, ST_0 h⟩
        · rw [if_neg z3, if_neg z3]
          exact ⟨-1, w, _, rfl, rfl, ST_0 h⟩
end
theorem sim_all (S sz : Nat) : Sim S (ST S sz) := fun _ _ h => ⟨fun a b => sim_feed h a b, fun a => run_sim h a, sim_outSize h, fun a => sim_out h a, sim_clear h, sim_live h, fun a => sim_count h a⟩
