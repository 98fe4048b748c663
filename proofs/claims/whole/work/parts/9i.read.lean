/-! reading: a form is read, both sides -/
section
variable {S sz m kn dn n : Nat} {κ τ ρ φ : Nat → Nat} {L : List Nat} {w v w1 v1 : pm_W} {tx : Nat → Nat} {nm : Nat → List Nat}
theorem RL_ag (h : RL S sz m kn dn κ τ ρ φ L w v) (hw : ag [3, 4, 5, 12, 13, 14, 15, 16, 17, 18, 19, 20, 22] w w1) (hv : ag [1, 2, 3, 4, 6, 7, 8, 9, 11] v v1) (hf : agF [1, 11, 12, 15, 16] v v1) : RL S sz m kn dn κ τ ρ φ L w1 v1 := by
  refine RL_mk (RH_st (RL_RH h) (Nat.le_refl _) (ag_sub hw (by decide)) (ag_sub hv (by decide)) (fun k hk => hf k (by revert k; decide))) ?_ ?_
  · unfold MSt
    rw [hw 4 (by decide), hw 13 (by decide), hw 14 (by decide), hw 15 (by decide), hw 16 (by decide), hf 11 (by decide), hf 15 (by decide), hf 16 (by decide), hv 6 (by decide), hv 7 (by decide), hv 8 (by decide), hv 9 (by decide)]
    exact h.2.2.2.1
  · unfold STy
    rw [hw 4 (by decide), hw 13 (by decide), hw 14 (by decide), hw 15 (by decide), hw 16 (by decide)]
    exact h.2.2.2.2.1
theorem ag_sm {os : List Nat} {bad : List Nat} (h : smC w w1 bad) (hd : ∀ o ∈ os, o ∉ bad) : ag os w w1 := fun o ho => h.2 o (hd o ho)
theorem agM_sm {os ks bad : List Nat} (h : smM v v1 ks bad) (h0 : 0 ∉ os) (hd : ∀ o ∈ os, o ∉ bad) : ag os v v1 := fun o ho => h.2.2 o (fun z => h0 (z ▸ ho)) (hd o ho)
theorem agF_sm {fs ks bad : List Nat} (h : smM v v1 ks bad) (hd : ∀ k ∈ fs, k ∉ ks) : agF fs v v1 := fun k hk => h.2.1 k (hd k hk)
theorem NmR_ag (hN : NmR kn nm w v) (h2 : w1.2 11 = w.2 11) (h10 : v1.1 10 = v.1 10) : NmR kn nm w1 v1 := by
  unfold NmR
  rw [h2, h10]
  exact hN
theorem wf_P {n : Nat} {tx : Nat → Nat} : ∀ (P k o : Nat) (q : Bool) (d e : Nat), wf n tx P k o q d e → P + k ≤ e := by
  intro P
  induction P with
  | zero => intro k o q d e h; have := h.1; omega
  | succ P ih =>
    intro k o q d e h
    obtain ⟨hk, o', q', d', h'⟩ := wf_nx h
    have h1 := nx_le (tx := tx) hk
    have := ih _ _ _ _ _ h'
    omega
/-- what both keep while idle: class's state at rest -/
def BGo (S sz : Nat) (w v : pm_W) (rc rm : Option (Int32 × pm_W)) : Prop := ∃ (r : Int32) (w1 v1 : pm_W) (n1 : Nat) (tx1 : Nat → Nat) (kn1 : Nat) (nm1 : Nat → List Nat) (κ τ ρ φ : Nat → Nat) (L : List Nat), rc = some (r, w1) ∧ rm = some (r, v1) ∧ TxC n1 tx1 w1 ∧ TxM n1 tx1 v1 ∧ NmR kn1 nm1 w1 v1 ∧ NmX kn1 nm1 ∧ 16 ≤ kn1 ∧ RL S sz 0 kn1 0 κ τ ρ φ L w1 v1 ∧ w1.1 2 = w.1 2 ∧ w1.1 10 = w.1 10 ∧ v1.1 0 22 = v.1 0 22 ∧ v1.1 13 = v.1 13 ∧ ((r = 2 ∧ w1.1 6 = w.1 6 ∧ v1.1 0 17 = v.1 0 17 ∧ v1.1 0 19 = v.1 0 19 ∧ w1.1 4 = w.1 4) ∨ (r = 1 ∧ w1.1 6 5 = 1 ∧ w1.1 6 6 = 1 ∧ v1.1 0 17 = 1 ∧ v1.1 0 19 = 1 ∧ EvR kn1 κ τ L w1 v1) ∨ (r < 0 ∧ w1.1 6 5 = w.1 6 5 ∧ w1.1 6 6 = 1 ∧ v1.1 0 17 = 0 ∧ v1.1 0 19 = 1 ∧ w1.1 4 = w.1 4))
/-- an error, or no room: the text is dropped -/
theorem rd_err {w0 v0 : pm_W} {e : Nat} {x : Int32} (hx : x < 0) (h : RL S sz m kn 0 κ τ ρ φ L w v) (hN : NmR kn nm w v) (hX : NmX kn nm) (h16 : 16 ≤ kn) (hC : TxC n tx w) (hM : TxM n tx v) (he : e ≤ n) (h73 : w.1 7 3 = nI e) (h29 : v.1 0 29 = nI e) (h19 : v.1 0 19 = 1) (g2 : w.1 2 = w0.1 2) (g10 : w.1 10 = w0.1 10) (g6 : w.1 6 = w0.1 6) (g4 : w.1 4 = w0.1 4) (g22 : v.1 0 22 = v0.1 0 22) (g13 : v.1 13 = v0.1 13) : BGo S sz w0 v0 (Option.bind (b_Reader_read_40 S x w) fun o1 => if o1.1 = (2 : Int32) then some ((2 : Int32), o1.2) else if o1.1 = 0 then Option.bind (f_Machine_evaluateNext S (o1.2.1 7 5) (2 : Int32) (pm_setI (pm_setI o1.2 6 6 (1 : Int32)) 6 5 (1 : Int32))) fun o4 => some (o4.1, o4.2) else some (o1.1, pm_setI o1.2 6 6 (1 : Int32))) (b_Md_reading_122 r0 x v) := by
  have n0 : ¬ x = 0 := fun z => by rw [z] at hx; exact absurd hx (by decide)
  have n1 : ¬ x = 1 := fun z => by rw [z] at hx; exact absurd hx (by decide)
  have n2 : ¬ x = 2 := fun z => by rw [z] at hx; exact absurd hx (by decide)
  obtain ⟨w2, a1, a2, a3⟩ := drop_C (S := S) hC he
  obtain ⟨v2, b1, b2, b3⟩ := drop_M hM he
  have hw3 : smC w (pm_setI w2 6 6 1) [1, 6, 9] := smC_set ⟨a3.1, fun o ho => a3.2 o (fun z => ho (by simp at z ⊢; omega))⟩ (by decide)
  have hv3 : smM v (pm_setI (pm_setI v2 0 17 0) 0 18 0) [17, 18, 20] [12] := smM_f (smM_f ⟨b3.1, fun k hk => b3.2.1 k (fun z => hk (by simp at z ⊢; omega)), b3.2.2⟩ (by decide)) (by decide)
  unfold b_Reader_read_40 b_Md_reading_122
  rw [if_neg n0, if_neg n2, h73, a1, if_neg n1, h29, b1]
  simp only [Option.bind_some]
  rw [if_neg n2, if_neg n0, if_neg n1]
  refine ⟨x, _, _, _, _, kn, nm, κ, τ, ρ, φ, L, rfl, rfl, TxC_sm a2 (rdI_o _ (by decide)) (rdI_o _ (by decide)), TxM_sm b2 (by rw [rdI_n _ (Or.inr (by decide)), rdI_n _ (Or.inr (by decide))]) (by rw [rdI_o _ (by decide), rdI_o _ (by decide)]), NmR_ag hN (by rw [hw3.1]) (hv3.2.2 10 (by decide) (by decide)), hX, h16, RL_0 (RL_ag h (ag_sm hw3 (by decide)) (agM_sm hv3 (by decide) (by decide)) (agF_sm hv3 (by decide))), by rw [hw3.2 2 (by decide), g2], by rw [hw3.2 10 (by decide), g10], by rw [hv3.2.1 22 (by decide), g22], by rw [hv3.2.2 13 (by decide) (by decide), g13], Or.inr (Or.inr ⟨hx, ?_, rdI_s _ _ _ _, ?_, ?_, by rw [hw3.2 4 (by decide), g4]⟩)⟩
  · rw [rdI_n _ (Or.inr (by decide)), a3.2 6 (by decide), g6]
  · rw [rdI_n _ (Or.inr (by decide)), rdI_s]
  · rw [hv3.2.1 19 (by decide)]; exact h19
theorem begin_sim (h : RL S sz m kn 0 κ τ ρ φ L w v) (hN : NmR kn nm w v) (hX : NmX kn nm) (h16 : 16 ≤ kn) (hC : TxC n tx w) (hM : TxM n tx v) (h40 : w.1 4 0 = 2) (h41 : w.1 4 1 = 2) : BGo S sz w v (f_Machine_begin S w) (f_Md_reading v) := by
  have hn := hC.1
  -- the form is looked for
  have hw0 : smC w (pm_setI w 7 4 0) [7] := smC_set smC_rf (by decide)
  have hv0 : smM v (pm_setI v 0 30 0) [29, 30] [] := smM_f smM_rf (by decide)
  have hC0 := TxC_sm hC (hw0.2 1 (by decide)) (hw0.2 9 (by decide))
  have hM0 := TxM_sm hM (hv0.2.1 20 (by decide)) (hv0.2.2 12 (by decide) (by decide))
  have hff := find_l (S := S) (n := n) (tx := tx) n 0 0 0 0 (pm_fuel - (n + 1)) (pm_fuel - (n + 1)) false _ _ hC0 hM0 (by omega) (by omega) (by omega) (by omega) (rdI_s _ _ _ _) (rdI_s _ _ _ _)
  rw [fuel_s _ (by omega)] at hff
  obtain ⟨w1, v1, r, f1, f2, f3, f4⟩ := hff
  have hw1 := smC_tr hw0 f1
  have hv1 := smM_tr hv0 f2
  have hfind : f_Reader_findForm S w = some (r, w1) := f3
  have hlook : f_Md_lookOver v = l_Md_lookOver pm_fuel 0 (nI 0) (b2 false) (nI (sk n tx 0)) (pm_setI v 0 30 0) := by
    unfold f_Md_lookOver
    rw [show f_Md_skip 0 (pm_setI v 0 30 0) = some (nI (sk n tx 0), pm_setI v 0 30 0) from skip_M hM0 (k := 0) (by omega)]
    rfl
  have hC1 := TxC_sm hC (hw1.2 1 (by decide)) (hw1.2 9 (by decide))
  have hM1 := TxM_sm hM (hv1.2.1 20 (by decide)) (hv1.2.2 12 (by decide) (by decide))
  have hN1 : NmR kn nm w1 v1 := NmR_ag hN (by rw [hw1.1]) (hv1.2.2 10 (by decide) (by decide))
  have h1 : RL S sz m kn 0 κ τ ρ φ L w1 v1 := RL_ag h (ag_sm hw1 (by decide)) (agM_sm hv1 (by decide) (by decide)) (agF_sm hv1 (by decide))
  -- with the number of steps set
  have hv1' : smM v (pm_setI v1 0 19 1) [19, 29, 30] [] := smM_f ⟨hv1.1, fun k hk => hv1.2.1 k (fun z => hk (by simp at z ⊢; omega)), hv1.2.2⟩ (by decide)
  have hM1' := TxM_sm hM (hv1'.2.1 20 (by decide)) (hv1'.2.2 12 (by decide) (by decide))
  have hN1' : NmR kn nm w1 (pm_setI v1 0 19 1) := NmR_ag hN (by rw [hw1.1]) (hv1'.2.2 10 (by decide) (by decide))
  have h1' : RL S sz m kn 0 κ τ ρ φ L w1 (pm_setI v1 0 19 1) := RL_ag h (ag_sm hw1 (by decide)) (agM_sm hv1' (by decide) (by decide)) (agF_sm hv1' (by decide))
  unfold f_Machine_begin f_Reader_read f_Md_reading
  rw [hfind, hlook]
  simp only [Option.bind_some]
  rcases f4 with ⟨r2, f5⟩ | ⟨r2, f5, e, e1, e2, e3⟩ | ⟨r2, f5, P, d, e, p1, p2, p3, p4, p5, p6⟩
  · -- none
    subst r2
    rw [f5]
    simp only [Option.bind_some]
    rw [if_neg (by decide), if_pos trivial]
    unfold b_Reader_read_19 b_Reader_read_40
    rw [if_neg (by decide), if_neg (by decide), if_pos rfl]
    simp only [Option.bind_some]
    rw [if_pos trivial]
    exact ⟨2, w1, v1, n, tx, kn, nm, κ, τ, ρ, φ, L, rfl, rfl, hC1, hM1, hN1, hX, h16, RL_0 h1, hw1.2 2 (by decide), hw1.2 10 (by decide), hv1.2.1 22 (by decide), hv1.2.2 13 (by decide) (by decide), Or.inl ⟨rfl, hw1.2 6 (by decide), hv1.2.1 17 (by decide), hv1.2.1 19 (by decide), hw1.2 4 (by decide)⟩⟩
  · -- a fault
    subst r2
    rw [f5]
    simp only [Option.bind_some]
    rw [if_neg (show ¬ (-1 : Int32) = 0 by decide), if_neg (show ¬ (-1 : Int32) = 0 by decide), if_pos (show (-1 : Int32) ≤ 0 by decide), show f_Md_skip 0 (pm_setI v1 0 19 1) = some (nI (sk n tx 0), pm_setI v1 0 19 1) from skip_M hM1' (k := 0) (by omega)]
    simp only [Option.bind_some]
    have hrd : l_Md_reading pm_fuel 0 (-1) 0 (nI (sk n tx 0)) (pm_setI v1 0 19 1) = b_Md_reading_122 r0 (-1) (pm_setI v1 0 19 1) := by
      obtain ⟨F, hF⟩ := fuel_1
      rw [hF, l_Md_reading_s]
      unfold b_Md_reading_32
      rw [if_neg (show ¬ (0 : Int32) ≤ -1 by decide), if_pos (show (0 : Int32) = 0 from rfl), b122_r]
      split <;> rfl
    rw [hrd]
    have h19 : b_Reader_read_19 S (-1) w1 = b_Reader_read_40 S (-1) w1 := by
      unfold b_Reader_read_19
      rw [if_neg (by decide)]
    rw [h19]
    exact rd_err (by decide) h1' hN1' hX h16 hC1 hM1' e1 e2 (by rw [rdI_n _ (Or.inr (by decide))]; exact e3) (rdI_s _ _ _ _) (hw1.2 2 (by decide)) (hw1.2 10 (by decide)) (hw1.2 6 (by decide)) (hw1.2 4 (by decide)) (hv1'.2.1 22 (by decide)) (hv1'.2.2 13 (by decide) (by decide))
  · -- a form
    subst r2
    rw [f5]
    simp only [Option.bind_some]
    have hen := (wf_le _ _ _ _ _ _ p1 (by omega)).2
    have hP := wf_P _ _ _ _ _ _ p1
    rw [if_pos trivial, if_neg (show ¬ (1 : Int32) = 0 by decide), if_neg (show ¬ (1 : Int32) ≤ 0 by decide), show f_Md_skip 0 (pm_setI v1 0 19 1) = some (nI (sk n tx 0), pm_setI v1 0 19 1) from skip_M hM1' (k := 0) (by omega)]
    simp only [Option.bind_some]
    have hln := learn_l (S := S) (sz := sz) (m := m) (dn := 0) (n := n) (κ := κ) (τ := τ) (ρ := ρ) (φ := φ) (L := L) (tx := tx) P 0 0 0 (pm_fuel - (P + 1)) (pm_fuel - (P + 1)) kn d false nm w1 (pm_setI v1 0 19 1) p1 (by omega) (by omega) h1' hN1' hX hC1 hM1' p2 (by rw [rdI_n _ (Or.inr (by decide))]; exact p3)
    rw [fuel_s _ (by omega)] at hln
    obtain ⟨w2, v2, kn2, nm2, ok, a1, a2, a3, a4, a5, a6, a7, a8, a9, a10⟩ := hln
    have hlearn : f_Reader_learnSymbols S w1 = some (b2 ok, w2) := a1
    rw [hlearn, show l_Md_reading pm_fuel 0 1 1 (nI (sk n tx 0)) (pm_setI v1 0 19 1) = _ from a2]
    simp only [Option.bind_some]
    have W2 : ∀ o, o ≠ 3 → o ≠ 12 → o ≠ 7 → w2.1 o = w.1 o := fun o h3 h12 h7 => by rw [a8.2 o h3 h12, hw1.2 o (by simp [h7])]
    have w27 : w2.1 7 = w1.1 7 := a8.2 7 (by decide) (by decide)
    have V2 : ∀ o, o ≠ 0 → o ≠ 10 → v2.1 o = v.1 o := fun o h0 h10 => by rw [a9.2.2 o h0 (by simp [h10]), hv1'.2.2 o h0 (by simp)]
    have F2 : ∀ k, k ∉ [12, 19, 29, 30] → v2.1 0 k = v.1 0 k := fun k hk => by rw [a9.2.1 k (fun z => hk (by simp at z ⊢; omega)), hv1'.2.1 k (fun z => hk (by simp at z ⊢; omega))]
    have v2o : ∀ k, k ≠ 12 → v2.1 0 k = (pm_setI v1 0 19 1).1 0 k := fun k hk => a9.2.1 k (by simp [hk])
    have hC2 := TxC_sm hC (W2 1 (by decide) (by decide) (by decide)) (W2 9 (by decide) (by decide) (by decide))
    have hM2 := TxM_sm hM (F2 20 (by decide)) (V2 12 (by decide) (by decide))
    have e73 : w2.1 7 3 = nI e := by rw [w27]; exact p2
    have e29 : v2.1 0 29 = nI e := by rw [v2o 29 (by decide), rdI_n _ (Or.inr (by decide))]; exact p3
    have e19 : v2.1 0 19 = 1 := by rw [v2o 19 (by decide), rdI_s]
    cases ok with
    | false =>
      rw [if_pos (show b2 false = 0 from rfl), if_neg (show ¬ false = true by decide)]
      unfold K0
      have h19 : b_Reader_read_19 S (-8) w2 = b_Reader_read_40 S (-8) w2 := by
        unfold b_Reader_read_19
        rw [if_neg (by decide)]
      rw [h19]
      exact rd_err (by decide) a3 a4 a5 (by omega) hC2 hM2 hen e73 e29 e19 (W2 2 (by decide) (by decide) (by decide)) (W2 10 (by decide) (by decide) (by decide)) (W2 6 (by decide) (by decide) (by decide)) (W2 4 (by decide) (by decide) (by decide)) (F2 22 (by decide)) (V2 13 (by decide) (by decide))
    | true =>
      rw [if_neg (show ¬ b2 true = 0 by decide), if_pos rfl]
      unfold K1 b_Reader_read_19
      have e74 : w2.1 7 4 = nI (0 + d) := by rw [w27]; exact p4
      have e30 : v2.1 0 30 = nI (0 + d) := by rw [v2o 30 (by decide), rdI_n _ (Or.inr (by decide))]; exact p5
      rw [if_pos rfl, e74, e30, Nat.zero_add]
      obtain ⟨b, L3, w3, v3, c1, c2, c3, c4, c5⟩ := room_sim a3 (n := d) (by omega)
      rw [c1, c2]
      simp only [Option.bind_some]
      have W3 : ∀ o, o ≠ 5 → o ≠ 20 → o ≠ 21 → o ≠ 22 → w3.1 o = w2.1 o := c4.2.1
      have w32 : w3.2 = w2.2 := c4.1
      have V3 : ∀ o, o ∈ [0, 2, 3, 4, 6, 7, 8, 9, 10, 11, 12, 13, 14, 15, 16] → v3.1 o = v2.1 o := fun o ho => c5.2 o (fun z => by subst z; revert ho; decide) (fun z => by subst z; revert ho; decide)
      have v30 := V3 0 (by decide)
      have hC3 := TxC_sm hC2 (W3 1 (by decide) (by decide) (by decide) (by decide)) (W3 9 (by decide) (by decide) (by decide) (by decide))
      have hM3 := TxM_sm hM2 (by rw [v30]) (V3 12 (by decide))
      have hN3 : NmR kn2 nm2 w3 v3 := NmR_ag a4 (by rw [w32]) (V3 10 (by decide))
      cases b with
      | false =>
        simp only [Bool.false_eq_true, if_false, if_true]
        exact rd_err (by decide) c3 hN3 a5 (by omega) hC3 hM3 hen (by rw [W3 7 (by decide) (by decide) (by decide) (by decide)]; exact e73) (by rw [v30]; exact e29) (by rw [v30]; exact e19) (by rw [W3 2 (by decide) (by decide) (by decide) (by decide)]; exact W2 2 (by decide) (by decide) (by decide)) (by rw [W3 10 (by decide) (by decide) (by decide) (by decide)]; exact W2 10 (by decide) (by decide) (by decide)) (by rw [W3 6 (by decide) (by decide) (by decide) (by decide)]; exact W2 6 (by decide) (by decide) (by decide)) (by rw [W3 4 (by decide) (by decide) (by decide) (by decide)]; exact W2 4 (by decide) (by decide) (by decide)) (by rw [v30]; exact F2 22 (by decide)) (by rw [V3 13 (by decide)]; exact V2 13 (by decide) (by decide))
      | true =>
        simp only [if_true] at c3 ⊢
        rw [if_neg (by decide), if_neg (by decide)]
        unfold b_Reader_read_40 b_Md_reading_122
        rw [if_pos rfl, if_pos rfl]
        have w34 : w3.1 4 = w.1 4 := by rw [W3 4 (by decide) (by decide) (by decide) (by decide)]; exact W2 4 (by decide) (by decide) (by decide)
        obtain ⟨d1, d2, d3, d4, d5, d6⟩ := RL_dn c3
        rw [w34, h40, tr_2] at d4
        rw [w34, h41, tr_2] at d5
        have hM4 : TxM n tx (pm_setI v3 16 0 0) := TxM_sm hM3 (by rw [rdI_n _ (Or.inl (by decide))]) (rdI_o _ (by decide))
        have hw4 : frB w3 (pm_setI w3 7 5 2) := frB_7 frB_rf
        have hv4 : frD v3 (pm_setI v3 16 0 0) := frD_s frD_rf (by decide) (by decide)
        have hbd := build_l (S := S) (sz := sz) (kn := kn2) (n := n) (tx := tx) (nm := nm2) (by omega) a5 (e := e) P 0 0 0 (pm_fuel - (P + 1)) (pm_fuel - (P + 1)) d false [] κ τ ρ φ L3 (pm_setI w3 7 5 2) (pm_setI v3 16 0 0) p1 rfl (by omega) (by omega) (by omega) (RH_st (RL_RH c3) (Nat.le_refl _) (ag_set ag_rf (by decide)) (ag_set ag_rf (by decide)) (agF_o agF_rf (by decide))) trivial (rdI_s _ _ _ _) (by rw [rdI_n _ (Or.inl (by decide)), rdI_s, tr_2]; exact d4) (by rw [rdI_s]; exact Or.inr (Or.inr (Or.inl rfl))) (NmR_ag hN3 rfl (rdI_o _ (by decide))) (TxC_sm hC3 (rdI_o _ (by decide)) (rdI_o _ (by decide))) hM4 (a10 rfl) (by rw [rdI_n _ (Or.inr (by decide)), W3 7 (by decide) (by decide) (by decide) (by decide)]; exact e73) (by rw [rdI_n _ (Or.inl (by decide)), v30]; exact e29)
        rw [fuel_s _ (by omega)] at hbd
        obtain ⟨κ', τ', ρ', φ', L', w5, v5, q1, q2, q3, q4, q5, q6, q7⟩ := hbd
        have hbuild : f_Reader_build S w3 = some w5 := q1
        have hread : f_Md_read v3 = some v5 := by
          unfold f_Md_read
          rw [if_neg (by decide), show vp_nar .boolean (0 : Int32) = 0 from nar_b false, show ((0 : Int32).toNatClampNeg) = 0 from rfl, show f_Md_skip 0 (pm_setI v3 16 0 0) = _ from skip_M hM4 (k := 0) (by omega)]
          exact q2
        have hfw := frB_tr hw4 q6
        have hfv := frD_tr hv4 q7
        have hC5 := TxC_sm hC3 (hfw.1.2 1 (by decide)) (hfw.1.2 9 (by decide))
        have hM5 := TxM_sm hM3 (hfv.2.1 20 (by decide)) (hfv.2.2 12 (by decide) (by decide))
        obtain ⟨w6, x1, x2, x3⟩ := drop_C (S := S) hC5 hen
        obtain ⟨v6, y1, y2, y3⟩ := drop_M hM5 hen
        rw [hbuild, hread]
        simp only [Option.bind_some]
        rw [if_neg (show ¬ (0 : Int32) = 2 by decide), hfw.2, W3 7 (by decide) (by decide) (by decide) (by decide), e73, x1, hfv.2.1 29 (by decide), v30, e29, y1]
        simp only [Option.bind_some]
        rw [if_neg (show ¬ (0 : Int32) = 2 by decide), if_pos trivial, if_pos trivial]
        unfold f_Machine_evaluateNext
        simp only [Option.bind_some]
        have w6o : ∀ o, o ≠ 1 → o ≠ 9 → w6.1 o = w5.1 o := fun o h1 h9 => x3.2 o (by simp [h1, h9])
        have w62 : w6.2 = w.2 ∨ True := Or.inr trivial
        have v6o : ∀ o, o ≠ 0 → o ≠ 12 → v6.1 o = v5.1 o := fun o h0 h12 => y3.2.2 o h0 (by simp [h12])
        have v6f : ∀ k, k ≠ 20 → v6.1 0 k = v5.1 0 k := fun k hk => y3.2.1 k (by simp [hk])
        have w53 : ∀ o, o ∉ [5, 7, 17, 18, 19, 23, 24, 25] → w5.1 o = w3.1 o := hfw.1.2
        have v53 : ∀ k, k ≠ 15 → v5.1 0 k = v3.1 0 k := fun k hk => hfv.2.1 k (by simp [hk])
        have e75 : w6.1 7 5 = w5.1 7 5 := by rw [w6o 7 (by decide) (by decide)]
        refine ⟨1, _, _, n - e, fun i => tx (i + e), kn2, nm2, κ', τ', ρ', φ', L', rfl, rfl, ?_, ?_, ?_, a5, by omega, ?_, ?_, ?_, ?_, ?_, Or.inr (Or.inl ⟨rfl, ?_, ?_, ?_, ?_, ?_⟩)⟩
        · refine TxC_sm x2 ?_ ?_
          · rw [rdI_o _ (by decide), rdI_o _ (by decide), rdI_o _ (by decide), rdI_o _ (by decide), rdI_o _ (by decide)]
          · rw [rdI_o _ (by decide), rdI_o _ (by decide), rdI_o _ (by decide), rdI_o _ (by decide), rdI_o _ (by decide)]
        · refine TxM_sm y2 ?_ ?_
          · rw [rdI_n _ (Or.inr (by decide)), rdI_n _ (Or.inr (by decide))]
          · rw [rdI_o _ (by decide), rdI_o _ (by decide)]
        · refine NmR_ag hN3 ?_ ?_
          · show w6.2 11 = _
            rw [x3.1, hfw.1.1]
          · rw [rdI_o _ (by decide), rdI_o _ (by decide), v6o 10 (by decide) (by decide), hfv.2.2 10 (by decide) (by decide)]
        · refine RL_mk (RH_st q3 (Nat.le_refl _) (fun o ho => ?_) (fun o ho => ?_) (fun k hk => ?_)) ⟨by omega, ?_, ?_, ?_, ?_, fun i hi => absurd hi (by omega)⟩ ⟨?_, ?_, fun i hi => absurd hi (by omega)⟩
          · have h4 : o ≠ 4 := fun z => by subst z; revert ho; decide
            have h6 : o ≠ 6 := fun z => by subst z; revert ho; decide
            rw [rdI_o _ h4, rdI_o _ h4, rdI_o _ h4, rdI_o _ h6, rdI_o _ h6, w6o o (fun z => by subst z; revert ho; decide) (fun z => by subst z; revert ho; decide)]
          · have h0 : o ≠ 0 := fun z => by subst z; revert ho; decide
            rw [rdI_o _ h0, rdI_o _ h0, v6o o h0 (fun z => by subst z; revert ho; decide)]
          · rw [rdI_n _ (Or.inr (fun z => by subst z; revert hk; decide)), rdI_n _ (Or.inr (fun z => by subst z; revert hk; decide)), v6f k (fun z => by subst z; revert hk; decide)]
          · rw [rdI_n _ (Or.inr (by decide)), rdI_n _ (Or.inr (by decide)), rdI_n _ (Or.inr (by decide)), rdI_n _ (Or.inl (by decide)), rdI_n _ (Or.inl (by decide)), w6o 4 (by decide) (by decide), w53 4 (by decide)]; exact d2
          · rw [rdI_n _ (Or.inr (by decide)), rdI_n _ (Or.inr (by decide)), v6f 11 (by decide), v53 11 (by decide)]; exact d3
          · rw [rdI_n _ (Or.inr (by decide)), rdI_n _ (Or.inr (by decide)), v6f 15 (by decide), q4, rdI_n _ (Or.inr (by decide)), rdI_n _ (Or.inr (by decide)), rdI_s, e75]
          · rw [rdI_n _ (Or.inr (by decide)), rdI_n _ (Or.inr (by decide)), v6f 16 (by decide), v53 16 (by decide), rdI_n _ (Or.inr (by decide)), rdI_s, tr_2]; exact d5
          · rw [rdI_n _ (Or.inr (by decide)), rdI_n _ (Or.inr (by decide)), rdI_s, e75]; exact Fmv_gv q5
          · rw [rdI_n _ (Or.inr (by decide)), rdI_s]; exact Or.inl rfl
        · rw [rdI_o _ (by decide), rdI_o _ (by decide), rdI_o _ (by decide), rdI_o _ (by decide), rdI_o _ (by decide), w6o 2 (by decide) (by decide), w53 2 (by decide), W3 2 (by decide) (by decide) (by decide) (by decide)]; exact W2 2 (by decide) (by decide) (by decide)
        · rw [rdI_o _ (by decide), rdI_o _ (by decide), rdI_o _ (by decide), rdI_o _ (by decide), rdI_o _ (by decide), w6o 10 (by decide) (by decide), w53 10 (by decide), W3 10 (by decide) (by decide) (by decide) (by decide)]; exact W2 10 (by decide) (by decide) (by decide)
        · rw [rdI_n _ (Or.inr (by decide)), rdI_n _ (Or.inr (by decide)), v6f 22 (by decide), v53 22 (by decide), v30]; exact F2 22 (by decide)
        · rw [rdI_o _ (by decide), rdI_o _ (by decide), v6o 13 (by decide) (by decide), hfv.2.2 13 (by decide) (by decide), V3 13 (by decide)]; exact V2 13 (by decide) (by decide)
        · rw [rdI_n _ (Or.inl (by decide)), rdI_n _ (Or.inl (by decide)), rdI_n _ (Or.inl (by decide)), rdI_s]
        · rw [rdI_n _ (Or.inl (by decide)), rdI_n _ (Or.inl (by decide)), rdI_n _ (Or.inl (by decide)), rdI_n _ (Or.inr (by decide)), rdI_s]
        · rw [rdI_n _ (Or.inr (by decide)), rdI_s]
        · rw [rdI_n _ (Or.inr (by decide)), rdI_n _ (Or.inr (by decide)), v6f 19 (by decide), v53 19 (by decide), v30]; exact e19
        · refine Or.inl ⟨rdI_s _ _ _ _, rdI_s _ _ _ _, ?_⟩
          rw [rdI_n _ (Or.inr (by decide)), rdI_n _ (Or.inr (by decide)), rdI_s, e75]
          exact q5
end
