/-! reading: the loop that builds the form -/
def pl2 : List Bool → Nat
  | [] => 0
  | b :: r => (if b = true then 4 else 0) + (if 0 < r.length then 2 else 0) + pl2 r
def pend (q : Bool) (qs : List Bool) : Nat := (if q = true then 4 + (if 0 < qs.length then 2 else 0) else 0) + pl2 qs
section
variable {S sz kn n : Nat} {tx : Nat → Nat} {nm : Nat → List Nat}
theorem fd_n {l : List Nat} (h : ∀ s, s < kn → nm s ≠ l) : fd nm l kn 0 = kn := by
  obtain ⟨f1, f2, f3, f4⟩ := fd_ok (nm := nm) (l := l) kn 0
  apply Classical.byContradiction
  intro z
  exact h _ (by omega) (f3 (by omega))
theorem fd_y {l : List Nat} (h : ∃ j, j < kn ∧ nm j = l) : fd nm l kn 0 < kn := by
  obtain ⟨f1, f2, f3, f4⟩ := fd_ok (nm := nm) (l := l) kn 0
  obtain ⟨j, h1, h2⟩ := h
  apply Classical.byContradiction
  intro z
  exact f4 j (by omega) (by omega) h2
/-- a word's value -/
theorem word_sim {κ τ ρ φ : Nat → Nat} {L : List Nat} {m : Nat} {w v : pm_W} (h : RH S sz m kn κ τ ρ φ L w v) (hN : NmR kn nm w v) (hX : NmX kn nm) (hC : TxC n tx w) (hM : TxM n tx v) {k e : Nat} (hk : k < e) (he : e ≤ n) (hn : isN tx k e = true ∨ wl tx k e = nilW ∨ ∃ j, j < kn ∧ nm j = wl tx k e) : ∃ a, f_Reader_wordValue S (nI k) (nI e) w = some (a, w) ∧ f_Md_atom (nI k) (nI e) v = some (tr φ a, v) ∧ Fmv kn κ τ L a := by
  have hkn := h.2.2.1.2.2.2.1
  obtain ⟨m1, m2, m3, m4⟩ := h.2.2.2.1
  obtain ⟨w0, w1, w2⟩ := wl_ok hC hk he
  unfold f_Reader_wordValue f_Md_atom f_Value_of
  rw [isN_C hC (by omega) hk he, isN_M hM (by omega) hk he]
  simp only [Option.bind_some]
  cases z : isN tx k e with
  | true =>
    rw [if_neg (show ¬ b2 true = 0 by decide), if_neg (show ¬ b2 true = 0 by decide), num_C hC (by omega) hk he, num_M hM (by omega) hk he]
    simp only [Option.bind_some]
    exact ⟨_, rfl, by rw [num_or, tr_N (num_and _)], Or.inl (by rw [num_or]; exact num_and _)⟩
  | false =>
    rw [if_pos (show b2 false = 0 from rfl), if_pos (show b2 false = 0 from rfl), name_C hC (by omega) he, nil_M hM hk he]
    simp only [Option.bind_some]
    rw [find_C hN hkn m1 w1 w2, sym_M hM hC hN hkn m2 hk he]
    simp only [Option.bind_some]
    by_cases y : wl tx k e = nilW
    · rw [decide_eq_true y, if_neg (show ¬ b2 true = 0 by decide), y, fd_n hX, if_neg (Nat.lt_irrefl _), if_neg (by decide)]
      exact ⟨2, rfl, by rw [tr_2], Or.inr (Or.inr (Or.inl rfl))⟩
    · have hj : ∃ j, j < kn ∧ nm j = wl tx k e := by
        rcases hn with q | q | q
        · rw [z] at q; exact absurd q (by decide)
        · exact absurd q y
        · exact q
      have hfd := fd_y hj
      rw [decide_eq_false y, if_pos (show b2 false = 0 from rfl), if_pos hfd, if_pos (nI_pos' (by omega)), show (1 : Int32) = nI 1 from rfl, shl3_or (by omega) (by omega)]
      refine ⟨_, rfl, ?_, Or.inr (Or.inl ⟨fd nm (wl tx k e) kn 0, hfd, rfl⟩)⟩
      rw [show nI (8 * fd nm (wl tx k e) kn 0 + 1) = vS (fd nm (wl tx k e) kn 0) from rfl, tr_S (by omega), show (536871000 : Int32) = nI 536871000 from rfl, nI_add]
/-- what building gives -/
def BDo (S sz kn : Nat) (w v : pm_W) (rc rm : Option pm_W) : Prop := ∃ (κ τ ρ φ : Nat → Nat) (L : List Nat) (w1 v1 : pm_W), rc = some w1 ∧ rm = some v1 ∧ RH S sz 0 kn κ τ ρ φ L w1 v1 ∧ v1.1 0 15 = tr φ (w1.1 7 5) ∧ Fmv kn κ τ L (w1.1 7 5) ∧ frB w w1 ∧ frD v v1
theorem BDo_fr {w v w0 v0 : pm_W} {rc rm : Option pm_W} (h : BDo S sz kn w v rc rm) (h1 : frB w0 w) (h2 : frD v0 v) : BDo S sz kn w0 v0 rc rm := by
  obtain ⟨κ, τ, ρ, φ, L, w1, v1, a1, a2, a3, a4, a5, a6, a7⟩ := h
  exact ⟨κ, τ, ρ, φ, L, w1, v1, a1, a2, a3, a4, a5, frB_tr h1 a6, frD_tr h2 a7⟩
theorem build_l (h16 : 16 ≤ kn) (hX : NmX kn nm) {e : Nat} : ∀ (P k o x4 f1 f2 d : Nat) (q : Bool) (qs : List Bool) (κ τ ρ φ : Nat → Nat) (L : List Nat) (w v : pm_W), wf n tx P k o q d e → qs.length = o → o ≤ 10 → k ≤ n → x4 ≤ k → RH S sz (d + pend q qs) kn κ τ ρ φ L w v → lvl κ τ φ L w v qs → v.1 16 o = b2 q → v.1 0 15 = tr φ (w.1 7 5) → Fmv kn κ τ L (w.1 7 5) → NmR kn nm w v → TxC n tx w → TxM n tx v → kno n tx kn nm P k → w.1 7 3 = nI e → v.1 0 29 = nI e → BDo S sz kn w v (l_Reader_build S (f1 + P + 1) 0 (nI o) (b2 q) (nI k) (nI x4) w) (l_Md_read (f2 + P + 1) 0 (nI o) (nI (sk n tx k)) v) := by
  intro P
  induction P with
  | zero =>
    intro k o x4 f1 f2 d q qs κ τ ρ φ L w v hw hqs ho hkn hx h hl h16' hf hff hN hC hM hkno h73 h29
    have hn := hC.1
    obtain ⟨ek, eo, eq, ed⟩ := hw
    subst ek
    have hs := sk_le (tx := tx) hkn
    refine ⟨κ, τ, ρ, φ, L, w, v, ?_, ?_, RH_0 h, hf, hff, frB_rf, frD_rf⟩
    · rw [l_Reader_build_s]
      unfold b_Reader_build_14
      rw [h73, if_pos (Int32.le_refl _)]
      by_cases z : (120 : Int32) ≤ nI x4
      · rw [if_pos z]
      · rw [if_neg z]
    · rw [l_Md_read_s]
      unfold b_Md_read_15
      rw [h29, if_pos (q_le hs.1 (by omega))]
  | succ P ih =>
    intro k o x4 f1 f2 d q qs κ τ ρ φ L w v hw hqs ho hkn hx h hl h16' hf hff hN hC hM hkno h73 h29
    have hn := hC.1
    have hke := wf_pos hw
    have hen := (wf_le _ _ _ _ _ _ hw hkn).2
    have e2 : ∀ q : Bool, pend q qs = (if q = true then 4 + (if 0 < o then 2 else 0) else 0) + pl2 qs := fun q => by unfold pend; rw [hqs]
    obtain ⟨hk, hw⟩ := hw
    obtain ⟨x1, x2⟩ := nx_le (tx := tx) hk
    have hc := ch_lt (hC.2.2 k hk).1
    have tM := (hM.2.2 k hk).2
    obtain ⟨kw, kr⟩ := hkno
    have eC : l_Reader_build S (f1 + (P + 1) + 1) 0 (nI o) (b2 q) (nI k) (nI x4) w = (if nI (tx k) = (40 : Int32) then (if nI o < 0 then b_Reader_build_95 S (l_Reader_build S (f1 + P + 1)) (nI o) (b2 q) (nI k) (nI x4) (nI (tx k)) (nI (nx n tx k)) w else if (10 : Int32) ≤ nI o then b_Reader_build_95 S (l_Reader_build S (f1 + P + 1)) (nI o) (b2 q) (nI k) (nI x4) (nI (tx k)) (nI (nx n tx k)) w else if (nI o + (1 : Int32)) < 0 ∨ 11 ≤ (nI o + (1 : Int32)).toNatClampNeg then none else if (nI o + (1 : Int32)) < 0 ∨ 11 ≤ (nI o + (1 : Int32)).toNatClampNeg then none else if (nI o + (1 : Int32)) < 0 ∨ 11 ≤ (nI o + (1 : Int32)).toNatClampNeg then none else l_Reader_build S (f1 + P + 1) 0 (nI o + (1 : Int32)) (0 : Int32) (nI (nx n tx k)) (nI x4 + (1 : Int32)) (pm_setI (pm_setI (pm_setI w 23 (nI o + (1 : Int32)).toNatClampNeg (2 : Int32)) 24 (nI o + (1 : Int32)).toNatClampNeg (2 : Int32)) 25 (nI o + (1 : Int32)).toNatClampNeg (vp_nar .boolean (b2 q)))) else b_Reader_build_95 S (l_Reader_build S (f1 + P + 1)) (nI o) (b2 q) (nI k) (nI x4) (nI (tx k)) (nI (nx n tx k)) w) := by
      rw [show f1 + (P + 1) + 1 = (f1 + P + 1) + 1 by omega, l_Reader_build_s]
      unfold b_Reader_build_14
      rw [if_neg (show ¬ (120 : Int32) ≤ nI x4 from q_nle (a := 120) (by omega) (by omega)), h73, if_neg (q_nle hke (by omega)), at_C hC hk]
      simp only [Option.bind_some]
      rw [piece_C hC hk]
      rfl
    have eM : ¬ bl (tx k) → l_Md_read (f2 + (P + 1) + 1) 0 (nI o) (nI (sk n tx k)) v = b_Md_read_15 (l_Md_read (f2 + P + 1)) (nI o) (nI k) v := fun hb => by
      rw [sk_n hk hb, show f2 + (P + 1) + 1 = (f2 + P + 1) + 1 by omega, l_Md_read_s]
    have hinM : ¬ (nI k < 0 ∨ 120 ≤ (nI k).toNatClampNeg) := nI_in (by omega) (by omega)
    have n95 : ¬ tx k = 41 → b_Reader_build_95 S (l_Reader_build S (f1 + P + 1)) (nI o) (b2 q) (nI k) (nI x4) (nI (tx k)) (nI (nx n tx k)) w = b_Reader_build_140 S (l_Reader_build S (f1 + P + 1)) (nI o) (b2 q) (nI k) (nI x4) (nI (tx k)) (nI (nx n tx k)) w := fun z => by
      unfold b_Reader_build_95
      rw [if_neg (show ¬ nI (tx k) = 41 from q_ne (b := 41) z (by omega) (by omega))]
    have go : ∀ v1, TxM n tx v1 → ¬ bl (tx k) → ∀ o', (Option.bind (f_Md_tokenEnd (nI k) v1) fun o23 => Option.bind (f_Md_skip o23.1 o23.2) fun o24 => l_Md_read (f2 + P + 1) 0 o' o24.1 o24.2) = l_Md_read (f2 + P + 1) 0 o' (nI (sk n tx (nx n tx k))) v1 := fun v1 hM1 hb o' => by
      rw [token_M hM1 hk hb]
      simp only [Option.bind_some]
      rw [skip_M hM1 x2]
      rfl
    split at hw
    · -- a blank
      rename_i hb
      have hnx : nx n tx k = k + 1 := nx_s (fun z => z.1 hb)
      have c40 : ¬ tx k = 40 := fun z => by rcases hb with y | y <;> omega
      have c41 : ¬ tx k = 41 := fun z => by rcases hb with y | y <;> omega
      have c39 : ¬ tx k = 39 := fun z => by rcases hb with y | y <;> omega
      rw [eC, if_neg (show ¬ nI (tx k) = 40 from q_ne (b := 40) c40 (by omega) (by omega)), n95 c41]
      unfold b_Reader_build_140
      rw [if_neg (show ¬ nI (tx k) = 39 from q_ne (b := 39) c39 (by omega) (by omega)), word_C hc]
      simp only [Option.bind_some]
      rw [if_neg (show ¬ wd (tx k) from fun z => z.1 hb), if_pos rfl, hnx, nI_1, sk_b hk hb, show f2 + (P + 1) + 1 = (f2 + 1) + P + 1 by omega]
      rw [hnx] at kr
      exact ih (k + 1) o (x4 + 1) f1 (f2 + 1) d q qs κ τ ρ φ L w v hw hqs ho (by omega) (by omega) h hl h16' hf hff hN hC hM kr h73 h29
    · rename_i hb
      rw [eM hb]
      split at hw
      · -- a quote
        rename_i c39
        obtain ⟨hq, d', hd, hw⟩ := hw
        subst hq
        have hnx : nx n tx k = k + 1 := nx_s (fun z => z.2 (Or.inr (Or.inr c39)))
        have hM1 : TxM n tx (pm_setI v 16 o 1) := TxM_sm hM (by rw [rdI_n _ (Or.inl (by decide))]) (rdI_o _ (by decide))
        rw [eC, c39, if_neg (show ¬ nI 39 = 40 by decide), ← c39, n95 (by omega)]
        unfold b_Reader_build_140 b_Md_read_15
        rw [c39, if_pos (show nI 39 = 39 from rfl), h29, if_neg (q_nle hke (by omega)), if_neg hinM, nI_clamp (by omega), tM, c39, if_pos (show nI 39 = 39 from rfl), if_neg (nI_in (by omega) (by omega)), nI_clamp (by omega), show vp_nar .boolean (1 : Int32) = 1 from nar_b true, go _ hM1 hb, hnx, nI_1]
        rw [hnx] at kr
        have hfv : frD v (pm_setI v 16 o 1) := frD_s frD_rf (by decide) (by decide)
        refine BDo_fr (ih (k + 1) o (x4 + 1) f1 f2 d' true qs κ τ ρ φ L w (pm_setI v 16 o 1) hw hqs ho (by omega) (by omega) ?_ ?_ (rdI_s _ _ _ _) (by rw [rdI_n _ (Or.inl (by decide))]; exact hf) hff ?_ hC hM1 kr h73 (by rw [rdI_n _ (Or.inl (by decide))]; exact h29)) frB_rf hfv
        · refine RH_st h ?_ ag_rf (ag_set ag_rf (by decide)) (agF_o agF_rf (by decide))
          rw [e2, e2]
          by_cases z : 0 < o <;> simp [z] at hd ⊢ <;> omega
        · refine lvl_cg hl (fun j hj => ⟨rfl, rfl, rfl, ?_, ?_, fun hh => ?_⟩)
          · rw [rdI_n _ (Or.inl (by decide))]
          · rw [rdI_n _ (Or.inl (by decide))]
          · rw [rdI_n _ (Or.inr (by omega))]
        · intro s hs
          obtain ⟨n0, n1, n2, n3, n4⟩ := hN s hs
          exact ⟨n0, n1, n2, n3, fun y hy => by rw [rdI_n _ (Or.inl (by decide))]; exact n4 y hy⟩
      · split at hw
        · -- a list begins
          rename_i c39 c40
          obtain ⟨ho10, d', hd, hw⟩ := hw
          have hnx : nx n tx k = k + 1 := nx_s (fun z => z.2 (Or.inl c40))
          have hin11 : ¬ (nI (o + 1) < 0 ∨ 11 ≤ (nI (o + 1)).toNatClampNeg) := nI_in (by omega) (by omega)
          have hin12 : ¬ (nI (o + 1) < 0 ∨ 12 ≤ (nI (o + 1)).toNatClampNeg) := nI_in (by omega) (by omega)
          have hfw : frB w (pm_setI (pm_setI (pm_setI w 23 (o + 1) 2) 24 (o + 1) 2) 25 (o + 1) (b2 q)) := frB_s (frB_s (frB_s frB_rf (by decide)) (by decide)) (by decide)
          have hfv : frD v (pm_setI (pm_setI (pm_setI v 16 (o + 1) 0) 14 (o + 1) 536870912) 15 (o + 1) 536870912) := frD_s (frD_s (frD_s frD_rf (by decide) (by decide)) (by decide) (by decide)) (by decide) (by decide)
          have hC1 := TxC_sm hC (hfw.1.2 1 (by decide)) (hfw.1.2 9 (by decide))
          have hM1 := TxM_sm hM (hfv.2.1 20 (by decide)) (hfv.2.2 12 (by decide) (by decide))
          rw [eC, c40, if_pos (show nI 40 = 40 from rfl), if_neg (nI_pos (by omega)), if_neg (show ¬ (10 : Int32) ≤ nI o from q_nle (a := 10) (by omega) (by omega)), nI_1, if_neg hin11, if_neg hin11, if_neg hin11, nI_clamp (by omega), nar_b, nI_1]
          unfold b_Md_read_15
          rw [h29, if_neg (q_nle hke (by omega)), if_neg hinM, nI_clamp (by omega), tM, c40, if_neg (show ¬ nI 40 = 39 by decide), if_pos (show nI 40 = 40 from rfl), nI_1, if_neg hin12, if_neg hin12, if_neg hin12, nI_clamp (by omega), show vp_nar .boolean (0 : Int32) = 0 from nar_b false, go _ hM1 hb, hnx]
          rw [hnx] at kr
          refine BDo_fr (ih (k + 1) (o + 1) (x4 + 1) f1 f2 d' false (q :: qs) κ τ ρ φ L _ _ hw (by rw [List.length_cons, hqs]) (by omega) (by omega) (by omega) ?_ ?_ ?_ ?_ ?_ ?_ hC1 hM1 kr (by rw [hfw.2]; exact h73) (by rw [hfv.2.1 29 (by decide)]; exact h29)) hfw hfv
          · refine RH_st h ?_ (ag_set (ag_set (ag_set ag_rf (by decide)) (by decide)) (by decide)) (ag_set (ag_set (ag_set ag_rf (by decide)) (by decide)) (by decide)) (agF_o (agF_o (agF_o agF_rf (by decide)) (by decide)) (by decide))
            have e1 : pend false (q :: qs) = (if q = true then 4 else 0) + (if 0 < o then 2 else 0) + pl2 qs := by
              show 0 + ((if q = true then 4 else 0) + (if 0 < qs.length then 2 else 0) + pl2 qs) = _
              rw [hqs, Nat.zero_add]
            rw [e1, e2]
            cases q <;> by_cases z : 0 < o <;> simp [z] at hd ⊢ <;> omega
          · refine ⟨⟨?_, ?_, ?_, ?_, fun z => ?_⟩, lvl_cg hl (fun j hj => ⟨?_, ?_, ?_, ?_, ?_, fun hh => ?_⟩)⟩
            · rw [hqs, rdI_s]
            · rw [hqs, rdI_n _ (Or.inl (by decide)), rdI_n _ (Or.inl (by decide)), rdI_n _ (Or.inr (by omega))]; exact h16'
            · rw [hqs, rdI_n _ (Or.inl (by decide)), rdI_s, rdI_n _ (Or.inl (by decide)), rdI_n _ (Or.inl (by decide)), rdI_s, tr_2]
            · rw [hqs, rdI_n _ (Or.inl (by decide)), rdI_n _ (Or.inl (by decide)), rdI_s]; exact Or.inl rfl
            · rw [hqs, rdI_n _ (Or.inl (by decide)), rdI_n _ (Or.inl (by decide)), rdI_s] at z; exact absurd rfl z
            · rw [rdI_n _ (Or.inl (by decide)), rdI_n _ (Or.inl (by decide)), rdI_n _ (Or.inr (by omega))]
            · rw [rdI_n _ (Or.inl (by decide)), rdI_n _ (Or.inr (by omega)), rdI_n _ (Or.inl (by decide))]
            · rw [rdI_n _ (Or.inr (by omega)), rdI_n _ (Or.inl (by decide)), rdI_n _ (Or.inl (by decide))]
            · rw [rdI_n _ (Or.inl (by decide)), rdI_n _ (Or.inr (by omega)), rdI_n _ (Or.inl (by decide))]
            · rw [rdI_n _ (Or.inr (by omega)), rdI_n _ (Or.inl (by decide)), rdI_n _ (Or.inl (by decide))]
            · rw [rdI_n _ (Or.inl (by decide)), rdI_n _ (Or.inl (by decide)), rdI_n _ (Or.inr (by omega))]
          · rw [rdI_n _ (Or.inl (by decide)), rdI_n _ (Or.inl (by decide)), rdI_s]; rfl
          · rw [rdI_n _ (Or.inl (by decide)), rdI_n _ (Or.inl (by decide)), rdI_n _ (Or.inl (by decide)), rdI_n _ (Or.inl (by decide)), rdI_n _ (Or.inl (by decide)), rdI_n _ (Or.inl (by decide))]; exact hf
          · rw [rdI_n _ (Or.inl (by decide)), rdI_n _ (Or.inl (by decide)), rdI_n _ (Or.inl (by decide))]; exact hff
          · intro s hs
            obtain ⟨n0, n1, n2, n3, n4⟩ := hN s hs
            exact ⟨n0, n1, n2, by rw [hfw.1.1]; exact n3, fun y hy => by rw [hfv.2.2 10 (by decide) (by decide)]; exact n4 y hy⟩
        · split at hw
          · -- a list ends
            rename_i c39 c40 c41
            obtain ⟨ho0, hq, hw⟩ := hw
            subst hq
            have hnx : nx n tx k = k + 1 := nx_s (fun z => z.2 (Or.inr (Or.inl c41)))
            cases qs with
            | nil => simp at hqs; omega
            | cons b r =>
              have hr : r.length = o - 1 := by simp at hqs; omega
              obtain ⟨⟨l1, l2, l3, l4, l5⟩, l6⟩ := hl
              rw [show r.length + 1 = o by omega] at l1 l3 l4
              have hin11 : ¬ (nI o < 0 ∨ 11 ≤ (nI o).toNatClampNeg) := nI_in (by omega) (by omega)
              have hin12 : ¬ (nI o < 0 ∨ 12 ≤ (nI o).toNatClampNeg) := nI_in (by omega) (by omega)
              have hRH : RH S sz (d + pl2 r + (if b = true then 4 else 0) + (if 0 < r.length then 2 else 0)) kn κ τ ρ φ L w v := RH_st h (by
                show _ ≤ d + (0 + ((if b = true then 4 else 0) + (if 0 < r.length then 2 else 0) + pl2 r))
                omega) ag_rf ag_rf agF_rf
              obtain ⟨κ', τ', ρ', φ', L', w1, v1, a1, a2, a3, a4, a5, a6, a7, a8, a9⟩ := place_1 h16 hRH (by omega) (Or.inr (Or.inr l4)) l6 l2 hf hff
              have hC1 := TxC_sm hC (a8.1.2 1 (by decide)) (a8.1.2 9 (by decide))
              have hM1 := TxM_sm hM (a9.2.1 20 (by decide)) (a9.2.2 12 (by decide) (by decide))
              have em : nI o + (-1) = nI r.length := by rw [dec1 ho0, hr]
              have em2 : nI r.length + 1 = nI o := by rw [nI_1, show r.length + 1 = o by omega]
              rw [eC, c41, if_neg (show ¬ nI 41 = 40 by decide)]
              unfold b_Reader_build_95 b_Md_read_15
              rw [if_pos (show nI 41 = 41 from rfl), if_neg (show ¬ nI o < 1 from q_nlt (b := 1) (by omega) (by omega)), if_neg (show ¬ (10 : Int32) < nI o from q_nlt (a := 10) (by omega) (by omega)), em, em2, if_neg hin11, if_neg hin11, nI_clamp (by omega), l1, a1]
              simp only [Option.bind_some]
              rw [h29, if_neg (q_nle hke (by omega)), if_neg hinM, nI_clamp (by omega), tM, c41, if_neg (show ¬ nI 41 = 39 by decide), if_neg (show ¬ nI 41 = 40 by decide), if_pos (show nI 41 = 41 from rfl), if_neg (show ¬ (nI o < 0 ∨ 12 ≤ o) by rw [nI_clamp (by omega)] at hin12; exact hin12), l3, a2]
              simp only [Option.bind_some]
              rw [go _ hM1 hb, hnx, nI_1]
              rw [hnx] at kr
              refine BDo_fr (ih (k + 1) r.length (x4 + 1) f1 f2 d false r κ' τ' ρ' φ' L' w1 v1 (by rw [hr]; exact hw) rfl (by omega) (by omega) (by omega) ?_ a4 a5 a6 a7 ?_ hC1 hM1 kr (by rw [a8.2]; exact h73) (by rw [a9.2.1 29 (by decide)]; exact h29)) a8 a9
              · rw [show pend false r = 0 + pl2 r from rfl, Nat.zero_add]
                exact a3
              · intro s hs
                obtain ⟨n0, n1, n2, n3, n4⟩ := hN s hs
                exact ⟨n0, n1, n2, by rw [a8.1.1]; exact n3, fun y hy => by rw [a9.2.2 10 (by decide) (by decide)]; exact n4 y hy⟩
          · -- a word
            rename_i c39 c40 c41
            obtain ⟨d', hd, hw⟩ := hw
            have hsg : ¬ sg (tx k) := fun z => by rcases z with z | z | z <;> contradiction
            have hwd : wd (tx k) := ⟨hb, hsg⟩
            obtain ⟨a, g1, g2, g3⟩ := word_sim h hN hX hC hM x1 x2 (kw hwd)
            have hRH : RH S sz (d' + pl2 qs + (if q = true then 4 else 0) + (if 0 < qs.length then 2 else 0)) kn κ τ ρ φ L w v := RH_st h (by
              rw [e2, hqs]
              cases q <;> by_cases z : 0 < o <;> simp [z] at hd ⊢ <;> omega) ag_rf ag_rf agF_rf
            obtain ⟨κ', τ', ρ', φ', L', w1, v1, a1, a2, a3, a4, a5, a6, a7, a8, a9⟩ := place_1 h16 hRH (by omega) g3 hl (by rw [hqs]; exact h16') hf hff
            rw [hqs] at a1 a2 a5
            have hC1 := TxC_sm hC (a8.1.2 1 (by decide)) (a8.1.2 9 (by decide))
            have hM1 := TxM_sm hM (a9.2.1 20 (by decide)) (a9.2.2 12 (by decide) (by decide))
            rw [eC, if_neg (show ¬ nI (tx k) = 40 from q_ne (b := 40) c40 (by omega) (by omega)), n95 c41]
            unfold b_Reader_build_140 b_Md_read_15
            rw [if_neg (show ¬ nI (tx k) = 39 from q_ne (b := 39) c39 (by omega) (by omega)), word_C hc]
            simp only [Option.bind_some]
            rw [if_pos hwd, if_neg (by decide), g1]
            simp only [Option.bind_some]
            rw [a1]
            simp only [Option.bind_some]
            rw [h29, if_neg (q_nle hke (by omega)), if_neg hinM, nI_clamp (by omega), tM, if_neg (show ¬ nI (tx k) = 39 from q_ne (b := 39) c39 (by omega) (by omega)), if_neg (show ¬ nI (tx k) = 40 from q_ne (b := 40) c40 (by omega) (by omega)), if_neg (show ¬ nI (tx k) = 41 from q_ne (b := 41) c41 (by omega) (by omega)), token_M hM hk hb]
            simp only [Option.bind_some]
            rw [g2]
            simp only [Option.bind_some]
            rw [a2]
            simp only [Option.bind_some]
            rw [go _ hM1 hb, nI_1]
            refine BDo_fr (ih (nx n tx k) o (x4 + 1) f1 f2 d' false qs κ' τ' ρ' φ' L' w1 v1 hw hqs ho x2 (by omega) ?_ a4 a5 a6 a7 ?_ hC1 hM1 kr (by rw [a8.2]; exact h73) (by rw [a9.2.1 29 (by decide)]; exact h29)) a8 a9
            · rw [show pend false qs = 0 + pl2 qs from rfl, Nat.zero_add]
              exact a3
            · intro s hs
              obtain ⟨n0, n1, n2, n3, n4⟩ := hN s hs
              exact ⟨n0, n1, n2, by rw [a8.1.1]; exact n3, fun y hy => by rw [a9.2.2 10 (by decide) (by decide)]; exact n4 y hy⟩
end
