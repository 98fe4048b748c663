/-! reading: symbols are known, or come to be -/
theorem gd_ext {a b : List Nat} (ha : a.length ≤ 8) (hb : b.length ≤ 8) (ca : ∀ c ∈ a, 0 < c ∧ c < 256) (cb : ∀ c ∈ b, 0 < c ∧ c < 256) (h : ∀ q, q < 8 → a.getD q 0 = b.getD q 0) : a = b := by
  have g : ∀ (l : List Nat) (q : Nat) (hq : q < l.length), l.getD q 0 = l[q] := fun l q hq => by rw [List.getD_eq_getElem?_getD, List.getElem?_eq_getElem hq]; rfl
  have g0 : ∀ (l : List Nat) (q : Nat), l.length ≤ q → l.getD q 0 = 0 := fun l q hq => by rw [List.getD_eq_getElem?_getD, List.getElem?_eq_none hq]; rfl
  have hl : a.length = b.length := by
    rcases Nat.lt_trichotomy a.length b.length with z | z | z
    · have h1 := h a.length (by omega)
      rw [g0 a _ (Nat.le_refl _), g b _ z] at h1
      have := (cb _ (List.getElem_mem z)).1
      omega
    · exact z
    · have h1 := h b.length (by omega)
      rw [g0 b _ (Nat.le_refl _), g a _ z] at h1
      have := (ca _ (List.getElem_mem z)).1
      omega
  apply List.ext_getElem hl
  intro i h1 h2
  have := h i (by omega)
  rw [g a i h1, g b i h2] at this
  exact this
section
variable {S n kn : Nat} {tx : Nat → Nat} {w v : pm_W} {nm : Nat → List Nat}
theorem gd_lt {l : List Nat} {q : Nat} (h : ∀ c ∈ l, 0 < c ∧ c < 256) : l.getD q 0 < 256 := by
  by_cases z : q < l.length
  · rw [List.getD_eq_getElem?_getD, List.getElem?_eq_getElem z]
    exact (h _ (List.getElem_mem z)).2
  · rw [List.getD_eq_getElem?_getD, List.getElem?_eq_none (by omega)]
    decide
theorem symM_in (hM : TxM n tx v) (hC : TxC n tx w) (hN : NmR kn nm w v) (hkn : kn ≤ 40) {k e i : Nat} (hk : k < e) (he : e ≤ n) (hi : i < kn) : ∀ (d q m : Nat), q + d = 8 → (∀ j, j < q → (nm i).getD j 0 = (wl tx k e).getD j 0) → ∃ m', m ≤ m' ∧ l_Md_symbolOf (m + d + 1 + 1) 1 (nI k) (nI e) (nI i) 1 (nI q) v = if nm i = wl tx k e then some (nI i, v) else l_Md_symbolOf m' 0 (nI k) (nI e) (nI (i + 1)) 0 0 v := by
  have hn := hM.1
  obtain ⟨h0, h1, h2, h3, h4⟩ := hN i hi
  obtain ⟨w0, w1, w2⟩ := wl_ok hC hk he
  intro d
  induction d with
  | zero =>
    intro q m hq hj
    have e8 : q = 8 := by omega
    subst e8
    have hnm : nm i = wl tx k e := gd_ext h1 w1 h2 w2 hj
    refine ⟨m, Nat.le_refl _, ?_⟩
    rw [l_Md_symbolOf_s1, if_pos hnm]
    unfold b_Md_symbolOf_16
    rw [if_pos (by decide), if_neg (by decide)]
  | succ d ih =>
    intro q m hq hj
    have hq8 : q < 8 := by omega
    have eix : (8 : Int32) * nI i + nI q = nI (8 * i + q) := by rw [z_8, nI_add]
    have g1 : (nm i).getD q 0 < 256 := gd_lt h2
    have g2 : (wl tx k e).getD q 0 < 256 := gd_lt w2
    -- one round
    have hr : l_Md_symbolOf (m + (d + 1) + 1 + 1) 1 (nI k) (nI e) (nI i) 1 (nI q) v = if (nm i).getD q 0 = (wl tx k e).getD q 0 then l_Md_symbolOf (m + d + 1 + 1) 1 (nI k) (nI e) (nI i) 1 (nI (q + 1)) v else l_Md_symbolOf (m + d + 1 + 1) 1 (nI k) (nI e) (nI i) 0 (nI (q + 1)) v := by
      rw [show m + (d + 1) + 1 + 1 = (m + d + 1 + 1) + 1 by omega, l_Md_symbolOf_s1]
      unfold b_Md_symbolOf_16
      rw [if_neg (show ¬ (8 : Int32) ≤ nI q from q_nle (a := 8) (by omega) (by omega)), if_neg (show ¬ (1 : Int32) = 0 by decide), eix, if_neg (nI_in (by omega) (by omega)), nI_add, nI_1, nI_clamp (by omega), h4 q hq8, wl_get hq8]
      by_cases z : k + q < e
      · rw [if_neg (q_nle z (by omega)), if_neg (nI_in (by omega) (by omega)), nI_clamp (by omega), (hM.2.2 (k + q) (by omega)).2, if_pos z]
        have hz : (nI ((nm i).getD q 0) = nI (tx (k + q))) = ((nm i).getD q 0 = tx (k + q)) := z_eq (by omega) (by have := ch_lt (hM.2.2 (k + q) (by omega)).1; omega)
        by_cases y : (nm i).getD q 0 = tx (k + q)
        · rw [if_pos (hz.mpr y), if_pos y]
        · rw [if_neg (fun x => y (hz.mp x)), if_neg y]
      · rw [if_pos (q_le (by omega) (by omega)), if_neg z]
        have hz : (nI ((nm i).getD q 0) = 0) = ((nm i).getD q 0 = 0) := z_eq (b := 0) (by omega) (by omega)
        by_cases y : (nm i).getD q 0 = 0
        · rw [if_pos (hz.mpr y), if_pos y]
        · rw [if_neg (fun x => y (hz.mp x)), if_neg y]
    by_cases y : (nm i).getD q 0 = (wl tx k e).getD q 0
    · obtain ⟨m', a1, a2⟩ := ih (q + 1) m (by omega) (fun j hh => by
        by_cases z : j = q
        · rw [z]; exact y
        · exact hj j (by omega))
      exact ⟨m', a1, by rw [hr, if_pos y, a2]⟩
    · refine ⟨m + d + 1, by omega, ?_⟩
      rw [hr, if_neg y, if_neg (fun z => y (by rw [z])), l_Md_symbolOf_s1]
      unfold b_Md_symbolOf_16
      rw [nI_1, if_pos rfl, if_pos rfl]
      by_cases z : (8 : Int32) ≤ nI (q + 1)
      · rw [if_pos z]
      · rw [if_neg z]
theorem symM_l (hM : TxM n tx v) (hC : TxC n tx w) (hN : NmR kn nm w v) (hkn : kn ≤ 40) (h12 : v.1 0 12 = nI kn) {k e : Nat} (hk : k < e) (he : e ≤ n) : ∀ (d i F : Nat) (x4 x5 : Int32), i + d = kn → 11 * d + 1 ≤ F → l_Md_symbolOf F 0 (nI k) (nI e) (nI i) x4 x5 v = some (nI (fd nm (wl tx k e) d i), v) := by
  intro d
  induction d with
  | zero =>
    intro i F x4 x5 hi hF
    obtain ⟨G, rfl⟩ : ∃ G, F = G + 1 := ⟨F - 1, by omega⟩
    have e0 : i = kn := by omega
    subst e0
    rw [l_Md_symbolOf_s0]
    unfold b_Md_symbolOf_2
    rw [h12, if_pos (Int32.le_refl _)]
    rfl
  | succ d ih =>
    intro i F x4 x5 hi hF
    obtain ⟨G, rfl⟩ : ∃ G, F = (G + 8 + 1 + 1) + 1 := ⟨F - 11, by omega⟩
    obtain ⟨m', a1, a2⟩ := symM_in hM hC hN hkn hk he (i := i) (by omega) 8 0 G (by omega) (fun j hh => absurd hh (by omega))
    rw [l_Md_symbolOf_s0]
    unfold b_Md_symbolOf_2 fd
    rw [h12, if_neg (q_nle (by omega) (by omega)), show l_Md_symbolOf (G + 8 + 1 + 1) 1 (nI k) (nI e) (nI i) 1 0 v = _ from a2]
    by_cases z : nm i = wl tx k e
    · rw [if_pos z, if_pos z]
    · rw [if_neg z, if_neg z, ih (i + 1) m' _ _ (by omega) (by omega)]
theorem sym_M (hM : TxM n tx v) (hC : TxC n tx w) (hN : NmR kn nm w v) (hkn : kn ≤ 40) (h12 : v.1 0 12 = nI kn) {k e : Nat} (hk : k < e) (he : e ≤ n) : f_Md_symbolOf (nI k) (nI e) v = some (nI (fd nm (wl tx k e) kn 0), v) := symM_l hM hC hN hkn h12 hk he kn 0 pm_fuel _ _ (by omega) (by show _ ≤ 100000; omega)
/-- the word nil -/
abbrev nilW : List Nat := [110, 105, 108]
theorem nil_M (hM : TxM n tx v) {k e : Nat} (hk : k < e) (he : e ≤ n) : f_Md_isNil (nI k) (nI e) v = some (b2 (decide (wl tx k e = nilW)), v) := by
  have hn := hM.1
  unfold f_Md_isNil
  rw [pk_sub (by omega)]
  by_cases z : e - k = 3
  · have hwl : wl tx k e = [tx k, tx (k + 1), tx (k + 2)] := by
      unfold wl
      rw [z]
      rfl
    have t0 := hM.2.2 k (by omega)
    have t1 := hM.2.2 (k + 1) (by omega)
    have t2 := hM.2.2 (k + 2) (by omega)
    rw [if_pos (show nI (e - k) = 3 by rw [z]; rfl), if_neg (nI_in (by omega) (by omega)), nI_1, if_neg (nI_in (by omega) (by omega)), show (2 : Int32) = nI 2 from rfl, nI_add, if_neg (nI_in (by omega) (by omega)), nI_clamp (by omega), nI_clamp (by omega), nI_clamp (by omega), t0.2, t1.2, t2.2, hwl]
    have c0 := ch_lt t0.1
    have c1 := ch_lt t1.1
    have c2 := ch_lt t2.1
    have e0 : (nI (tx k) = 110) = (tx k = 110) := z_eq (b := 110) (by omega) (by omega)
    have e1 : (nI (tx (k + 1)) = 105) = (tx (k + 1) = 105) := z_eq (b := 105) (by omega) (by omega)
    have e2 : (nI (tx (k + 2)) = 108) = (tx (k + 2) = 108) := z_eq (b := 108) (by omega) (by omega)
    simp only [e0, e1, e2]
    by_cases y0 : tx k = 110 <;> by_cases y1 : tx (k + 1) = 105 <;> by_cases y2 : tx (k + 2) = 108 <;> simp [y0, y1, y2, b2, nilW]
  · rw [if_neg (show ¬ nI (e - k) = 3 from q_ne (b := 3) z (by omega) (by omega))]
    have : ¬ wl tx k e = nilW := fun y => by
      have := congrArg List.length y
      unfold wl at this
      simp at this
      omega
    simp [this, b2]
theorem sym_C (hC : TxC n tx w) {k e : Nat} (hk : k < e) (he : e ≤ n) : f_Reader_isSymbol S (nI k) (nI e) w = some (b2 (decide (wd (tx k)) && !(isN tx k e) && !(decide (wl tx k e = nilW))), w) := by
  have hn := hC.1
  have hc := ch_lt (hC.2.2 k (by omega)).1
  obtain ⟨w0, w1, w2⟩ := wl_ok hC hk he
  unfold f_Reader_isSymbol
  rw [at_C hC (by omega)]
  simp only [Option.bind_some]
  rw [word_C hc]
  simp only [Option.bind_some]
  by_cases z : wd (tx k)
  · rw [if_pos z, if_neg (by decide), isN_C hC (by omega) hk he]
    simp only [Option.bind_some]
    cases q : isN tx k e with
    | true =>
      rw [if_neg (show ¬ b2 true = 0 by decide)]
      simp [b2]
    | false =>
      rw [if_pos (show b2 false = 0 from rfl), name_C hC (by omega) he]
      simp only [Option.bind_some]
      have h7 : (7235948 : Int64) = lN (pkN nilW) := by decide +kernel
      have hcmp : (lg_cmp (lN (pkN (wl tx k e))) 7235948 = 0) = (wl tx k e = nilW) := by rw [h7, cmp_0, pk_inj w1 (by decide) w2 (by decide)]
      by_cases y : wl tx k e = nilW
      · rw [if_pos (hcmp.mpr y)]
        simp [y, b2]
      · rw [if_neg (fun x => y (hcmp.mp x))]
        simp [y, b2, z.1, z.2]
  · rw [if_neg z, if_pos rfl]
    simp only [decide_eq_false z, Bool.false_and]
    rfl
/-- the reference writes a name -/
theorem meet_l {k e : Nat} (hk : k < e) (he : e ≤ n) (hkn : kn < 40) : ∀ (d q m : Nat) (v : pm_W), q + d = 8 → TxM n tx v → v.1 0 12 = nI kn → ∃ v', l_Md_meet (m + d + 1) 0 (nI k) (nI e) (nI q) v = some (1, v') ∧ smM v v' [12] [10] ∧ v'.1 0 12 = nI (kn + 1) ∧ ∀ j, v'.1 10 j = if 8 * kn + q ≤ j ∧ j < 8 * kn + 8 then nI ((wl tx k e).getD (j - 8 * kn) 0) else v.1 10 j := by
  intro d
  induction d with
  | zero =>
    intro q m v hq hM h12
    have hn := hM.1
    have e8 : q = 8 := by omega
    subst e8
    refine ⟨pm_setI v 0 12 (nI (kn + 1)), ?_, smM_f smM_rf (by decide), by rw [rdI_s], fun j => ?_⟩
    · rw [l_Md_meet_s]
      unfold b_Md_meet_46
      rw [if_pos (by decide), h12, nI_1]
    · rw [if_neg (by omega), rdI_n _ (Or.inl (by decide))]
  | succ d ih =>
    intro q m v hq hM h12
    have hn := hM.1
    have eix : (8 : Int32) * nI kn + nI q = nI (8 * kn + q) := by rw [z_8, nI_add]
    have hst : ∃ x, x = nI ((wl tx k e).getD q 0) ∧ l_Md_meet (m + (d + 1) + 1) 0 (nI k) (nI e) (nI q) v = l_Md_meet (m + d + 1) 0 (nI k) (nI e) (nI (q + 1)) (pm_setI v 10 (8 * kn + q) x) := by
      refine ⟨_, rfl, ?_⟩
      rw [show m + (d + 1) + 1 = (m + d + 1) + 1 by omega, l_Md_meet_s]
      unfold b_Md_meet_46
      rw [if_neg (show ¬ (8 : Int32) ≤ nI q from q_nle (a := 8) (by omega) (by omega)), h12, eix, if_neg (nI_in (by omega) (by omega)), nI_add, nI_1, nI_clamp (by omega), wl_get (by omega)]
      by_cases z : k + q < e
      · have hc := ch_lt (hM.2.2 (k + q) (by omega)).1
        have hin2 : ¬ (nI (8 * kn + q) < 0 ∨ 320 ≤ 8 * kn + q) := by
          have := nI_in (c := 8 * kn + q) (N := 320) (by omega) (by omega)
          rwa [nI_clamp (by omega)] at this
        rw [if_neg (q_nle z (by omega)), if_neg (nI_in (by omega) (by omega)), if_neg hin2, nI_clamp (by omega), (hM.2.2 (k + q) (by omega)).2, z_chv (by omega), if_pos z]
      · rw [if_pos (q_le (by omega) (by omega)), if_neg z]
        rw [show vp_nar .char (0 : Int32) = nI 0 from z_chv (k := 0) (by omega)]
    obtain ⟨x, hx, hst⟩ := hst
    obtain ⟨v', a1, a2, a3, a4⟩ := ih (q + 1) m (pm_setI v 10 (8 * kn + q) x) (by omega) (TxM_sm hM (by rw [rdI_n _ (Or.inl (by decide))]) (rdI_o _ (by decide))) (by rw [rdI_n _ (Or.inl (by decide))]; exact h12)
    refine ⟨v', by rw [hst]; exact a1, smM_tr (smM_a smM_rf (by decide) (by decide)) a2, a3, fun j => ?_⟩
    rw [a4 j]
    by_cases z : j = 8 * kn + q
    · subst z
      rw [if_neg (by omega), rdI_s, if_pos (by omega), show 8 * kn + q - 8 * kn = q by omega, hx]
    · by_cases y : 8 * kn + q ≤ j ∧ j < 8 * kn + 8
      · rw [if_pos y, if_pos (by omega)]
      · rw [if_neg y, if_neg (by omega), rdI_n _ (Or.inr z)]
end
section
variable {S sz m kn dn : Nat} {κ τ ρ φ : Nat → Nat} {L : List Nat} {w v : pm_W}
/-- one symbol more -/
theorem gv_kn {kn2 : Nat} (h : kn ≤ kn2) {a : Int32} (ha : gv kn κ L a) : gv kn2 κ L a := by
  rcases ha with q | ⟨y, q1, q2⟩ | q | q | q
  · exact Or.inl q
  · exact Or.inr (Or.inl ⟨y, by omega, q2⟩)
  · exact Or.inr (Or.inr (Or.inl q))
  · exact Or.inr (Or.inr (Or.inr (Or.inl q)))
  · exact Or.inr (Or.inr (Or.inr (Or.inr q)))
theorem Fmv_kn {kn2 : Nat} (h : kn ≤ kn2) {a : Int32} (ha : Fmv kn κ τ L a) : Fmv kn2 κ τ L a := by
  rcases ha with q | ⟨y, q1, q2⟩ | q
  · exact Or.inl q
  · exact Or.inr (Or.inl ⟨y, by omega, q2⟩)
  · exact Or.inr (Or.inr q)
theorem frT_kn {kn2 : Nat} (h : kn ≤ kn2) {k a b c : Int32} (ha : frT kn κ τ L k a b c) : frT kn2 κ τ L k a b c := by
  obtain ⟨h1, h2, h3⟩ := ha
  refine ⟨h1, h2, ?_⟩
  rcases h3 with q | ⟨q, y, q1, q2⟩ | q
  · exact Or.inl q
  · exact Or.inr (Or.inl ⟨q, y, by omega, q2⟩)
  · exact Or.inr (Or.inr q)
theorem RL_kn (h : RL S sz m kn dn κ τ ρ φ L w v) (hk : kn < 40) {w1 v1 : pm_W} (hw : ∀ o, o ≠ 3 → o ≠ 12 → w1.1 o = w.1 o) (h3 : w1.1 3 2 = nI (kn + 1)) (h12 : w1.1 12 = up1 (w.1 12) kn 6) (hv : smM v v1 [12] [10]) (g12 : v1.1 0 12 = nI (kn + 1)) : RL S sz m (kn + 1) dn κ τ ρ φ L w1 v1 := by
  obtain ⟨hC, hM, hT, hS, hY, hG, hZ⟩ := h
  have V : ∀ o, o ≠ 0 → o ≠ 10 → v1.1 o = v.1 o := fun o h0 h10 => hv.2.2 o h0 (by simp [h10])
  have F : ∀ k, k ≠ 12 → v1.1 0 k = v.1 0 k := fun k hk => hv.2.1 k (by simp [hk])
  refine ⟨?_, ?_, ?_, ?_, ?_, ?_, ?_⟩
  · unfold CH
    rw [hw 5 (by decide) (by decide), hw 20 (by decide) (by decide), hw 22 (by decide) (by decide)]
    exact hC
  · unfold MH cnt
    rw [F 1 (by decide), V 1 (by decide) (by decide), V 2 (by decide) (by decide), V 3 (by decide) (by decide), V 4 (by decide) (by decide), hw 17 (by decide) (by decide), hw 18 (by decide) (by decide), hw 19 (by decide) (by decide)]
    exact hM
  · obtain ⟨t1, t2, t3, t4, t5⟩ := hT
    refine ⟨t1, t2, t3, by omega, fun s hs => ?_⟩
    obtain ⟨u1, u2, u3, u4, u5⟩ := t5 s hs
    unfold slT
    rw [hw 17 (by decide) (by decide), hw 18 (by decide) (by decide), hw 19 (by decide) (by decide)]
    exact ⟨u1, gv_kn (by omega) u2, gv_kn (by omega) u3, fun q => ⟨(u4 q).1, Fmv_kn (by omega) (u4 q).2.1, (u4 q).2.2⟩, fun q => ⟨(u5 q).1, fun r => Fmv_kn (by omega) ((u5 q).2.1 r), (u5 q).2.2⟩⟩
  · unfold MSt
    rw [hw 4 (by decide) (by decide), hw 13 (by decide) (by decide), hw 14 (by decide) (by decide), hw 15 (by decide) (by decide), hw 16 (by decide) (by decide), F 11 (by decide), F 15 (by decide), F 16 (by decide), V 6 (by decide) (by decide), V 7 (by decide) (by decide), V 8 (by decide) (by decide), V 9 (by decide) (by decide)]
    exact hS
  · unfold STy
    rw [hw 4 (by decide) (by decide), hw 13 (by decide) (by decide), hw 14 (by decide) (by decide), hw 15 (by decide) (by decide), hw 16 (by decide) (by decide)]
    exact ⟨gv_kn (by omega) hY.1, hY.2.1, fun i hi => frT_kn (by omega) (hY.2.2 i hi)⟩
  · obtain ⟨a1, a2, a3, a4⟩ := hG
    refine ⟨h3, g12, fun i hi => ?_, fun i h1 h2 => ?_⟩
    · rw [V 11 (by decide) (by decide), h12]
      by_cases z : i = kn
      · subst z
        rw [up1_s, tr_6, a4 i (Nat.le_refl _) hk]
      · rw [up1_n _ _ z, a3 i (by omega)]
    · rw [V 11 (by decide) (by decide), a4 i (by omega) h2]
  · intro i hi
    rw [h12]
    by_cases z : i = kn
    · subst z
      rw [up1_s]
      exact Or.inl rfl
    · rw [up1_n _ _ z]
      rcases hZ i (by omega) with q | q
      · exact Or.inl q
      · exact Or.inr (gv_kn (by omega) q)
end
