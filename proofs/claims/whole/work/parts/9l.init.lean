/-! the start -/
def nmL : List (List Nat) := [[43], [45], [42], [60], [101, 113, 63], [97, 116, 111, 109, 63], [99, 111, 110, 115], [99, 97, 114], [99, 100, 114], [108, 105, 115, 116], [113, 117, 111, 116, 101], [105, 102], [108, 97, 109, 98, 100, 97], [100, 101, 102, 105, 110, 101], [115, 101, 116, 33], [116]]
def nm0 (s : Nat) : List Nat := nmL.getD s []
def gl0 (i : Nat) : Int32 := if i < 10 then vP i else if i = 15 then vS 15 else 6
def okY (w : pm_W) : Prop := w.1 0 2 = nI 16 ∧ ∀ i, i < 16 → w.1 2 i = gl0 i ∧ w.2 1 i = lN (pkN (nm0 i))
def okB (w : pm_W) : Bool := decide (w.1 0 2 = nI 16) && (List.range 16).all (fun i => decide (w.1 2 i = gl0 i) && decide (w.2 1 i = lN (pkN (nm0 i))))
set_option maxRecDepth 100000 in
theorem iY_b : (f_Symbols_initY pm_0).any okB = true := by decide +kernel
theorem iY : ∃ wY, f_Symbols_initY pm_0 = some wY ∧ okY wY := by
  have h := iY_b
  cases e : f_Symbols_initY pm_0 with
  | none => rw [e] at h; exact absurd h (by decide)
  | some wY =>
    rw [e] at h
    have h : okB wY = true := h
    unfold okB at h
    rw [Bool.and_eq_true, decide_eq_true_eq, List.all_eq_true] at h
    refine ⟨wY, rfl, h.1, fun i hi => ?_⟩
    have := h.2 i (List.mem_range.mpr hi)
    rwa [Bool.and_eq_true, decide_eq_true_eq, decide_eq_true_eq] at this
/-- the class's room -/
theorem roomI_l {S : Nat} (hS : S ≤ 200) : ∀ (d i m : Nat) (w : pm_W), i + d = S → w.1 0 1 = nI S → ∃ w1, l_Room_init S (m + d + 1) 0 (nI i) w = some w1 ∧ w1.1 0 9 = nI S ∧ (∀ j, w1.1 6 j = if i ≤ j ∧ j < S then nI j else w.1 6 j) ∧ (∀ k, k ≠ 9 → w1.1 0 k = w.1 0 k) ∧ ∀ o, o ≠ 0 → o ≠ 6 → w1.1 o = w.1 o := by
  intro d
  induction d with
  | zero =>
    intro i m w hi h1
    refine ⟨pm_setI w 0 9 (nI S), ?_, rdI_s _ _ _ _, fun j => ?_, fun k hk => rdI_n _ (Or.inr hk), fun o h0 _ => rdI_o _ h0⟩
    · rw [l_Room_init_s]
      unfold b_Room_init_93
      rw [h1, if_pos (q_le (by omega) (by omega))]
    · rw [if_neg (by omega), rdI_n _ (Or.inl (by decide))]
  | succ d ih =>
    intro i m w hi h1
    obtain ⟨w1, a1, a2, a3, a4, a5⟩ := ih (i + 1) m (pm_setI w 6 i (nI i)) (by omega) (by rw [rdI_n _ (Or.inl (by decide))]; exact h1)
    refine ⟨w1, ?_, a2, fun j => ?_, fun k hk => by rw [a4 k hk, rdI_n _ (Or.inl (by decide))], fun o h0 h6 => by rw [a5 o h0 h6, rdI_o _ h6]⟩
    · rw [show m + (d + 1) + 1 = (m + d + 1) + 1 by omega, l_Room_init_s]
      unfold b_Room_init_93
      rw [h1, if_neg (q_nle (by omega) (by omega)), if_neg (nI_in (by omega) (by omega)), nI_clamp (by omega), nI_1]
      exact a1
    · rw [a3 j]
      by_cases z : j = i
      · subst z
        rw [if_neg (by omega), rdI_s, if_pos (by omega)]
      · by_cases y : i ≤ j ∧ j < S
        · rw [if_pos (by omega), if_pos y]
        · rw [if_neg (by omega), if_neg y, rdI_n _ (Or.inr z)]
/-- the reference's globals -/
theorem initM_l : ∀ (d i m : Nat) (w : pm_W), i + d = 40 → ∃ w1, l_Md_init (m + d + 1) 0 (nI i) w = l_Md_init (m + 1) 0 (nI 40) w1 ∧ smM w w1 [] [11] ∧ ∀ j, w1.1 11 j = if i ≤ j ∧ j < 40 then (if j < 10 then nI (536872000 + j) else -2147483648) else w.1 11 j := by
  intro d
  induction d with
  | zero =>
    intro i m w hi
    have e : i = 40 := by omega
    subst e
    exact ⟨w, rfl, smM_rf, fun j => by rw [if_neg (by omega)]⟩
  | succ d ih =>
    intro i m w hi
    have hst : ∃ x, (x = if i < 10 then nI (536872000 + i) else -2147483648) ∧ l_Md_init (m + (d + 1) + 1) 0 (nI i) w = l_Md_init (m + d + 1) 0 (nI (i + 1)) (pm_setI w 11 i x) := by
      refine ⟨_, rfl, ?_⟩
      rw [show m + (d + 1) + 1 = (m + d + 1) + 1 by omega, l_Md_init_s]
      unfold b_Md_init_198
      rw [if_neg (show ¬ (40 : Int32) ≤ nI i from q_nle (a := 40) (by omega) (by omega)), nI_1]
      by_cases z : i < 10
      · rw [if_neg (show ¬ (10 : Int32) ≤ nI i from q_nle (a := 10) (by omega) (by omega)), if_neg (nI_in (by omega) (by omega)), nI_clamp (by omega), show (536872000 : Int32) = nI 536872000 from rfl, nI_add, if_pos z]
      · rw [if_pos (show (10 : Int32) ≤ nI i from q_le (a := 10) (by omega) (by omega)), if_neg (nI_in (by omega) (by omega)), nI_clamp (by omega), if_neg z]
    obtain ⟨x, hx, hst⟩ := hst
    obtain ⟨w1, a1, a2, a3⟩ := ih (i + 1) m (pm_setI w 11 i x) (by omega)
    refine ⟨w1, by rw [hst, a1], smM_tr (smM_a smM_rf (by decide) (by decide)) a2, fun j => ?_⟩
    rw [a3 j]
    by_cases z : j = i
    · subst z
      rw [if_neg (by omega), rdI_s, if_pos (by omega), hx]
    · by_cases y : i ≤ j ∧ j < 40
      · rw [if_pos (show i + 1 ≤ j ∧ j < 40 by omega), if_pos y]
      · rw [if_neg (show ¬ (i + 1 ≤ j ∧ j < 40) by omega), if_neg y, rdI_n _ (Or.inr z)]
/-- the reference's first names -/
def WI (v0 : pm_W) (k : Nat) (v : pm_W) : Prop := v.1 0 12 = nI k ∧ (∀ s, s < k → ∀ q, q < 8 → v.1 10 (8 * s + q) = nI ((nm0 s).getD q 0)) ∧ (∀ j, 8 * k ≤ j → v.1 10 j = 0) ∧ smM v0 v [12] [10]
theorem word_M {v0 v : pm_W} {k : Nat} (a b c d e f : Nat) (h : WI v0 k v) (hk : k < 40) (ha : a < 256 ∧ b < 256 ∧ c < 256 ∧ d < 256 ∧ e < 256 ∧ f < 256) (hn : ∀ q, q < 8 → (nm0 k).getD q 0 = [a, b, c, d, e, f].getD q 0) : ∃ v', f_Md_word (nI a) (nI b) (nI c) (nI d) (nI e) (nI f) v = some v' ∧ WI v0 (k + 1) v' := by
  obtain ⟨h1, h2, h3, h4⟩ := h
  obtain ⟨g1, g2, g3, g4, g5, g6⟩ := ha
  unfold f_Md_word
  rw [h1, z_8, show (1 : Int32) = nI 1 from rfl, show (2 : Int32) = nI 2 from rfl, show (3 : Int32) = nI 3 from rfl, show (4 : Int32) = nI 4 from rfl, show (5 : Int32) = nI 5 from rfl, nI_add, nI_add, nI_add, nI_add, nI_add, nI_add, if_neg (nI_in (by omega) (by omega)), if_neg (nI_in (by omega) (by omega)), if_neg (nI_in (by omega) (by omega)), if_neg (nI_in (by omega) (by omega)), if_neg (nI_in (by omega) (by omega)), if_neg (nI_in (by omega) (by omega)), nI_clamp (by omega), nI_clamp (by omega), nI_clamp (by omega), nI_clamp (by omega), nI_clamp (by omega), nI_clamp (by omega), z_char (by omega), z_char (by omega), z_char (by omega), z_char (by omega), z_char (by omega), z_char (by omega)]
  refine ⟨_, rfl, rdI_s _ _ _ _, fun s hs q hq => ?_, fun j hj => ?_, smM_f (smM_a (smM_a (smM_a (smM_a (smM_a (smM_a h4 (by decide) (by decide)) (by decide) (by decide)) (by decide) (by decide)) (by decide) (by decide)) (by decide) (by decide)) (by decide) (by decide)) (by decide)⟩
  · rw [rdI_n _ (Or.inl (by decide))]
    by_cases z : s = k
    · subst z
      rw [hn q hq]
      have hc : q = 0 ∨ q = 1 ∨ q = 2 ∨ q = 3 ∨ q = 4 ∨ q = 5 ∨ q = 6 ∨ q = 7 := by omega
      have h6 := h3 (8 * s + 6) (by omega)
      have h7 := h3 (8 * s + 7) (by omega)
      rcases hc with r | r | r | r | r | r | r | r <;> subst r
      · simp [pm_setI, pm_up]
      · simp [pm_setI, pm_up]
      · simp [pm_setI, pm_up]
      · simp [pm_setI, pm_up]
      · simp [pm_setI, pm_up]
      · simp [pm_setI, pm_up]
      · rw [rdI_n _ (Or.inr (by omega)), rdI_n _ (Or.inr (by omega)), rdI_n _ (Or.inr (by omega)), rdI_n _ (Or.inr (by omega)), rdI_n _ (Or.inr (by omega)), rdI_n _ (Or.inr (by omega)), h6]; rfl
      · rw [rdI_n _ (Or.inr (by omega)), rdI_n _ (Or.inr (by omega)), rdI_n _ (Or.inr (by omega)), rdI_n _ (Or.inr (by omega)), rdI_n _ (Or.inr (by omega)), rdI_n _ (Or.inr (by omega)), h7]; rfl
    · rw [rdI_n _ (Or.inr (by omega)), rdI_n _ (Or.inr (by omega)), rdI_n _ (Or.inr (by omega)), rdI_n _ (Or.inr (by omega)), rdI_n _ (Or.inr (by omega)), rdI_n _ (Or.inr (by omega))]
      exact h2 s (by omega) q hq
  · rw [rdI_n _ (Or.inl (by decide)), rdI_n _ (Or.inr (by omega)), rdI_n _ (Or.inr (by omega)), rdI_n _ (Or.inr (by omega)), rdI_n _ (Or.inr (by omega)), rdI_n _ (Or.inr (by omega)), rdI_n _ (Or.inr (by omega))]
    exact h3 j (by omega)
theorem initM_w {v0 : pm_W} {m : Nat} (h : WI v0 0 v0) : ∃ v1, l_Md_init (m + 1) 0 (nI 40) v0 = some (pm_setI v1 11 15 536871015) ∧ WI v0 16 v1 := by
  rw [l_Md_init_s]
  unfold b_Md_init_198
  rw [if_pos (by decide)]
  obtain ⟨o4, a4, h4⟩ := word_M 43 0 0 0 0 0 h (by decide) (by decide) (by decide)
  rw [show f_Md_word 43 0 0 0 0 0 v0 = some o4 from a4]
  simp only [Option.bind_some]
  obtain ⟨o5, a5, h5⟩ := word_M 45 0 0 0 0 0 h4 (by decide) (by decide) (by decide)
  rw [show f_Md_word 45 0 0 0 0 0 o4 = some o5 from a5]
  simp only [Option.bind_some]
  obtain ⟨o6, a6, h6⟩ := word_M 42 0 0 0 0 0 h5 (by decide) (by decide) (by decide)
  rw [show f_Md_word 42 0 0 0 0 0 o5 = some o6 from a6]
  simp only [Option.bind_some]
  obtain ⟨o7, a7, h7⟩ := word_M 60 0 0 0 0 0 h6 (by decide) (by decide) (by decide)
  rw [show f_Md_word 60 0 0 0 0 0 o6 = some o7 from a7]
  simp only [Option.bind_some]
  obtain ⟨o8, a8, h8⟩ := word_M 101 113 63 0 0 0 h7 (by decide) (by decide) (by decide)
  rw [show f_Md_word 101 113 63 0 0 0 o7 = some o8 from a8]
  simp only [Option.bind_some]
  obtain ⟨o9, a9, h9⟩ := word_M 97 116 111 109 63 0 h8 (by decide) (by decide) (by decide)
  rw [show f_Md_word 97 116 111 109 63 0 o8 = some o9 from a9]
  simp only [Option.bind_some]
  obtain ⟨p0, b0, g0⟩ := word_M 99 111 110 115 0 0 h9 (by decide) (by decide) (by decide)
  rw [show f_Md_word 99 111 110 115 0 0 o9 = some p0 from b0]
  simp only [Option.bind_some]
  obtain ⟨p1, b1, g1⟩ := word_M 99 97 114 0 0 0 g0 (by decide) (by decide) (by decide)
  rw [show f_Md_word 99 97 114 0 0 0 p0 = some p1 from b1]
  simp only [Option.bind_some]
  obtain ⟨p2, b2, g2⟩ := word_M 99 100 114 0 0 0 g1 (by decide) (by decide) (by decide)
  rw [show f_Md_word 99 100 114 0 0 0 p1 = some p2 from b2]
  simp only [Option.bind_some]
  obtain ⟨p3, b3, g3⟩ := word_M 108 105 115 116 0 0 g2 (by decide) (by decide) (by decide)
  rw [show f_Md_word 108 105 115 116 0 0 p2 = some p3 from b3]
  simp only [Option.bind_some]
  obtain ⟨p4, b4, g4⟩ := word_M 113 117 111 116 101 0 g3 (by decide) (by decide) (by decide)
  rw [show f_Md_word 113 117 111 116 101 0 p3 = some p4 from b4]
  simp only [Option.bind_some]
  obtain ⟨p5, b5, g5⟩ := word_M 105 102 0 0 0 0 g4 (by decide) (by decide) (by decide)
  rw [show f_Md_word 105 102 0 0 0 0 p4 = some p5 from b5]
  simp only [Option.bind_some]
  obtain ⟨p6, b6, g6⟩ := word_M 108 97 109 98 100 97 g5 (by decide) (by decide) (by decide)
  rw [show f_Md_word 108 97 109 98 100 97 p5 = some p6 from b6]
  simp only [Option.bind_some]
  obtain ⟨p7, b7, g7⟩ := word_M 100 101 102 105 110 101 g6 (by decide) (by decide) (by decide)
  rw [show f_Md_word 100 101 102 105 110 101 p6 = some p7 from b7]
  simp only [Option.bind_some]
  obtain ⟨p8, b8, g8⟩ := word_M 115 101 116 33 0 0 g7 (by decide) (by decide) (by decide)
  rw [show f_Md_word 115 101 116 33 0 0 p7 = some p8 from b8]
  simp only [Option.bind_some]
  obtain ⟨p9, b9, g9⟩ := word_M 116 0 0 0 0 0 g8 (by decide) (by decide) (by decide)
  rw [show f_Md_word 116 0 0 0 0 0 p8 = some p9 from b9]
  simp only [Option.bind_some]
  rw [if_neg (by decide)]
  exact ⟨p9, rfl, g9⟩
/-- the reference's start -/
theorem initM (sz : Nat) : ∃ vM, l_Md_init pm_fuel 0 0 (pm_setI (pm_setI (pm_setI pm_0 0 15 536870912) 0 16 536870912) 0 1 (nI sz)) = some vM ∧ (∀ k, k ∉ [1, 12, 15, 16] → vM.1 0 k = 0) ∧ vM.1 0 1 = nI sz ∧ vM.1 0 12 = nI 16 ∧ vM.1 0 15 = 536870912 ∧ vM.1 0 16 = 536870912 ∧ (∀ s, s < 16 → ∀ q, q < 8 → vM.1 10 (8 * s + q) = nI ((nm0 s).getD q 0)) ∧ (∀ j, j < 40 → vM.1 11 j = if j < 10 then nI (536872000 + j) else if j = 15 then 536871015 else -2147483648) ∧ ∀ t, vM.1 1 t = 0 := by
  obtain ⟨v0, a1, a2, a3⟩ := initM_l 40 0 (pm_fuel - 41) (pm_setI (pm_setI (pm_setI pm_0 0 15 536870912) 0 16 536870912) 0 1 (nI sz)) (by omega)
  rw [show pm_fuel - 41 + 40 + 1 = pm_fuel from rfl] at a1
  have z : ∀ o k, o ≠ 0 → (pm_setI (pm_setI (pm_setI pm_0 0 15 536870912) 0 16 536870912) 0 1 (nI sz)).1 o k = 0 := fun o k ho => by
    rw [rdI_n _ (Or.inl ho), rdI_n _ (Or.inl ho), rdI_n _ (Or.inl ho)]; rfl
  have zf : ∀ k, k ∉ [1, 15, 16] → (pm_setI (pm_setI (pm_setI pm_0 0 15 536870912) 0 16 536870912) 0 1 (nI sz)).1 0 k = 0 := fun k hk => by
    simp only [List.mem_cons, List.not_mem_nil, or_false, not_or] at hk
    rw [rdI_n _ (Or.inr hk.1), rdI_n _ (Or.inr hk.2.2), rdI_n _ (Or.inr hk.2.1)]; rfl
  have hWI : WI v0 0 v0 := ⟨by rw [a2.2.1 12 (by decide), zf 12 (by decide)]; rfl, fun s hs => absurd hs (by omega), fun j _ => by rw [a2.2.2 10 (by decide) (by decide), z 10 j (by decide)], smM_rf⟩
  obtain ⟨v1, b1, c1, c2, c3, c4⟩ := initM_w (m := pm_fuel - 41) hWI
  refine ⟨pm_setI v1 11 15 536871015, ?_, fun k hk => ?_, ?_, ?_, ?_, ?_, fun s hs q hq => ?_, fun j hj => ?_, fun t => ?_⟩
  · rw [show l_Md_init pm_fuel 0 0 _ = _ from a1]
    exact b1
  · have hk12 : k ∉ [12] := fun y => hk (by simp at y ⊢; omega)
    rw [rdI_n _ (Or.inl (by decide)), c4.2.1 k hk12, a2.2.1 k (by simp), zf k (fun y => hk (by simp at y ⊢; omega))]
  · rw [rdI_n _ (Or.inl (by decide)), c4.2.1 1 (by decide), a2.2.1 1 (by decide), rdI_s]
  · rw [rdI_n _ (Or.inl (by decide))]; exact c1
  · rw [rdI_n _ (Or.inl (by decide)), c4.2.1 15 (by decide), a2.2.1 15 (by decide), rdI_n _ (Or.inr (by decide)), rdI_n _ (Or.inr (by decide)), rdI_s]
  · rw [rdI_n _ (Or.inl (by decide)), c4.2.1 16 (by decide), a2.2.1 16 (by decide), rdI_n _ (Or.inr (by decide)), rdI_s]
  · rw [rdI_n _ (Or.inl (by decide))]; exact c2 s hs q hq
  · by_cases y : j = 15
    · subst y
      rw [rdI_s, if_neg (by decide), if_pos rfl]
    · rw [rdI_n _ (Or.inr y), c4.2.2 11 (by decide) (by decide), a3 j, if_pos (by omega), if_neg y]
  · rw [rdI_n _ (Or.inl (by decide)), c4.2.2 1 (by decide) (by decide), a2.2.2 1 (by decide) (by decide), z 1 t (by decide)]
