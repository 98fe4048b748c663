/-! reading: the next form is looked for, both sides -/
def cad (c o : Nat) (q : Bool) : Nat := (if c = 39 then 4 else 0) + (if 0 < o ∧ q = false ∧ ¬ c = 41 then 2 else 0)
def flt (c o : Nat) (q : Bool) : Bool := (decide (c = 39) && q) || (decide (c = 40) && decide (10 ≤ o)) || (decide (c = 41) && (q || decide (o = 0)))
section
variable {S n : Nat} {tx : Nat → Nat}
theorem le0_n {o : Nat} (ho : o ≤ 10) : (nI o ≤ 0) = (o = 0) := by
  apply propext
  constructor
  · intro h
    apply Classical.byContradiction
    intro z
    exact nI_nle (n := o) (by omega) (by omega) h
  · intro h; subst h; decide
theorem cells_C {c o : Nat} {q : Bool} {w : pm_W} (hc : c < 127) (ho : o ≤ 10) : f_Reader_cellsOfPiece S (nI c) (nI o) (b2 q) w = some (nI (cad c o q), w) := by
  unfold f_Reader_cellsOfPiece cad
  have e39 : (nI c = 39) = (c = 39) := z_eq (b := 39) (by omega) (by omega)
  have e41 : (nI c = 41) = (c = 41) := z_eq (b := 41) (by omega) (by omega)
  have eo : (nI o ≤ 0) = (o = 0) := le0_n ho
  have eq0 : (b2 q = 0) = (q = false) := by cases q <;> simp [b2]
  simp only [e39, e41, eo, eq0]
  by_cases z1 : c = 39
  · subst z1
    by_cases z2 : o = 0
    · subst z2; rfl
    · cases q with
      | true => rw [if_pos rfl, if_neg z2, if_neg (by decide), if_pos rfl, if_neg (by simp)]; rfl
      | false => rw [if_pos rfl, if_neg z2, if_pos rfl, if_neg (by decide), if_pos rfl, if_pos ⟨by omega, rfl, by decide⟩]; rfl
  · rw [if_neg z1, if_neg z1]
    by_cases z2 : o = 0
    · subst z2; rfl
    · cases q with
      | true => rw [if_neg z2, if_neg (by decide), if_neg (by simp)]; rfl
      | false =>
        by_cases z3 : c = 41
        · rw [if_neg z2, if_pos rfl, if_pos z3, if_neg (fun h => h.2.2 z3)]; rfl
        · rw [if_neg z2, if_pos rfl, if_neg z3, if_pos ⟨by omega, rfl, z3⟩]; rfl
theorem fault_C {c o : Nat} {q : Bool} {w : pm_W} (hc : c < 127) (ho : o ≤ 10) : f_Reader_isFault S (nI c) (nI o) (b2 q) w = some (b2 (flt c o q), w) := by
  unfold f_Reader_isFault flt
  have e39 : (nI c = 39) = (c = 39) := z_eq (b := 39) (by omega) (by omega)
  have e40 : (nI c = 40) = (c = 40) := z_eq (b := 40) (by omega) (by omega)
  have e41 : (nI c = 41) = (c = 41) := z_eq (b := 41) (by omega) (by omega)
  have eo : (nI o = 0) = (o = 0) := z_eq (b := 0) (by omega) (by omega)
  have e10 : (nI o < 10) = (o < 10) := z_lt (b := 10) (by omega) (by omega)
  have eq0 : (b2 q = 0) = (q = false) := by cases q <;> simp [b2]
  have eqa : (b2 q &&& 1 = b2 q) = True := by cases q <;> simp [b2]
  simp only [e39, e40, e41, eo, e10, eq0, eqa]
  by_cases z1 : c = 39
  · subst z1
    cases q <;> rfl
  · by_cases z2 : c = 40
    · subst z2
      by_cases z3 : o < 10
      · have : ¬ 10 ≤ o := by omega
        simp [z3, this, b2]
      · have : 10 ≤ o := by omega
        simp [z3, this, b2]
    · by_cases z3 : c = 41
      · subst z3
        by_cases z4 : o = 0
        · cases q <;> simp [z4, b2]
        · cases q <;> simp [z4, b2]
      · simp [z1, z2, z3, b2]
theorem f102 {rec : Nat → Int32 → Int32 → Int32 → pm_W → Option (Int32 × pm_W)} {c o cc : Nat} {q : Bool} {v : pm_W} (hc : c < 127) (ho : o ≤ 10) (h30 : v.1 0 30 = nI cc) : ∃ v', b_Md_lookOver_102 rec (nI o) (b2 q) (nI c) v = b_Md_lookOver_144 rec (nI o) (nI c) v' ∧ v'.1 0 30 = nI (cc + cad c o q) ∧ smM v v' [30] [] := by
  unfold b_Md_lookOver_102 cad
  have e39 : (nI c = 39) = (c = 39) := z_eq (b := 39) (by omega) (by omega)
  have e41 : (nI c = 41) = (c = 41) := z_eq (b := 41) (by omega) (by omega)
  have eo : (nI o ≤ 0) = (o = 0) := le0_n ho
  have eq0 : (b2 q = 0) = (q = false) := by cases q <;> simp [b2]
  simp only [e39, e41, eo, eq0]
  rw [h30, show (4 : Int32) = nI 4 from rfl, show (2 : Int32) = nI 2 from rfl, nI_add, nI_add, nI_add]
  by_cases z1 : c = 39
  · subst z1
    by_cases z2 : o = 0
    · subst z2
      refine ⟨pm_setI v 0 30 (nI (cc + 4)), ?_, by rw [rdI_s]; simp, smM_f smM_rf (by decide)⟩
      cases q with
      | true => rw [if_pos rfl, if_neg (by decide), if_neg (by decide)]
      | false => rw [if_pos rfl, if_neg (by decide), if_pos rfl, if_pos rfl]
    · cases q with
      | true =>
        refine ⟨pm_setI v 0 30 (nI (cc + 4)), ?_, by rw [rdI_s]; simp, smM_f smM_rf (by decide)⟩
        rw [if_pos rfl, if_neg (by decide), if_neg (by decide)]
      | false =>
        refine ⟨pm_setI (pm_setI v 0 30 (nI (cc + 4))) 0 30 (nI (cc + 4 + 2)), ?_, ?_, smM_f (smM_f smM_rf (by decide)) (by decide)⟩
        · rw [if_pos rfl, if_neg (by decide), if_pos rfl, if_neg z2]
        · rw [rdI_s, if_pos rfl, if_pos ⟨by omega, rfl, by decide⟩]
  · rw [if_neg z1, if_neg z1]
    by_cases z2 : o = 0
    · subst z2
      refine ⟨v, ?_, by rw [h30]; simp, smM_rf⟩
      by_cases z3 : c = 41
      · rw [if_pos z3]
      · rw [if_neg z3]
        cases q with
        | true => rw [if_neg (by decide)]
        | false => rw [if_pos rfl, if_pos rfl]
    · by_cases z3 : c = 41
      · refine ⟨v, by rw [if_pos z3], ?_, smM_rf⟩
        rw [h30, if_neg (fun h => h.2.2 z3)]
        rfl
      · cases q with
        | true =>
          refine ⟨v, by rw [if_neg z3, if_neg (by decide)], by rw [h30]; simp, smM_rf⟩
        | false =>
          refine ⟨pm_setI v 0 30 (nI (cc + 2)), by rw [if_neg z3, if_pos rfl, if_neg z2], ?_, smM_f smM_rf (by decide)⟩
          rw [rdI_s, if_pos ⟨by omega, rfl, z3⟩, Nat.zero_add]
theorem dec1 {o : Nat} (h : 0 < o) : nI o + (-1) = nI (o - 1) := by
  rw [show nI o = nI (o - 1 + 1) by rw [show o - 1 + 1 = o by omega]]
  exact z_m1 (o - 1)
theorem find_l : ∀ (N k o c x4 m m2 : Nat) (q : Bool) (w v : pm_W), TxC n tx w → TxM n tx v → k + N = n → x4 ≤ k → o ≤ 10 → c ≤ 6 * k → w.1 7 4 = nI c → v.1 0 30 = nI c → FFo n tx k o q c w v (l_Reader_findForm S (m + N + 1) 0 (nI o) (b2 q) (nI k) (nI x4) w) (l_Md_lookOver (m2 + N + 1) 0 (nI o) (b2 q) (nI (sk n tx k)) v) := by
  intro N
  induction N using Nat.strongRecOn with
  | ind N ih =>
  intro k o c x4 m m2 q w v hC hM hN hx ho hc h74 h30
  have hn := hC.1
  by_cases hkn : k = n
  · subst hkn
    refine ⟨w, v, 2, smC_rf, smM_rf, ?_, Or.inl ⟨rfl, ?_⟩⟩
    · rw [l_Reader_findForm_s]
      unfold b_Reader_findForm_14
      rw [hC.2.1, if_pos (Int32.le_refl _)]
      by_cases z : (120 : Int32) ≤ nI x4
      · rw [if_pos z]
      · rw [if_neg z]
    · rw [sk_end, l_Md_lookOver_s]
      unfold b_Md_lookOver_15
      rw [hM.2.1, if_pos (Int32.le_refl _)]
  have hk : k < n := by omega
  have hch := ch_lt (hC.2.2 k hk).1
  by_cases hb : bl (tx k)
  · have hnx : nx n tx k = k + 1 := nx_s (fun z => z.1 hb)
    have e1 : l_Reader_findForm S (m + N + 1) 0 (nI o) (b2 q) (nI k) (nI x4) w = l_Reader_findForm S (m + (N - 1) + 1) 0 (nI o) (b2 q) (nI (k + 1)) (nI (x4 + 1)) (pm_setI w 7 3 (nI (k + 1))) := by
      rw [l_Reader_findForm_s, ffC_pre hC hk hx, if_pos hb, hnx, show m + N = m + (N - 1) + 1 by omega]
    rw [e1, sk_b hk hb, show m2 + N + 1 = (m2 + 1) + (N - 1) + 1 by omega]
    have h1 : smC w (pm_setI w 7 3 (nI (k + 1))) [7] := smC_set smC_rf (by decide)
    refine FFo_tr (c := c) (c' := c) (ih (N - 1) (by omega) (k + 1) o c (x4 + 1) m (m2 + 1) q _ v (TxC_sm hC (h1.2 1 (by decide)) (h1.2 9 (by decide))) hM (by omega) (by omega) ho (by omega) (by rw [rdI_n _ (Or.inr (by decide))]; exact h74) h30) h1 smM_rf (fun P d e hw => ?_) (Nat.le_refl _)
    refine ⟨hk, ?_⟩
    rw [if_pos hb, Nat.sub_self, Nat.zero_add]
    exact hw
  · -- a token
    obtain ⟨hx1, hx2⟩ := nx_le (tx := tx) hk
    have hw1 : smC w (pm_setI w 7 3 (nI (nx n tx k))) [7] := smC_set smC_rf (by decide)
    have hv1 : smM v (pm_setI v 0 29 (nI (nx n tx k))) [29, 30] [] := smM_f smM_rf (by decide)
    have hM1 : TxM n tx (pm_setI v 0 29 (nI (nx n tx k))) := TxM_sm hM (hv1.2.1 20 (by decide)) (hv1.2.2 12 (by decide) (by decide))
    rw [sk_n hk hb, l_Reader_findForm_s, l_Md_lookOver_s, ffC_pre hC hk hx, if_neg hb, ffM_pre hM hk hb, fault_C hch ho]
    simp only [Option.bind_some]
    by_cases hf : flt (tx k) o q = true
    · -- a fault
      rw [hf, if_neg (show ¬ b2 true = 0 by decide)]
      refine ⟨_, _, -1, hw1, hv1, rfl, Or.inr (Or.inl ⟨rfl, ?_, nx n tx k, hx2, by rw [rdI_s], by rw [rdI_s]⟩)⟩
      unfold flt at hf
      by_cases z1 : tx k = 41
      · rw [if_pos z1]
        simp [z1] at hf
        by_cases z2 : o = 0
        · rw [if_pos (show nI o = 0 by rw [z2]; rfl)]
        · rw [if_neg (nI_ne0 (by omega) (by omega)), if_neg (show ¬ b2 q = 0 from fun y => by
            rcases hf with r | r
            · rw [r] at y; exact absurd y (by decide)
            · exact z2 r)]
      · rw [if_neg z1]
        by_cases z2 : tx k = 39
        · rw [if_pos z2]
          simp [z2] at hf
          rw [hf, if_neg (by decide)]
        · rw [if_neg z2, f66 hch]
          simp [z1, z2] at hf
          rw [if_pos ⟨hf.1, by rw [show o = 10 by omega]; rfl⟩]
    · have hf0 : flt (tx k) o q = false := by simpa using hf
      rw [hf0, if_pos (show b2 false = 0 from rfl), cells_C hch ho]
      simp only [Option.bind_some]
      rw [show (pm_setI w 7 3 (nI (nx n tx k))).1 7 4 + nI (cad (tx k) o q) = nI (c + cad (tx k) o q) by rw [rdI_n _ (Or.inr (by decide)), h74, nI_add]]
      have hw2 : smC w (pm_setI (pm_setI w 7 3 (nI (nx n tx k))) 7 4 (nI (c + cad (tx k) o q))) [7] := smC_set hw1 (by decide)
      have hC2 := TxC_sm hC (hw2.2 1 (by decide)) (hw2.2 9 (by decide))
      have h742 : (pm_setI (pm_setI w 7 3 (nI (nx n tx k))) 7 4 (nI (c + cad (tx k) o q))).1 7 4 = nI (c + cad (tx k) o q) := rdI_s _ _ _ _
      have h732 : (pm_setI (pm_setI w 7 3 (nI (nx n tx k))) 7 4 (nI (c + cad (tx k) o q))).1 7 3 = nI (nx n tx k) := by rw [rdI_n _ (Or.inr (by decide)), rdI_s]
      have hcad : cad (tx k) o q ≤ 6 := by unfold cad; split <;> split <;> omega
      obtain ⟨v2, g1, g2, g3⟩ := f102 (rec := l_Md_lookOver (m2 + N)) (c := tx k) (o := o) (cc := c) (q := q) (v := pm_setI v 0 29 (nI (nx n tx k))) hch ho (by rw [rdI_n _ (Or.inr (by decide))]; exact h30)
      have g3 : smM (pm_setI v 0 29 (nI (nx n tx k))) v2 [30] [] := g3
      have hv2 : smM v v2 [29, 30] [] := smM_tr hv1 ⟨g3.1, fun j hj => g3.2.1 j (fun z => hj (by simp at z ⊢; exact Or.inr z)), g3.2.2⟩
      have hM2 : TxM n tx v2 := TxM_sm hM (hv2.2.1 20 (by decide)) (hv2.2.2 12 (by decide) (by decide))
      have h292 : v2.1 0 29 = nI (nx n tx k) := by rw [g3.2.1 29 (by decide), rdI_s]
      have h66 : (¬ (tx k = 40 ∧ nI o = 10)) → (¬ (¬ sg (tx k) ∧ nx n tx k = n)) → b_Md_lookOver_66 (l_Md_lookOver (m2 + N)) (nI o) (b2 q) (nI (tx k)) (pm_setI v 0 29 (nI (nx n tx k))) = b_Md_lookOver_144 (l_Md_lookOver (m2 + N)) (nI o) (nI (tx k)) v2 := fun y1 y2 => by
        rw [f66 hch, if_neg y1, if_neg (fun z => y2 ⟨z.1, by
          have z2 := z.2
          rw [rdI_s, hM1.2.1] at z2
          exact (nI_eq (by omega) (by omega)).mp z2⟩), g1]
      -- going on
      have goon : ∀ (o' : Nat) (q' : Bool), o' ≤ 10 → (∀ P d e, wf n tx P (nx n tx k) o' q' d e → wf n tx (P + 1) k o q (cad (tx k) o q + d) e) → FFo n tx k o q c w v (l_Reader_findForm S (m + N) 0 (nI o') (b2 q') (nI (nx n tx k)) (nI (x4 + 1)) (pm_setI (pm_setI w 7 3 (nI (nx n tx k))) 7 4 (nI (c + cad (tx k) o q)))) (l_Md_lookOver (m2 + N) 0 (nI o') (b2 q') (nI (sk n tx (nx n tx k))) v2) := fun o' q' ho' hw => by
        have := ih (n - nx n tx k) (by omega) (nx n tx k) o' (c + cad (tx k) o q) (x4 + 1) (m + (N - (n - nx n tx k) - 1)) (m2 + (N - (n - nx n tx k) - 1)) q' _ v2 hC2 hM2 (by omega) (by omega) ho' (by omega) h742 g2
        rw [show m + (N - (n - nx n tx k) - 1) + (n - nx n tx k) + 1 = m + N by omega, show m2 + (N - (n - nx n tx k) - 1) + (n - nx n tx k) + 1 = m2 + N by omega] at this
        exact FFo_tr this hw2 hv2 (fun P d e hh => by rw [show c + cad (tx k) o q - c = cad (tx k) o q by omega]; exact hw P d e hh) (by omega)
      have done : wf n tx 1 k o q (cad (tx k) o q) (nx n tx k) → FFo n tx k o q c w v (some (0, pm_setI (pm_setI w 7 3 (nI (nx n tx k))) 7 4 (nI (c + cad (tx k) o q)))) (some (1, v2)) := fun hw => ⟨_, _, 0, hw2, hv2, rfl, Or.inr (Or.inr ⟨rfl, rfl, 1, cad (tx k) o q, nx n tx k, hw, h732, h292, h742, g2, by omega⟩)⟩
      unfold flt at hf0
      by_cases c1 : tx k = 39
      · -- a quote
        have hq : q = false := by simpa [c1] using hf0
        subst hq
        have hnx : nx n tx k = k + 1 := nx_s (fun z => z.2 (Or.inr (Or.inr c1)))
        rw [if_pos c1, show (1 : Int32) = b2 true from rfl, f157 ho, if_neg (fun z => absurd z.2 (by decide)), if_neg (by rw [c1]; decide), if_pos c1, if_pos (show b2 false = 0 from rfl), h66 (fun z => by rw [c1] at z; exact absurd z.1 (by decide)) (fun z => z.1 (Or.inr (Or.inr c1))), f144 hch hM2 h292 hx2, if_neg (fun z => z.2 c1), if_neg (by rw [c1]; decide), if_neg (by rw [c1]; decide), show decide (tx k = 39) = true by simp [c1]]
        refine goon o true ho (fun P d e hw => ⟨hk, ?_⟩)
        rw [if_neg hb, if_pos c1]
        refine ⟨rfl, d, ?_, by rw [← hnx]; exact hw⟩
        unfold cad
        rw [if_pos c1]
        by_cases z : 0 < o
        · rw [if_pos ⟨z, rfl, by rw [c1]; decide⟩, if_pos z]; omega
        · rw [if_neg (fun y => z y.1), if_neg z]; omega
      · by_cases c2 : tx k = 40
        · have ho2 : o < 10 := by
            have : ¬ 10 ≤ o := by simpa [c2] using hf0
            omega
          have hnx : nx n tx k = k + 1 := nx_s (fun z => z.2 (Or.inl c2))
          rw [if_neg c1, if_pos c2, nI_1, show (0 : Int32) = b2 false from rfl, f157 (by omega), if_neg (fun z => absurd z.1 (by omega)), if_neg (by rw [c2]; decide), if_neg c1, h66 (fun z => by
            have := (nI_eq (a := o) (b := 10) (by omega) (by omega)).mp z.2
            omega) (fun z => z.1 (Or.inl c2)), f144 hch hM2 h292 hx2, if_pos c2, nI_1, if_neg (fun z => nI_ne0 (n := o + 1) (by omega) (by omega) z.1), show decide (tx k = 39) = false by simp [c1]]
          refine goon (o + 1) false (by omega) (fun P d e hw => ⟨hk, ?_⟩)
          rw [if_neg hb, if_neg c1, if_pos c2]
          refine ⟨ho2, d, ?_, by rw [← hnx]; exact hw⟩
          unfold cad
          rw [if_neg c1]
          by_cases z : 0 < o ∧ q = false
          · rw [if_pos ⟨z.1, z.2, by rw [c2]; decide⟩, if_pos z]; omega
          · rw [if_neg (fun y => z ⟨y.1, y.2.1⟩), if_neg z]; omega
        · by_cases c3 : tx k = 41
          · have hq : q = false ∧ ¬ o = 0 := by simpa [c3] using hf0
            obtain ⟨hq, ho0⟩ := hq
            subst hq
            have hnx : nx n tx k = k + 1 := nx_s (fun z => z.2 (Or.inr (Or.inl c3)))
            have hcd : cad (tx k) o false = 0 := by
              unfold cad
              rw [if_neg c1, if_neg (fun y => y.2.2 c3)]
            rw [if_neg c1, if_neg c2, if_pos c3, dec1 (by omega), show (0 : Int32) = b2 false from rfl, f157 (by omega), if_pos c3, if_neg (show ¬ nI o = b2 false from nI_ne0 (by omega) (by omega)), if_pos rfl, h66 (fun z => c2 z.1) (fun z => z.1 (Or.inr (Or.inl c3))), f144 hch hM2 h292 hx2, if_neg c2, if_pos c3, dec1 (by omega), show decide (tx k = 39) = false by simp [c1]]
            by_cases z : o - 1 = 0
            · rw [if_pos ⟨z, rfl⟩, if_pos ⟨by rw [z]; rfl, c1⟩]
              refine done ⟨hk, ?_⟩
              rw [if_neg hb, if_neg c1, if_neg c2, if_pos c3]
              exact ⟨by omega, rfl, hnx.symm, z, rfl, hcd⟩
            · rw [if_neg (fun y => z y.1), if_neg (fun y => nI_ne0 (n := o - 1) (by omega) (by omega) y.1)]
              refine goon (o - 1) false (by omega) (fun P d e hw => ⟨hk, ?_⟩)
              rw [if_neg hb, if_neg c1, if_neg c2, if_pos c3]
              exact ⟨by omega, rfl, by rw [hcd, Nat.zero_add, ← hnx]; exact hw⟩
          · -- a word
            have hsg : ¬ sg (tx k) := fun z => by rcases z with z | z | z <;> contradiction
            rw [if_neg c1, if_neg c2, if_neg c3, if_neg c3, if_neg c1, show (pm_setI w 7 3 (nI (nx n tx k))).1 7 3 = nI (nx n tx k) from rdI_s _ _ _ _, show (pm_setI w 7 3 (nI (nx n tx k))).1 1 1 = nI n by rw [rdI_n _ (Or.inl (by decide))]; exact hC.2.1]
            have hcd : ∀ d, cad (tx k) o q + d = d + (if 0 < o ∧ q = false then 2 else 0) := fun d => by
              unfold cad
              rw [if_neg c1]
              by_cases z : 0 < o ∧ q = false
              · rw [if_pos ⟨z.1, z.2, c3⟩, if_pos z]; omega
              · rw [if_neg (fun y => z ⟨y.1, y.2.1⟩), if_neg z]; omega
            by_cases z : nx n tx k = n
            · rw [z, if_neg (Int32.lt_irrefl)]
              refine ⟨_, _, 2, by rw [z] at hw2; exact hw2, hv1, rfl, Or.inl ⟨rfl, ?_⟩⟩
              rw [z] at hM1 ⊢
              rw [f66 hch, if_neg (fun y => c2 y.1), if_pos ⟨hsg, by rw [rdI_s, hM1.2.1]⟩]
            · rw [if_pos (q_lt (show nx n tx k < n by omega) (by omega)), show (0 : Int32) = b2 false from rfl, f157 ho, h66 (fun y => c2 y.1) (fun y => z y.2), f144 hch hM2 h292 hx2, if_neg c2, if_neg c3, show decide (tx k = 39) = false by simp [c1]]
              by_cases y : o = 0
              · rw [if_pos ⟨y, rfl⟩, if_pos ⟨by rw [y]; rfl, c1⟩]
                refine done ⟨hk, ?_⟩
                rw [if_neg hb, if_neg c1, if_neg c2, if_neg c3]
                exact ⟨0, by have := hcd 0; omega, rfl, y, rfl, rfl⟩
              · rw [if_neg (fun x => y x.1), if_neg (fun x => nI_ne0 (n := o) (by omega) (by omega) x.1)]
                refine goon o false ho (fun P d e hw => ⟨hk, ?_⟩)
                rw [if_neg hb, if_neg c1, if_neg c2, if_neg c3]
                exact ⟨d, hcd d, hw⟩
end
