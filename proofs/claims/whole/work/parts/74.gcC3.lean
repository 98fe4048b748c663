/-- the slots below i that aren't in L -/
def fl (L : List Nat) (i : Nat) : List Nat := (List.range i).filter (fun s => decide (s ∉ L))
theorem fl_succ (L : List Nat) (i : Nat) : fl L (i + 1) = if i ∈ L then fl L i else fl L i ++ [i] := by
  unfold fl
  rw [List.range_succ, List.filter_append]
  by_cases h : i ∈ L
  · simp [h]
  · simp [h]
theorem fl_len (L : List Nat) (i : Nat) : (fl L i).length ≤ i := by
  unfold fl
  have := List.length_filter_le (fun s => decide (s ∉ L)) (List.range i)
  simpa using this
theorem fl_mem {L : List Nat} {i s : Nat} : s ∈ fl L i ↔ s < i ∧ s ∉ L := by
  unfold fl
  simp
theorem fl_nd (L : List Nat) (i : Nat) : (fl L i).Nodup := by
  unfold fl
  exact List.nodup_range.filter _
def smF (w w1 : pm_W) : Prop := w1.2 = w.2 ∧ (∀ o, o ≠ 5 → o ≠ 20 → o ≠ 22 → w1.1 o = w.1 o) ∧ ∀ k, k ≠ 9 → w1.1 5 k = w.1 5 k
def FI (S : Nat) (L : List Nat) (w w1 : pm_W) (i : Nat) : Prop := w1.1 5 9 = nI (fl L i).length ∧ (∀ (j : Nat) (h : j < (fl L i).length), w1.1 22 j = nI (fl L i)[j]) ∧ (∀ s, s < S → w1.1 20 s = if s < i then 0 else if s ∈ L then 1 else 0) ∧ smF w w1
theorem free_l {S : Nat} {L : List Nat} {w : pm_W} (hS : S ≤ 200) (hs : w.1 5 1 = nI S) : ∀ (d i m : Nat) (w1 : pm_W), i + d = S → FI S L w w1 i → ∃ w2, l_Room_freeUnreached S (m + d + 1) 0 (nI i) w1 = some w2 ∧ FI S L w w2 S := by
  intro d
  induction d with
  | zero =>
    intro i m w1 hi h
    have e : i = S := by omega
    subst e
    refine ⟨w1, ?_, h⟩
    show b_Room_freeUnreached_7 i (l_Room_freeUnreached i m) (nI i) w1 = _
    unfold b_Room_freeUnreached_7
    rw [h.2.2.2.2.2 1 (by decide), hs, if_pos (Int32.le_refl _)]
  | succ d ih =>
    intro i m w1 hi h
    obtain ⟨h1, h2, h3, h4⟩ := h
    have hlt : i < S := by omega
    have hfl := fl_len L i
    have hsl : w1.1 5 1 = nI S := by rw [h4.2.2 1 (by decide), hs]
    have hb : ¬ (nI i < 0 ∨ S ≤ (nI i).toNatClampNeg) := nI_in hlt (by omega)
    have hb2 : ¬ (nI i < 0 ∨ S ≤ i) := by rw [nI_clamp (by omega)] at hb; exact hb
    have hmk : w1.1 20 i = if i ∈ L then 1 else 0 := by rw [h3 i hlt, if_neg (Nat.lt_irrefl i)]
    by_cases hm : i ∈ L
    · have hF : FI S L w (pm_setI w1 20 i 0) (i + 1) := by
        refine ⟨?_, ?_, ?_, ?_⟩
        · rw [rdI_n _ (Or.inl (by decide)), fl_succ, if_pos hm]; exact h1
        · have e : fl L (i + 1) = fl L i := by rw [fl_succ, if_pos hm]
          rw [e]
          intro j hj
          rw [rdI_n _ (Or.inl (by decide))]
          exact h2 j hj
        · intro s hs2
          by_cases e : s = i
          · subst e
            rw [rdI_s, if_pos (by omega)]
          · rw [rdI_n _ (Or.inr e), h3 s hs2]
            by_cases q : s < i
            · rw [if_pos q, if_pos (show s < i + 1 by omega)]
            · rw [if_neg q, if_neg (show ¬ s < i + 1 by omega)]
        · exact ⟨h4.1, fun o a b c => by rw [rdI_o _ b]; exact h4.2.1 o a b c, fun k a => by rw [rdI_n _ (Or.inl (by decide))]; exact h4.2.2 k a⟩
      obtain ⟨w2, g1, g2⟩ := ih (i + 1) m _ (by omega) hF
      refine ⟨w2, ?_, g2⟩
      rw [← g1]
      show b_Room_freeUnreached_7 S (l_Room_freeUnreached S (m + d + 1)) (nI i) w1 = _
      unfold b_Room_freeUnreached_7
      rw [hsl, if_neg (nI_ge hlt (by omega)), if_neg hb, nI_clamp (by omega), hmk, if_pos hm, if_neg (by decide), if_neg hb2, show nI i + (1 : Int32) = nI (i + 1) from nI_1 i, show vp_nar .boolean (0 : Int32) = 0 by decide]
    · have hF : FI S L w (pm_setI (pm_setI (pm_setI w1 22 (fl L i).length (nI i)) 5 9 (nI ((fl L i).length + 1))) 20 i 0) (i + 1) := by
        have e : fl L (i + 1) = fl L i ++ [i] := by rw [fl_succ, if_neg hm]
        refine ⟨?_, ?_, ?_, ?_⟩
        · rw [rdI_n _ (Or.inl (by decide)), rdI_s, e, List.length_append]
          rfl
        · rw [e]
          intro j hj
          rw [rdI_n _ (Or.inl (by decide)), rdI_n _ (Or.inl (by decide))]
          by_cases ej : j = (fl L i).length
          · subst ej
            rw [rdI_s]
            simp
          · have hj2 : j < (fl L i).length := by simp at hj; omega
            rw [rdI_n _ (Or.inr ej), List.getElem_append_left hj2]
            exact h2 j hj2
        · intro s hs2
          by_cases e : s = i
          · subst e
            rw [rdI_s, if_pos (by omega)]
          · rw [rdI_n _ (Or.inr e), rdI_n _ (Or.inl (by decide)), rdI_n _ (Or.inl (by decide)), h3 s hs2]
            by_cases q : s < i
            · rw [if_pos q, if_pos (show s < i + 1 by omega)]
            · rw [if_neg q, if_neg (show ¬ s < i + 1 by omega)]
        · exact ⟨h4.1, fun o a b c => by rw [rdI_o _ b, rdI_o _ a, rdI_o _ c]; exact h4.2.1 o a b c, fun k a => by rw [rdI_n _ (Or.inl (by decide)), rdI_n _ (Or.inr a), rdI_n _ (Or.inl (by decide))]; exact h4.2.2 k a⟩
      obtain ⟨w2, g1, g2⟩ := ih (i + 1) m _ (by omega) hF
      refine ⟨w2, ?_, g2⟩
      rw [← g1]
      show b_Room_freeUnreached_7 S (l_Room_freeUnreached S (m + d + 1)) (nI i) w1 = _
      unfold b_Room_freeUnreached_7
      rw [hsl, if_neg (nI_ge hlt (by omega)), if_neg hb, nI_clamp (show i < 2 ^ 31 by omega), hmk, if_neg hm, if_pos rfl, h1, if_neg (nI_ge (show (fl L i).length < S by omega) (by omega)), if_neg (nI_in (show (fl L i).length < S by omega) (by omega)), if_neg hb2, nI_clamp (show (fl L i).length < 2 ^ 31 by omega), show nI i + (1 : Int32) = nI (i + 1) from nI_1 i, show nI (fl L i).length + (1 : Int32) = nI ((fl L i).length + 1) from nI_1 _, show vp_nar .boolean (0 : Int32) = 0 by decide]
/-- what collect leaves: L is what can be reached, no more; 'used' its weight; all others are free -/
def GD (S : Nat) (κ : Nat → Nat) (D : Nat → Prop) (w w2 : pm_W) (dn kn : Nat) (L : List Nat) : Prop := L.Nodup ∧ (∀ s ∈ L, s < S ∧ D s) ∧ (∀ a, rtC w dn kn a → ∀ s, s < S → a = ptr κ s → s ∈ L) ∧ (∀ s ∈ L, ∀ a, chC w s a → ∀ t, t < S → a = ptr κ t → t ∈ L) ∧ (∀ P, GC S κ D w dn kn P → ∀ s ∈ L, P s) ∧ w2.1 5 10 = nI (lsum κ L) ∧ w2.1 5 9 = nI (fl L S).length ∧ (∀ (j : Nat) (h : j < (fl L S).length), w2.1 22 j = nI (fl L S)[j]) ∧ (∀ s, s < S → w2.1 20 s = 0) ∧ w2.2 = w.2 ∧ (∀ o, o ≠ 5 → o ≠ 20 → o ≠ 21 → o ≠ 22 → w2.1 o = w.1 o) ∧ ∀ k, k ≠ 8 → k ≠ 9 → k ≠ 10 → w2.1 5 k = w.1 5 k
theorem collect_ok {S : Nat} {κ : Nat → Nat} {D : Nat → Prop} {w : pm_W} {dn kn : Nat} (hG : GP S κ D w dn kn) (hz : ∀ s, s < S → w.1 20 s = 0) : ∃ (w2 : pm_W) (L : List Nat), f_Room_collect S w = some w2 ∧ GD S κ D w w2 dn kn L := by
  obtain ⟨hκ, hS, hdn, hkn, e1, e2, e3, hr, hf⟩ := id hG
  have hC : GC S κ D w dn kn (fun s => ∀ P, GC S κ D w dn kn P → P s) :=
    ⟨fun a ha s hs hD e P hP => hP.1 a ha s hs hD e, fun s hs hD hPs a ha t ht hDt e P hP => hP.2 s hs hD (hPs P hP) a ha t ht hDt e⟩
  have h0 : CI S κ D (fun s => ∀ P, GC S κ D w dn kn P → P s) w (pm_setI (pm_setI w 5 10 0) 5 8 0) [] := by
    refine ⟨⟨List.nodup_nil, fun s h => absurd h List.not_mem_nil, ?_, ?_, fun i h => absurd h (Nat.not_lt_zero _), fun s hs => ?_, ?_⟩, ⟨rfl, fun o a _ _ => ?_, fun k a b => ?_⟩, fun s h => absurd h List.not_mem_nil, fun s h => absurd h List.not_mem_nil⟩
    · rw [rdI_n _ (Or.inr (by decide)), rdI_n _ (Or.inr (by decide))]; exact e3
    · rw [rdI_s]; rfl
    · rw [rdI_n _ (Or.inl (by decide)), rdI_n _ (Or.inl (by decide)), hz s hs]; simp
    · rw [rdI_n _ (Or.inr (by decide)), rdI_s]; rfl
    · rw [rdI_o _ a, rdI_o _ a]
    · rw [rdI_n _ (Or.inr a), rdI_n _ (Or.inr b)]
  obtain ⟨w1, L1, a1, a2, a3, a4⟩ := reachCI hκ hS h0 (a := w.1 4 0) (hr _ (Or.inl rfl)) (fun s hs hD e => hC.1 _ (Or.inl rfl) s hs hD e)
  have e4 : w1.1 4 = w.1 4 := a2.2.1.2.1 4 (by decide) (by decide) (by decide)
  obtain ⟨w2, L2, b1, b2, b3, b4⟩ := reachCI hκ hS a2 (a := w.1 4 1) (hr _ (Or.inr (Or.inl rfl))) (fun s hs hD e => hC.1 _ (Or.inr (Or.inl rfl)) s hs hD e)
  obtain ⟨w3, L3, c1, c2, c3, c4⟩ := col_0 hG hC dn 0 (99997 - S - kn - dn + S + 1 + kn + 1) w2 L2 (by omega) b2
  obtain ⟨w4, L4, d1, d2, d3, d4⟩ := col_1 hG hC kn 0 (99997 - S - kn - dn + S + 1) w3 L3 (by omega) c2
  obtain ⟨w5, L5, f1, f2, f3, f4⟩ := col_2 hG hC S 0 (99997 - S - kn - dn) w4 L4 (by omega) (Nat.zero_le _) d2 (fun j _ h => absurd h (Nat.not_lt_zero _))
  have hs5 : w5.1 5 1 = nI S := f2.1.2.2.1
  have hF0 : FI S L5 (pm_setI w5 5 9 0) (pm_setI w5 5 9 0) 0 := by
    refine ⟨?_, fun j h => absurd h (by simp [fl]), fun s hs => ?_, rfl, fun _ _ _ _ => rfl, fun _ _ => rfl⟩
    · rw [rdI_s]; rfl
    · rw [rdI_n _ (Or.inl (by decide)), if_neg (Nat.not_lt_zero _)]
      exact f2.1.2.2.2.2.2.1 s hs
  obtain ⟨w6, g1, g2⟩ := free_l (S := S) (L := L5) (w := pm_setI w5 5 9 0) hS (by rw [rdI_n _ (Or.inr (by decide))]; exact hs5) S 0 (99999 - S) (pm_setI w5 5 9 0) (by omega) hF0
  have hfuel : pm_fuel = 99997 - S - kn - dn + S + 1 + kn + 1 + dn + 1 := by
    show 100000 = _
    omega
  have hfuel2 : pm_fuel = 99999 - S + S + 1 := by
    show 100000 = _
    omega
  refine ⟨w6, L5, ?_, f2.1.1, fun s hs => ⟨f2.1.2.1 s hs, f2.2.2.2 s hs⟩, fun a ha s hs e => ?_, f4, fun P hP s hs => f2.2.2.1 s hs P hP, ?_, g2.1, g2.2.1, fun s hs => ?_, ?_, fun o a b c d => ?_, fun k a b c => ?_⟩
  · unfold f_Room_collect
    rw [a1, Option.bind_some, e4, b1, Option.bind_some, ← nI_0, hfuel, c1, ← nI_0, d1, ← nI_0, f1]
    unfold f_Room_freeUnreached
    rw [hfuel2]
    rw [nI_0] at g1
    exact g1
  · rcases ha with ha | ha | ⟨i, hi, ha⟩ | ⟨i, hi, ha⟩
    · exact app_in (app_tr b3 (app_tr c3 (app_tr d3 f3))) (a4 s hs (by rw [← ha]; exact e))
    · exact app_in (app_tr c3 (app_tr d3 f3)) (b4 s hs (by rw [← ha]; exact e))
    · exact app_in (app_tr d3 f3) (c4 i (Nat.zero_le _) hi a ha s hs e)
    · exact app_in f3 (d4 i (Nat.zero_le _) hi s hs (by rw [← ha]; exact e))
  · rw [g2.2.2.2.2.2 10 (by decide), rdI_n _ (Or.inr (by decide))]
    exact f2.1.2.2.2.2.2.2
  · rw [g2.2.2.1 s hs, if_pos hs]
  · rw [g2.2.2.2.1]; exact f2.2.1.1
  · rw [g2.2.2.2.2.1 o a b d, rdI_o _ a]
    exact f2.2.1.2.1 o a b c
  · rw [g2.2.2.2.2.2 k b, rdI_n _ (Or.inr b)]
    exact f2.2.1.2.2 k a c
