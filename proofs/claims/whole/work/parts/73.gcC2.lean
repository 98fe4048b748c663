/-- what one comes from: VALUE, environment, frames, global values -/
def rtC (w : pm_W) (dn kn : Nat) (a : Int32) : Prop := a = w.1 4 0 ∨ a = w.1 4 1 ∨ (∃ i, i < dn ∧ (a = w.1 14 i ∨ a = w.1 15 i ∨ a = w.1 16 i)) ∨ ∃ i, i < kn ∧ a = w.1 12 i
def chC (w : pm_W) (s : Nat) (a : Int32) : Prop := a = w.1 17 s ∨ a = w.1 18 s ∨ a = w.1 19 s
/-- what collect wants: numbers of frames and symbols; all that one comes to is in D -/
def GP (S : Nat) (κ : Nat → Nat) (D : Nat → Prop) (w : pm_W) (dn kn : Nat) : Prop := k23 κ ∧ S ≤ 200 ∧ dn ≤ 30 ∧ kn ≤ 40 ∧ w.1 4 3 = nI dn ∧ w.1 3 2 = nI kn ∧ w.1 5 1 = nI S ∧ (∀ a, rtC w dn kn a → okv S κ D a) ∧ ∀ s, s < S → D s → ∀ a, chC w s a → okv S κ D a
/-- a set that holds what one comes from, and with a thing what it holds -/
def GC (S : Nat) (κ : Nat → Nat) (D : Nat → Prop) (w : pm_W) (dn kn : Nat) (P : Nat → Prop) : Prop := (∀ a, rtC w dn kn a → ∀ s, s < S → D s → a = ptr κ s → P s) ∧ ∀ s, s < S → D s → P s → ∀ a, chC w s a → ∀ t, t < S → D t → a = ptr κ t → P t
def CI (S : Nat) (κ : Nat → Nat) (D P : Nat → Prop) (w w1 : pm_W) (L : List Nat) : Prop := GI S κ w1 L ∧ smG w w1 ∧ (∀ s ∈ L, P s) ∧ ∀ s ∈ L, D s
theorem reachCI {S : Nat} {κ : Nat → Nat} {D P : Nat → Prop} {w w1 : pm_W} {L : List Nat} {a : Int32} (hκ : k23 κ) (hS : S ≤ 200) (h : CI S κ D P w w1 L) (ha : okv S κ D a) (haP : ∀ s, s < S → D s → a = ptr κ s → P s) : ∃ (w2 : pm_W) (L2 : List Nat), f_Room_reach S a w1 = some w2 ∧ CI S κ D P w w2 L2 ∧ (∃ T, L2 = L ++ T) ∧ ∀ s, s < S → a = ptr κ s → s ∈ L2 := by
  obtain ⟨w2, L2, h1, h2, h3, h4, h5, h6, h7⟩ := reach_ok hκ hS h.1 ha h.2.2.1 haP
  refine ⟨w2, L2, h1, ⟨h2, smG_tr h.2.1 h3, h5, fun s hs => ?_⟩, h4, h7⟩
  rcases h6 s hs with q | q
  · exact h.2.2.2 s q
  · exact q
theorem app_tr {L L2 L3 : List Nat} (h1 : ∃ T, L2 = L ++ T) (h2 : ∃ T, L3 = L2 ++ T) : ∃ T, L3 = L ++ T := by
  obtain ⟨T, rfl⟩ := h1
  obtain ⟨T2, rfl⟩ := h2
  exact ⟨T ++ T2, by simp⟩
theorem app_in {L L2 : List Nat} (h : ∃ T, L2 = L ++ T) {s : Nat} (hs : s ∈ L) : s ∈ L2 := by
  obtain ⟨T, rfl⟩ := h
  exact List.mem_append_left _ hs
/-- the frames -/
theorem col_0 {S : Nat} {κ : Nat → Nat} {D P : Nat → Prop} {w : pm_W} {dn kn : Nat} (hG : GP S κ D w dn kn) (hC : GC S κ D w dn kn P) : ∀ (d i m : Nat) (w1 : pm_W) (L : List Nat), i + d = dn → CI S κ D P w w1 L →
    ∃ (w2 : pm_W) (L2 : List Nat), l_Room_collect S (m + d + 1) 0 (nI i) w1 = l_Room_collect S m 1 0 w2 ∧ CI S κ D P w w2 L2 ∧ (∃ T, L2 = L ++ T) ∧ ∀ j, i ≤ j → j < dn → ∀ a, a = w.1 14 j ∨ a = w.1 15 j ∨ a = w.1 16 j → ∀ s, s < S → a = ptr κ s → s ∈ L2 := by
  obtain ⟨hκ, hS, hdn, hkn, e1, e2, e3, hr, hf⟩ := hG
  intro d
  induction d with
  | zero =>
    intro i m w1 L hi h
    refine ⟨w1, L, ?_, h, ⟨[], by simp⟩, fun j h1 h2 => absurd h2 (by omega)⟩
    show b_Room_collect_34 S (l_Room_collect S m) (nI i) w1 = _
    unfold b_Room_collect_34
    rw [h.2.1.2.1 4 (by decide) (by decide) (by decide), e1, if_pos (nI_le (by omega) (by omega))]
  | succ d ih =>
    intro i m w1 L hi h
    have hlt : i < dn := by omega
    have e14 : w1.1 14 = w.1 14 := h.2.1.2.1 14 (by decide) (by decide) (by decide)
    obtain ⟨w2, L2, a1, a2, a3, a4⟩ := reachCI hκ hS h (a := w.1 14 i) (hr _ (Or.inr (Or.inr (Or.inl ⟨i, hlt, Or.inl rfl⟩)))) (fun s hs hD e => hC.1 _ (Or.inr (Or.inr (Or.inl ⟨i, hlt, Or.inl rfl⟩))) s hs hD e)
    have e15 : w2.1 15 = w.1 15 := a2.2.1.2.1 15 (by decide) (by decide) (by decide)
    obtain ⟨w3, L3, b1, b2, b3, b4⟩ := reachCI hκ hS a2 (a := w.1 15 i) (hr _ (Or.inr (Or.inr (Or.inl ⟨i, hlt, Or.inr (Or.inl rfl)⟩)))) (fun s hs hD e => hC.1 _ (Or.inr (Or.inr (Or.inl ⟨i, hlt, Or.inr (Or.inl rfl)⟩))) s hs hD e)
    have e16 : w3.1 16 = w.1 16 := b2.2.1.2.1 16 (by decide) (by decide) (by decide)
    obtain ⟨w4, L4, c1, c2, c3, c4⟩ := reachCI hκ hS b2 (a := w.1 16 i) (hr _ (Or.inr (Or.inr (Or.inl ⟨i, hlt, Or.inr (Or.inr rfl)⟩)))) (fun s hs hD e => hC.1 _ (Or.inr (Or.inr (Or.inl ⟨i, hlt, Or.inr (Or.inr rfl)⟩))) s hs hD e)
    obtain ⟨w5, L5, d1, d2, d3, d4⟩ := ih (i + 1) m w4 L4 (by omega) c2
    refine ⟨w5, L5, ?_, d2, app_tr a3 (app_tr b3 (app_tr c3 d3)), fun j h1 h2 a ha s hs e => ?_⟩
    · rw [← d1]
      show b_Room_collect_34 S (l_Room_collect S (m + d + 1)) (nI i) w1 = _
      unfold b_Room_collect_34
      have hb : ¬ (nI i < 0 ∨ 30 ≤ (nI i).toNatClampNeg) := nI_in (by omega) (by omega)
      rw [h.2.1.2.1 4 (by decide) (by decide) (by decide), e1, if_neg (nI_ge hlt (by omega)), if_neg (show ¬ (30 : Int32) ≤ nI i from nI_ge (b := 30) (by omega) (by omega)), if_neg hb, nI_clamp (by omega), e14, a1, Option.bind_some, e15, b1, Option.bind_some, e16, c1, Option.bind_some, show nI i + (1 : Int32) = nI (i + 1) from nI_1 i]
      have hb2 : ¬ (nI i < 0 ∨ 30 ≤ i) := by rw [nI_clamp (by omega)] at hb; exact hb
      rw [if_neg hb2, if_neg hb2]
    · by_cases ej : j = i
      · subst ej
        rcases ha with ha | ha | ha
        · exact app_in (app_tr b3 (app_tr c3 d3)) (a4 s hs (by rw [← ha]; exact e))
        · exact app_in (app_tr c3 d3) (b4 s hs (by rw [← ha]; exact e))
        · exact app_in d3 (c4 s hs (by rw [← ha]; exact e))
      · exact d4 j (by omega) h2 a ha s hs e
/-- the global values -/
theorem col_1 {S : Nat} {κ : Nat → Nat} {D P : Nat → Prop} {w : pm_W} {dn kn : Nat} (hG : GP S κ D w dn kn) (hC : GC S κ D w dn kn P) : ∀ (d i m : Nat) (w1 : pm_W) (L : List Nat), i + d = kn → CI S κ D P w w1 L →
    ∃ (w2 : pm_W) (L2 : List Nat), l_Room_collect S (m + d + 1) 1 (nI i) w1 = l_Room_collect S m 2 0 w2 ∧ CI S κ D P w w2 L2 ∧ (∃ T, L2 = L ++ T) ∧ ∀ j, i ≤ j → j < kn → ∀ s, s < S → w.1 12 j = ptr κ s → s ∈ L2 := by
  obtain ⟨hκ, hS, hdn, hkn, e1, e2, e3, hr, hf⟩ := hG
  intro d
  induction d with
  | zero =>
    intro i m w1 L hi h
    refine ⟨w1, L, ?_, h, ⟨[], by simp⟩, fun j h1 h2 => absurd h2 (by omega)⟩
    show b_Room_collect_98 S (l_Room_collect S m) (nI i) w1 = _
    unfold b_Room_collect_98
    rw [h.2.1.2.1 3 (by decide) (by decide) (by decide), e2, if_pos (nI_le (by omega) (by omega))]
  | succ d ih =>
    intro i m w1 L hi h
    have hlt : i < kn := by omega
    have e12 : w1.1 12 = w.1 12 := h.2.1.2.1 12 (by decide) (by decide) (by decide)
    obtain ⟨w2, L2, a1, a2, a3, a4⟩ := reachCI hκ hS h (a := w.1 12 i) (hr _ (Or.inr (Or.inr (Or.inr ⟨i, hlt, rfl⟩)))) (fun s hs hD e => hC.1 _ (Or.inr (Or.inr (Or.inr ⟨i, hlt, rfl⟩))) s hs hD e)
    obtain ⟨w5, L5, d1, d2, d3, d4⟩ := ih (i + 1) m w2 L2 (by omega) a2
    refine ⟨w5, L5, ?_, d2, app_tr a3 d3, fun j h1 h2 s hs e => ?_⟩
    · rw [← d1]
      show b_Room_collect_98 S (l_Room_collect S (m + d + 1)) (nI i) w1 = _
      unfold b_Room_collect_98
      rw [h.2.1.2.1 3 (by decide) (by decide) (by decide), e2, if_neg (nI_ge hlt (by omega)), if_neg (show ¬ (40 : Int32) ≤ nI i from nI_ge (b := 40) (by omega) (by omega)), if_neg (nI_in (N := 40) (by omega) (by omega)), nI_clamp (by omega), e12, a1, Option.bind_some, show nI i + (1 : Int32) = nI (i + 1) from nI_1 i]
    · by_cases ej : j = i
      · subst ej
        exact app_in d3 (a4 s hs e)
      · exact d4 j (by omega) h2 s hs e
/-- the row that waits -/
theorem col_2 {S : Nat} {κ : Nat → Nat} {D P : Nat → Prop} {w : pm_W} {dn kn : Nat} (hG : GP S κ D w dn kn) (hC : GC S κ D w dn kn P) : ∀ (d i m : Nat) (w1 : pm_W) (L : List Nat), S ≤ i + d → i ≤ L.length → CI S κ D P w w1 L → (∀ (j : Nat) (hj : j < L.length), j < i → ∀ a, chC w L[j] a → ∀ t, t < S → a = ptr κ t → t ∈ L) →
    ∃ (w2 : pm_W) (L2 : List Nat), l_Room_collect S (m + d + 1) 2 (nI i) w1 = f_Room_freeUnreached S w2 ∧ CI S κ D P w w2 L2 ∧ (∃ T, L2 = L ++ T) ∧ ∀ s ∈ L2, ∀ a, chC w s a → ∀ t, t < S → a = ptr κ t → t ∈ L2 := by
  obtain ⟨hκ, hS, hdn, hkn, e1, e2, e3, hr, hf⟩ := hG
  have bs : ∀ x : Option pm_W, Option.bind x (fun o => some o) = x := fun x => by cases x <;> rfl
  intro d
  induction d with
  | zero =>
    intro i m w1 L hd hi h hcl
    have hl := nd_len S L h.1.1 h.1.2.1
    have ei : i = L.length := by omega
    refine ⟨w1, L, ?_, h, ⟨[], by simp⟩, fun s hs a ha t ht e => ?_⟩
    · show b_Room_collect_136 S (l_Room_collect S m) (nI i) w1 = _
      unfold b_Room_collect_136
      rw [h.1.2.2.2.1, if_pos (nI_le (by omega) (by omega)), bs]
    · obtain ⟨j, hj, rfl⟩ := List.getElem_of_mem hs
      exact hcl j hj (by omega) a ha t ht e
  | succ d ih =>
    intro i m w1 L hd hi h hcl
    have hl := nd_len S L h.1.1 h.1.2.1
    by_cases ei : i = L.length
    · refine ⟨w1, L, ?_, h, ⟨[], by simp⟩, fun s hs a ha t ht e => ?_⟩
      · show b_Room_collect_136 S (l_Room_collect S (m + d + 1)) (nI i) w1 = _
        unfold b_Room_collect_136
        rw [h.1.2.2.2.1, if_pos (nI_le (by omega) (by omega)), bs]
      · obtain ⟨j, hj, rfl⟩ := List.getElem_of_mem hs
        exact hcl j hj (by omega) a ha t ht e
    · have hlt : i < L.length := by omega
      have hq : L[i] < S := h.1.2.1 _ (List.getElem_mem hlt)
      have hqD : D L[i] := h.2.2.2 _ (List.getElem_mem hlt)
      have hqP : P L[i] := h.2.2.1 _ (List.getElem_mem hlt)
      generalize hq0 : L[i] = q at hq hqD hqP
      have e17 : w1.1 17 = w.1 17 := h.2.1.2.1 17 (by decide) (by decide) (by decide)
      obtain ⟨w2, L2, a1, a2, a3, a4⟩ := reachCI hκ hS h (a := w.1 17 q) (hf q hq hqD _ (Or.inl rfl)) (fun s hs hD e => hC.2 q hq hqD hqP _ (Or.inl rfl) s hs hD e)
      have e18 : w2.1 18 = w.1 18 := a2.2.1.2.1 18 (by decide) (by decide) (by decide)
      obtain ⟨w3, L3, b1, b2, b3, b4⟩ := reachCI hκ hS a2 (a := w.1 18 q) (hf q hq hqD _ (Or.inr (Or.inl rfl))) (fun s hs hD e => hC.2 q hq hqD hqP _ (Or.inr (Or.inl rfl)) s hs hD e)
      have e19 : w3.1 19 = w.1 19 := b2.2.1.2.1 19 (by decide) (by decide) (by decide)
      obtain ⟨w4, L4, c1, c2, c3, c4⟩ := reachCI hκ hS b2 (a := w.1 19 q) (hf q hq hqD _ (Or.inr (Or.inr rfl))) (fun s hs hD e => hC.2 q hq hqD hqP _ (Or.inr (Or.inr rfl)) s hs hD e)
      have hp := app_tr a3 (app_tr b3 c3)
      have hlen : L.length ≤ L4.length := by
        obtain ⟨T, rfl⟩ := hp
        simp
      obtain ⟨w5, L5, d1, d2, d3, d4⟩ := ih (i + 1) m w4 L4 (by omega) (by omega) c2 (fun j hj hji a ha t ht e => by
        have hget : ∀ (h2 : j < L.length), L4[j] = L[j] := fun h2 => by
          obtain ⟨T, rfl⟩ := hp
          exact List.getElem_append_left h2
        have hjl : j < L.length := by omega
        rw [hget hjl] at ha
        by_cases ej : j = i
        · subst ej
          rw [hq0] at ha
          rcases ha with ha | ha | ha
          · exact app_in (app_tr b3 c3) (a4 t ht (by rw [← ha]; exact e))
          · exact app_in c3 (b4 t ht (by rw [← ha]; exact e))
          · exact c4 t ht (by rw [← ha]; exact e)
        · exact app_in hp (hcl j hjl (by omega) a ha t ht e))
      refine ⟨w5, L5, ?_, d2, app_tr hp d3, d4⟩
      rw [← d1]
      show b_Room_collect_136 S (l_Room_collect S (m + d + 1)) (nI i) w1 = _
      unfold b_Room_collect_136
      have hbi : ¬ (nI i < 0 ∨ S ≤ (nI i).toNatClampNeg) := nI_in (by omega) (by omega)
      have hbq : ¬ (nI q < 0 ∨ S ≤ (nI q).toNatClampNeg) := nI_in hq (by omega)
      rw [h.1.2.2.2.1, h.1.2.2.1, if_neg (nI_ge hlt (by omega)), if_neg (nI_ge (show i < S by omega) (by omega)), if_neg hbi, nI_clamp (show i < 2 ^ 31 by omega), h.1.2.2.2.2.1 i hlt, hq0, if_neg (nI_pos (by omega)), if_neg (nI_ge hq (by omega)), if_neg hbq, nI_clamp (show q < 2 ^ 31 by omega), e17, a1, Option.bind_some, e18, b1, Option.bind_some, e19, c1, Option.bind_some, show nI i + (1 : Int32) = nI (i + 1) from nI_1 i]
      have hbq2 : ¬ (nI q < 0 ∨ S ≤ q) := by rw [nI_clamp (by omega)] at hbq; exact hbq
      rw [if_neg hbq2, if_neg hbq2]
