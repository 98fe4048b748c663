/-! the class's collect -/
/-- the value that points to slot s; κ s is 2 (a pair) or 3 (a closure) -/
def ptr (κ : Nat → Nat) (s : Nat) : Int32 := nI (8 * s + (κ s + 2))
def okv (S : Nat) (κ : Nat → Nat) (D : Nat → Prop) (a : Int32) : Prop := (¬ a &&& 7 = 4 ∧ ¬ a &&& 7 = 5) ∨ ∃ s, s < S ∧ D s ∧ a = ptr κ s
def k23 (κ : Nat → Nat) : Prop := ∀ s, κ s = 2 ∨ κ s = 3
theorem and7 {n : Nat} (h : n < 2 ^ 31) : nI n &&& 7 = nI (n % 8) := pk_andN (by omega) 3 (by decide)
theorem shr3 {n : Nat} (h : n < 2 ^ 31) : nI n >>> ((3 : Int32) &&& 31) = nI (n / 8) := pk_shrN h _ 3 (by decide)
theorem ptr_kind {κ : Nat → Nat} (hκ : k23 κ) {s : Nat} (hs : s < 1000) : ptr κ s &&& 7 = nI (κ s + 2) ∧ ptr κ s >>> ((3 : Int32) &&& 31) = nI s := by
  have h := hκ s
  unfold ptr
  rw [and7 (by omega), shr3 (by omega), show (8 * s + (κ s + 2)) % 8 = κ s + 2 by omega, show (8 * s + (κ s + 2)) / 8 = s by omega]
  exact ⟨rfl, rfl⟩
theorem ptr_inj {κ : Nat → Nat} (hκ : k23 κ) {s t : Nat} (hs : s < 1000) (ht : t < 1000) (h : ptr κ s = ptr κ t) : s = t := by
  have h1 := (ptr_kind hκ hs).2
  rw [h, (ptr_kind hκ ht).2, nI_eq (by omega) (by omega)] at h1
  exact h1.symm
/-- a list without doubles of numbers below S is no longer than S -/
theorem nd_len : ∀ (S : Nat) (L : List Nat), L.Nodup → (∀ s ∈ L, s < S) → L.length ≤ S := by
  intro S
  induction S with
  | zero =>
    intro L _ h
    cases L with
    | nil => exact Nat.le_refl _
    | cons a l => exact absurd (h a List.mem_cons_self) (Nat.not_lt_zero _)
  | succ S ih =>
    intro L hn h
    by_cases hm : S ∈ L
    · have h1 := ih (L.erase S) (hn.erase S) (fun s hs => by
        have h2 := List.mem_of_mem_erase hs
        have h3 := h s h2
        have h4 : s ≠ S := fun e => by
          subst e
          exact (List.Nodup.mem_erase_iff hn).mp hs |>.1 rfl
        omega)
      rw [List.length_erase_of_mem hm] at h1
      omega
    · have h1 := ih L hn (fun s hs => by
        have h3 := h s hs
        have h4 : s ≠ S := fun e => hm (e ▸ hs)
        omega)
      omega
theorem nd_lt {S : Nat} {L : List Nat} (hn : L.Nodup) (h : ∀ s ∈ L, s < S) {s : Nat} (hs : s < S) (hm : s ∉ L) : L.length < S := by
  have h1 := nd_len S (s :: L) (List.nodup_cons.mpr ⟨hm, hn⟩) (fun x hx => by
    rcases List.mem_cons.mp hx with e | e
    · rw [e]; exact hs
    · exact h x e)
  simp at h1
  omega
def lsum (κ : Nat → Nat) (L : List Nat) : Nat := (L.map κ).sum
theorem lsum_app (κ : Nat → Nat) (L : List Nat) (s : Nat) : lsum κ (L ++ [s]) = lsum κ L + κ s := by simp [lsum]
theorem lsum_le {κ : Nat → Nat} (hκ : k23 κ) (L : List Nat) : lsum κ L ≤ 3 * L.length := by
  induction L with
  | nil => simp [lsum]
  | cons a l ih =>
    have := hκ a
    simp [lsum] at ih ⊢
    omega
/-- while cells are reached: L is the row of those that were, in their order -/
def GI (S : Nat) (κ : Nat → Nat) (w : pm_W) (L : List Nat) : Prop := L.Nodup ∧ (∀ s ∈ L, s < S) ∧ w.1 5 1 = nI S ∧ w.1 5 8 = nI L.length ∧ (∀ (i : Nat) (h : i < L.length), w.1 21 i = nI L[i]) ∧ (∀ s, s < S → w.1 20 s = if s ∈ L then 1 else 0) ∧ w.1 5 10 = nI (lsum κ L)
/-- what reaching leaves as it was -/
def smG (w w1 : pm_W) : Prop := w1.2 = w.2 ∧ (∀ o, o ≠ 5 → o ≠ 20 → o ≠ 21 → w1.1 o = w.1 o) ∧ ∀ k, k ≠ 8 → k ≠ 10 → w1.1 5 k = w.1 5 k
theorem smG_rf {w : pm_W} : smG w w := ⟨rfl, fun _ _ _ _ => rfl, fun _ _ _ => rfl⟩
theorem smG_tr {a b c : pm_W} (h1 : smG a b) (h2 : smG b c) : smG a c := ⟨h2.1.trans h1.1, fun o x y z => (h2.2.1 o x y z).trans (h1.2.1 o x y z), fun k x y => (h2.2.2 k x y).trans (h1.2.2 k x y)⟩
theorem reach_np {S : Nat} {w : pm_W} {a : Int32} (h1 : ¬ a &&& 7 = 4) (h2 : ¬ a &&& 7 = 5) : f_Room_reach S a w = some w := by
  unfold f_Room_reach
  rw [show f_Value_kind S a w = some (a &&& 7, w) from rfl, Option.bind_some, show f_Value_content S a w = some (a >>> ((3 : Int32) &&& 31), w) from rfl, Option.bind_some, if_neg h1, if_neg h2]
  unfold b_Room_reach_25
  rw [if_pos rfl]
theorem reach_in {S : Nat} {κ : Nat → Nat} {w : pm_W} {L : List Nat} (hκ : k23 κ) (hS : S ≤ 200) (h : GI S κ w L) {s : Nat} (hs : s < S) (hm : s ∈ L) : f_Room_reach S (ptr κ s) w = some w := by
  obtain ⟨p1, p2⟩ := ptr_kind hκ (show s < 1000 by omega)
  have hb : b_Room_reach_25 S (ptr κ s &&& 7) (ptr κ s >>> ((3 : Int32) &&& 31)) 1 w = some w := by
    unfold b_Room_reach_25
    rw [p2, if_neg (by decide), if_neg (nI_pos (by omega)), h.2.2.1, if_neg (nI_ge hs (by omega)), if_neg (nI_in hs (by omega)), nI_clamp (by omega), h.2.2.2.2.2.1 s hs, if_pos hm, if_neg (by decide)]
  unfold f_Room_reach
  rw [show f_Value_kind S (ptr κ s) w = some (ptr κ s &&& 7, w) from rfl, Option.bind_some, show f_Value_content S (ptr κ s) w = some (ptr κ s >>> ((3 : Int32) &&& 31), w) from rfl, Option.bind_some]
  dsimp only
  rw [hb, p1]
  rcases hκ s with e | e
  · rw [e, if_pos (by decide)]
  · rw [e, if_neg (by decide), if_pos (by decide)]
theorem reach_new {S : Nat} {κ : Nat → Nat} {w : pm_W} {L : List Nat} (hκ : k23 κ) (hS : S ≤ 200) (h : GI S κ w L) {s : Nat} (hs : s < S) (hm : s ∉ L) : ∃ w1, f_Room_reach S (ptr κ s) w = some w1 ∧ GI S κ w1 (L ++ [s]) ∧ smG w w1 := by
  obtain ⟨p1, p2⟩ := ptr_kind hκ (show s < 1000 by omega)
  obtain ⟨g1, g2, g3, g4, g5, g6, g7⟩ := h
  have hl : L.length < S := nd_lt g1 g2 hs hm
  refine ⟨pm_setI (pm_setI (pm_setI (pm_setI w 20 s 1) 5 10 (nI (lsum κ L + κ s))) 21 L.length (nI s)) 5 8 (nI (L.length + 1)), ?_, ?_, ?_⟩
  · have hb : b_Room_reach_25 S (ptr κ s &&& 7) (ptr κ s >>> ((3 : Int32) &&& 31)) 1 w = some (pm_setI (pm_setI (pm_setI (pm_setI w 20 s 1) 5 10 (nI (lsum κ L + κ s))) 21 L.length (nI s)) 5 8 (nI (L.length + 1))) := by
      unfold b_Room_reach_25
      have hbs : ¬ (nI s < 0 ∨ S ≤ s) := fun q => by
        rcases q with q | q
        · exact nI_pos (by omega) q
        · omega
      rw [p1, p2, if_neg (by decide), if_neg (nI_pos (by omega)), g3, if_neg (nI_ge hs (by omega)), if_neg (nI_in hs (by omega)), nI_clamp (show s < 2 ^ 31 by omega), g6 s hs, if_neg hm, if_pos rfl, g4, if_pos (nI_lt hl (by omega)), if_neg hbs, g7, show nI L.length + (1 : Int32) = nI (L.length + 1) from nI_1 _, show vp_nar .boolean (1 : Int32) = 1 by decide]
      rcases hκ s with e | e
      · rw [e, if_pos (by decide), if_neg (nI_in hl (by omega)), nI_clamp (show L.length < 2 ^ 31 by omega), show nI (lsum κ L) + (2 : Int32) = nI (lsum κ L + 2) from nI_add _ 2]
      · rw [e, if_neg (by decide), if_neg (nI_in hl (by omega)), nI_clamp (show L.length < 2 ^ 31 by omega), show nI (lsum κ L) + (3 : Int32) = nI (lsum κ L + 3) from nI_add _ 3]
    unfold f_Room_reach
    rw [show f_Value_kind S (ptr κ s) w = some (ptr κ s &&& 7, w) from rfl, Option.bind_some, show f_Value_content S (ptr κ s) w = some (ptr κ s >>> ((3 : Int32) &&& 31), w) from rfl, Option.bind_some]
    dsimp only
    rw [hb, p1]
    rcases hκ s with e | e
    · rw [e, if_pos (by decide)]
    · rw [e, if_neg (by decide), if_pos (by decide)]
  · refine ⟨?_, ?_, ?_, ?_, ?_, ?_, ?_⟩
    · rw [List.nodup_append]
      refine ⟨g1, by simp, fun a ha b hb e => ?_⟩
      rw [List.mem_singleton] at hb
      exact hm (by rw [← hb, ← e]; exact ha)
    · intro x hx
      rcases List.mem_append.mp hx with e | e
      · exact g2 x e
      · rw [List.mem_singleton.mp e]; exact hs
    · rw [rdI_n _ (Or.inr (by decide)), rdI_n _ (Or.inl (by decide)), rdI_n _ (Or.inr (by decide)), rdI_n _ (Or.inl (by decide))]
      exact g3
    · rw [rdI_s, List.length_append]
      rfl
    · intro i hi
      rw [rdI_n _ (Or.inl (by decide))]
      rw [List.length_append] at hi
      by_cases e : i = L.length
      · subst e
        rw [rdI_s]
        simp
      · have hi2 : i < L.length := by simp at hi; omega
        rw [rdI_n _ (Or.inr e), rdI_n _ (Or.inl (by decide)), rdI_n _ (Or.inl (by decide)), List.getElem_append_left hi2]
        exact g5 i hi2
    · intro x hx
      rw [rdI_n _ (Or.inl (by decide)), rdI_n _ (Or.inl (by decide)), rdI_n _ (Or.inl (by decide))]
      by_cases e : x = s
      · subst e
        rw [rdI_s, if_pos (by simp)]
      · rw [rdI_n _ (Or.inr e), g6 x hx]
        simp [e]
    · rw [rdI_n _ (Or.inr (by decide)), rdI_n _ (Or.inl (by decide)), rdI_s, lsum_app]
  · refine ⟨rfl, fun o a b c => ?_, fun k a b => ?_⟩
    · rw [rdI_o _ a, rdI_o _ c, rdI_o _ a, rdI_o _ b]
    · rw [rdI_n _ (Or.inr a), rdI_n _ (Or.inl (by decide)), rdI_n _ (Or.inr b), rdI_n _ (Or.inl (by decide))]
/-- one value is reached -/
theorem reach_ok {S : Nat} {κ : Nat → Nat} {D P : Nat → Prop} {w : pm_W} {L : List Nat} {a : Int32} (hκ : k23 κ) (hS : S ≤ 200) (h : GI S κ w L) (ha : okv S κ D a) (hP : ∀ s ∈ L, P s) (haP : ∀ s, s < S → D s → a = ptr κ s → P s) : ∃ (w1 : pm_W) (L1 : List Nat), f_Room_reach S a w = some w1 ∧ GI S κ w1 L1 ∧ smG w w1 ∧ (∃ T, L1 = L ++ T) ∧ (∀ s ∈ L1, P s) ∧ (∀ s ∈ L1, s ∈ L ∨ D s) ∧ ∀ s, s < S → a = ptr κ s → s ∈ L1 := by
  rcases ha with ⟨n1, n2⟩ | ⟨s, hs, hD, rfl⟩
  · refine ⟨w, L, reach_np n1 n2, h, smG_rf, ⟨[], by simp⟩, hP, fun s hs => Or.inl hs, fun s hs e => ?_⟩
    rw [e, (ptr_kind hκ (show s < 1000 by omega)).1] at n1 n2
    rcases hκ s with q | q
    · rw [q] at n1; exact absurd (by decide) n1
    · rw [q] at n2; exact absurd (by decide) n2
  · by_cases hm : s ∈ L
    · refine ⟨w, L, reach_in hκ hS h hs hm, h, smG_rf, ⟨[], by simp⟩, hP, fun s hs => Or.inl hs, fun t ht e => ?_⟩
      rw [← ptr_inj hκ (by omega) (by omega) e]
      exact hm
    · obtain ⟨w1, h1, h2, h3⟩ := reach_new hκ hS h hs hm
      refine ⟨w1, L ++ [s], h1, h2, h3, ⟨[s], rfl⟩, fun x hx => ?_, fun x hx => ?_, fun t ht e => ?_⟩
      · rcases List.mem_append.mp hx with e | e
        · exact hP x e
        · rw [List.mem_singleton.mp e]; exact haP s hs hD rfl
      · rcases List.mem_append.mp hx with e | e
        · exact Or.inl e
        · rw [List.mem_singleton.mp e]; exact Or.inr hD
      · rw [← ptr_inj hκ (by omega) (by omega) e]
        simp
