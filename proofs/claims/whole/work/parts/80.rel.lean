/-! the relation of the two worlds -/
/-- the class's room: size sz, m cells put by -/
def CH (S sz m : Nat) (κ : Nat → Nat) (L : List Nat) (w : pm_W) : Prop := (20 ≤ sz ∧ sz ≤ 400 ∧ S = sz / 2) ∧ w.1 5 0 = nI sz ∧ w.1 5 1 = nI S ∧ (∀ s, s < S → w.1 20 s = 0) ∧ ∃ (un : Nat) (F : List Nat), w.1 5 10 = nI un ∧ w.1 5 9 = nI F.length ∧ (∀ (j : Nat) (h : j < F.length), w.1 22 j = nI F[j]) ∧ F.Nodup ∧ (∀ s ∈ F, s < S ∧ s ∉ L) ∧ lsum κ L ≤ un ∧ 2 * S ≤ un + 2 * F.length ∧ un + m ≤ sz
/-- how many of the reference's things are there -/
def cnt (v : pm_W) : Nat := sumTo (fun t => if v.1 1 t = 0 then 0 else 1) 206
/-- the reference's room -/
def MH (sz m : Nat) (φ κ : Nat → Nat) (L : List Nat) (w v : pm_W) : Prop := v.1 0 1 = nI sz ∧ (∀ s ∈ L, φ s < 206 ∧ v.1 1 (φ s) = nI (κ s) ∧ v.1 2 (φ s) = tr φ (w.1 17 s) ∧ v.1 3 (φ s) = tr φ (w.1 18 s) ∧ (κ s = 3 → v.1 4 (φ s) = tr φ (w.1 19 s))) ∧ (∀ s ∈ L, ∀ t ∈ L, φ s = φ t → s = t) ∧ 2 * cnt v + m ≤ 400
/-- what lies in a slot -/
def slT (S kn : Nat) (κ τ ρ : Nat → Nat) (L : List Nat) (w : pm_W) (s : Nat) : Prop := s < S ∧ gv kn κ L (w.1 17 s) ∧ gv kn κ L (w.1 18 s) ∧
  (κ s = 3 → Lst κ τ L 0 (w.1 17 s) ∧ Fmv kn κ τ L (w.1 18 s) ∧ Lst κ τ L 2 (w.1 19 s)) ∧
  (κ s = 2 → w.1 19 s = 2 ∧ (τ s = 0 → Fmv kn κ τ L (w.1 17 s)) ∧ (τ s = 2 → ∃ b, b ∈ L ∧ κ b = 2 ∧ τ b = 3 ∧ w.1 17 s = vC b) ∧ (τ s < 3 → Lst κ τ L (τ s) (w.1 18 s) ∧ ∀ t ∈ L, w.1 18 s = vC t → ρ t < ρ s))
def HT (S kn : Nat) (κ τ ρ : Nat → Nat) (L : List Nat) (w : pm_W) : Prop := L.Nodup ∧ k23 κ ∧ S ≤ 200 ∧ kn ≤ 40 ∧ ∀ s ∈ L, slT S kn κ τ ρ L w s
/-- value, scope and frames on both sides -/
def MSt (φ : Nat → Nat) (dn : Nat) (w v : pm_W) : Prop := dn ≤ 30 ∧ w.1 4 3 = nI dn ∧ v.1 0 11 = nI dn ∧ v.1 0 15 = tr φ (w.1 4 0) ∧ v.1 0 16 = tr φ (w.1 4 1) ∧ ∀ i, i < dn → v.1 6 i = w.1 13 i ∧ v.1 7 i = tr φ (w.1 14 i) ∧ v.1 8 i = tr φ (w.1 15 i) ∧ v.1 9 i = tr φ (w.1 16 i)
/-- a frame -/
def frT (kn : Nat) (κ τ : Nat → Nat) (L : List Nat) (k a b c : Int32) : Prop := Lst κ τ L 2 b ∧ Lst κ τ L 1 c ∧ ((k = 1 ∧ ∃ s, s ∈ L ∧ κ s = 2 ∧ τ s = 0 ∧ a = vC s) ∨ ((k = 2 ∨ k = 3) ∧ ∃ y, y < kn ∧ a = vS y) ∨ (k = 4 ∧ Lst κ τ L 0 a))
def STy (dn kn : Nat) (κ τ : Nat → Nat) (L : List Nat) (w : pm_W) : Prop := gv kn κ L (w.1 4 0) ∧ Lst κ τ L 2 (w.1 4 1) ∧ ∀ i, i < dn → frT kn κ τ L (w.1 13 i) (w.1 14 i) (w.1 15 i) (w.1 16 i)
def MGl (φ : Nat → Nat) (kn : Nat) (w v : pm_W) : Prop := w.1 3 2 = nI kn ∧ v.1 0 12 = nI kn ∧ (∀ i, i < kn → v.1 11 i = tr φ (w.1 12 i)) ∧ ∀ i, kn ≤ i → i < 40 → v.1 11 i = -2147483648
def GTy (kn : Nat) (κ : Nat → Nat) (L : List Nat) (w : pm_W) : Prop := ∀ i, i < kn → w.1 12 i = 6 ∨ gv kn κ L (w.1 12 i)
def RL (S sz m kn dn : Nat) (κ τ ρ φ : Nat → Nat) (L : List Nat) (w v : pm_W) : Prop := CH S sz m κ L w ∧ MH sz m φ κ L w v ∧ HT S kn κ τ ρ L w ∧ MSt φ dn w v ∧ STy dn kn κ τ L w ∧ MGl φ kn w v ∧ GTy kn κ L w
theorem gv_sub {kn : Nat} {κ : Nat → Nat} {L L2 : List Nat} {a : Int32} (h : gv kn κ L a) (hs : ∀ t ∈ L, a = ptr κ t → t ∈ L2) : gv kn κ L2 a := by
  rcases h with h | h | h | h | ⟨s, h1, h2⟩
  · exact Or.inl h
  · exact Or.inr (Or.inl h)
  · exact Or.inr (Or.inr (Or.inl h))
  · exact Or.inr (Or.inr (Or.inr (Or.inl h)))
  · exact Or.inr (Or.inr (Or.inr (Or.inr ⟨s, hs s h1 h2, h2⟩)))
theorem Lst_sub {κ τ : Nat → Nat} {L L2 : List Nat} {k : Nat} {a : Int32} (h : Lst κ τ L k a) (hs : ∀ t ∈ L, a = ptr κ t → t ∈ L2) : Lst κ τ L2 k a := by
  rcases h with h | ⟨s, h1, h2, h3, h4⟩
  · exact Or.inl h
  · exact Or.inr ⟨s, hs s h1 (by rw [h4, ptr_C h2]), h2, h3, h4⟩
theorem Fmv_sub {kn : Nat} {κ τ : Nat → Nat} {L L2 : List Nat} {a : Int32} (h : Fmv kn κ τ L a) (hs : ∀ t ∈ L, a = ptr κ t → t ∈ L2) : Fmv kn κ τ L2 a := by
  rcases h with h | h | h
  · exact Or.inl h
  · exact Or.inr (Or.inl h)
  · exact Or.inr (Or.inr (Lst_sub h hs))
theorem frT_sub {kn : Nat} {κ τ : Nat → Nat} {L L2 : List Nat} {k a b c : Int32} (h : frT kn κ τ L k a b c) (hs : ∀ x, (x = a ∨ x = b ∨ x = c) → ∀ t ∈ L, x = ptr κ t → t ∈ L2) : frT kn κ τ L2 k a b c := by
  obtain ⟨h1, h2, h3⟩ := h
  refine ⟨Lst_sub h1 (hs b (Or.inr (Or.inl rfl))), Lst_sub h2 (hs c (Or.inr (Or.inr rfl))), ?_⟩
  rcases h3 with ⟨q, s, h4, h5, h6, h7⟩ | h3 | ⟨q, h3⟩
  · exact Or.inl ⟨q, s, hs a (Or.inl rfl) s h4 (by rw [h7, ptr_C h5]), h5, h6, h7⟩
  · exact Or.inr (Or.inl h3)
  · exact Or.inr (Or.inr ⟨q, Lst_sub h3 (hs a (Or.inl rfl))⟩)
theorem slT_sub {S kn : Nat} {κ τ ρ : Nat → Nat} {L L2 : List Nat} {w : pm_W} {s : Nat} (hsub : ∀ t ∈ L2, t ∈ L) (h : slT S kn κ τ ρ L w s) (hs : ∀ x, chC w s x → ∀ t ∈ L, x = ptr κ t → t ∈ L2) : slT S kn κ τ ρ L2 w s := by
  obtain ⟨h1, h2, h3, h4, h5⟩ := h
  refine ⟨h1, gv_sub h2 (hs _ (Or.inl rfl)), gv_sub h3 (hs _ (Or.inr (Or.inl rfl))), fun q => ?_, fun q => ?_⟩
  · obtain ⟨a, b, c⟩ := h4 q
    exact ⟨Lst_sub a (hs _ (Or.inl rfl)), Fmv_sub b (hs _ (Or.inr (Or.inl rfl))), Lst_sub c (hs _ (Or.inr (Or.inr rfl)))⟩
  · obtain ⟨a, b, c, d⟩ := h5 q
    refine ⟨a, fun r => Fmv_sub (b r) (hs _ (Or.inl rfl)), fun r => ?_, fun r => ?_⟩
    · obtain ⟨x, x1, x2, x3, x4⟩ := c r
      exact ⟨x, hs _ (Or.inl rfl) x x1 (by rw [x4, ptr_C x2]), x2, x3, x4⟩
    · exact ⟨Lst_sub (d r).1 (hs _ (Or.inr (Or.inl rfl))), fun t ht e => (d r).2 t (hsub t ht) e⟩
theorem lsum_er {κ : Nat → Nat} {a : Nat} : ∀ {L : List Nat}, a ∈ L → lsum κ L = κ a + lsum κ (L.erase a) := by
  intro L h
  have := ((List.perm_cons_erase h).map κ).sum_nat
  unfold lsum
  rw [this]
  simp
theorem lsum_sub {κ : Nat → Nat} : ∀ (L2 L : List Nat), L2.Nodup → (∀ s ∈ L2, s ∈ L) → lsum κ L2 ≤ lsum κ L := by
  intro L2
  induction L2 with
  | nil => intro L _ _; exact Nat.zero_le _
  | cons a T ih =>
    intro L hn hs
    rw [List.nodup_cons] at hn
    have ha := hs a List.mem_cons_self
    have h1 := ih (L.erase a) hn.2 (fun s h => (List.mem_erase_of_ne (show s ≠ a from fun e => hn.1 (e ▸ h))).mpr (hs s (List.mem_cons_of_mem _ h)))
    rw [lsum_er ha]
    have : lsum κ (a :: T) = κ a + lsum κ T := by simp [lsum]
    omega
theorem lsum_one (L : List Nat) : lsum (fun _ => 1) L = L.length := by
  induction L with
  | nil => rfl
  | cons a T ih => simp [lsum] at ih ⊢; omega
theorem len_sub {L2 L : List Nat} (h1 : L2.Nodup) (h2 : ∀ s ∈ L2, s ∈ L) : L2.length ≤ L.length := by
  rw [← lsum_one, ← lsum_one]
  exact lsum_sub L2 L h1 h2
theorem lsum_two {κ : Nat → Nat} (hκ : k23 κ) (L : List Nat) : 2 * L.length ≤ lsum κ L := by
  induction L with
  | nil => exact Nat.zero_le _
  | cons a T ih =>
    have h1 : lsum κ (a :: T) = κ a + lsum κ T := by simp [lsum]
    have := hκ a
    simp only [List.length_cons]
    omega
theorem fl_all (L : List Nat) (S : Nat) : S ≤ (fl L S).length + L.length := by
  have := len_sub (L2 := List.range S) (L := fl L S ++ L) List.nodup_range (fun s hs => by
    rw [List.mem_range] at hs
    by_cases h : s ∈ L
    · exact List.mem_append_right _ h
    · exact List.mem_append_left _ (fl_mem.mpr ⟨hs, h⟩))
  rwa [List.length_range, List.length_append] at this
/-- the pair of values, for what is reached -/
theorem gv_pr {kn : Nat} {φ κ : Nat → Nat} {L : List Nat} {a : Int32} (hκ : k23 κ) (hkn : kn ≤ 40) (hL : ∀ s ∈ L, s < 1000 ∧ φ s < 206) (h : a = 6 ∨ gv kn κ L a) : pr φ κ (fun s => s ∈ L) a (tr φ a) := by
  rcases h with rfl | h
  · rw [tr_6]
    exact Or.inl (by decide)
  · rcases tr_lt hκ hkn hL h with ⟨q, r⟩ | ⟨s, h1, h2, h3⟩ | ⟨h1, h2⟩ | ⟨p, h1, h2, h3⟩ | ⟨s, h1, h2, h3⟩
    · exact Or.inl ⟨⟨by rw [q]; decide, by rw [q]; decide⟩, Int32.lt_trans r (by decide)⟩
    · refine Or.inl ⟨⟨by rw [h2, (kd_S (by omega)).1]; decide, by rw [h2, (kd_S (by omega)).1]; decide⟩, ?_⟩
      rw [h3]
      exact nI_lt (a := 536871000 + s) (b := 536873000) (by omega) (by omega)
    · rw [h1, tr_2]
      exact Or.inl (by decide)
    · refine Or.inl ⟨⟨by rw [h2, (kd_P (by omega)).1]; decide, by rw [h2, (kd_P (by omega)).1]; decide⟩, ?_⟩
      rw [h3]
      exact nI_lt (a := 536872000 + p) (b := 536873000) (by omega) (by omega)
    · exact Or.inr ⟨s, h1, h2, h3⟩
