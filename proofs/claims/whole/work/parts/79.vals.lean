/-! values: the class's number, and the reference's for it -/
def vS (s : Nat) : Int32 := nI (8 * s + 1)
def vP (s : Nat) : Int32 := nI (8 * s + 3)
def vC (s : Nat) : Int32 := nI (8 * s + 4)
def vK (s : Nat) : Int32 := nI (8 * s + 5)
def tr (φ : Nat → Nat) (a : Int32) : Int32 :=
  if a &&& 7 = 0 then a >>> ((3 : Int32) &&& 31) else
  if a &&& 7 = 1 then 536871000 + (a >>> ((3 : Int32) &&& 31)) else
  if a &&& 7 = 2 then 536870912 else
  if a &&& 7 = 3 then 536872000 + (a >>> ((3 : Int32) &&& 31)) else
  if a &&& 7 = 6 then -2147483648 else ptrM (φ (a >>> ((3 : Int32) &&& 31)).toNatClampNeg)
theorem kd_S {s : Nat} (h : s < 1000) : vS s &&& 7 = 1 ∧ vS s >>> ((3 : Int32) &&& 31) = nI s := by
  unfold vS; rw [and7 (by omega), shr3 (by omega), show (8 * s + 1) % 8 = 1 by omega, show (8 * s + 1) / 8 = s by omega]; exact ⟨rfl, rfl⟩
theorem kd_P {s : Nat} (h : s < 1000) : vP s &&& 7 = 3 ∧ vP s >>> ((3 : Int32) &&& 31) = nI s := by
  unfold vP; rw [and7 (by omega), shr3 (by omega), show (8 * s + 3) % 8 = 3 by omega, show (8 * s + 3) / 8 = s by omega]; exact ⟨rfl, rfl⟩
theorem kd_C {s : Nat} (h : s < 1000) : vC s &&& 7 = 4 ∧ vC s >>> ((3 : Int32) &&& 31) = nI s := by
  unfold vC; rw [and7 (by omega), shr3 (by omega), show (8 * s + 4) % 8 = 4 by omega, show (8 * s + 4) / 8 = s by omega]; exact ⟨rfl, rfl⟩
theorem kd_K {s : Nat} (h : s < 1000) : vK s &&& 7 = 5 ∧ vK s >>> ((3 : Int32) &&& 31) = nI s := by
  unfold vK; rw [and7 (by omega), shr3 (by omega), show (8 * s + 5) % 8 = 5 by omega, show (8 * s + 5) / 8 = s by omega]; exact ⟨rfl, rfl⟩
theorem kd_2 : (2 : Int32) &&& 7 = 2 := by decide +kernel
theorem kd_6 : (6 : Int32) &&& 7 = 6 := by decide +kernel
theorem ptr_C {κ : Nat → Nat} {s : Nat} (h : κ s = 2) : ptr κ s = vC s := by unfold ptr vC; rw [h]
theorem ptr_K {κ : Nat → Nat} {s : Nat} (h : κ s = 3) : ptr κ s = vK s := by unfold ptr vK; rw [h]
theorem tr_N {φ : Nat → Nat} {a : Int32} (h : a &&& 7 = 0) : tr φ a = a >>> ((3 : Int32) &&& 31) := by unfold tr; rw [if_pos h]
theorem tr_S {φ : Nat → Nat} {s : Nat} (h : s < 1000) : tr φ (vS s) = nI (536871000 + s) := by
  unfold tr
  rw [(kd_S h).1, (kd_S h).2, if_neg (by decide), if_pos rfl]
  exact nI_add 536871000 s
theorem tr_2 {φ : Nat → Nat} : tr φ 2 = 536870912 := by
  unfold tr
  rw [kd_2, if_neg (by decide), if_neg (by decide), if_pos rfl]
theorem tr_6 {φ : Nat → Nat} : tr φ 6 = -2147483648 := by
  unfold tr
  rw [kd_6, if_neg (by decide), if_neg (by decide), if_neg (by decide), if_neg (by decide), if_pos rfl]
theorem tr_P {φ : Nat → Nat} {s : Nat} (h : s < 1000) : tr φ (vP s) = nI (536872000 + s) := by
  unfold tr
  rw [(kd_P h).1, (kd_P h).2, if_neg (by decide), if_neg (by decide), if_neg (by decide), if_pos rfl]
  exact nI_add 536872000 s
theorem tr_C {φ : Nat → Nat} {s : Nat} (h : s < 1000) : tr φ (vC s) = ptrM (φ s) := by
  unfold tr
  rw [(kd_C h).1, (kd_C h).2, if_neg (by decide), if_neg (by decide), if_neg (by decide), if_neg (by decide), if_neg (by decide), nI_clamp (by omega)]
theorem tr_K {φ : Nat → Nat} {s : Nat} (h : s < 1000) : tr φ (vK s) = ptrM (φ s) := by
  unfold tr
  rw [(kd_K h).1, (kd_K h).2, if_neg (by decide), if_neg (by decide), if_neg (by decide), if_neg (by decide), if_neg (by decide), nI_clamp (by omega)]
theorem tr_ptr {φ κ : Nat → Nat} (hκ : k23 κ) {s : Nat} (h : s < 1000) : tr φ (ptr κ s) = ptrM (φ s) := by
  rcases hκ s with q | q
  · rw [ptr_C q, tr_C h]
  · rw [ptr_K q, tr_K h]
/-- what the reference's number lies under -/
theorem shr_int (z : Int32) : (z >>> ((3 : Int32) &&& 31)).toInt = z.toInt / 8 := by
  rw [← Int32.toInt_toBitVec, Int32.toBitVec_shiftRight]
  show (z.toBitVec.sshiftRight (((3 : Int32) &&& 31).toBitVec.smod 32).toNat).toInt = _
  rw [show (((3 : Int32) &&& 31).toBitVec.smod 32).toNat = 3 by decide, BitVec.toInt_sshiftRight, Int.shiftRight_eq_div_pow]
  rfl
theorem num_lt (z : Int32) : z >>> ((3 : Int32) &&& 31) < 536870912 := by
  rw [Int32.lt_iff_toInt_lt, shr_int]
  have h1 := Int32.toInt_lt z
  show z.toInt / 8 < (536870912 : Int)
  omega
theorem num_gt (z : Int32) : (-2147483648 : Int32) < z >>> ((3 : Int32) &&& 31) := by
  rw [Int32.lt_iff_toInt_lt, shr_int]
  have h1 := Int32.le_toInt z
  show (-2147483648 : Int) < z.toInt / 8
  omega
/-- shifting up again gives the class's number -/
theorem num_back {a : Int32} (h : a &&& 7 = 0) : (a >>> ((3 : Int32) &&& 31)) <<< ((3 : Int32) &&& 31) = a := by
  apply b_ext
  intro i hi
  rw [show ((3 : Int32) &&& 31) = (nI 3 &&& 31) from rfl, b_shl 3 (by omega) _ hi]
  by_cases h3 : 3 ≤ i
  · rw [b_sshr 3 (by omega) _ (by omega), if_pos (by omega)]
    simp [h3, show 3 + (i - 3) = i by omega]
  · have h4 : bt (a &&& 7) i = bt 0 i := by rw [h]
    rw [b_and, b_0, (by decide +kernel : ∀ i, i < 3 → bt 7 i = true) i (by omega), Bool.and_true] at h4
    rw [h4]
    simp [h3]
theorem num_and (z : Int32) : (z <<< ((3 : Int32) &&& 31)) &&& 7 = 0 := by
  apply b_ext
  intro i hi
  rw [b_and, show ((3 : Int32) &&& 31) = (nI 3 &&& 31) from rfl, b_shl 3 (by omega) z hi, b_0]
  by_cases h : 3 ≤ i
  · have : bt 7 i = false := (by decide +kernel : ∀ i, i < 32 → 3 ≤ i → bt 7 i = false) i hi h
    rw [this]; simp
  · simp [h]
theorem num_or (z : Int32) : z ||| 0 = z := by
  apply b_ext
  intro i hi
  rw [b_or, b_0, Bool.or_false]
theorem shl3_or {s k : Nat} (hs : s < 1000) (hk : k < 8) : (nI s <<< ((3 : Int32) &&& 31)) ||| nI k = nI (8 * s + k) := by
  rw [pk_shlN _ 3 (by decide) (by omega)]
  exact (by decide +kernel : ∀ k, k < 8 → ∀ s, s < 1000 → nI (s * 2 ^ 3) ||| nI k = nI (8 * s + k)) k hk s hs
theorem lt_neI {a b : Int32} (h : a < b) : a ≠ b := fun e => by subst e; exact Int32.lt_irrefl h
/-- a value that stands for something -/
def gv (kn : Nat) (κ : Nat → Nat) (L : List Nat) (a : Int32) : Prop := a &&& 7 = 0 ∨ (∃ s, s < kn ∧ a = vS s) ∨ a = 2 ∨ (∃ p, p < 10 ∧ a = vP p) ∨ ∃ s, s ∈ L ∧ a = ptr κ s
/-- a list of pairs of the sort t -/
def Lst (κ τ : Nat → Nat) (L : List Nat) (t : Nat) (a : Int32) : Prop := a = 2 ∨ ∃ s, s ∈ L ∧ κ s = 2 ∧ τ s = t ∧ a = vC s
/-- a form -/
def Fmv (kn : Nat) (κ τ : Nat → Nat) (L : List Nat) (a : Int32) : Prop := a &&& 7 = 0 ∨ (∃ s, s < kn ∧ a = vS s) ∨ Lst κ τ L 0 a
theorem Lst_gv {kn : Nat} {κ τ : Nat → Nat} {L : List Nat} {t : Nat} {a : Int32} (h : Lst κ τ L t a) : gv kn κ L a := by
  rcases h with h | ⟨s, h1, h2, _, h3⟩
  · exact Or.inr (Or.inr (Or.inl h))
  · exact Or.inr (Or.inr (Or.inr (Or.inr ⟨s, h1, by rw [h3, ptr_C h2]⟩)))
theorem Fmv_gv {kn : Nat} {κ τ : Nat → Nat} {L : List Nat} {a : Int32} (h : Fmv kn κ τ L a) : gv kn κ L a := by
  rcases h with h | h | h
  · exact Or.inl h
  · exact Or.inr (Or.inl h)
  · exact Lst_gv h
def up1 {α : Type} (f : Nat → α) (k : Nat) (x : α) : Nat → α := fun i => if i = k then x else f i
theorem up1_s {α : Type} (f : Nat → α) (k : Nat) (x : α) : up1 f k x k = x := by simp [up1]
theorem up1_n {α : Type} (f : Nat → α) {k i : Nat} (x : α) (h : i ≠ k) : up1 f k x i = f i := by simp [up1, h]
/-- values are the same on one side where they are on the other -/
theorem tr_lt {φ κ : Nat → Nat} {kn : Nat} {L : List Nat} {a : Int32} (hκ : k23 κ) (hkn : kn ≤ 40) (hL : ∀ s ∈ L, s < 1000 ∧ φ s < 206) (h : gv kn κ L a) : (a &&& 7 = 0 ∧ tr φ a < 536870912) ∨ (∃ s, s < kn ∧ a = vS s ∧ tr φ a = nI (536871000 + s)) ∨ (a = 2 ∧ tr φ a = 536870912) ∨ (∃ p, p < 10 ∧ a = vP p ∧ tr φ a = nI (536872000 + p)) ∨ ∃ s, s ∈ L ∧ a = ptr κ s ∧ tr φ a = ptrM (φ s) := by
  rcases h with h | ⟨s, h1, h2⟩ | h | ⟨s, h1, h2⟩ | ⟨s, h1, h2⟩
  · exact Or.inl ⟨h, by rw [tr_N h]; exact num_lt _⟩
  · exact Or.inr (Or.inl ⟨s, h1, h2, by rw [h2, tr_S (by omega)]⟩)
  · exact Or.inr (Or.inr (Or.inl ⟨h, by rw [h, tr_2]⟩))
  · exact Or.inr (Or.inr (Or.inr (Or.inl ⟨s, h1, h2, by rw [h2, tr_P (by omega)]⟩)))
  · exact Or.inr (Or.inr (Or.inr (Or.inr ⟨s, h1, h2, by rw [h2, tr_ptr hκ (hL s h1).1]⟩)))
theorem tr_rank {φ κ : Nat → Nat} {kn : Nat} {L : List Nat} {a : Int32} (hκ : k23 κ) (hkn : kn ≤ 40) (hL : ∀ s ∈ L, s < 1000 ∧ φ s < 206) (h : gv kn κ L a) (hn : ¬ a &&& 7 = 0) : ∃ k : Nat, 536870912 ≤ k ∧ k < 536874000 ∧ tr φ a = nI k ∧ (k = 536870912 ↔ a = 2) ∧ (k = 536870912 ∨ (∃ s, s < kn ∧ k = 536871000 + s ∧ a = vS s) ∨ (∃ p, p < 10 ∧ k = 536872000 + p ∧ a = vP p) ∨ ∃ s, s ∈ L ∧ k = 536873000 + φ s ∧ a = ptr κ s) := by
  have n2 : ∀ {b : Int32} {m : Nat}, b &&& 7 = nI m → m < 7 → m ≠ 2 → b ≠ 2 := fun {b m} e1 e2 e3 q => by
    rw [q, kd_2] at e1
    exact e3 ((nI_eq (a := m) (b := 2) (by omega) (by omega)).mp e1.symm)
  rcases tr_lt hκ hkn hL h with ⟨q, _⟩ | ⟨s, h1, h2, h3⟩ | ⟨h1, h2⟩ | ⟨p, h1, h2, h3⟩ | ⟨s, h1, h2, h3⟩
  · exact absurd q hn
  · exact ⟨536871000 + s, by omega, by omega, h3, ⟨fun q => by omega, fun q => absurd q (by rw [h2]; exact n2 (m := 1) (kd_S (by omega)).1 (by omega) (by omega))⟩, Or.inr (Or.inl ⟨s, h1, rfl, h2⟩)⟩
  · exact ⟨536870912, by omega, by omega, h2, ⟨fun _ => h1, fun _ => rfl⟩, Or.inl rfl⟩
  · exact ⟨536872000 + p, by omega, by omega, h3, ⟨fun q => by omega, fun q => absurd q (by rw [h2]; exact n2 (m := 3) (kd_P (by omega)).1 (by omega) (by omega))⟩, Or.inr (Or.inr (Or.inl ⟨p, h1, rfl, h2⟩))⟩
  · have := (hL s h1).2
    have h9 := hκ s
    exact ⟨536873000 + φ s, by omega, by omega, h3, ⟨fun q => by omega, fun q => absurd q (by rw [h2]; exact n2 (m := κ s + 2) (ptr_kind hκ (hL s h1).1).1 (by omega) (by omega))⟩, Or.inr (Or.inr (Or.inr ⟨s, h1, rfl, h2⟩))⟩
theorem tr_inj {φ κ : Nat → Nat} {kn : Nat} {L : List Nat} {a b : Int32} (hκ : k23 κ) (hkn : kn ≤ 40) (hL : ∀ s ∈ L, s < 1000 ∧ φ s < 206) (hj : ∀ s ∈ L, ∀ t ∈ L, φ s = φ t → s = t) (ha : gv kn κ L a) (hb : gv kn κ L b) : (tr φ a = tr φ b) = (a = b) := by
  apply propext
  constructor
  · intro e
    by_cases h1 : a &&& 7 = 0
    · by_cases h2 : b &&& 7 = 0
      · rw [tr_N h1, tr_N h2] at e
        rw [← num_back h1, e, num_back h2]
      · obtain ⟨k, k1, k2, k3, _⟩ := tr_rank hκ hkn hL hb h2
        rw [tr_N h1, k3] at e
        have := num_lt a
        rw [e] at this
        exact absurd this (nI_nlt (a := k) (b := 536870912) (by omega) (by omega))
    · by_cases h2 : b &&& 7 = 0
      · obtain ⟨k, k1, k2, k3, _⟩ := tr_rank hκ hkn hL ha h1
        rw [tr_N h2, k3] at e
        have := num_lt b
        rw [← e] at this
        exact absurd this (nI_nlt (a := k) (b := 536870912) (by omega) (by omega))
      · obtain ⟨k, k1, k2, k3, k4, k5⟩ := tr_rank hκ hkn hL ha h1
        obtain ⟨l, l1, l2, l3, l4, l5⟩ := tr_rank hκ hkn hL hb h2
        rw [k3, l3] at e
        have e2 : k = l := (nI_eq (by omega) (by omega)).mp e
        subst e2
        rcases k5 with q | ⟨s, q1, q2, q3⟩ | ⟨s, q1, q2, q3⟩ | ⟨s, q1, q2, q3⟩
        · rw [k4.mp q, l4.mp q]
        all_goals rcases l5 with r | ⟨t, r1, r2, r3⟩ | ⟨t, r1, r2, r3⟩ | ⟨t, r1, r2, r3⟩
        all_goals first | (rw [q3, r3, show s = t by omega]; done) | (exfalso; omega) | skip
        · rw [q3, r3, hj s q1 t r1 (by omega)]
  · intro e; rw [e]
