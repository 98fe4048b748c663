/-! the reference's live -/
def sumTo (f : Nat → Nat) : Nat → Nat
  | 0 => 0
  | n + 1 => sumTo f n + f n
theorem sumTo_le {f g : Nat → Nat} : ∀ N, (∀ t, t < N → f t ≤ g t) → sumTo f N ≤ sumTo g N := by
  intro N
  induction N with
  | zero => intro _; exact Nat.le_refl _
  | succ N ih =>
    intro h
    have h1 := ih (fun t ht => h t (by omega))
    have h2 := h N (by omega)
    simp only [sumTo]
    omega
theorem sumTo_eq {f g : Nat → Nat} : ∀ N, (∀ t, t < N → f t ≤ g t) → sumTo f N = sumTo g N → ∀ t, t < N → f t = g t := by
  intro N
  induction N with
  | zero => intro _ _ t ht; exact absurd ht (Nat.not_lt_zero _)
  | succ N ih =>
    intro h e t ht
    have h1 := sumTo_le N (fun t ht => h t (Nat.lt_succ_of_lt ht))
    have h2 := h N (Nat.lt_succ_self N)
    simp only [sumTo] at e
    by_cases et : t = N
    · subst et; omega
    · exact ih (fun t ht => h t (Nat.lt_succ_of_lt ht)) (by omega) t (by omega)
theorem sumTo_bd {f : Nat → Nat} {b : Nat} : ∀ N, (∀ t, t < N → f t ≤ b) → sumTo f N ≤ N * b := by
  intro N
  induction N with
  | zero => intro _; simp [sumTo]
  | succ N ih =>
    intro h
    have h1 := ih (fun t ht => h t (Nat.lt_succ_of_lt ht))
    have h2 := h N (Nat.lt_succ_self N)
    simp only [sumTo]
    rw [Nat.succ_mul]
    omega
theorem sumTo_cg {f g : Nat → Nat} : ∀ N, (∀ t, t < N → f t = g t) → sumTo f N = sumTo g N := by
  intro N
  induction N with
  | zero => intro _; rfl
  | succ N ih =>
    intro h
    simp only [sumTo]
    rw [ih (fun t ht => h t (Nat.lt_succ_of_lt ht)), h N (Nat.lt_succ_self N)]
/-- the weight of a set -/
def ws (c : Nat → Nat) (V : Nat → Bool) (N : Nat) : Nat := sumTo (fun t => if V t = true then c t else 0) N
def ptrM (t : Nat) : Int32 := nI (536873000 + t)
def okM (DM : Nat → Prop) (a : Int32) : Prop := a < 536873000 ∨ ∃ t, t < 206 ∧ DM t ∧ a = ptrM t
theorem ptrM_inj {s t : Nat} (hs : s < 206) (ht : t < 206) (h : ptrM s = ptrM t) : s = t := by
  unfold ptrM at h
  rw [nI_eq (by omega) (by omega)] at h
  omega
theorem ptrM_thing {t : Nat} (ht : t < 206) : ¬ ptrM t < 536873000 := nI_nlt (a := 536873000 + t) (b := 536873000) (by omega) (by omega)
theorem ptrM_sub {t : Nat} : ptrM t - 536873000 = nI t := by
  unfold ptrM
  rw [show (536873000 : Int32) = nI 536873000 from rfl, pk_sub (by omega), Nat.add_sub_cancel_left]
def sm5 (v v1 : pm_W) : Prop := v1.2 = v.2 ∧ ∀ o, o ≠ 5 → v1.1 o = v.1 o
theorem sm5_rf {v : pm_W} : sm5 v v := ⟨rfl, fun _ _ => rfl⟩
theorem sm5_tr {a b c : pm_W} (h1 : sm5 a b) (h2 : sm5 b c) : sm5 a c := ⟨h2.1.trans h1.1, fun o h => (h2.2 o h).trans (h1.2 o h)⟩
/-- while things are marked -/
def MI (DM P : Nat → Prop) (v v1 : pm_W) (mk : Nat → Bool) : Prop := (∀ t, t < 206 → v1.1 5 t = if mk t = true then 1 else 0) ∧ (∀ t, mk t = true → t < 206 ∧ DM t ∧ P t) ∧ sm5 v v1
theorem mark_np {v : pm_W} {a : Int32} (h : a < 536873000) : f_Md_mark a v = some v := by
  unfold f_Md_mark f_Md_isThing
  rw [if_pos h, Option.bind_some, if_pos rfl]
theorem mark_t {v : pm_W} {t : Nat} (ht : t < 206) : f_Md_mark (ptrM t) v = some (pm_setI v 5 t 1) := by
  unfold f_Md_mark f_Md_isThing
  rw [if_neg (ptrM_thing ht), Option.bind_some, if_neg (show ¬ (1 : Int32) = 0 by decide), ptrM_sub, if_neg (nI_in ht (by omega)), nI_clamp (by omega), show vp_nar .boolean (1 : Int32) = 1 by decide]
theorem mark_ok {DM P : Nat → Prop} {v v1 : pm_W} {mk : Nat → Bool} {a : Int32} (h : MI DM P v v1 mk) (ha : okM DM a) (haP : ∀ t, t < 206 → DM t → a = ptrM t → P t) : ∃ (v2 : pm_W) (mk2 : Nat → Bool), f_Md_mark a v1 = some v2 ∧ MI DM P v v2 mk2 ∧ (∀ t, mk t = true → mk2 t = true) ∧ (∀ t, t < 206 → a = ptrM t → mk2 t = true) ∧ ∀ t, mk2 t = true → mk t = true ∨ a = ptrM t := by
  rcases ha with ha | ⟨t, ht, hD, rfl⟩
  · refine ⟨v1, mk, mark_np ha, h, fun _ h => h, fun t ht e => ?_, fun _ h => Or.inl h⟩
    rw [e] at ha
    exact absurd ha (ptrM_thing ht)
  · refine ⟨pm_setI v1 5 t 1, fun x => if x = t then true else mk x, mark_t ht, ⟨fun x hx => ?_, fun x hx => ?_, sm5_tr h.2.2 ⟨rfl, fun o ho => rdI_o _ ho⟩⟩, fun x hx => ?_, fun x hx e => ?_, fun x hx => ?_⟩
    · by_cases e : x = t
      · subst e
        rw [rdI_s]
        simp
      · rw [rdI_n _ (Or.inr e), h.1 x hx]
        simp [e]
    · by_cases e : x = t
      · subst e; exact ⟨ht, hD, haP x ht hD rfl⟩
      · simp [e] at hx
        exact h.2.1 x hx
    · by_cases e : x = t
      · simp [e]
      · simp [e, hx]
    · have := ptrM_inj ht hx e
      simp [this]
    · by_cases e : x = t
      · subst e; exact Or.inr rfl
      · simp [e] at hx
        exact Or.inl hx
def rtM (v : pm_W) (dn kn : Nat) (a : Int32) : Prop := a = v.1 0 15 ∨ a = v.1 0 16 ∨ (∃ i, i < dn ∧ (a = v.1 7 i ∨ a = v.1 8 i ∨ a = v.1 9 i)) ∨ ∃ i, i < kn ∧ a = v.1 11 i
def chM (v : pm_W) (c : Nat → Nat) (t : Nat) (a : Int32) : Prop := a = v.1 2 t ∨ a = v.1 3 t ∨ (c t = 3 ∧ a = v.1 4 t)
def HP (c : Nat → Nat) (DM : Nat → Prop) (v : pm_W) (dn kn : Nat) : Prop := dn ≤ 30 ∧ kn ≤ 40 ∧ v.1 0 11 = nI dn ∧ v.1 0 12 = nI kn ∧ (∀ t, t < 206 → DM t → (c t = 2 ∨ c t = 3) ∧ v.1 1 t = nI (c t)) ∧ (∀ a, rtM v dn kn a → okM DM a) ∧ ∀ t, t < 206 → DM t → ∀ a, chM v c t a → okM DM a
def HC (c : Nat → Nat) (DM : Nat → Prop) (v : pm_W) (dn kn : Nat) (P : Nat → Prop) : Prop := (∀ a, rtM v dn kn a → ∀ t, t < 206 → DM t → a = ptrM t → P t) ∧ ∀ s, s < 206 → DM s → P s → ∀ a, chM v c s a → ∀ t, t < 206 → DM t → a = ptrM t → P t
/-- clearing -/
theorem lv_0 {v : pm_W} : ∀ (d i m : Nat) (v1 : pm_W), i + d = 206 → (∀ t, t < i → v1.1 5 t = 0) → sm5 v v1 → ∃ v2, (∀ t, t < 206 → v2.1 5 t = 0) ∧ sm5 v v2 ∧ l_Md_live (m + d + 1) 0 (nI i) 0 0 v1 = (Option.bind (f_Md_mark (v2.1 0 15) v2) fun o2 => Option.bind (f_Md_mark (o2.1 0 16) o2) fun o3 => l_Md_live m 1 (0 : Int32) 0 0 o3) := by
  intro d
  induction d with
  | zero =>
    intro i m v1 hi h1 h2
    have e : i = 206 := by omega
    subst e
    refine ⟨v1, h1, h2, ?_⟩
    show b_Md_live_2 (l_Md_live m) (nI 206) v1 = _
    unfold b_Md_live_2
    rw [if_pos (by decide)]
  | succ d ih =>
    intro i m v1 hi h1 h2
    obtain ⟨v2, g1, g2, g3⟩ := ih (i + 1) m (pm_setI v1 5 i 0) (by omega) (fun t ht => by
      by_cases e : t = i
      · subst e; exact rdI_s _ _ _ _
      · rw [rdI_n _ (Or.inr e)]; exact h1 t (by omega)) (sm5_tr h2 ⟨rfl, fun o ho => rdI_o _ ho⟩)
    refine ⟨v2, g1, g2, ?_⟩
    rw [← g3]
    show b_Md_live_2 (l_Md_live (m + d + 1)) (nI i) v1 = _
    unfold b_Md_live_2
    rw [if_neg (show ¬ (206 : Int32) ≤ nI i from nI_ge (b := 206) (by omega) (by omega)), if_neg (nI_in (N := 206) (by omega) (by omega)), nI_clamp (by omega), show nI i + (1 : Int32) = nI (i + 1) from nI_1 i, show vp_nar .boolean (0 : Int32) = 0 by decide]
theorem lv_1 {c : Nat → Nat} {DM P : Nat → Prop} {v : pm_W} {dn kn : Nat} (hG : HP c DM v dn kn) (hC : HC c DM v dn kn P) : ∀ (d i m : Nat) (v1 : pm_W) (mk : Nat → Bool), i + d = dn → MI DM P v v1 mk →
    ∃ (v2 : pm_W) (mk2 : Nat → Bool), l_Md_live (m + d + 1) 1 (nI i) 0 0 v1 = l_Md_live m 2 0 0 0 v2 ∧ MI DM P v v2 mk2 ∧ (∀ t, mk t = true → mk2 t = true) ∧ ∀ j, i ≤ j → j < dn → ∀ a, a = v.1 7 j ∨ a = v.1 8 j ∨ a = v.1 9 j → ∀ t, t < 206 → a = ptrM t → mk2 t = true := by
  obtain ⟨hdn, hkn, e1, e2, hc, hr, hf⟩ := hG
  intro d
  induction d with
  | zero =>
    intro i m v1 mk hi h
    refine ⟨v1, mk, ?_, h, fun _ h => h, fun j h1 h2 => absurd h2 (by omega)⟩
    show b_Md_live_40 (l_Md_live m) (nI i) v1 = _
    unfold b_Md_live_40
    rw [h.2.2.2 0 (by decide), e1, if_pos (nI_le (by omega) (by omega))]
  | succ d ih =>
    intro i m v1 mk hi h
    have hlt : i < dn := by omega
    have e7 : v1.1 7 = v.1 7 := h.2.2.2 7 (by decide)
    obtain ⟨v2, m2, a1, a2, a3, a4, -⟩ := mark_ok h (a := v.1 7 i) (hr _ (Or.inr (Or.inr (Or.inl ⟨i, hlt, Or.inl rfl⟩)))) (fun s hs hD e => hC.1 _ (Or.inr (Or.inr (Or.inl ⟨i, hlt, Or.inl rfl⟩))) s hs hD e)
    have e8 : v2.1 8 = v.1 8 := a2.2.2.2 8 (by decide)
    obtain ⟨v3, m3, b1, b2, b3, b4, -⟩ := mark_ok a2 (a := v.1 8 i) (hr _ (Or.inr (Or.inr (Or.inl ⟨i, hlt, Or.inr (Or.inl rfl)⟩)))) (fun s hs hD e => hC.1 _ (Or.inr (Or.inr (Or.inl ⟨i, hlt, Or.inr (Or.inl rfl)⟩))) s hs hD e)
    have e9 : v3.1 9 = v.1 9 := b2.2.2.2 9 (by decide)
    obtain ⟨v4, m4, c1, c2, c3, c4, -⟩ := mark_ok b2 (a := v.1 9 i) (hr _ (Or.inr (Or.inr (Or.inl ⟨i, hlt, Or.inr (Or.inr rfl)⟩)))) (fun s hs hD e => hC.1 _ (Or.inr (Or.inr (Or.inl ⟨i, hlt, Or.inr (Or.inr rfl)⟩))) s hs hD e)
    obtain ⟨v5, m5, d1, d2, d3, d4⟩ := ih (i + 1) m v4 m4 (by omega) c2
    refine ⟨v5, m5, ?_, d2, fun t ht => d3 t (c3 t (b3 t (a3 t ht))), fun j h1 h2 a ha s hs e => ?_⟩
    · rw [← d1]
      show b_Md_live_40 (l_Md_live (m + d + 1)) (nI i) v1 = _
      unfold b_Md_live_40
      have hb : ¬ (nI i < 0 ∨ 30 ≤ (nI i).toNatClampNeg) := nI_in (by omega) (by omega)
      have hb2 : ¬ (nI i < 0 ∨ 30 ≤ i) := by rw [nI_clamp (by omega)] at hb; exact hb
      rw [h.2.2.2 0 (by decide), e1, if_neg (nI_ge hlt (by omega)), if_neg hb, nI_clamp (by omega), e7, a1, Option.bind_some, e8, b1, Option.bind_some, e9, c1, Option.bind_some, show nI i + (1 : Int32) = nI (i + 1) from nI_1 i, if_neg hb2, if_neg hb2]
    · by_cases ej : j = i
      · subst ej
        rcases ha with ha | ha | ha
        · exact d3 s (c3 s (b3 s (a4 s hs (by rw [← ha]; exact e))))
        · exact d3 s (c3 s (b4 s hs (by rw [← ha]; exact e)))
        · exact d3 s (c4 s hs (by rw [← ha]; exact e))
      · exact d4 j (by omega) h2 a ha s hs e
theorem lv_2 {c : Nat → Nat} {DM P : Nat → Prop} {v : pm_W} {dn kn : Nat} (hG : HP c DM v dn kn) (hC : HC c DM v dn kn P) : ∀ (d i m : Nat) (v1 : pm_W) (mk : Nat → Bool), i + d = kn → MI DM P v v1 mk →
    ∃ (v2 : pm_W) (mk2 : Nat → Bool), l_Md_live (m + d + 1) 2 (nI i) 0 0 v1 = l_Md_live m 3 0 (-1) 0 v2 ∧ MI DM P v v2 mk2 ∧ (∀ t, mk t = true → mk2 t = true) ∧ ∀ j, i ≤ j → j < kn → ∀ t, t < 206 → v.1 11 j = ptrM t → mk2 t = true := by
  obtain ⟨hdn, hkn, e1, e2, hc, hr, hf⟩ := hG
  intro d
  induction d with
  | zero =>
    intro i m v1 mk hi h
    refine ⟨v1, mk, ?_, h, fun _ h => h, fun j h1 h2 => absurd h2 (by omega)⟩
    show b_Md_live_86 (l_Md_live m) (nI i) v1 = _
    unfold b_Md_live_86
    rw [h.2.2.2 0 (by decide), e2, if_pos (nI_le (by omega) (by omega))]
  | succ d ih =>
    intro i m v1 mk hi h
    have hlt : i < kn := by omega
    have e11 : v1.1 11 = v.1 11 := h.2.2.2 11 (by decide)
    obtain ⟨v2, m2, a1, a2, a3, a4, -⟩ := mark_ok h (a := v.1 11 i) (hr _ (Or.inr (Or.inr (Or.inr ⟨i, hlt, rfl⟩)))) (fun s hs hD e => hC.1 _ (Or.inr (Or.inr (Or.inr ⟨i, hlt, rfl⟩))) s hs hD e)
    obtain ⟨v5, m5, d1, d2, d3, d4⟩ := ih (i + 1) m v2 m2 (by omega) a2
    refine ⟨v5, m5, ?_, d2, fun t ht => d3 t (a3 t ht), fun j h1 h2 s hs e => ?_⟩
    · rw [← d1]
      show b_Md_live_86 (l_Md_live (m + d + 1)) (nI i) v1 = _
      unfold b_Md_live_86
      rw [h.2.2.2 0 (by decide), e2, if_neg (nI_ge hlt (by omega)), if_neg (nI_in (N := 40) (by omega) (by omega)), nI_clamp (by omega), e11, a1, Option.bind_some, show nI i + (1 : Int32) = nI (i + 1) from nI_1 i]
    · by_cases ej : j = i
      · subst ej
        exact d3 s (a4 s hs e)
      · exact d4 j (by omega) h2 s hs e
