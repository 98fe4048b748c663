/-- between two passes -/
def LI (c : Nat → Nat) (v : pm_W) (dn kn : Nat) (mk Vp : Nat → Bool) (x2 : Int32) : Prop := (∀ t, Vp t = true → t < 206 ∧ mk t = true) ∧ (∀ s, Vp s = true → ∀ a, chM v c s a → ∀ t, t < 206 → a = ptrM t → mk t = true) ∧ (∀ a, rtM v dn kn a → ∀ t, t < 206 → a = ptrM t → mk t = true) ∧
  ((x2 = -1 ∧ ∀ t, Vp t = false) ∨ ∃ Vq Ms : Nat → Bool, x2 = nI (ws c Vq 206) ∧ (∀ t, Vq t = true → t < 206 ∧ Ms t = true) ∧ (∀ s, Vq s = true → ∀ a, chM v c s a → ∀ t, t < 206 → a = ptrM t → Ms t = true) ∧ (∀ t, t < 206 → Ms t = true → Vp t = true) ∧ ∀ t, mk t = true → Ms t = true ∨ ∃ s, Vp s = true ∧ ∃ a, chM v c s a ∧ a = ptrM t)
/-- what live answers and leaves: R is what can be reached, no more -/
def LD (c : Nat → Nat) (DM : Nat → Prop) (v v2 : pm_W) (dn kn : Nat) (P : Nat → Prop) (R : Nat → Bool) : Prop := MI DM P v v2 R ∧ (∀ a, rtM v dn kn a → ∀ t, t < 206 → a = ptrM t → R t = true) ∧ ∀ s, R s = true → ∀ a, chM v c s a → ∀ t, t < 206 → a = ptrM t → R t = true
theorem ws_bd {c : Nat → Nat} {V : Nat → Bool} (h : ∀ t, V t = true → c t ≤ 3) : ws c V 206 ≤ 618 := by
  unfold ws
  have := sumTo_bd (f := fun t => if V t = true then c t else 0) (b := 3) 206 (fun t _ => by
    by_cases e : V t = true
    · simp [e]; exact h t e
    · simp [e])
  omega
theorem lv_3x {c : Nat → Nat} {DM P : Nat → Prop} {v v1 : pm_W} {dn kn m : Nat} {x2 : Int32} {mk Vp : Nat → Bool} (hG : HP c DM v dn kn) (h : MI DM P v v1 mk) (hl : LI c v dn kn mk Vp x2) (he : nI (ws c Vp 206) = x2) : ∃ (v2 : pm_W) (R : Nat → Bool), l_Md_live (m + 1) 3 (nI (ws c Vp 206)) x2 0 v1 = some (nI (ws c R 206), v2) ∧ LD c DM v v2 dn kn P R := by
  obtain ⟨l1, l2, l3, l4⟩ := hl
  have hc3 : ∀ t, Vp t = true → c t = 2 ∨ c t = 3 := fun t ht => by
    obtain ⟨q1, q2, -⟩ := h.2.1 t (l1 t ht).2
    exact (hG.2.2.2.2.1 t q1 q2).1
  rcases l4 with ⟨rfl, hV⟩ | ⟨Vq, Ms, rfl, q1, q2, q3, q4⟩
  · have e0 : ws c Vp 206 = 0 := by
      unfold ws
      have := sumTo_cg (f := fun t => if Vp t = true then c t else 0) (g := fun _ => 0) 206 (fun t _ => by simp [hV t])
      rw [this]
      decide +kernel
    rw [e0] at he
    exact absurd he (by decide)
  · have hle : ∀ t, t < 206 → (if Vq t = true then c t else 0) ≤ (if Vp t = true then c t else 0) := fun t ht => by
      by_cases e : Vq t = true
      · rw [if_pos e, if_pos (q3 t ht (q1 t e).2)]
        exact Nat.le_refl _
      · rw [if_neg e]
        exact Nat.zero_le _
    have hcq : ∀ t, Vq t = true → c t ≤ 3 := fun t ht => by
      have := hc3 t (q3 t (q1 t ht).1 (q1 t ht).2)
      omega
    have hb1 := ws_bd (c := c) (V := Vp) (fun t ht => by have := hc3 t ht; omega)
    have hb2 := ws_bd (c := c) (V := Vq) hcq
    rw [nI_eq (by omega) (by omega)] at he
    have heq := sumTo_eq 206 hle he.symm
    have hVq : ∀ t, Vp t = true → Vq t = true := fun t ht => by
      have h1 := heq t (l1 t ht).1
      rw [if_pos ht] at h1
      by_cases e : Vq t = true
      · exact e
      · rw [if_neg e] at h1
        have := hc3 t ht
        omega
    have hmk : ∀ t, mk t = true → Vp t = true := fun t ht => by
      have ht206 := (h.2.1 t ht).1
      rcases q4 t ht with q | ⟨s, hs, a, ha, e⟩
      · exact q3 t ht206 q
      · exact q3 t ht206 (q2 s (hVq s hs) a ha t ht206 e)
    have hws : ws c mk 206 = ws c Vp 206 := sumTo_cg 206 (fun t _ => by
      by_cases e : mk t = true
      · rw [if_pos e, if_pos (hmk t e)]
      · rw [if_neg e, if_neg (fun q => e (l1 t q).2)])
    refine ⟨v1, mk, ?_, h, l3, fun s hs a ha t ht e => l2 s (hmk s hs) a ha t ht e⟩
    rw [hws]
    show b_Md_live_114 (l_Md_live m) (nI (ws c Vp 206)) (nI (ws c Vq 206)) v1 = _
    unfold b_Md_live_114
    rw [if_pos (by rw [he])]
theorem lv_3 {c : Nat → Nat} {DM P : Nat → Prop} {v : pm_W} {dn kn : Nat} (hG : HP c DM v dn kn) (hC : HC c DM v dn kn P) : ∀ (d m : Nat) (v1 : pm_W) (mk Vp : Nat → Bool) (x2 : Int32), 206 ≤ ws (fun _ => 1) Vp 206 + d → MI DM P v v1 mk → LI c v dn kn mk Vp x2 →
    ∃ (v2 : pm_W) (R : Nat → Bool), l_Md_live (m + (d + 1) * 208 + 1) 3 (nI (ws c Vp 206)) x2 0 v1 = some (nI (ws c R 206), v2) ∧ LD c DM v v2 dn kn P R := by
  intro d
  induction d with
  | zero =>
    intro m v1 mk Vp x2 hd h hl
    by_cases he : nI (ws c Vp 206) = x2
    · exact lv_3x (m := m + (0 + 1) * 208) hG h hl he
    · obtain ⟨l1, l2, l3, l4⟩ := id hl
      obtain ⟨v2, m2, V2, a1, a2, a3⟩ := lv_4 (x2 := nI (ws c Vp 206)) (Ms := mk) hG hC 206 0 (m + 1) v1 mk (fun _ => false) (by omega) h ⟨fun t ht => absurd ht (by simp), fun t ht => absurd ht (Nat.not_lt_zero _), fun s hs => absurd hs (by simp), fun t ht => Or.inl ht, fun t ht => ht⟩
      obtain ⟨p1, p2, p3, p4, p5⟩ := a3
      have hl2 : LI c v dn kn m2 V2 (nI (ws c Vp 206)) := ⟨p1, p3, fun a ha t ht e => p5 t (l3 a ha t ht e), Or.inr ⟨Vp, mk, rfl, l1, l2, p2, p4⟩⟩
      have hsub : ∀ t, V2 t = true → Vp t = true := fun t ht => by
        have hle : ∀ t, t < 206 → (if Vp t = true then 1 else 0) ≤ (if (fun _ : Nat => true) t = true then 1 else 0) := fun t _ => by
          by_cases e : Vp t = true
          · simp [e]
          · simp [e]
        have hfull : sumTo (fun t => if (fun _ : Nat => true) t = true then 1 else 0) 206 = 206 := by decide +kernel
        have heq := sumTo_eq (f := fun t => if Vp t = true then 1 else 0) (g := fun t => if (fun _ : Nat => true) t = true then 1 else 0) 206 hle (by
          have h1 := sumTo_le (f := fun t => if Vp t = true then 1 else 0) (g := fun t => if (fun _ : Nat => true) t = true then 1 else 0) 206 hle
          have h2 : 206 ≤ sumTo (fun t => if Vp t = true then 1 else 0) 206 := by simpa [ws] using hd
          omega) t (p1 t ht).1
        by_cases e : Vp t = true
        · exact e
        · simp [e] at heq
      have hws : ws c V2 206 = ws c Vp 206 := sumTo_cg 206 (fun t ht => by
        by_cases e : V2 t = true
        · rw [if_pos e, if_pos (hsub t e)]
        · rw [if_neg e, if_neg (fun q => e (p2 t ht (l1 t q).2))])
      obtain ⟨v3, R, b1, b2⟩ := lv_3x (m := m) hG a2 hl2 (by rw [hws])
      refine ⟨v3, R, ?_, b2⟩
      rw [← b1, ← a1]
      show b_Md_live_114 (l_Md_live (m + 1 + 206 + 1)) (nI (ws c Vp 206)) x2 v1 = _
      unfold b_Md_live_114
      rw [if_neg he]
      rfl
  | succ d ih =>
    intro m v1 mk Vp x2 hd h hl
    by_cases he : nI (ws c Vp 206) = x2
    · exact lv_3x (m := m + (d + 1 + 1) * 208) hG h hl he
    · obtain ⟨l1, l2, l3, l4⟩ := id hl
      obtain ⟨v2, m2, V2, a1, a2, a3⟩ := lv_4 (x2 := nI (ws c Vp 206)) (Ms := mk) hG hC 206 0 (m + (d + 1) * 208 + 1) v1 mk (fun _ => false) (by omega) h ⟨fun t ht => absurd ht (by simp), fun t ht => absurd ht (Nat.not_lt_zero _), fun s hs => absurd hs (by simp), fun t ht => Or.inl ht, fun t ht => ht⟩
      obtain ⟨p1, p2, p3, p4, p5⟩ := a3
      have hl2 : LI c v dn kn m2 V2 (nI (ws c Vp 206)) := ⟨p1, p3, fun a ha t ht e => p5 t (l3 a ha t ht e), Or.inr ⟨Vp, mk, rfl, l1, l2, p2, p4⟩⟩
      have hstep : l_Md_live (m + (d + 1 + 1) * 208 + 1) 3 (nI (ws c Vp 206)) x2 0 v1 = l_Md_live (m + (d + 1) * 208 + 1) 3 (nI (ws c V2 206)) (nI (ws c Vp 206)) 0 v2 := by
        rw [← a1, show m + (d + 1 + 1) * 208 + 1 = m + (d + 1) * 208 + 1 + 206 + 1 + 1 by omega]
        show b_Md_live_114 (l_Md_live (m + (d + 1) * 208 + 1 + 206 + 1)) (nI (ws c Vp 206)) x2 v1 = _
        unfold b_Md_live_114
        rw [if_neg he]
        rfl
      rw [hstep]
      have hle : ∀ t, t < 206 → (if Vp t = true then 1 else 0) ≤ (if V2 t = true then 1 else 0) := fun t ht => by
        by_cases e : Vp t = true
        · rw [if_pos e, if_pos (p2 t ht (l1 t e).2)]
          exact Nat.le_refl _
        · rw [if_neg e]
          exact Nat.zero_le _
      by_cases hn : ws (fun _ => 1) Vp 206 = ws (fun _ => 1) V2 206
      · have heq := sumTo_eq 206 hle hn
        have hws : ws c V2 206 = ws c Vp 206 := sumTo_cg 206 (fun t ht => by
          have h1 := heq t ht
          by_cases e : V2 t = true
          · rw [if_pos e] at h1 ⊢
            by_cases e2 : Vp t = true
            · rw [if_pos e2]
            · rw [if_neg e2] at h1; exact absurd h1 (by decide)
          · rw [if_neg e, if_neg (fun q => e (p2 t ht (l1 t q).2))])
        obtain ⟨v3, R, b1, b2⟩ := lv_3x (m := m + (d + 1) * 208) hG a2 hl2 (by rw [hws])
        exact ⟨v3, R, b1, b2⟩
      · have h1 := sumTo_le 206 hle
        have h2 : ws (fun _ => 1) Vp 206 + 1 ≤ ws (fun _ => 1) V2 206 := by
          have h3 : ws (fun _ => 1) Vp 206 ≤ ws (fun _ => 1) V2 206 := h1
          omega
        exact ih m v2 m2 V2 _ (by omega) a2 hl2
theorem live_ok {c : Nat → Nat} {DM : Nat → Prop} {v : pm_W} {dn kn : Nat} (hG : HP c DM v dn kn) : ∃ (v2 : pm_W) (R : Nat → Bool), f_Md_live v = some (nI (ws c R 206), v2) ∧ LD c DM v v2 dn kn (fun t => ∀ P, HC c DM v dn kn P → P t) R := by
  obtain ⟨hdn, hkn, e1, e2, hc, hr, hf⟩ := id hG
  have hC : HC c DM v dn kn (fun t => ∀ P, HC c DM v dn kn P → P t) :=
    ⟨fun a ha s hs hD e P hP => hP.1 a ha s hs hD e, fun s hs hD hPs a ha t ht hDt e P hP => hP.2 s hs hD (hPs P hP) a ha t ht hDt e⟩
  obtain ⟨v0, z1, z2, z3⟩ := lv_0 (v := v) 206 0 (99792 - kn - dn - (206 + 1) * 208 + (206 + 1) * 208 + kn + dn + 1) v (by omega) (fun t ht => absurd ht (Nat.not_lt_zero _)) sm5_rf
  have h0 : MI DM (fun t => ∀ P, HC c DM v dn kn P → P t) v v0 (fun _ => false) := ⟨fun t ht => by rw [z1 t ht]; simp, fun t ht => absurd ht (by simp), z2⟩
  have e15 : v0.1 0 15 = v.1 0 15 := by rw [z2.2 0 (by decide)]
  obtain ⟨v1, m1, a1, a2, a3, a4, -⟩ := mark_ok h0 (a := v.1 0 15) (hr _ (Or.inl rfl)) (fun s hs hD e => hC.1 _ (Or.inl rfl) s hs hD e)
  have e16 : v1.1 0 16 = v.1 0 16 := by rw [a2.2.2.2 0 (by decide)]
  obtain ⟨v2, m2, b1, b2, b3, b4, -⟩ := mark_ok a2 (a := v.1 0 16) (hr _ (Or.inr (Or.inl rfl))) (fun s hs hD e => hC.1 _ (Or.inr (Or.inl rfl)) s hs hD e)
  obtain ⟨v3, m3, c1, c2, c3, c4⟩ := lv_1 hG hC dn 0 (99792 - kn - dn - (206 + 1) * 208 + (206 + 1) * 208 + kn) v2 m2 (by omega) b2
  have hcut : 99792 - kn - dn - (206 + 1) * 208 + (206 + 1) * 208 + kn = (99790 - kn - dn - (206 + 1) * 208 + (206 + 1) * 208 + 1) + kn + 1 := by omega
  obtain ⟨v4, m4, d1, d2, d3, d4⟩ := lv_2 hG hC kn 0 (99790 - kn - dn - (206 + 1) * 208 + (206 + 1) * 208 + 1) v3 m3 (by omega) c2
  have hw0 : ws c (fun _ => false) 206 = 0 := by
    unfold ws
    rw [sumTo_cg (g := fun _ => 0) 206 (fun t _ => by simp)]
    decide +kernel
  have hl : LI c v dn kn m4 (fun _ => false) (-1) := by
    refine ⟨fun t ht => absurd ht (by simp), fun s hs => absurd hs (by simp), fun a ha t ht e => ?_, Or.inl ⟨rfl, fun _ => rfl⟩⟩
    rcases ha with ha | ha | ⟨i, hi, ha⟩ | ⟨i, hi, ha⟩
    · exact d3 t (c3 t (b3 t (a4 t ht (by rw [← ha]; exact e))))
    · exact d3 t (c3 t (b4 t ht (by rw [← ha]; exact e)))
    · exact d3 t (c4 i (Nat.zero_le _) hi a ha t ht e)
    · exact d4 i (Nat.zero_le _) hi t ht (by rw [← ha]; exact e)
  obtain ⟨v5, R, f1, f2⟩ := lv_3 hG hC 206 (99790 - kn - dn - (206 + 1) * 208) v4 m4 (fun _ => false) (-1) (by omega) d2 hl
  refine ⟨v5, R, ?_, f2⟩
  rw [hw0, nI_0] at f1
  rw [nI_0] at z3 c1 d1
  unfold f_Md_live
  rw [show pm_fuel = 99792 - kn - dn - (206 + 1) * 208 + (206 + 1) * 208 + kn + dn + 1 + 206 + 1 by show 100000 = _; omega, z3, e15, a1, Option.bind_some, e16, b1, Option.bind_some, c1, hcut, d1]
  exact f1
