/-- one pass: V is what was found marked on the way, Ms what was marked at its start -/
def PI (c : Nat → Nat) (v : pm_W) (Ms mk V : Nat → Bool) (i : Nat) : Prop := (∀ t, V t = true → t < i ∧ mk t = true) ∧ (∀ t, t < i → Ms t = true → V t = true) ∧ (∀ s, V s = true → ∀ a, chM v c s a → ∀ t, t < 206 → a = ptrM t → mk t = true) ∧ (∀ t, mk t = true → Ms t = true ∨ ∃ s, V s = true ∧ ∃ a, chM v c s a ∧ a = ptrM t) ∧ ∀ t, Ms t = true → mk t = true
theorem ws_step {c : Nat → Nat} {V : Nat → Bool} {i : Nat} (b : Bool) : ws c (fun t => if t = i then b else V t) (i + 1) = ws c V i + (if b = true then c i else 0) := by
  unfold ws
  simp only [sumTo, if_true]
  congr 1
  apply sumTo_cg
  intro t ht
  have : t ≠ i := by omega
  simp [this]
theorem lv_4 {c : Nat → Nat} {DM P : Nat → Prop} {v : pm_W} {dn kn : Nat} {x2 : Int32} {Ms : Nat → Bool} (hG : HP c DM v dn kn) (hC : HC c DM v dn kn P) : ∀ (d i m : Nat) (v1 : pm_W) (mk V : Nat → Bool), i + d = 206 → MI DM P v v1 mk → PI c v Ms mk V i →
    ∃ (v2 : pm_W) (mk2 V2 : Nat → Bool), l_Md_live (m + d + 1) 4 (nI (ws c V i)) x2 (nI i) v1 = l_Md_live m 3 (nI (ws c V2 206)) x2 0 v2 ∧ MI DM P v v2 mk2 ∧ PI c v Ms mk2 V2 206 := by
  obtain ⟨hdn, hkn, e1, e2, hc, hr, hf⟩ := hG
  intro d
  induction d with
  | zero =>
    intro i m v1 mk V hi h hp
    have e : i = 206 := by omega
    subst e
    refine ⟨v1, mk, V, ?_, h, hp⟩
    show b_Md_live_125 (l_Md_live m) (nI (ws c V 206)) x2 (nI 206) v1 = _
    unfold b_Md_live_125
    rw [if_pos (by decide)]
  | succ d ih =>
    intro i m v1 mk V hi h hp
    have hlt : i < 206 := by omega
    obtain ⟨p1, p2, p3, p4, p5⟩ := hp
    have hb : ¬ (nI i < 0 ∨ 206 ≤ (nI i).toNatClampNeg) := nI_in hlt (by omega)
    have hb2 : ¬ (nI i < 0 ∨ 206 ≤ i) := by rw [nI_clamp (by omega)] at hb; exact hb
    have hge : ¬ (206 : Int32) ≤ nI i := nI_ge (b := 206) (by omega) (by omega)
    by_cases hm : mk i = true
    · obtain ⟨hi2, hDi, hPi⟩ := h.2.1 i hm
      obtain ⟨hci, hwi⟩ := hc i hlt hDi
      have e2' : v1.1 2 = v.1 2 := h.2.2.2 2 (by decide)
      obtain ⟨v2, m2, a1, a2, a3, a4, a5⟩ := mark_ok h (a := v.1 2 i) (hf i hlt hDi _ (Or.inl rfl)) (fun s hs hD e => hC.2 i hlt hDi hPi _ (Or.inl rfl) s hs hD e)
      have e3' : v2.1 3 = v.1 3 := a2.2.2.2 3 (by decide)
      obtain ⟨v3, m3, b1, b2, b3, b4, b5⟩ := mark_ok a2 (a := v.1 3 i) (hf i hlt hDi _ (Or.inr (Or.inl rfl))) (fun s hs hD e => hC.2 i hlt hDi hPi _ (Or.inr (Or.inl rfl)) s hs hD e)
      have e1' : v3.1 1 i = nI (c i) := by rw [b2.2.2.2 1 (by decide)]; exact hwi
      have hhead : ∀ z, b_Md_live_125 (l_Md_live (m + d + 1)) (nI (ws c V i)) x2 (nI i) v1 = z ↔ (if v3.1 1 i = 3 then (Option.bind (f_Md_mark (v3.1 4 i) v3) fun o27 => l_Md_live (m + d + 1) 4 (nI (ws c V i) + o27.1 1 i) x2 (nI (i + 1)) o27) else l_Md_live (m + d + 1) 4 (nI (ws c V i) + v3.1 1 i) x2 (nI (i + 1)) v3) = z := by
        intro z
        unfold b_Md_live_125
        rw [if_neg hge, if_neg hb, nI_clamp (show i < 2 ^ 31 by omega), h.1 i hlt, if_pos hm, if_neg (by decide), if_neg hb2, e2', a1, Option.bind_some, if_neg hb2, e3', b1, Option.bind_some, if_neg hb2, if_neg hb2, show nI i + (1 : Int32) = nI (i + 1) from nI_1 i]
        simp only [if_neg hb2]
      have key : ∃ (v4 : pm_W) (m4 : Nat → Bool), MI DM P v v4 m4 ∧ (∀ t, mk t = true → m4 t = true) ∧ (∀ a, chM v c i a → ∀ t, t < 206 → a = ptrM t → m4 t = true) ∧ (∀ t, m4 t = true → mk t = true ∨ ∃ a, chM v c i a ∧ a = ptrM t) ∧ b_Md_live_125 (l_Md_live (m + d + 1)) (nI (ws c V i)) x2 (nI i) v1 = l_Md_live (m + d + 1) 4 (nI (ws c V i + c i)) x2 (nI (i + 1)) v4 := by
        by_cases h3 : c i = 3
        · have e4' : v3.1 4 = v.1 4 := b2.2.2.2 4 (by decide)
          obtain ⟨v4, m4, c1, c2, c3, c4, c5⟩ := mark_ok b2 (a := v.1 4 i) (hf i hlt hDi _ (Or.inr (Or.inr ⟨h3, rfl⟩))) (fun s hs hD e => hC.2 i hlt hDi hPi _ (Or.inr (Or.inr ⟨h3, rfl⟩)) s hs hD e)
          refine ⟨v4, m4, c2, fun t ht => c3 t (b3 t (a3 t ht)), fun a ha t ht e => ?_, fun t ht => ?_, ?_⟩
          · rcases ha with ha | ha | ⟨_, ha⟩
            · exact c3 t (b3 t (a4 t ht (by rw [← ha]; exact e)))
            · exact c3 t (b4 t ht (by rw [← ha]; exact e))
            · exact c4 t ht (by rw [← ha]; exact e)
          · rcases c5 t ht with q | q
            · rcases b5 t q with q | q
              · rcases a5 t q with q | q
                · exact Or.inl q
                · exact Or.inr ⟨_, Or.inl rfl, q⟩
              · exact Or.inr ⟨_, Or.inr (Or.inl rfl), q⟩
            · exact Or.inr ⟨_, Or.inr (Or.inr ⟨h3, rfl⟩), q⟩
          · rw [hhead, e1', h3, if_pos (by decide), e4', c1, Option.bind_some, show v4.1 1 i = nI 3 by rw [c2.2.2.2 1 (by decide), hwi, h3], nI_add]
        · have h2 : c i = 2 := by omega
          refine ⟨v3, m3, b2, fun t ht => b3 t (a3 t ht), fun a ha t ht e => ?_, fun t ht => ?_, ?_⟩
          · rcases ha with ha | ha | ⟨q, ha⟩
            · exact b3 t (a4 t ht (by rw [← ha]; exact e))
            · exact b4 t ht (by rw [← ha]; exact e)
            · exact absurd q h3
          · rcases b5 t ht with q | q
            · rcases a5 t q with q | q
              · exact Or.inl q
              · exact Or.inr ⟨_, Or.inl rfl, q⟩
            · exact Or.inr ⟨_, Or.inr (Or.inl rfl), q⟩
          · rw [hhead, e1', h2, if_neg (by decide), nI_add]
      obtain ⟨v4, m4, k1, k2, k3, k4, k5⟩ := key
      have hp' : PI c v Ms m4 (fun t => if t = i then true else V t) (i + 1) := by
        refine ⟨fun t ht => ?_, fun t ht hM => ?_, fun s hs a ha t ht e => ?_, fun t ht => ?_, fun t ht => k2 t (p5 t ht)⟩
        · by_cases e : t = i
          · subst e; exact ⟨by omega, k2 t hm⟩
          · simp [e] at ht
            exact ⟨by have := (p1 t ht).1; omega, k2 t (p1 t ht).2⟩
        · by_cases e : t = i
          · simp [e]
          · simp [e]; exact p2 t (by omega) hM
        · by_cases e2 : s = i
          · subst e2; exact k3 a ha t ht e
          · simp [e2] at hs
            exact k2 t (p3 s hs a ha t ht e)
        · rcases k4 t ht with q | ⟨a, q1, q2⟩
          · rcases p4 t q with q | ⟨s, hs, a, q1, q2⟩
            · exact Or.inl q
            · refine Or.inr ⟨s, ?_, a, q1, q2⟩
              by_cases e : s = i
              · simp [e]
              · simp [e, hs]
          · exact Or.inr ⟨i, by simp, a, q1, q2⟩
      obtain ⟨v5, m5, V5, d1, d2, d3⟩ := ih (i + 1) m v4 m4 _ (by omega) k1 hp'
      refine ⟨v5, m5, V5, ?_, d2, d3⟩
      rw [← d1, ws_step true, if_pos rfl]
      exact k5
    · have hp' : PI c v Ms mk (fun t => if t = i then false else V t) (i + 1) := by
        refine ⟨fun t ht => ?_, fun t ht hM => ?_, fun s hs a ha t ht e => ?_, fun t ht => ?_, p5⟩
        · by_cases e : t = i
          · simp [e] at ht
          · simp [e] at ht
            exact ⟨by have := (p1 t ht).1; omega, (p1 t ht).2⟩
        · by_cases e : t = i
          · subst e; exact absurd (p5 t hM) hm
          · simp [e]; exact p2 t (by omega) hM
        · by_cases e2 : s = i
          · simp [e2] at hs
          · simp [e2] at hs
            exact p3 s hs a ha t ht e
        · rcases p4 t ht with q | ⟨s, hs, a, q1, q2⟩
          · exact Or.inl q
          · refine Or.inr ⟨s, ?_, a, q1, q2⟩
            have : s ≠ i := fun e => hm (by rw [← e]; exact (p1 s hs).2)
            simp [this, hs]
      obtain ⟨v5, m5, V5, d1, d2, d3⟩ := ih (i + 1) m v1 mk _ (by omega) h hp'
      refine ⟨v5, m5, V5, ?_, d2, d3⟩
      rw [← d1, ws_step false]
      show b_Md_live_125 (l_Md_live (m + d + 1)) (nI (ws c V i)) x2 (nI i) v1 = _
      unfold b_Md_live_125
      rw [if_neg hge, if_neg hb, nI_clamp (show i < 2 ^ 31 by omega), h.1 i hlt, if_neg hm, if_pos rfl, show nI i + (1 : Int32) = nI (i + 1) from nI_1 i]
      simp
