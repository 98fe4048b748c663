/-! class and reference reach the same -/
theorem sumTo_ins {f g : Nat → Nat} {t0 x : Nat} : ∀ N, t0 < N → (∀ t, t < N → t ≠ t0 → f t = g t) → g t0 = 0 → f t0 = x → sumTo f N = sumTo g N + x := by
  intro N
  induction N with
  | zero => intro h; exact absurd h (Nat.not_lt_zero _)
  | succ N ih =>
    intro h1 h2 h3 h4
    simp only [sumTo]
    by_cases e : t0 = N
    · subst e
      rw [sumTo_cg t0 (fun t ht => h2 t (by omega) (by omega)), h3, h4]
      omega
    · rw [ih (by omega) (fun t ht hn => h2 t (by omega) hn) h3 h4, h2 N (by omega) (fun q => e q.symm)]
      omega
theorem ws_lsum {c κ φ : Nat → Nat} : ∀ (L : List Nat) (R : Nat → Bool), L.Nodup → (∀ s ∈ L, ∀ t ∈ L, φ s = φ t → s = t) → (∀ s ∈ L, φ s < 206 ∧ c (φ s) = κ s) → (∀ t, t < 206 → (R t = true ↔ ∃ s ∈ L, φ s = t)) → ws c R 206 = lsum κ L := by
  intro L
  induction L with
  | nil =>
    intro R _ _ _ hR
    unfold ws
    rw [sumTo_cg (g := fun _ => 0) 206 (fun t ht => by
      have : ¬ R t = true := fun q => by
        obtain ⟨s, hs, _⟩ := (hR t ht).mp q
        exact absurd hs List.not_mem_nil
      simp [this])]
    show sumTo (fun _ => 0) 206 = 0
    decide +kernel
  | cons s L ih =>
    intro R hn hi hc hR
    rw [List.nodup_cons] at hn
    have hs := hc s List.mem_cons_self
    have h1 := ih (fun t => if t = φ s then false else R t) hn.2 (fun a ha b hb e => hi a (List.mem_cons_of_mem _ ha) b (List.mem_cons_of_mem _ hb) e) (fun a ha => hc a (List.mem_cons_of_mem _ ha)) (fun t ht => by
      by_cases e : t = φ s
      · subst e
        simp only [if_true]
        constructor
        · intro q; exact absurd q (by decide)
        · rintro ⟨a, ha, e⟩
          have := hi a (List.mem_cons_of_mem _ ha) s List.mem_cons_self e
          exact absurd (this ▸ ha) hn.1
      · simp only [if_neg e]
        rw [hR t ht]
        constructor
        · rintro ⟨a, ha, q⟩
          rcases List.mem_cons.mp ha with r | r
          · exact absurd (by rw [← q, r]) e
          · exact ⟨a, r, q⟩
        · rintro ⟨a, ha, q⟩
          exact ⟨a, List.mem_cons_of_mem _ ha, q⟩)
    have h2 : lsum κ (s :: L) = lsum κ L + κ s := by
      simp [lsum]
      omega
    rw [h2, ← h1, ← hs.2]
    unfold ws
    refine sumTo_ins 206 hs.1 (fun t _ hn => ?_) ?_ ?_
    · simp [hn]
    · simp
    · have : R (φ s) = true := (hR _ hs.1).mpr ⟨s, List.mem_cons_self, rfl⟩
      simp [this]
/-- two values alike, as far as cells go -/
def pr (φ κ : Nat → Nat) (D : Nat → Prop) (a b : Int32) : Prop := ((¬ a &&& 7 = 4 ∧ ¬ a &&& 7 = 5) ∧ b < 536873000) ∨ ∃ s, D s ∧ a = ptr κ s ∧ b = ptrM (φ s)
/-- heaps alike, as far as cells go -/
def HR (S : Nat) (φ κ : Nat → Nat) (D : Nat → Prop) (w v : pm_W) (dn kn : Nat) : Prop := k23 κ ∧ S ≤ 200 ∧ dn ≤ 30 ∧ kn ≤ 40 ∧ w.1 4 3 = nI dn ∧ v.1 0 11 = nI dn ∧ w.1 3 2 = nI kn ∧ v.1 0 12 = nI kn ∧ w.1 5 1 = nI S ∧ (∀ s, D s → s < S ∧ φ s < 206 ∧ v.1 1 (φ s) = nI (κ s)) ∧ (∀ s t, D s → D t → φ s = φ t → s = t) ∧
  (∀ s, D s → pr φ κ D (w.1 17 s) (v.1 2 (φ s)) ∧ pr φ κ D (w.1 18 s) (v.1 3 (φ s)) ∧ (κ s = 3 → pr φ κ D (w.1 19 s) (v.1 4 (φ s))) ∧ (κ s = 2 → w.1 19 s = 2)) ∧
  pr φ κ D (w.1 4 0) (v.1 0 15) ∧ pr φ κ D (w.1 4 1) (v.1 0 16) ∧ (∀ i, i < dn → pr φ κ D (w.1 14 i) (v.1 7 i) ∧ pr φ κ D (w.1 15 i) (v.1 8 i) ∧ pr φ κ D (w.1 16 i) (v.1 9 i)) ∧ ∀ i, i < kn → pr φ κ D (w.1 12 i) (v.1 11 i)
theorem pr_okv {S : Nat} {φ κ : Nat → Nat} {D : Nat → Prop} {a b : Int32} (hD : ∀ s, D s → s < S) (h : pr φ κ D a b) : okv S κ D a := by
  rcases h with ⟨h, _⟩ | ⟨s, h1, h2, _⟩
  · exact Or.inl h
  · exact Or.inr ⟨s, hD s h1, h1, h2⟩
theorem pr_okM {φ κ : Nat → Nat} {D : Nat → Prop} {a b : Int32} (hD : ∀ s, D s → φ s < 206) (h : pr φ κ D a b) : okM (fun t => ∃ s, D s ∧ φ s = t) b := by
  rcases h with ⟨_, h⟩ | ⟨s, h1, _, h2⟩
  · exact Or.inl h
  · exact Or.inr ⟨φ s, hD s h1, ⟨s, h1, rfl⟩, h2⟩
theorem pr_to {φ κ : Nat → Nat} {D : Nat → Prop} {a b : Int32} (hκ : k23 κ) (hD : ∀ s, D s → s < 1000) (h : pr φ κ D a b) {s : Nat} (hs : s < 1000) (e : a = ptr κ s) : D s ∧ b = ptrM (φ s) := by
  rcases h with ⟨⟨h1, h2⟩, _⟩ | ⟨t, h1, h2, h3⟩
  · rw [e, (ptr_kind hκ hs).1] at h1 h2
    rcases hκ s with q | q
    · rw [q] at h1; exact absurd (by decide) h1
    · rw [q] at h2; exact absurd (by decide) h2
  · have : t = s := ptr_inj hκ (hD t h1) hs (h2 ▸ e)
    subst this
    exact ⟨h1, h3⟩
theorem pr_from {φ κ : Nat → Nat} {D : Nat → Prop} {a b : Int32} (hD : ∀ s, D s → φ s < 206) (h : pr φ κ D a b) {t : Nat} (ht : t < 206) (e : b = ptrM t) : ∃ s, D s ∧ φ s = t ∧ a = ptr κ s := by
  rcases h with ⟨_, h⟩ | ⟨s, h1, h2, h3⟩
  · rw [e] at h; exact absurd h (ptrM_thing ht)
  · exact ⟨s, h1, ptrM_inj (hD s h1) ht (h3 ▸ e), h2⟩
theorem gc_sim {S : Nat} {φ κ : Nat → Nat} {D : Nat → Prop} {w v : pm_W} {dn kn : Nat} (h : HR S φ κ D w v dn kn) (hz : ∀ s, s < S → w.1 20 s = 0) : ∃ (w2 v2 : pm_W) (L : List Nat) (R : Nat → Bool), f_Room_collect S w = some w2 ∧ f_Md_live v = some (nI (lsum κ L), v2) ∧ GD S κ D w w2 dn kn L ∧ (∀ t, t < 206 → v2.1 5 t = if R t = true then 1 else 0) ∧ (∀ t, R t = true ↔ ∃ s ∈ L, φ s = t) ∧ sm5 v v2 := by
  obtain ⟨hκ, hS, hdn, hkn, e1, e2, e3, e4, e5, hD, hinj, hF, r1, r2, r3, r4⟩ := h
  have hDs : ∀ s, D s → s < S := fun s hs => (hD s hs).1
  have hDt : ∀ s, D s → φ s < 206 := fun s hs => (hD s hs).2.1
  have hDk : ∀ s, D s → s < 1000 := fun s hs => by have := hDs s hs; omega
  have rt1 : ∀ a, rtC w dn kn a → ∃ b, rtM v dn kn b ∧ pr φ κ D a b := fun a ha => by
    rcases ha with rfl | rfl | ⟨i, hi, rfl | rfl | rfl⟩ | ⟨i, hi, rfl⟩
    · exact ⟨_, Or.inl rfl, r1⟩
    · exact ⟨_, Or.inr (Or.inl rfl), r2⟩
    · exact ⟨_, Or.inr (Or.inr (Or.inl ⟨i, hi, Or.inl rfl⟩)), (r3 i hi).1⟩
    · exact ⟨_, Or.inr (Or.inr (Or.inl ⟨i, hi, Or.inr (Or.inl rfl)⟩)), (r3 i hi).2.1⟩
    · exact ⟨_, Or.inr (Or.inr (Or.inl ⟨i, hi, Or.inr (Or.inr rfl)⟩)), (r3 i hi).2.2⟩
    · exact ⟨_, Or.inr (Or.inr (Or.inr ⟨i, hi, rfl⟩)), r4 i hi⟩
  have rt2 : ∀ b, rtM v dn kn b → ∃ a, rtC w dn kn a ∧ pr φ κ D a b := fun b hb => by
    rcases hb with rfl | rfl | ⟨i, hi, rfl | rfl | rfl⟩ | ⟨i, hi, rfl⟩
    · exact ⟨_, Or.inl rfl, r1⟩
    · exact ⟨_, Or.inr (Or.inl rfl), r2⟩
    · exact ⟨_, Or.inr (Or.inr (Or.inl ⟨i, hi, Or.inl rfl⟩)), (r3 i hi).1⟩
    · exact ⟨_, Or.inr (Or.inr (Or.inl ⟨i, hi, Or.inr (Or.inl rfl)⟩)), (r3 i hi).2.1⟩
    · exact ⟨_, Or.inr (Or.inr (Or.inl ⟨i, hi, Or.inr (Or.inr rfl)⟩)), (r3 i hi).2.2⟩
    · exact ⟨_, Or.inr (Or.inr (Or.inr ⟨i, hi, rfl⟩)), r4 i hi⟩
  obtain ⟨c, hc⟩ : ∃ c : Nat → Nat, c = fun t => (v.1 1 t).toNatClampNeg := ⟨_, rfl⟩
  have hck : ∀ s, D s → c (φ s) = κ s := fun s hs => by
    have := hκ s
    rw [hc]
    show (v.1 1 (φ s)).toNatClampNeg = _
    rw [(hD s hs).2.2, nI_clamp (by omega)]
  have ch1 : ∀ s, D s → ∀ a, chC w s a → (¬ a &&& 7 = 4 ∧ ¬ a &&& 7 = 5) ∨ ∃ b, chM v c (φ s) b ∧ pr φ κ D a b := fun s hs a ha => by
    obtain ⟨f1, f2, f3, f4⟩ := hF s hs
    rcases ha with rfl | rfl | rfl
    · exact Or.inr ⟨_, Or.inl rfl, f1⟩
    · exact Or.inr ⟨_, Or.inr (Or.inl rfl), f2⟩
    · rcases hκ s with q | q
      · rw [f4 q]; exact Or.inl (by decide)
      · exact Or.inr ⟨_, Or.inr (Or.inr ⟨by rw [hck s hs]; exact q, rfl⟩), f3 q⟩
  have ch2 : ∀ s, D s → ∀ b, chM v c (φ s) b → ∃ a, chC w s a ∧ pr φ κ D a b := fun s hs b hb => by
    obtain ⟨f1, f2, f3, f4⟩ := hF s hs
    rcases hb with rfl | rfl | ⟨q, rfl⟩
    · exact ⟨_, Or.inl rfl, f1⟩
    · exact ⟨_, Or.inr (Or.inl rfl), f2⟩
    · exact ⟨_, Or.inr (Or.inr rfl), f3 (by rw [← hck s hs]; exact q)⟩
  have hGP : GP S κ D w dn kn := ⟨hκ, hS, hdn, hkn, e1, e3, e5, fun a ha => by
    obtain ⟨b, _, hb⟩ := rt1 a ha
    exact pr_okv hDs hb, fun s _ hs a ha => by
    rcases ch1 s hs a ha with q | ⟨b, _, hb⟩
    · exact Or.inl q
    · exact pr_okv hDs hb⟩
  have hHP : HP c (fun t => ∃ s, D s ∧ φ s = t) v dn kn := by
    refine ⟨hdn, hkn, e2, e4, fun t ht hq => ?_, fun b hb => ?_, fun t ht hq b hb => ?_⟩
    · obtain ⟨s, hs, rfl⟩ := hq
      rw [hck s hs]
      exact ⟨hκ s, (hD s hs).2.2⟩
    · obtain ⟨a, _, ha⟩ := rt2 b hb
      exact pr_okM hDt ha
    · obtain ⟨s, hs, rfl⟩ := hq
      obtain ⟨a, _, ha⟩ := ch2 s hs b hb
      exact pr_okM hDt ha
  obtain ⟨w2, L, a1, a2⟩ := collect_ok hGP hz
  obtain ⟨v2, R, b1, b2⟩ := live_ok hHP
  obtain ⟨g1, g2, g3, g4, g5, g6⟩ := id a2
  have lr : ∀ s ∈ L, R (φ s) = true := g5 (fun s => R (φ s) = true) ⟨fun a ha s hs hDs' e => by
    obtain ⟨b, hb1, hb2⟩ := rt1 a ha
    obtain ⟨_, eb⟩ := pr_to hκ hDk hb2 (hDk s hDs') e
    exact b2.2.1 b hb1 (φ s) (hDt s hDs') eb, fun s hs hDs' hR a ha t ht hDt' e => by
    rcases ch1 s hDs' a ha with ⟨q1, q2⟩ | ⟨b, hb1, hb2⟩
    · rw [e, (ptr_kind hκ (hDk t hDt')).1] at q1 q2
      rcases hκ t with q | q
      · rw [q] at q1; exact absurd (by decide) q1
      · rw [q] at q2; exact absurd (by decide) q2
    · obtain ⟨_, eb⟩ := pr_to hκ hDk hb2 (hDk t hDt') e
      exact b2.2.2 (φ s) hR b hb1 (φ t) (hDt t hDt') eb⟩
  have rl : ∀ t, R t = true → ∃ s ∈ L, φ s = t := fun t ht => (b2.1.2.1 t ht).2.2 (fun t => ∃ s ∈ L, φ s = t) ⟨fun b hb t ht _ e => by
    obtain ⟨a, ha1, ha2⟩ := rt2 b hb
    obtain ⟨s, hs, es, ea⟩ := pr_from hDt ha2 ht e
    exact ⟨s, g3 a ha1 s (hDs s hs) ea, es⟩, fun t ht _ hq b hb t2 ht2 _ e => by
    obtain ⟨s, hs, rfl⟩ := hq
    obtain ⟨a, ha1, ha2⟩ := ch2 s (g2 s hs).2 b hb
    obtain ⟨s2, hs2, es, ea⟩ := pr_from hDt ha2 ht2 e
    exact ⟨s2, g4 s hs a ha1 s2 (hDs s2 hs2) ea, es⟩⟩
  have hsum : ws c R 206 = lsum κ L := ws_lsum (φ := φ) L R g1 (fun s hs t ht e => hinj s t (g2 s hs).2 (g2 t ht).2 e) (fun s hs => ⟨hDt s (g2 s hs).2, hck s (g2 s hs).2⟩) (fun t _ => ⟨rl t, fun ⟨s, hs, e⟩ => by rw [← e]; exact lr s hs⟩)
  exact ⟨w2, v2, L, R, a1, by rw [b1, hsum], a2, b2.1.1, fun t => ⟨rl t, fun ⟨s, hs, e⟩ => by rw [← e]; exact lr s hs⟩, b2.1.2.2⟩
