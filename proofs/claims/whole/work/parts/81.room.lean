/-! room: both sides ask for cells -/
theorem ixc {i n : Nat} (h : i < n) (hi : i < 2 ^ 31) : ¬ (nI i < 0 ∨ n ≤ i) := fun q => by
  rcases q with q | q
  · exact nI_pos hi q
  · omega
theorem q_le {a b : Nat} (h : a ≤ b) (hb : b < 2 ^ 31) : nI a ≤ nI b := by rw [z_le (by omega) hb]; exact h
theorem q_nle {a b : Nat} (h : b < a) (ha : a < 2 ^ 31) : ¬ nI a ≤ nI b := by rw [z_le ha (by omega)]; omega
theorem q_lt {a b : Nat} (h : a < b) (hb : b < 2 ^ 31) : nI a < nI b := by rw [z_lt (by omega) hb]; exact h
theorem q_nlt {a b : Nat} (h : b ≤ a) (ha : a < 2 ^ 31) : ¬ nI a < nI b := by rw [z_lt ha (by omega)]; omega
theorem q_ne {a b : Nat} (h : a ≠ b) (ha : a < 2 ^ 31) (hb : b < 2 ^ 31) : ¬ nI a = nI b := by rw [z_eq ha hb]; exact h
theorem RL_HR {S sz m kn dn : Nat} {κ τ ρ φ : Nat → Nat} {L : List Nat} {w v : pm_W} (h : RL S sz m kn dn κ τ ρ φ L w v) : HR S φ κ (fun s => s ∈ L) w v dn kn := by
  obtain ⟨c, mh, ht, ms, st, mg, gt⟩ := h
  obtain ⟨hn, hκ, hS, hkn, hs⟩ := ht
  obtain ⟨m0, m1, m2, m3⟩ := mh
  obtain ⟨d1, d2, d3, d4, d5, d6⟩ := ms
  have hL : ∀ s ∈ L, s < 1000 ∧ φ s < 206 := fun s q => ⟨by have := (hs s q).1; omega, (m1 s q).1⟩
  have P : ∀ a, gv kn κ L a → pr φ κ (fun s => s ∈ L) a (tr φ a) := fun a q => gv_pr hκ hkn hL (Or.inr q)
  refine ⟨hκ, hS, d1, hkn, d2, d3, mg.1, mg.2.1, c.2.2.1, fun s q => ⟨(hs s q).1, (m1 s q).1, (m1 s q).2.1⟩, fun s t q r e => m2 s q t r e, fun s q => ?_, ?_, ?_, fun i hi => ?_, fun i hi => ?_⟩
  · obtain ⟨e1, e2, e3, e4, e5⟩ := m1 s q
    obtain ⟨t1, t2, t3, t4, t5⟩ := hs s q
    exact ⟨by rw [e3]; exact P _ t2, by rw [e4]; exact P _ t3, fun k => by rw [e5 k]; exact P _ (Lst_gv (t4 k).2.2), fun k => (t5 k).1⟩
  · rw [d4]; exact P _ st.1
  · rw [d5]; exact P _ (Lst_gv st.2.1)
  · obtain ⟨f1, f2, f3⟩ := st.2.2 i hi
    obtain ⟨g0, g1, g2, g3⟩ := d6 i hi
    refine ⟨?_, by rw [g2]; exact P _ (Lst_gv f1), by rw [g3]; exact P _ (Lst_gv f2)⟩
    rw [g1]
    apply P
    rcases f3 with ⟨_, s, a1, a2, _, a3⟩ | ⟨_, y, a1, a2⟩ | ⟨_, a1⟩
    · exact Or.inr (Or.inr (Or.inr (Or.inr ⟨s, a1, by rw [a3, ptr_C a2]⟩)))
    · exact Or.inr (Or.inl ⟨y, a1, a2⟩)
    · exact Lst_gv a1
  · rw [mg.2.2.1 i hi]
    exact gv_pr hκ hkn hL (gt i hi)
/-- fewer slots: those that can be reached -/
theorem RL_shr {S sz m kn dn : Nat} {κ τ ρ φ : Nat → Nat} {L L2 : List Nat} {w v : pm_W} (h : RL S sz m kn dn κ τ ρ φ L w v) (hn : L2.Nodup) (hsub : ∀ s ∈ L2, s ∈ L) (hr : ∀ a, rtC w dn kn a → ∀ s ∈ L, a = ptr κ s → s ∈ L2) (hc : ∀ s ∈ L2, ∀ a, chC w s a → ∀ t ∈ L, a = ptr κ t → t ∈ L2) : RL S sz m kn dn κ τ ρ φ L2 w v := by
  obtain ⟨c, mh, ht, ms, st, mg, gt⟩ := h
  obtain ⟨c1, c2, c3, c4, un, F, c5, c6, c7, c8, c9, c10, c11, c12⟩ := c
  obtain ⟨m0, m1, m2, m3⟩ := mh
  refine ⟨⟨c1, c2, c3, c4, un, F, c5, c6, c7, c8, fun s q => ⟨(c9 s q).1, fun r => (c9 s q).2 (hsub s r)⟩, ?_, c11, c12⟩, ⟨m0, fun s q => m1 s (hsub s q), fun s q t r => m2 s (hsub s q) t (hsub t r), m3⟩, ⟨hn, ht.2.1, ht.2.2.1, ht.2.2.2.1, fun s q => slT_sub hsub (ht.2.2.2.2 s (hsub s q)) (hc s q)⟩, ms, ⟨gv_sub st.1 (hr _ (Or.inl rfl)), Lst_sub st.2.1 (hr _ (Or.inr (Or.inl rfl))), fun i hi => frT_sub (st.2.2 i hi) (fun x hx => hr x (Or.inr (Or.inr (Or.inl ⟨i, hi, hx⟩))))⟩, mg, fun i hi => ?_⟩
  · have := lsum_sub (κ := κ) L2 L hn hsub
    omega
  · rcases gt i hi with q | q
    · exact Or.inl q
    · exact Or.inr (gv_sub q (hr _ (Or.inr (Or.inr (Or.inr ⟨i, hi, rfl⟩)))))
/-- the class's worlds agree but for the room's lists and counts -/
def smR (w w2 : pm_W) : Prop := w2.2 = w.2 ∧ (∀ o, o ≠ 5 → o ≠ 20 → o ≠ 21 → o ≠ 22 → w2.1 o = w.1 o) ∧ ∀ k, k ≠ 8 → k ≠ 9 → k ≠ 10 → w2.1 5 k = w.1 5 k
theorem smR_rf {w : pm_W} : smR w w := ⟨rfl, fun _ _ _ _ _ => rfl, fun _ _ _ _ => rfl⟩
/-- the reference's: but for cells and used -/
def smQ (v v2 : pm_W) : Prop := v2.2 = v.2 ∧ ∀ o, o ≠ 1 → o ≠ 5 → v2.1 o = v.1 o
theorem room_l {v : pm_W} {R : Nat → Bool} {x : Int32} (hx : x &&& 1 = x) : ∀ (d i m : Nat) (v1 : pm_W), i + d = 206 → (∀ t, t < 206 → v1.1 5 t = if R t = true then 1 else 0) → (∀ t, t < 206 → v1.1 1 t = if t < i then (if R t = true then v.1 1 t else 0) else v.1 1 t) → smQ v v1 → ∃ v2, l_Md_room (m + d + 1) 0 x (nI i) v1 = some (x, v2) ∧ (∀ t, t < 206 → v2.1 1 t = if R t = true then v.1 1 t else 0) ∧ smQ v v2 := by
  intro d
  induction d with
  | zero =>
    intro i m v1 hi h5 h1 hq
    have e : i = 206 := by omega
    subst e
    refine ⟨v1, ?_, fun t ht => by rw [h1 t ht, if_pos ht], hq⟩
    show l_Md_room (m + 1) 0 x (nI 206) v1 = _
    rw [l_Md_room_s]
    unfold b_Md_room_21
    rw [if_pos (show (206 : Int32) ≤ nI 206 from Int32.le_refl _), if_pos hx]
  | succ d ih =>
    intro i m v1 hi h5 h1 hq
    have hi2 : i < 206 := by omega
    have hu : l_Md_room (m + (d + 1) + 1) 0 x (nI i) v1 = l_Md_room (m + d + 1) 0 x (nI (i + 1)) (pm_setI v1 1 i (if R i = true then v.1 1 i else 0)) := by
      rw [show m + (d + 1) + 1 = (m + d + 1) + 1 by omega, l_Md_room_s]
      unfold b_Md_room_21
      rw [if_neg (show ¬ (206 : Int32) ≤ nI i from q_nle (a := 206) hi2 (by omega)), if_neg (nI_in hi2 (by omega)), nI_clamp (by omega), h5 i hi2, nI_1]
      by_cases r : R i = true
      · rw [if_pos r, if_neg (by decide), if_neg (ixc hi2 (by omega)), if_neg (ixc hi2 (by omega)), h1 i hi2, if_neg (Nat.lt_irrefl i), if_pos r]
      · rw [if_neg r, if_pos rfl, if_neg (ixc hi2 (by omega)), if_neg r]
    rw [hu]
    refine ih (i + 1) m _ (by omega) (fun t ht => ?_) (fun t ht => ?_) ⟨hq.1, fun o o1 o2 => ?_⟩
    · rw [rdI_n _ (Or.inl (by decide))]
      exact h5 t ht
    · by_cases e : t = i
      · subst e
        rw [rdI_s, if_pos (show t < t + 1 by omega)]
      · rw [rdI_n _ (Or.inr e), h1 t ht]
        by_cases q : t < i
        · rw [if_pos q, if_pos (show t < i + 1 by omega)]
        · rw [if_neg q, if_neg (show ¬ t < i + 1 by omega)]
    · rw [rdI_o _ o1]
      exact hq.2 o o1 o2
theorem cnt_le {v : pm_W} {φ κ : Nat → Nat} {L : List Nat} {R : Nat → Bool} (hκ : k23 κ) (hn : L.Nodup) (hj : ∀ s ∈ L, ∀ t ∈ L, φ s = φ t → s = t) (hb : ∀ s ∈ L, φ s < 206) (hR : ∀ t, R t = true ↔ ∃ s ∈ L, φ s = t) (hv : ∀ t, t < 206 → R t = false → v.1 1 t = 0) : 2 * cnt v ≤ lsum κ L := by
  have h1 : cnt v ≤ sumTo (fun t => if R t = true then 1 else 0) 206 := by
    unfold cnt
    refine sumTo_le 206 (fun t ht => ?_)
    cases q : R t with
    | true => simp only [if_true]; split <;> omega
    | false => rw [hv t ht q]; simp
  have h2 : sumTo (fun t => if R t = true then 1 else 0) 206 = lsum (fun _ => 1) L := ws_lsum (c := fun _ => 1) (φ := φ) L R hn hj (fun s hs => ⟨hb s hs, rfl⟩) (fun t _ => hR t)
  rw [lsum_one] at h2
  have := lsum_two hκ L
  omega
/-- after a room of the reference: what is there is what can be reached -/
theorem RL_Q {S sz m m2 kn dn : Nat} {κ τ ρ φ : Nat → Nat} {L : List Nat} {w w2 v v2 : pm_W} (h : RL S sz m kn dn κ τ ρ φ L w v) (hw : smR w w2) (hc : CH S sz m2 κ L w2) (hv : smQ v v2) (hk : ∀ s ∈ L, v2.1 1 (φ s) = nI (κ s)) (hm : 2 * cnt v2 + m2 ≤ 400) : RL S sz m2 kn dn κ τ ρ φ L w2 v2 := by
  obtain ⟨c, mh, ht, ms, st, mg, gt⟩ := h
  obtain ⟨m0, m1, mj, m3⟩ := mh
  have W : ∀ o, o ≠ 5 → o ≠ 20 → o ≠ 21 → o ≠ 22 → w2.1 o = w.1 o := hw.2.1
  have V : ∀ o, o ≠ 1 → o ≠ 5 → v2.1 o = v.1 o := hv.2
  refine ⟨hc, ⟨?_, fun s q => ?_, mj, hm⟩, ⟨ht.1, ht.2.1, ht.2.2.1, ht.2.2.2.1, fun s q => ?_⟩, ?_, ?_, ?_, ?_⟩
  · rw [V 0 (by decide) (by decide)]; exact m0
  · obtain ⟨e1, e2, e3, e4, e5⟩ := m1 s q
    rw [V 2 (by decide) (by decide), V 3 (by decide) (by decide), V 4 (by decide) (by decide), W 17 (by decide) (by decide) (by decide) (by decide), W 18 (by decide) (by decide) (by decide) (by decide), W 19 (by decide) (by decide) (by decide) (by decide)]
    exact ⟨e1, hk s q, e3, e4, e5⟩
  · unfold slT
    rw [W 17 (by decide) (by decide) (by decide) (by decide), W 18 (by decide) (by decide) (by decide) (by decide), W 19 (by decide) (by decide) (by decide) (by decide)]
    exact ht.2.2.2.2 s q
  · unfold MSt
    rw [V 0 (by decide) (by decide), V 6 (by decide) (by decide), V 7 (by decide) (by decide), V 8 (by decide) (by decide), V 9 (by decide) (by decide), W 4 (by decide) (by decide) (by decide) (by decide), W 13 (by decide) (by decide) (by decide) (by decide), W 14 (by decide) (by decide) (by decide) (by decide), W 15 (by decide) (by decide) (by decide) (by decide), W 16 (by decide) (by decide) (by decide) (by decide)]
    exact ms
  · unfold STy
    rw [W 4 (by decide) (by decide) (by decide) (by decide), W 13 (by decide) (by decide) (by decide) (by decide), W 14 (by decide) (by decide) (by decide) (by decide), W 15 (by decide) (by decide) (by decide) (by decide), W 16 (by decide) (by decide) (by decide) (by decide)]
    exact st
  · unfold MGl
    rw [V 0 (by decide) (by decide), V 11 (by decide) (by decide), W 3 (by decide) (by decide) (by decide) (by decide), W 12 (by decide) (by decide) (by decide) (by decide)]
    exact mg
  · unfold GTy
    rw [W 12 (by decide) (by decide) (by decide) (by decide)]
    exact gt

theorem hasF {S sz n a : Nat} {w w2 : pm_W} (h0 : w.1 5 0 = nI sz) (hz : sz ≤ 400) (hn : n ≤ 1000) (h1 : w.1 5 10 = nI a) (ha : a ≤ 400) (hc : f_Room_collect S w = some w2) {b : Nat} (h2 : w2.1 5 10 = nI b) (hb : b ≤ a) (h3 : w2.1 5 0 = nI sz) : f_Room_hasFor S (nI n) w = if a + n ≤ sz then some (1, w) else if b + n ≤ sz then some (1, w2) else some (0, w2) := by
  unfold f_Room_hasFor
  rw [hc, h0, h1, nI_add]
  by_cases q : a + n ≤ sz
  · rw [if_pos (q_le q (by omega)), if_neg (q_nlt q (by omega)), if_pos q]
  · rw [if_neg (q_nle (by omega) (by omega)), if_neg q]
    simp only [Option.bind_some]
    rw [h2, h3, nI_add]
    by_cases r : b + n ≤ sz
    · rw [if_neg (q_nlt r (by omega)), if_pos r]
    · rw [if_pos (q_lt (by omega) (by omega)), if_neg r]
theorem room_sim {S sz m kn dn : Nat} {κ τ ρ φ : Nat → Nat} {L : List Nat} {w v : pm_W} (h : RL S sz m kn dn κ τ ρ φ L w v) {n : Nat} (hn : n ≤ 1000) : ∃ (b : Bool) (L2 : List Nat) (w2 v2 : pm_W), f_Room_hasFor S (nI n) w = some (if b = true then 1 else 0, w2) ∧ f_Md_room (nI n) v = some (if b = true then 1 else 0, v2) ∧ RL S sz (if b = true then n else 0) kn dn κ τ ρ φ L2 w2 v2 ∧ smR w w2 ∧ smQ v v2 := by
  obtain ⟨w2, v2, L2, R, e1, e2, g, e3, e4, e5⟩ := gc_sim (RL_HR h) h.1.2.2.2.1
  obtain ⟨g1, g2, g3, g4, g5, g6, g7, g8, g9, g10, g11, g12⟩ := g
  have hsub : ∀ s ∈ L2, s ∈ L := fun s q => (g2 s q).2
  have hS1 : ∀ s ∈ L, s < S := fun s q => (h.2.2.1.2.2.2.2 s q).1
  have h2 : RL S sz m kn dn κ τ ρ φ L2 w v := RL_shr h g1 hsub (fun a ha s hs e => g3 a ha s (hS1 s hs) e) (fun s hs a ha t ht e => g4 s hs a ha t (hS1 t ht) e)
  have hκ := h.2.2.1.2.1
  obtain ⟨⟨c0, c1, c1'⟩, c2, c3, c4, un, F, c5, c6, c7, c8, c9, c10, c11, c12⟩ := h2.1
  have hw : smR w w2 := ⟨g10, g11, g12⟩
  have hk1 := fl_all L2 S
  have hk2 := lsum_two hκ L2
  have hC : ∀ m2, lsum κ L2 + m2 ≤ sz → CH S sz m2 κ L2 w2 := fun m2 hm2 => ⟨⟨c0, c1, c1'⟩, by rw [g12 0 (by decide) (by decide) (by decide)]; exact c2, by rw [g12 1 (by decide) (by decide) (by decide)]; exact c3, g9, lsum κ L2, fl L2 S, g6, g7, g8, fl_nd _ _, fun s q => ⟨(fl_mem.mp q).1, (fl_mem.mp q).2⟩, Nat.le_refl _, by omega, hm2⟩
  have hH := hasF (S := S) (n := n) c2 c1 hn c5 (by omega) e1 g6 c10 (by rw [g12 0 (by decide) (by decide) (by decide)]; exact c2)
  obtain ⟨m0, m1, mj, m3⟩ := h2.2.1
  have hv0 : v2.1 0 1 = nI sz := by rw [e5.2 0 (by decide)]; exact m0
  have key : ∀ x : Int32, x &&& 1 = x → ∃ v3, l_Md_room pm_fuel 0 x 0 v2 = some (x, v3) ∧ (∀ t, t < 206 → v3.1 1 t = if R t = true then v.1 1 t else 0) ∧ smQ v v3 := fun x hx => by
    obtain ⟨v3, k1, k2, k3⟩ := room_l (v := v) (R := R) hx 206 0 (pm_fuel - 207) v2 rfl e3 (fun t ht => by rw [if_neg (Nat.not_lt_zero t), e5.2 1 (by decide)]) ⟨e5.1, fun o _ o5 => e5.2 o o5⟩
    refine ⟨v3, ?_, k2, k3⟩
    rw [show pm_fuel - 207 + 206 + 1 = pm_fuel by show 100000 - 207 + 206 + 1 = 100000; omega, nI_0] at k1
    exact k1
  have hM : f_Md_room (nI n) v = if lsum κ L2 + n ≤ sz then l_Md_room pm_fuel 0 1 0 v2 else l_Md_room pm_fuel 0 0 0 v2 := by
    unfold f_Md_room
    rw [e2]
    simp only [Option.bind_some]
    rw [hv0, nI_add]
    by_cases r : lsum κ L2 + n ≤ sz
    · rw [if_neg (q_nlt r (by omega)), if_pos r]
    · rw [if_pos (q_lt (by omega) (by omega)), if_neg r]
  have fin : ∀ (m2 : Nat) (w3 v3 : pm_W), smR w w3 → CH S sz m2 κ L2 w3 → lsum κ L2 + m2 ≤ sz → (∀ t, t < 206 → v3.1 1 t = if R t = true then v.1 1 t else 0) → smQ v v3 → RL S sz m2 kn dn κ τ ρ φ L2 w3 v3 := fun m2 w3 v3 q1 q2 q3 q4 q5 => by
    refine RL_Q h2 q1 q2 q5 (fun s hs => ?_) ?_
    · rw [q4 (φ s) (m1 s hs).1, if_pos ((e4 _).mpr ⟨s, hs, rfl⟩)]
      exact (m1 s hs).2.1
    · have := cnt_le (v := v3) (φ := φ) hκ g1 mj (fun s hs => (m1 s hs).1) e4 (fun t ht hf => by rw [q4 t ht, hf]; rfl)
      omega
  by_cases q : lsum κ L2 + n ≤ sz
  · obtain ⟨v3, k1, k2, k3⟩ := key 1 (by decide)
    rw [if_pos q] at hM
    by_cases r : un + n ≤ sz
    · rw [if_pos r] at hH
      exact ⟨true, L2, w, v3, hH, hM.trans k1, fin n w v3 smR_rf ⟨⟨c0, c1, c1'⟩, c2, c3, c4, un, F, c5, c6, c7, c8, c9, c10, c11, r⟩ q k2 k3, smR_rf, k3⟩
    · rw [if_neg r, if_pos q] at hH
      exact ⟨true, L2, w2, v3, hH, hM.trans k1, fin n w2 v3 hw (hC n q) q k2 k3, hw, k3⟩
  · obtain ⟨v3, k1, k2, k3⟩ := key 0 (by decide)
    rw [if_neg q] at hM
    rw [if_neg (by omega), if_neg q] at hH
    exact ⟨false, L2, w2, v3, hH, hM.trans k1, fin 0 w2 v3 hw (hC 0 (by omega)) (by omega) k2 k3, hw, k3⟩
/-- liveCells -/
theorem live_sim {S sz m kn dn : Nat} {κ τ ρ φ : Nat → Nat} {L : List Nat} {w v : pm_W} (h : RL S sz m kn dn κ τ ρ φ L w v) : ∃ (L2 : List Nat) (w2 v2 : pm_W) (n : Nat), f_Room_collect S w = some w2 ∧ w2.1 5 10 = nI n ∧ f_Md_live v = some (nI n, v2) ∧ RL S sz 0 kn dn κ τ ρ φ L2 w2 v2 ∧ smR w w2 ∧ sm5 v v2 := by
  obtain ⟨w2, v2, L2, R, e1, e2, g, e3, e4, e5⟩ := gc_sim (RL_HR h) h.1.2.2.2.1
  obtain ⟨g1, g2, g3, g4, g5, g6, g7, g8, g9, g10, g11, g12⟩ := g
  have hsub : ∀ s ∈ L2, s ∈ L := fun s q => (g2 s q).2
  have hS1 : ∀ s ∈ L, s < S := fun s q => (h.2.2.1.2.2.2.2 s q).1
  have h2 : RL S sz m kn dn κ τ ρ φ L2 w v := RL_shr h g1 hsub (fun a ha s hs e => g3 a ha s (hS1 s hs) e) (fun s hs a ha t ht e => g4 s hs a ha t (hS1 t ht) e)
  have hκ := h.2.2.1.2.1
  obtain ⟨⟨c0, c1, c1'⟩, c2, c3, c4, un, F, c5, c6, c7, c8, c9, c10, c11, c12⟩ := h2.1
  have hw : smR w w2 := ⟨g10, g11, g12⟩
  have hk1 := fl_all L2 S
  have hk2 := lsum_two hκ L2
  refine ⟨L2, w2, v2, lsum κ L2, e1, g6, e2, RL_Q h2 hw ⟨⟨c0, c1, c1'⟩, by rw [g12 0 (by decide) (by decide) (by decide)]; exact c2, by rw [g12 1 (by decide) (by decide) (by decide)]; exact c3, g9, lsum κ L2, fl L2 S, g6, g7, g8, fl_nd _ _, fun s q => ⟨(fl_mem.mp q).1, (fl_mem.mp q).2⟩, Nat.le_refl _, by omega, by omega⟩ ⟨e5.1, fun o _ o5 => e5.2 o o5⟩ (fun s hs => by rw [e5.2 1 (by decide)]; exact (h2.2.1.2.1 s hs).2.1) ?_, hw, e5⟩
  have := h2.2.1.2.2.2
  have e : cnt v2 = cnt v := by unfold cnt; rw [e5.2 1 (by decide)]
  omega
