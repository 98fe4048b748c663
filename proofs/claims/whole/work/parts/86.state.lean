/-! the state's small changes on both sides -/
def ag (os : List Nat) (w w1 : pm_W) : Prop := ∀ o ∈ os, w1.1 o = w.1 o
def agF (ks : List Nat) (v v1 : pm_W) : Prop := ∀ k ∈ ks, v1.1 0 k = v.1 0 k
theorem ag_rf {os : List Nat} {w : pm_W} : ag os w w := fun _ _ => rfl
theorem agF_rf {os : List Nat} {w : pm_W} : agF os w w := fun _ _ => rfl
theorem ag_tr {os : List Nat} {a b c : pm_W} (h1 : ag os a b) (h2 : ag os b c) : ag os a c := fun o h => (h2 o h).trans (h1 o h)
theorem agF_tr {os : List Nat} {a b c : pm_W} (h1 : agF os a b) (h2 : agF os b c) : agF os a c := fun o h => (h2 o h).trans (h1 o h)
theorem ag_set {os : List Nat} {w w1 : pm_W} {o k : Nat} {x : Int32} (h : ag os w w1) (ho : o ∉ os) : ag os w (pm_setI w1 o k x) := fun a ha => by
  rw [rdI_o _ (show a ≠ o from fun e => ho (e ▸ ha))]
  exact h a ha
theorem agF_o {os : List Nat} {w w1 : pm_W} {o k : Nat} {x : Int32} (h : agF os w w1) (ho : 0 ≠ o) : agF os w (pm_setI w1 o k x) := fun a ha => by
  rw [rdI_n _ (Or.inl ho)]
  exact h a ha
theorem agF_set {os : List Nat} {w w1 : pm_W} {k : Nat} {x : Int32} (h : agF os w w1) (ho : k ∉ os) : agF os w (pm_setI w1 0 k x) := fun a ha => by
  rw [rdI_n _ (Or.inr (show a ≠ k from fun e => ho (e ▸ ha)))]
  exact h a ha
theorem ag_sub {os os2 : List Nat} {w w1 : pm_W} (h : ag os w w1) (hs : ∀ o ∈ os2, o ∈ os) : ag os2 w w1 := fun o q => h o (hs o q)
/-- objects that a step leaves alone -/
def frW (w w1 : pm_W) : Prop := w1.2 = w.2 ∧ ag [1, 2, 3, 6, 7, 9, 10] w w1
def frV (v v1 : pm_W) : Prop := v1.2 = v.2 ∧ agF [0, 1, 12, 17, 19, 20, 22, 29, 30] v v1 ∧ ag [10, 12, 13] v v1
theorem frW_rf {w : pm_W} : frW w w := ⟨rfl, ag_rf⟩
theorem frV_rf {w : pm_W} : frV w w := ⟨rfl, agF_rf, ag_rf⟩
theorem frW_tr {a b c : pm_W} (h1 : frW a b) (h2 : frW b c) : frW a c := ⟨h2.1.trans h1.1, ag_tr h1.2 h2.2⟩
theorem frV_tr {a b c : pm_W} (h1 : frV a b) (h2 : frV b c) : frV a c := ⟨h2.1.trans h1.1, agF_tr h1.2.1 h2.2.1, ag_tr h1.2.2 h2.2.2⟩
theorem frW_set {w w1 : pm_W} {o k : Nat} {x : Int32} (h : frW w w1) (ho : o ∉ [1, 2, 3, 6, 7, 9, 10]) : frW w (pm_setI w1 o k x) := ⟨h.1, ag_set h.2 ho⟩
theorem frV_o {w w1 : pm_W} {o k : Nat} {x : Int32} (h : frV w w1) (h0 : 0 ≠ o) (ho : o ∉ [10, 12, 13]) : frV w (pm_setI w1 o k x) := ⟨h.1, agF_o h.2.1 h0, ag_set h.2.2 ho⟩
theorem frV_f {w w1 : pm_W} {k : Nat} {x : Int32} (h : frV w w1) (ho : k ∉ [0, 1, 12, 17, 19, 20, 22, 29, 30]) : frV w (pm_setI w1 0 k x) := ⟨h.1, agF_set h.2.1 ho, ag_set h.2.2 (by decide)⟩
theorem smR_fr {w w1 : pm_W} (h : smR w w1) : frW w w1 := ⟨h.1, fun o ho => by
  simp only [List.mem_cons, List.not_mem_nil, or_false] at ho
  rcases ho with rfl | rfl | rfl | rfl | rfl | rfl | rfl <;> exact h.2.1 _ (by decide) (by decide) (by decide) (by decide)⟩
theorem smA_fr {w w1 : pm_W} (h : smA w w1) : frW w w1 := ⟨h.1, fun o ho => by
  simp only [List.mem_cons, List.not_mem_nil, or_false] at ho
  rcases ho with rfl | rfl | rfl | rfl | rfl | rfl | rfl <;> exact h.2 _ (by decide) (by decide) (by decide) (by decide)⟩
theorem smQ_fr {w w1 : pm_W} (h : smQ w w1) : frV w w1 := ⟨h.1, fun k _ => by rw [h.2 0 (by decide) (by decide)], fun o ho => by
  simp only [List.mem_cons, List.not_mem_nil, or_false] at ho
  rcases ho with rfl | rfl | rfl <;> exact h.2 _ (by decide) (by decide)⟩
theorem smB_fr {w w1 : pm_W} (h : smB w w1) : frV w w1 := ⟨h.1, fun k _ => by rw [h.2 0 (by decide) (by decide) (by decide) (by decide)], fun o ho => by
  simp only [List.mem_cons, List.not_mem_nil, or_false] at ho
  rcases ho with rfl | rfl | rfl <;> exact h.2 _ (by decide) (by decide) (by decide) (by decide)⟩
section
variable {S sz m kn dn : Nat} {κ τ ρ φ : Nat → Nat} {L : List Nat} {w v w1 v1 : pm_W}
/-- room and globals, where the state alone has changed -/
theorem RH_st {m2 : Nat} (h : RH S sz m kn κ τ ρ φ L w v) (hm : m2 ≤ m) (hw : ag [3, 5, 12, 17, 18, 19, 20, 22] w w1) (hv : ag [1, 2, 3, 4, 11] v v1) (hf : agF [1, 12] v v1) : RH S sz m2 kn κ τ ρ φ L w1 v1 := by
  obtain ⟨hC, hM, hT, hG, hY⟩ := h
  obtain ⟨c1, c2, c3, c4, un, F, c5, c6, c7, c8, c9, c10, c11, c12⟩ := hC
  refine ⟨⟨c1, by rw [hw 5 (by decide)]; exact c2, by rw [hw 5 (by decide)]; exact c3, by rw [hw 20 (by decide)]; exact c4, un, F, by rw [hw 5 (by decide)]; exact c5, by rw [hw 5 (by decide)]; exact c6, by rw [hw 22 (by decide)]; exact c7, c8, c9, c10, c11, by omega⟩, ⟨by rw [hf 1 (by decide)]; exact hM.1, ?_, hM.2.2.1, ?_⟩, ?_, ⟨?_, ?_, ?_, ?_⟩, ?_⟩
  · rw [hv 1 (by decide), hv 2 (by decide), hv 3 (by decide), hv 4 (by decide), hw 17 (by decide), hw 18 (by decide), hw 19 (by decide)]
    exact hM.2.1
  · unfold cnt
    rw [hv 1 (by decide)]
    have := hM.2.2.2
    unfold cnt at this
    omega
  · unfold HT slT
    rw [hw 17 (by decide), hw 18 (by decide), hw 19 (by decide)]
    exact hT
  · rw [hw 3 (by decide)]; exact hG.1
  · rw [hf 12 (by decide)]; exact hG.2.1
  · rw [hv 11 (by decide), hw 12 (by decide)]; exact hG.2.2.1
  · rw [hv 11 (by decide)]; exact hG.2.2.2
  · unfold GTy
    rw [hw 12 (by decide)]; exact hY
theorem RL_mk (h : RH S sz m kn κ τ ρ φ L w v) (h1 : MSt φ dn w v) (h2 : STy dn kn κ τ L w) : RL S sz m kn dn κ τ ρ φ L w v := ⟨h.1, h.2.1, h.2.2.1, h1, h2, h.2.2.2⟩
theorem RL_0 (h : RL S sz m kn dn κ τ ρ φ L w v) : RL S sz 0 kn dn κ τ ρ φ L w v := RL_mk (RH_st (RL_RH h) (Nat.zero_le _) ag_rf ag_rf agF_rf) h.2.2.2.1 h.2.2.2.2.1
/-- a value comes back -/
theorem ret_sim (h : RL S sz m kn dn κ τ ρ φ L w v) {a : Int32} (ha : gv kn κ L a) : RL S sz 0 kn dn κ τ ρ φ L (pm_setI (pm_setI w 4 0 a) 4 2 0) (pm_setI (pm_setI v 0 15 (tr φ a)) 0 18 1) := by
  refine RL_mk (RH_st (RL_RH h) (Nat.zero_le _) (ag_set (ag_set ag_rf (by decide)) (by decide)) (ag_set (ag_set ag_rf (by decide)) (by decide)) (agF_set (agF_set agF_rf (by decide)) (by decide))) ?_ ?_
  · obtain ⟨d1, d2, d3, d4, d5, d6⟩ := h.2.2.2.1
    exact ⟨d1, by simp [pm_setI, pm_up, d2], by simp [pm_setI, pm_up, d3], by simp [pm_setI, pm_up], by simp [pm_setI, pm_up, d5], by simpa [pm_setI, pm_up] using d6⟩
  · obtain ⟨s1, s2, s3⟩ := h.2.2.2.2.1
    exact ⟨by simpa [pm_setI, pm_up] using ha, by simpa [pm_setI, pm_up] using s2, by simpa [pm_setI, pm_up] using s3⟩
/-- an expression is next -/
theorem go_sim (h : RL S sz m kn dn κ τ ρ φ L w v) {a e : Int32} (ha : gv kn κ L a) (he : Lst κ τ L 2 e) : RL S sz 0 kn dn κ τ ρ φ L (pm_setI (pm_setI (pm_setI w 4 0 a) 4 1 e) 4 2 1) (pm_setI (pm_setI (pm_setI v 0 15 (tr φ a)) 0 16 (tr φ e)) 0 18 0) := by
  refine RL_mk (RH_st (RL_RH h) (Nat.zero_le _) (ag_set (ag_set (ag_set ag_rf (by decide)) (by decide)) (by decide)) (ag_set (ag_set (ag_set ag_rf (by decide)) (by decide)) (by decide)) (agF_set (agF_set (agF_set agF_rf (by decide)) (by decide)) (by decide))) ?_ ?_
  · obtain ⟨d1, d2, d3, d4, d5, d6⟩ := h.2.2.2.1
    exact ⟨d1, by simp [pm_setI, pm_up, d2], by simp [pm_setI, pm_up, d3], by simp [pm_setI, pm_up], by simp [pm_setI, pm_up], by simpa [pm_setI, pm_up] using d6⟩
  · obtain ⟨s1, s2, s3⟩ := h.2.2.2.2.1
    exact ⟨by simpa [pm_setI, pm_up] using ha, by simpa [pm_setI, pm_up] using he, by simpa [pm_setI, pm_up] using s3⟩
theorem pop_sim (h : RL S sz m kn (dn + 1) κ τ ρ φ L w v) : RL S sz m kn dn κ τ ρ φ L (pm_setI w 4 3 (nI dn)) (pm_setI v 0 11 (nI dn)) := by
  refine RL_mk (RH_st (RL_RH h) (Nat.le_refl _) (ag_set ag_rf (by decide)) (ag_set ag_rf (by decide)) (agF_set agF_rf (by decide))) ?_ ?_
  · obtain ⟨d1, d2, d3, d4, d5, d6⟩ := h.2.2.2.1
    refine ⟨by omega, by simp [pm_setI, pm_up], by simp [pm_setI, pm_up], by simp [pm_setI, pm_up, d4], by simp [pm_setI, pm_up, d5], fun i hi => ?_⟩
    have := d6 i (by omega)
    simpa [pm_setI, pm_up] using this
  · obtain ⟨s1, s2, s3⟩ := h.2.2.2.2.1
    refine ⟨by simpa [pm_setI, pm_up] using s1, by simpa [pm_setI, pm_up] using s2, fun i hi => ?_⟩
    have := s3 i (by omega)
    simpa [pm_setI, pm_up] using this
theorem push_sim (h : RL S sz m kn dn κ τ ρ φ L w v) (hd : dn < 30) {k a b : Int32} (hf : frT kn κ τ L k a b 2) : RL S sz m kn (dn + 1) κ τ ρ φ L (pm_setI (pm_setI (pm_setI (pm_setI (pm_setI w 13 dn k) 14 dn a) 15 dn b) 16 dn 2) 4 3 (nI (dn + 1))) (pm_setI (pm_setI (pm_setI (pm_setI (pm_setI v 6 dn k) 7 dn (tr φ a)) 8 dn (tr φ b)) 9 dn 536870912) 0 11 (nI (dn + 1))) := by
  refine RL_mk (RH_st (RL_RH h) (Nat.le_refl _) (ag_set (ag_set (ag_set (ag_set (ag_set ag_rf (by decide)) (by decide)) (by decide)) (by decide)) (by decide)) (ag_set (ag_set (ag_set (ag_set (ag_set ag_rf (by decide)) (by decide)) (by decide)) (by decide)) (by decide)) (agF_set (agF_o (agF_o (agF_o (agF_o agF_rf (by decide)) (by decide)) (by decide)) (by decide)) (by decide))) ?_ ?_
  · obtain ⟨d1, d2, d3, d4, d5, d6⟩ := h.2.2.2.1
    refine ⟨by omega, by simp [pm_setI, pm_up], by simp [pm_setI, pm_up], by simp [pm_setI, pm_up, d4], by simp [pm_setI, pm_up, d5], fun i hi => ?_⟩
    by_cases e : i = dn
    · subst e
      simp [pm_setI, pm_up, tr_2]
    · have := d6 i (by omega)
      simpa [pm_setI, pm_up, e] using this
  · obtain ⟨s1, s2, s3⟩ := h.2.2.2.2.1
    refine ⟨by simpa [pm_setI, pm_up] using s1, by simpa [pm_setI, pm_up] using s2, fun i hi => ?_⟩
    by_cases e : i = dn
    · subst e
      simpa [pm_setI, pm_up] using hf
    · have := s3 i (by omega)
      simpa [pm_setI, pm_up, e] using this
theorem setC_sim (h : RL S sz m kn (dn + 1) κ τ ρ φ L w v) {c : Int32} (hc : Lst κ τ L 1 c) : RL S sz m kn (dn + 1) κ τ ρ φ L (pm_setI w 16 dn c) (pm_setI v 9 dn (tr φ c)) := by
  refine RL_mk (RH_st (RL_RH h) (Nat.le_refl _) (ag_set ag_rf (by decide)) (ag_set ag_rf (by decide)) (agF_o agF_rf (by decide))) ?_ ?_
  · obtain ⟨d1, d2, d3, d4, d5, d6⟩ := h.2.2.2.1
    refine ⟨d1, by simp [pm_setI, pm_up, d2], by simp [pm_setI, pm_up, d3], by simp [pm_setI, pm_up, d4], by simp [pm_setI, pm_up, d5], fun i hi => ?_⟩
    by_cases e : i = dn
    · subst e
      have := d6 i (by omega)
      simpa [pm_setI, pm_up] using ⟨this.1, this.2.1, this.2.2.1⟩
    · have := d6 i (by omega)
      simpa [pm_setI, pm_up, e] using this
  · obtain ⟨s1, s2, s3⟩ := h.2.2.2.2.1
    refine ⟨by simpa [pm_setI, pm_up] using s1, by simpa [pm_setI, pm_up] using s2, fun i hi => ?_⟩
    by_cases e : i = dn
    · subst e
      obtain ⟨t1, t2, t3⟩ := s3 i (by omega)
      have : frT kn κ τ L (w.1 13 i) (w.1 14 i) (w.1 15 i) c := ⟨t1, hc, t3⟩
      simpa [pm_setI, pm_up] using this
    · have := s3 i (by omega)
      simpa [pm_setI, pm_up, e] using this
theorem setA_sim (h : RL S sz m kn (dn + 1) κ τ ρ φ L w v) (hk : w.1 13 dn = 4) {a : Int32} (ha : Lst κ τ L 0 a) : RL S sz m kn (dn + 1) κ τ ρ φ L (pm_setI w 14 dn a) (pm_setI v 7 dn (tr φ a)) := by
  refine RL_mk (RH_st (RL_RH h) (Nat.le_refl _) (ag_set ag_rf (by decide)) (ag_set ag_rf (by decide)) (agF_o agF_rf (by decide))) ?_ ?_
  · obtain ⟨d1, d2, d3, d4, d5, d6⟩ := h.2.2.2.1
    refine ⟨d1, by simp [pm_setI, pm_up, d2], by simp [pm_setI, pm_up, d3], by simp [pm_setI, pm_up, d4], by simp [pm_setI, pm_up, d5], fun i hi => ?_⟩
    by_cases e : i = dn
    · subst e
      have := d6 i (by omega)
      simpa [pm_setI, pm_up] using ⟨this.1, this.2.2.1, this.2.2.2⟩
    · have := d6 i (by omega)
      simpa [pm_setI, pm_up, e] using this
  · obtain ⟨s1, s2, s3⟩ := h.2.2.2.2.1
    refine ⟨by simpa [pm_setI, pm_up] using s1, by simpa [pm_setI, pm_up] using s2, fun i hi => ?_⟩
    by_cases e : i = dn
    · subst e
      obtain ⟨t1, t2, t3⟩ := s3 i (by omega)
      have : frT kn κ τ L (w.1 13 i) a (w.1 15 i) (w.1 16 i) := ⟨t1, t2, Or.inr (Or.inr ⟨hk, ha⟩)⟩
      simpa [pm_setI, pm_up] using this
    · have := s3 i (by omega)
      simpa [pm_setI, pm_up, e] using this
theorem setG_sim (h : RL S sz m kn dn κ τ ρ φ L w v) {y : Nat} (hy : y < kn) {a : Int32} (ha : gv kn κ L a) : RL S sz m kn dn κ τ ρ φ L (pm_setI w 12 y a) (pm_setI v 11 y (tr φ a)) := by
  obtain ⟨hC, hM, hT, hS, hY, hG, hZ⟩ := h
  refine ⟨?_, ?_, ?_, ?_, ?_, ?_, ?_⟩
  · simpa [CH, pm_setI, pm_up] using hC
  · simpa [MH, cnt, pm_setI, pm_up] using hM
  · simpa [HT, slT, pm_setI, pm_up] using hT
  · simpa [MSt, pm_setI, pm_up] using hS
  · simpa [STy, pm_setI, pm_up] using hY
  · obtain ⟨g1, g2, g3, g4⟩ := hG
    refine ⟨by simpa [pm_setI, pm_up] using g1, by simpa [pm_setI, pm_up] using g2, fun i hi => ?_, fun i hi hj => ?_⟩
    · by_cases e : i = y
      · subst e; simp [pm_setI, pm_up]
      · have := g3 i hi
        simpa [pm_setI, pm_up, e] using this
    · have e : i ≠ y := by omega
      have := g4 i hi hj
      simpa [pm_setI, pm_up, e] using this
  · intro i hi
    by_cases e : i = y
    · subst e
      refine Or.inr ?_
      simpa [pm_setI, pm_up] using ha
    · have := hZ i hi
      simpa [pm_setI, pm_up, e] using this
theorem setB_sim (h : RL S sz m kn dn κ τ ρ φ L w v) {b : Nat} (hb : b ∈ L) (hk : κ b = 2) (ht : τ b = 3) {a : Int32} (ha : gv kn κ L a) : RL S sz m kn dn κ τ ρ φ L (pm_setI w 18 b a) (pm_setI v 3 (φ b) (tr φ a)) := by
  obtain ⟨hC, hM, hT, hS, hY, hG, hZ⟩ := h
  refine ⟨?_, ?_, ?_, ?_, ?_, ?_, ?_⟩
  · simpa [CH, pm_setI, pm_up] using hC
  · obtain ⟨m0, m1, m2, m3⟩ := hM
    refine ⟨by simpa [pm_setI, pm_up] using m0, fun s hs => ?_, m2, by simpa [cnt, pm_setI, pm_up] using m3⟩
    have q := m1 s hs
    by_cases e : s = b
    · subst e
      simpa [pm_setI, pm_up] using ⟨q.1, q.2.1, q.2.2.1, q.2.2.2.2⟩
    · have e2 : φ s ≠ φ b := fun r => e (m2 s hs b hb r)
      simpa [pm_setI, pm_up, e, e2] using q
  · refine ⟨hT.1, hT.2.1, hT.2.2.1, hT.2.2.2.1, fun s hs => ?_⟩
    obtain ⟨t1, t2, t3, t4, t5⟩ := hT.2.2.2.2 s hs
    by_cases e : s = b
    · subst e
      refine ⟨t1, by simpa [pm_setI, pm_up] using t2, by simpa [pm_setI, pm_up] using ha, fun q => ?_, fun q => ⟨by simpa [pm_setI, pm_up] using (t5 q).1, fun r => ?_, fun r => ?_, fun r => ?_⟩⟩
      · rw [hk] at q; exact absurd q (by decide)
      · rw [ht] at r; exact absurd r (by decide)
      · rw [ht] at r; exact absurd r (by decide)
      · rw [ht] at r; exact absurd r (by decide)
    · have : slT S kn κ τ ρ L w s := ⟨t1, t2, t3, t4, t5⟩
      simpa [slT, pm_setI, pm_up, e] using this
  · simpa [MSt, pm_setI, pm_up] using hS
  · simpa [STy, pm_setI, pm_up] using hY
  · simpa [MGl, pm_setI, pm_up] using hG
  · simpa [GTy, pm_setI, pm_up] using hZ
/-- value, scope and frames, after things were made -/
theorem MSt_ext {κ' τ' φ' : Nat → Nat} {L' : List Nat} (h : MSt φ dn w v) (hs : STy dn kn κ τ L w) (E : Ext kn κ τ φ L κ' τ' φ' L' w w1) (hA : smA w w1) (hB : smB v v1) : MSt φ' dn w1 v1 ∧ STy dn kn κ' τ' L' w1 := by
  obtain ⟨d1, d2, d3, d4, d5, d6⟩ := h
  obtain ⟨s1, s2, s3⟩ := hs
  have A : ∀ o, o ≠ 5 → o ≠ 17 → o ≠ 18 → o ≠ 19 → w1.1 o = w.1 o := hA.2
  have B : ∀ o, o ≠ 1 → o ≠ 2 → o ≠ 3 → o ≠ 4 → v1.1 o = v.1 o := hB.2
  unfold MSt STy
  rw [A 4 (by decide) (by decide) (by decide) (by decide), A 13 (by decide) (by decide) (by decide) (by decide), A 14 (by decide) (by decide) (by decide) (by decide), A 15 (by decide) (by decide) (by decide) (by decide), A 16 (by decide) (by decide) (by decide) (by decide), B 0 (by decide) (by decide) (by decide) (by decide), B 6 (by decide) (by decide) (by decide) (by decide), B 7 (by decide) (by decide) (by decide) (by decide), B 8 (by decide) (by decide) (by decide) (by decide), B 9 (by decide) (by decide) (by decide) (by decide)]
  refine ⟨⟨d1, d2, d3, by rw [d4, (E.2 _ s1).2], by rw [d5, (E.2 _ (Lst_gv s2)).2], fun i hi => ?_⟩, (E.2 _ s1).1, Ext_Lst E s2, fun i hi => Ext_frT E (s3 i hi)⟩
  obtain ⟨q0, q1, q2, q3⟩ := d6 i hi
  obtain ⟨g1, g2, g3⟩ := frT_gv (s3 i hi)
  exact ⟨q0, by rw [q1, (E.2 _ g1).2], by rw [q2, (E.2 _ g2).2], by rw [q3, (E.2 _ g3).2]⟩
end
/-- two writes at two places -/
theorem setI_comm (w : pm_W) {o k o' k' : Nat} {x y : Int32} (h : o ≠ o' ∨ k ≠ k') : pm_setI (pm_setI w o k x) o' k' y = pm_setI (pm_setI w o' k' y) o k x := by
  unfold pm_setI
  congr 1
  funext a b
  simp only [pm_up]
  by_cases h1 : a = o <;> by_cases h2 : a = o' <;> by_cases h3 : b = k <;> by_cases h4 : b = k' <;> simp_all
