/-! cons, list, and closures -/
section
variable {S sz m kn d n : Nat} {κ τ ρ φ : Nat → Nat} {L : List Nat} {w v : pm_W}
theorem nwT_U {a b : Int32} : nwT kn κ τ ρ L 2 4 0 a b 2 := ⟨fun q => absurd q (by decide), fun _ => ⟨rfl, fun q => absurd q (by decide), fun q => absurd q (by decide), fun q => absurd q (by decide)⟩⟩
/-- after room: the frame's row is as it was -/
theorem ap_room {L2 : List Nat} {w2 v2 : pm_W} {m2 : Nat} (h : RL S sz m kn (d + 1) κ τ ρ φ L w v) {l : List Nat} (hl : ApC κ L w d n l) (h2 : RL S sz m2 kn (d + 1) κ τ ρ φ L2 w2 v2) (hw : smR w w2) : ApC κ L2 w2 d n l ∧ w2.1 16 = w.1 16 ∧ w2.1 17 = w.1 17 ∧ w2.1 18 = w.1 18 ∧ w2.1 19 = w.1 19 := by
  have R := RL_Rd h
  have R2 := RL_Rd h2
  have W : ∀ o, o ≠ 5 → o ≠ 20 → o ≠ 21 → o ≠ 22 → w2.1 o = w.1 o := hw.2.1
  have w16 : w2.1 16 = w.1 16 := W 16 (by decide) (by decide) (by decide) (by decide)
  have w18 : w2.1 18 = w.1 18 := W 18 (by decide) (by decide) (by decide) (by decide)
  obtain ⟨_, t2, _⟩ := (RL_st h2).2.2 d (by omega)
  obtain ⟨l', l1', _, _⟩ := chl_of R2 (t := 1) (by decide) t2
  rw [w18, w16] at l1'
  have el : l = l' := chl_det2 (fun s hs => (Rd_L R s hs).1) (fun s hs => (Rd_L R2 s hs).1) _ _ _ hl.1 l1'
  subst el
  refine ⟨⟨by rw [w18, w16]; exact l1', hl.2⟩, w16, W 17 (by decide) (by decide) (by decide) (by decide), w18, W 19 (by decide) (by decide) (by decide) (by decide)⟩
theorem ap_n (h : RL S sz m kn (d + 1) κ τ ρ φ L w v) {l : List Nat} (hl : ApC κ L w d n l) : n < 200 := by
  have R := RL_Rd h
  have := R.2.1.2.2.1
  have := chl_len R hl.1
  have := hl.2
  omega
/-- the popped class's world beside the reference's that isn't -/
theorem RH_pop (h : RL S sz m kn (d + 1) κ τ ρ φ L w v) : RH S sz m kn κ τ ρ φ L (pm_setI w 4 3 (nI d)) v := RH_st (RL_RH h) (Nat.le_refl _) (ag_set ag_rf (by decide)) ag_rf agF_rf
/-- things made in between: the popped state -/
theorem RL_fin {κ' τ' ρ' φ' : Nat → Nat} {L' : List Nat} {w3 v3 : pm_W} {m2 : Nat} (h : RL S sz m kn (d + 1) κ τ ρ φ L w v) (hH : RH S sz m2 kn κ' τ' ρ' φ' L' w3 v3) (E : Ext kn κ τ φ L κ' τ' φ' L' (pm_setI w 4 3 (nI d)) w3) (hA : smA (pm_setI w 4 3 (nI d)) w3) (hB : smB v v3) : RL S sz m2 kn d κ' τ' ρ' φ' L' w3 (pm_setI v3 0 11 (nI d)) := by
  have hp := pop_sim h
  obtain ⟨y1, y2⟩ := MSt_ext (RL_dn hp) (RL_st hp) E hA (smB_set hB)
  exact RL_mk (RH_st hH (Nat.le_refl _) ag_rf (ag_set ag_rf (by decide)) (agF_set agF_rf (by decide))) y1 y2
theorem SO_cons (h : RL S sz m kn (d + 1) κ τ ρ φ L w v) {l : List Nat} (hl : ApC κ L w d n l) (hf : w.1 17 (l[n]'(by rw [hl.2]; omega)) = vP 6) : SO S sz kn w v (f_Machine_apply S w) (f_Md_apply (tr φ (w.1 16 d)) v) := by
  have R := RL_Rd h
  obtain ⟨last, oth, e1, e2, e3, g1, g2, e4, e5⟩ := two_C R hl.1 hl.2
  rw [ap_P h hl (by omega) hf, if_neg (by decide), if_neg (by decide)]
  by_cases hn : n = 2
  · have at1 : f_Md_at (tr φ (w.1 16 d)) (nI n - 1) v = some (tr φ oth, v) := by
      subst hn
      rw [show nI 2 - 1 = nI 1 from rfl, at_M R hl.1 (n := 1) (by rw [hl.2]; omega), e5 (by rw [hl.2]; omega)]
    have at0 : f_Md_at (tr φ (w.1 16 d)) 0 v = some (tr φ last, v) := by
      rw [show (0 : Int32) = nI 0 from rfl, at_M R hl.1 (n := 0) (by rw [hl.2]; omega), e4 (by rw [hl.2]; omega)]
    unfold b_Md_apply_105
    rw [if_pos (show nI n = 2 by rw [hn]; rfl), at1]
    simp only [Option.bind_some, bind_pair]
    rw [if_neg (by decide), if_pos trivial, at0]
    simp only [Option.bind_some]
    rw [if_pos (show nI 6 = 6 from rfl)]
    have hft : f_Machine_faultOfPrimitive S (nI 6) (nI n) w = some (1, w) := by
      rw [fop_pre h hl e1 e2 e3, hn]
      rfl
    obtain ⟨b, L2, w2, v2, c1, c2, c3, c4, c5⟩ := room_sim h (n := 2) (by omega)
    rw [ap_C h hl]
    unfold f_Machine_faultOfCall f_Machine_cellsOfCall f_Value_kind f_Value_content
    rw [hf, (kd_P (by omega)).1, (kd_P (by omega)).2]
    simp only [Option.bind_some, bind_pair]
    rw [if_pos trivial, hft]
    simp only [Option.bind_some]
    rw [if_pos trivial, if_neg (by decide), if_pos (show nI 6 = 6 from rfl)]
    simp only [Option.bind_some]
    rw [show f_Room_hasFor S 2 w = some (if b = true then 1 else 0, w2) from c1, show f_Md_room 2 v = some (if b = true then 1 else 0, v2) from c2]
    simp only [Option.bind_some]
    cases b with
    | false =>
      simp only [Bool.false_eq_true, if_false, if_true]
      exact SO_err (RL_RH c3) (by decide) (smR_fr c4) (smQ_fr c5)
    | true =>
      simp only [if_true] at c3 ⊢
      obtain ⟨d1, d2, d3, d4, d5, d6⟩ := RL_dn c3
      obtain ⟨hl2, w16, w17, w18, w19⟩ := ap_room h hl c3 c4
      rw [if_neg (by decide), if_neg (by decide), pop_C d2 d1]
      simp only [Option.bind_some]
      rw [if_neg (by decide)]
      have p17 : (pm_setI w2 4 3 (nI d)).1 17 = w.1 17 := by rw [rdI_o _ (by decide), w17]
      have p18 : (pm_setI w2 4 3 (nI d)).1 18 = w2.1 18 := rdI_o _ (by decide)
      have Rp := RL_Rd (pop_sim c3)
      obtain ⟨last', oth', e1', e2', e3', g1', g2', e4', e5'⟩ := two_C (c := w2.1 16 d) (l := l) Rp (by rw [p18]; exact hl2.1) hl2.2
      have el : last' = last := by rw [e4' (by rw [hl.2]; omega), e4 (by rw [hl.2]; omega), p17]
      have eo : oth' = oth := by rw [e5' (by rw [hl.2]; omega), e5 (by rw [hl.2]; omega), p17]
      subst el
      subst eo
      rw [← w16, pres e1' e2' e3', if_neg (by decide), if_neg (by decide), if_neg (by decide), if_neg (by decide), if_neg (by decide), if_neg (by decide), if_pos (show nI 6 = 6 from rfl)]
      obtain ⟨s, t, w3, v3, x1, x2, x3, x4, x5, x6, x7, x8, x9, x10, x11⟩ := pair_sim (m := 0) 4 0 (RH_pop c3) g2' g1' nwT_U
      rw [x4, x5]
      simp only [Option.bind_some]
      refine SO_done (RL_fin c3 x6 x7 x8 x9) ?_ ?_ rfl (frW_tr (smR_fr c4) (frW_tr (frW_set frW_rf (by decide)) (smA_fr x8))) (frV_tr (smQ_fr c5) (smB_fr x9))
      · rw [x9.2 0 (by decide) (by decide) (by decide) (by decide)]; exact d3
      · exact Or.inr (Or.inr (Or.inr (Or.inr ⟨s, List.mem_cons_self, by rw [ptr_C (up1_s _ _ _)]⟩)))
  · have hS := ap_n h hl
    have n1 : ¬ nI n = 2 := q_ne (b := 2) hn (by omega) (by omega)
    rw [ap105 n1]
    refine ap_err h hl (by decide) ?_
    rw [fc_P (by omega) hf, fop_pre h hl e1 e2 e3]
    simp only [if_neg n1]
    rfl
theorem chl_ext {κ' τ' φ' : Nat → Nat} {L' : List Nat} {w1 : pm_W} (E : Ext kn κ τ φ L κ' τ' φ' L' w w1) : ∀ (l : List Nat) (a : Int32), chl κ L (w.1 18) l a → chl κ' L' (w1.1 18) l a := by
  intro l
  induction l with
  | nil => intro a h; exact h
  | cons s l ih =>
    intro a h
    obtain ⟨p1, p2, p3, p4⟩ := h
    obtain ⟨q0, q1, q2, q3, q4, q5, q6⟩ := E.1 s p1
    exact ⟨q0, by rw [q1, p2], p3, by rw [q5]; exact ih _ p4⟩
/-- the loop of list -/
theorem list_l {c : Int32} {l : List Nat} (hl : l.length = n + 1) (hn : n < 200) : ∀ (k i m1 m2 : Nat) (κ τ ρ φ : Nat → Nat) (L : List Nat) (w v : pm_W) (ls rest : Int32), i + k = n → RH S sz (m + 2 * k) kn κ τ ρ φ L w v → chl κ L (w.1 18) l c → chl κ L (w.1 18) (l.drop i) rest → gv kn κ L ls → ∃ (κ' τ' ρ' φ' : Nat → Nat) (L' : List Nat) (w' v' : pm_W) (ls' : Int32), l_Machine_listOf S (m1 + k + 1) 0 (nI n) ls rest (nI i) w = some (ls', w') ∧ l_Md_listed (m2 + k + 1) 0 (tr φ c) (nI n) (tr φ ls) (nI i) v = f_Md_done (tr φ' ls') v' ∧ RH S sz m kn κ' τ' ρ' φ' L' w' v' ∧ Ext kn κ τ φ L κ' τ' φ' L' w w' ∧ smA w w' ∧ smB v v' ∧ gv kn κ' L' ls' := by
  intro k
  induction k with
  | zero =>
    intro i m1 m2 κ τ ρ φ L w v ls rest hi h hc hr hg
    have e : i = n := by omega
    subst e
    refine ⟨κ, τ, ρ, φ, L, w, v, ls, ?_, ?_, h, Ext_rf, smA_rf, smB_rf, hg⟩
    · rw [l_Machine_listOf_s]
      unfold b_Machine_listOf_8
      rw [if_pos (Int32.le_refl _)]
    · rw [l_Md_listed_s]
      unfold b_Md_listed_19
      rw [if_pos (Int32.le_refl _), bind_pair]
  | succ k ih =>
    intro i m1 m2 κ τ ρ φ L w v ls rest hi h hc hr hg
    have R := RH_Rd h
    have hi2 : i < l.length := by omega
    rw [List.drop_eq_getElem_cons hi2] at hr
    obtain ⟨p1, p2, p3, p4⟩ := hr
    have hgx : gv kn κ L (w.1 17 l[i]) := (R.2.1.2.2.2.2 _ p1).2.1
    obtain ⟨s, t, w1, v1, x1, x2, x3, x4, x5, x6, x7, x8, x9, x10, x11⟩ := pair_sim (m := m + 2 * k) 4 0 h hgx hg nwT_U
    have R1 := RH_Rd x6
    obtain ⟨q0, q1, q2, q3, q4, q5, q6⟩ := x7.1 _ p1
    have hc1 := chl_ext x7 _ _ hc
    have hr1 := chl_ext x7 _ _ p4
    obtain ⟨κ', τ', ρ', φ', L', w', v', ls', y1, y2, y3, y4, y5, y6, y7⟩ := ih (i + 1) m1 m2 _ _ _ _ _ w1 v1 (vC s) (w1.1 18 l[i]) (by omega) x6 hc1 (by rw [q5]; exact hr1) (Or.inr (Or.inr (Or.inr (Or.inr ⟨s, List.mem_cons_self, by rw [ptr_C (up1_s _ _ _)]⟩))))
    refine ⟨κ', τ', ρ', φ', L', w', v', ls', ?_, ?_, y3, Ext_tr x7 y4, smA_tr x8 y5, smB_tr x9 y6, y7⟩
    · rw [show m1 + (k + 1) + 1 = (m1 + k + 1) + 1 by omega, l_Machine_listOf_s]
      unfold b_Machine_listOf_8
      rw [if_neg (q_nle (by omega) (by omega)), isPair_C, p3, (kd_C (Rd_L R _ p1).1).1]
      simp only [Option.bind_some, if_true]
      rw [if_neg (by decide), Rd_fst R p1]
      simp only [Option.bind_some]
      rw [x4]
      simp only [Option.bind_some]
      rw [Rd_snd R1 q0]
      simp only [Option.bind_some]
      rw [nI_1, y1]
    · rw [show m2 + (k + 1) + 1 = (m2 + k + 1) + 1 by omega, l_Md_listed_s]
      unfold b_Md_listed_19
      rw [if_neg (q_nle (by omega) (by omega)), at_M R hc (n := i) (by omega)]
      simp only [Option.bind_some]
      rw [x5]
      simp only [Option.bind_some]
      rw [nI_1, ← (x7.2 c (chl_gv hc)).2, y2]
theorem SO_list (h : RL S sz m kn (d + 1) κ τ ρ φ L w v) {l : List Nat} (hl : ApC κ L w d n l) (hf : w.1 17 (l[n]'(by rw [hl.2]; omega)) = vP 9) : SO S sz kn w v (f_Machine_apply S w) (f_Md_apply (tr φ (w.1 16 d)) v) := by
  have R := RL_Rd h
  have hn := ap_n h hl
  obtain ⟨last, oth, e1, e2, e3, g1, g2, e4, e5⟩ := two_C R hl.1 hl.2
  rw [ap_P h hl (by omega) hf, if_pos rfl]
  have hft : f_Machine_faultOfPrimitive S (nI 9) (nI n) w = some (1, w) := by
    rw [fop_pre h hl e1 e2 e3]
    rfl
  obtain ⟨b, L2, w2, v2, c1, c2, c3, c4, c5⟩ := room_sim h (n := 2 * n) (by omega)
  rw [ap_C h hl]
  unfold f_Machine_faultOfCall f_Machine_cellsOfCall f_Value_kind f_Value_content f_Md_listed
  rw [hf, (kd_P (by omega)).1, (kd_P (by omega)).2]
  simp only [Option.bind_some, bind_pair]
  rw [if_pos trivial, hft]
  simp only [Option.bind_some]
  rw [if_pos trivial, if_neg (by decide), if_neg (by decide), if_pos (show nI 9 = 9 from rfl)]
  simp only [Option.bind_some]
  rw [show nI n * 2 = nI (2 * n) by rw [show (2 : Int32) = nI 2 from rfl, pk_mul, Nat.mul_comm], show (2 : Int32) * nI n = nI (2 * n) by rw [show (2 : Int32) = nI 2 from rfl, pk_mul], c1, c2]
  simp only [Option.bind_some]
  cases b with
  | false =>
    simp only [Bool.false_eq_true, if_false, if_true]
    exact SO_err (RL_RH c3) (by decide) (smR_fr c4) (smQ_fr c5)
  | true =>
    simp only [if_true] at c3 ⊢
    obtain ⟨d1, d2, d3, d4, d5, d6⟩ := RL_dn c3
    obtain ⟨hl2, w16, w17, w18, w19⟩ := ap_room h hl c3 c4
    rw [if_neg (by decide), if_neg (by decide), pop_C d2 d1]
    simp only [Option.bind_some]
    rw [if_neg (by decide)]
    have p18 : (pm_setI w2 4 3 (nI d)).1 18 = w2.1 18 := rdI_o _ (by decide)
    have Rp := RL_Rd (pop_sim c3)
    obtain ⟨last', oth', e1', e2', e3', g1', g2', e4', e5'⟩ := two_C (c := w2.1 16 d) (l := l) Rp (by rw [p18]; exact hl2.1) hl2.2
    rw [← w16, pres e1' e2' e3', if_neg (by decide), if_neg (by decide), if_neg (by decide), if_neg (by decide), if_neg (by decide), if_neg (by decide), if_neg (by decide), if_neg (by decide), if_neg (by decide)]
    have hc : chl κ L2 ((pm_setI w2 4 3 (nI d)).1 18) l (w2.1 16 d) := by rw [p18]; exact hl2.1
    obtain ⟨κ', τ', ρ', φ', L', w', v', ls', y1, y2, y3, y4, y5, y6, y7⟩ := list_l (S := S) (sz := sz) (kn := kn) (m := 0) (c := w2.1 16 d) hl.2 hn n 0 (pm_fuel - (n + 1)) (pm_fuel - (n + 1)) κ τ ρ φ L2 _ v2 2 (w2.1 16 d) (by omega) (by rw [Nat.zero_add]; exact RH_pop c3) hc (by rw [List.drop_zero]; exact hc) gv_2
    rw [fuel_s _ (by omega), nI_0] at y1 y2
    rw [tr_2] at y2
    unfold f_Machine_listOf
    rw [y1, y2]
    simp only [Option.bind_some]
    refine SO_done (RL_fin c3 y3 y4 y5 y6) ?_ y7 rfl (frW_tr (smR_fr c4) (frW_tr (frW_set frW_rf (by decide)) (smA_fr y5))) (frV_tr (smQ_fr c5) (smB_fr y6))
    rw [y6.2 0 (by decide) (by decide) (by decide) (by decide)]; exact d3
end
