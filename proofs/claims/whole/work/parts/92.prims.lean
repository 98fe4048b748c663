/-! the primitives -/
section
variable {S sz m kn d n : Nat} {κ τ ρ φ : Nat → Nat} {L : List Nat} {w v : pm_W}
theorem gv_4 (R : Rd S kn κ τ ρ φ L w v) {a : Int32} (h : gv kn κ L a) (h7 : a &&& 7 = 4) : ∃ s, s ∈ L ∧ κ s = 2 ∧ a = vC s := by
  have hκ := R.2.1.2.1
  rcases h with q | ⟨y, q1, q2⟩ | q | ⟨y, q1, q2⟩ | ⟨y, q1, q2⟩
  · rw [q] at h7; exact absurd h7 (by decide)
  · have := R.2.1.2.2.2.1
    rw [q2, (kd_S (by omega)).1] at h7; exact absurd h7 (by decide)
  · rw [q] at h7; exact absurd h7 (by decide)
  · rw [q2, (kd_P (by omega)).1] at h7; exact absurd h7 (by decide)
  · rcases hκ y with r | r
    · exact ⟨y, q1, r, by rw [q2, ptr_C r]⟩
    · rw [q2, ptr_K r, (kd_K (Rd_L R y q1).1).1] at h7; exact absurd h7 (by decide)
/-- the result's first lines -/
theorem pres {c last oth x1 x3 y : Int32} (e1 : f_Room_first S c w = some (last, w)) (e2 : f_Room_second S c w = some (y, w)) (e3 : f_Room_first S y w = some (oth, w)) : f_Machine_primitiveResult S x1 c x3 w = (if x1 = (0 : Int32) then some ((((oth >>> ((3 : Int32) &&& 31)) + (last >>> ((3 : Int32) &&& 31))) <<< ((3 : Int32) &&& 31)) ||| 0, w) else if x1 = (1 : Int32) then some ((((oth >>> ((3 : Int32) &&& 31)) - (last >>> ((3 : Int32) &&& 31))) <<< ((3 : Int32) &&& 31)) ||| 0, w) else if x1 = (2 : Int32) then some ((((oth >>> ((3 : Int32) &&& 31)) * (last >>> ((3 : Int32) &&& 31))) <<< ((3 : Int32) &&& 31)) ||| 0, w) else if x1 = (3 : Int32) then (if last >>> ((3 : Int32) &&& 31) ≤ oth >>> ((3 : Int32) &&& 31) then some (2, w) else some (vS 15, w)) else if x1 = (4 : Int32) then (if oth = last then some (vS 15, w) else some (2, w)) else if x1 = (5 : Int32) then (if last &&& 7 = 4 then some (2, w) else some (vS 15, w)) else if x1 = (6 : Int32) then f_Room_pair S oth last w else if x1 = (7 : Int32) then f_Room_first S last w else if x1 = (8 : Int32) then f_Room_second S last w else f_Machine_listOf S c x3 w) := by
  have t0 : f_Machine_truth S 0 w = some (2, w) := rfl
  have t1 : f_Machine_truth S 1 w = some (vS 15, w) := by
    unfold f_Machine_truth f_Value_of
    rw [if_neg (by decide)]
    simp only [Option.bind_some]
    rw [show ((15 : Int32) <<< ((3 : Int32) &&& 31)) ||| 1 = vS 15 by decide +kernel]
  unfold f_Machine_primitiveResult f_Value_content f_Value_of
  rw [e1]
  simp only [Option.bind_some, bind_pair]
  rw [e2]
  simp only [Option.bind_some]
  rw [e3]
  simp only [Option.bind_some, t0, t1, isPair_C]
  by_cases q4 : last &&& 7 = 4 <;> simp [q4]
theorem ap105 {x1 x4 x5 s0 : Int32} (h : ¬ nI n = s0) : b_Md_apply_105 x1 (nI n) x4 x5 s0 (nI n) v = some (-4, v) := by
  unfold b_Md_apply_105
  rw [if_neg h]
theorem SO_one (h16 : 16 ≤ kn) (h : RL S sz m kn (d + 1) κ τ ρ φ L w v) {l : List Nat} (hl : ApC κ L w d n l) {p : Nat} (hp : p = 5 ∨ p = 7 ∨ p = 8) (hf : w.1 17 (l[n]'(by rw [hl.2]; omega)) = vP p) : SO S sz kn w v (f_Machine_apply S w) (f_Md_apply (tr φ (w.1 16 d)) v) := by
  have R := RL_Rd h
  have hp10 : p < 10 := by omega
  obtain ⟨last, oth, e1, e2, e3, g1, g2, e4, e5⟩ := two_C R hl.1 hl.2
  have p17 : (pm_setI w 4 3 (nI d)).1 17 = w.1 17 := rdI_o _ (by decide)
  have p18 : (pm_setI w 4 3 (nI d)).1 18 = w.1 18 := rdI_o _ (by decide)
  have Rp := RL_Rd (pop_sim h)
  obtain ⟨last', oth', e1', e2', e3', _, _, e4', e5'⟩ := two_C (c := w.1 16 d) (l := l) Rp (by rw [p18]; exact hl.1) hl.2
  have el : last' = last := by rw [e4' (by rw [hl.2]; omega), e4 (by rw [hl.2]; omega), p17]
  subst el
  rw [ap_P h hl hp10 hf, if_neg (by omega), if_pos hp]
  by_cases hn : n = 1
  · have at0 : f_Md_at (tr φ (w.1 16 d)) (nI n - 1) v = some (tr φ last', v) := by
      subst hn
      rw [show nI 1 - 1 = nI 0 from rfl, at_M R hl.1 (n := 0) (by rw [hl.2]; omega), e4 (by rw [hl.2]; omega)]
    unfold b_Md_apply_105
    rw [if_pos (show nI n = 1 by rw [hn]; rfl), at0]
    simp only [Option.bind_some, bind_pair]
    rw [Rd_isP R g1]
    simp only [Option.bind_some]
    rcases hp with q | q | q
    · subst q
      rw [if_pos (show nI 5 = 5 from rfl)]
      have hft : f_Machine_faultOfPrimitive S (nI 5) (nI n) w = some (1, w) := by
        rw [fop_pre h hl e1 e2 e3, hn]
        rfl
      by_cases z : last' &&& 7 = 4
      · rw [if_pos z, if_neg (by decide), ← tr_2 (φ := φ)]
        refine ap_ret h hl (by omega) (by omega) (by omega) hf hft ?_ gv_2
        rw [pres e1' e2' e3', if_neg (by decide), if_neg (by decide), if_neg (by decide), if_neg (by decide), if_neg (by decide), if_pos (show nI 5 = 5 from rfl), if_pos z]
      · rw [if_neg z, if_pos rfl, show (536871015 : Int32) = tr φ (vS 15) by rw [tr_S (by omega)]; rfl]
        refine ap_ret h hl (by omega) (by omega) (by omega) hf hft ?_ (Or.inr (Or.inl ⟨15, by omega, rfl⟩))
        rw [pres e1' e2' e3', if_neg (by decide), if_neg (by decide), if_neg (by decide), if_neg (by decide), if_neg (by decide), if_pos (show nI 5 = 5 from rfl), if_neg z]
    · subst q
      rw [if_neg (by decide), if_neg (by decide)]
      by_cases z : last' &&& 7 = 4
      · obtain ⟨s, s1, s2, s3⟩ := gv_4 R g1 z
        have hft : f_Machine_faultOfPrimitive S (nI 7) (nI n) w = some (1, w) := by
          rw [fop_pre h hl e1 e2 e3, hn, if_neg (by decide), if_neg (by decide), if_neg (by decide), if_pos (show nI 7 = 7 from rfl), if_pos (show nI 1 = 1 from rfl), if_pos z]
        rw [if_pos z, if_neg (by decide), if_pos (show nI 7 = 7 from rfl), s3, Rd_car R s1]
        simp only [Option.bind_some]
        refine ap_ret h hl (by omega) (by omega) (by omega) hf hft ?_ (R.2.1.2.2.2.2 s s1).2.1
        rw [pres e1' e2' e3', if_neg (by decide), if_neg (by decide), if_neg (by decide), if_neg (by decide), if_neg (by decide), if_neg (by decide), if_neg (by decide), if_pos (show nI 7 = 7 from rfl), s3, Rd_fst Rp s1, p17]
      · rw [if_neg z, if_pos rfl]
        refine ap_err h hl (by decide) ?_
        rw [fc_P (by omega) hf, fop_pre h hl e1 e2 e3, hn, if_neg (by decide), if_neg (by decide), if_neg (by decide), if_pos (show nI 7 = 7 from rfl), if_pos (show nI 1 = 1 from rfl), if_neg z]
    · subst q
      rw [if_neg (by decide), if_neg (by decide)]
      by_cases z : last' &&& 7 = 4
      · obtain ⟨s, s1, s2, s3⟩ := gv_4 R g1 z
        have hft : f_Machine_faultOfPrimitive S (nI 8) (nI n) w = some (1, w) := by
          rw [fop_pre h hl e1 e2 e3, hn, if_neg (by decide), if_neg (by decide), if_neg (by decide), if_neg (by decide), if_pos (show nI 8 = 8 from rfl), if_pos (show nI 1 = 1 from rfl), if_pos z]
        rw [if_pos z, if_neg (by decide), if_neg (by decide), s3, Rd_cdr R s1]
        simp only [Option.bind_some]
        refine ap_ret h hl (by omega) (by omega) (by omega) hf hft ?_ (R.2.1.2.2.2.2 s s1).2.2.1
        rw [pres e1' e2' e3', if_neg (by decide), if_neg (by decide), if_neg (by decide), if_neg (by decide), if_neg (by decide), if_neg (by decide), if_neg (by decide), if_neg (by decide), if_pos (show nI 8 = 8 from rfl), s3, Rd_snd Rp s1, p18]
      · rw [if_neg z, if_pos rfl]
        refine ap_err h hl (by decide) ?_
        rw [fc_P (by omega) hf, fop_pre h hl e1 e2 e3, hn, if_neg (by decide), if_neg (by decide), if_neg (by decide), if_neg (by decide), if_pos (show nI 8 = 8 from rfl), if_pos (show nI 1 = 1 from rfl), if_neg z]
  · have hS := R.2.1.2.2.1
    have hS2 := chl_len R hl.1
    have hn2 := hl.2
    have n1 : ¬ nI n = 1 := q_ne (b := 1) hn (by omega) (by omega)
    rw [ap105 n1]
    refine ap_err h hl (by decide) ?_
    rw [fc_P hp10 hf, fop_pre h hl e1 e2 e3]
    rcases hp with q | q | q <;> (subst q; simp only [if_neg n1]; rfl)
theorem SO_two (h16 : 16 ≤ kn) (h : RL S sz m kn (d + 1) κ τ ρ φ L w v) {l : List Nat} (hl : ApC κ L w d n l) {p : Nat} (hp : p < 5) (hf : w.1 17 (l[n]'(by rw [hl.2]; omega)) = vP p) : SO S sz kn w v (f_Machine_apply S w) (f_Md_apply (tr φ (w.1 16 d)) v) := by
  have R := RL_Rd h
  obtain ⟨last, oth, e1, e2, e3, g1, g2, e4, e5⟩ := two_C R hl.1 hl.2
  have p17 : (pm_setI w 4 3 (nI d)).1 17 = w.1 17 := rdI_o _ (by decide)
  have p18 : (pm_setI w 4 3 (nI d)).1 18 = w.1 18 := rdI_o _ (by decide)
  have Rp := RL_Rd (pop_sim h)
  obtain ⟨last', oth', e1', e2', e3', _, _, e4', e5'⟩ := two_C (c := w.1 16 d) (l := l) Rp (by rw [p18]; exact hl.1) hl.2
  have el : last' = last := by rw [e4' (by rw [hl.2]; omega), e4 (by rw [hl.2]; omega), p17]
  subst el
  rw [ap_P h hl (by omega) hf, if_neg (by omega), if_neg (by omega)]
  by_cases hn : n = 2
  · have eo : oth' = oth := by rw [e5' (by rw [hl.2]; omega), e5 (by rw [hl.2]; omega), p17]
    subst eo
    have at1 : f_Md_at (tr φ (w.1 16 d)) (nI n - 1) v = some (tr φ oth', v) := by
      subst hn
      rw [show nI 2 - 1 = nI 1 from rfl, at_M R hl.1 (n := 1) (by rw [hl.2]; omega), e5 (by rw [hl.2]; omega)]
    have at0 : f_Md_at (tr φ (w.1 16 d)) 0 v = some (tr φ last', v) := by
      rw [show (0 : Int32) = nI 0 from rfl, at_M R hl.1 (n := 0) (by rw [hl.2]; omega), e4 (by rw [hl.2]; omega)]
    unfold b_Md_apply_105
    rw [if_pos (show nI n = 2 by rw [hn]; rfl), at1]
    simp only [Option.bind_some, bind_pair]
    rw [if_neg (show ¬ nI p = 5 from q_ne (b := 5) (by omega) (by omega) (by omega)), if_pos trivial, at0]
    simp only [Option.bind_some]
    rw [if_neg (show ¬ nI p = 6 from q_ne (b := 6) (by omega) (by omega) (by omega))]
    have hT : gv kn κ L (vS 15) := Or.inr (Or.inl ⟨15, by omega, rfl⟩)
    have tT : (536871015 : Int32) = tr φ (vS 15) := by rw [tr_S (by omega)]; rfl
    by_cases q4 : p = 4
    · subst q4
      rw [if_pos (show nI 4 = 4 from rfl)]
      have hft : f_Machine_faultOfPrimitive S (nI 4) (nI n) w = some (1, w) := by
        rw [fop_pre h hl e1 e2 e3, hn]
        rfl
      by_cases z : oth' = last'
      · rw [if_pos (by rw [z]), tT]
        refine ap_ret h hl (by omega) (by omega) (by omega) hf hft ?_ hT
        rw [pres e1' e2' e3', if_neg (by decide), if_neg (by decide), if_neg (by decide), if_neg (by decide), if_pos (show nI 4 = 4 from rfl), if_pos z]
      · rw [if_neg (by rw [Rd_eq R g2 g1]; exact z), ← tr_2 (φ := φ)]
        refine ap_ret h hl (by omega) (by omega) (by omega) hf hft ?_ gv_2
        rw [pres e1' e2' e3', if_neg (by decide), if_neg (by decide), if_neg (by decide), if_neg (by decide), if_pos (show nI 4 = 4 from rfl), if_neg z]
    · rw [if_neg (show ¬ nI p = 4 from q_ne (b := 4) q4 (by omega) (by omega)), Rd_isN R g2]
      simp only [Option.bind_some]
      have hfe : f_Machine_faultOfPrimitive S (nI p) (nI n) w = (if last' &&& 7 = 0 then (if oth' &&& 7 = 0 then some ((1 : Int32), w) else some ((-5 : Int32), w)) else some ((-5 : Int32), w)) := by
        rw [fop_pre h hl e1 e2 e3, hn]
        have hc : p = 0 ∨ p = 1 ∨ p = 2 ∨ p = 3 := by omega
        rcases hc with r | r | r | r <;> (subst r; rfl)
      by_cases zo : oth' &&& 7 = 0
      · rw [if_pos zo, if_neg (by decide), Rd_isN R g1]
        simp only [Option.bind_some]
        by_cases zl : last' &&& 7 = 0
        · rw [if_pos zl, if_neg (by decide)]
          have hft : f_Machine_faultOfPrimitive S (nI p) (nI n) w = some (1, w) := by rw [hfe, if_pos zl, if_pos zo]
          unfold f_Md_wrap
          simp only [Option.bind_some]
          have num : ∀ x : Int32, gv kn κ L ((x <<< ((3 : Int32) &&& 31)) ||| 0) := fun x => Or.inl (by rw [num_or]; exact num_and x)
          have trn : ∀ x : Int32, (x <<< ((3 : Int32) &&& 31)) >>> ((3 : Int32) &&& 31) = tr φ ((x <<< ((3 : Int32) &&& 31)) ||| 0) := fun x => by rw [num_or, tr_N (num_and x)]
          have hc : p = 0 ∨ p = 1 ∨ p = 2 ∨ p = 3 := by omega
          rcases hc with r | r | r | r
          · subst r
            rw [if_neg (by decide), if_pos (show nI 0 = 0 from rfl), trn, tr_N zo, tr_N zl]
            refine ap_ret h hl (by omega) (by omega) (by omega) hf hft ?_ (num _)
            rw [pres e1' e2' e3', if_pos (show nI 0 = 0 from rfl)]
          · subst r
            rw [if_neg (by decide), if_neg (by decide), if_pos (show nI 1 = 1 from rfl), trn, tr_N zo, tr_N zl]
            refine ap_ret h hl (by omega) (by omega) (by omega) hf hft ?_ (num _)
            rw [pres e1' e2' e3', if_neg (by decide), if_pos (show nI 1 = 1 from rfl)]
          · subst r
            rw [if_neg (by decide), if_neg (by decide), if_neg (by decide), trn, tr_N zo, tr_N zl]
            refine ap_ret h hl (by omega) (by omega) (by omega) hf hft ?_ (num _)
            rw [pres e1' e2' e3', if_neg (by decide), if_neg (by decide), if_pos (show nI 2 = 2 from rfl)]
          · subst r
            rw [if_pos (show nI 3 = 3 from rfl), tr_N zo, tr_N zl]
            by_cases z : last' >>> ((3 : Int32) &&& 31) ≤ oth' >>> ((3 : Int32) &&& 31)
            · rw [if_pos z, ← tr_2 (φ := φ)]
              refine ap_ret h hl (by omega) (by omega) (by omega) hf hft ?_ gv_2
              rw [pres e1' e2' e3', if_neg (by decide), if_neg (by decide), if_neg (by decide), if_pos (show nI 3 = 3 from rfl), if_pos z]
            · rw [if_neg z, tT]
              refine ap_ret h hl (by omega) (by omega) (by omega) hf hft ?_ hT
              rw [pres e1' e2' e3', if_neg (by decide), if_neg (by decide), if_neg (by decide), if_pos (show nI 3 = 3 from rfl), if_neg z]
        · rw [if_neg zl, if_pos rfl]
          refine ap_err h hl (by decide) ?_
          rw [fc_P (by omega) hf, hfe, if_neg zl]
      · rw [if_neg zo, if_pos rfl]
        refine ap_err h hl (by decide) ?_
        rw [fc_P (by omega) hf, hfe, if_neg zo]
        by_cases zl : last' &&& 7 = 0
        · rw [if_pos zl]
        · rw [if_neg zl]
  · have hS := R.2.1.2.2.1
    have hS2 := chl_len R hl.1
    have hn2 := hl.2
    have n1 : ¬ nI n = 2 := q_ne (b := 2) hn (by omega) (by omega)
    rw [ap105 n1]
    refine ap_err h hl (by decide) ?_
    rw [fc_P (by omega) hf, fop_pre h hl e1 e2 e3]
    have hc : p = 0 ∨ p = 1 ∨ p = 2 ∨ p = 3 ∨ p = 4 := by omega
    rcases hc with r | r | r | r | r <;> (subst r; simp only [if_neg n1]; rfl)
end
