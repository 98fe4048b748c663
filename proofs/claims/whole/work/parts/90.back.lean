/-! a value comes back: if, define, set! -/
section
variable {S sz m kn d : Nat} {κ τ ρ φ : Nat → Nat} {L : List Nat} {w v : pm_W}
/-- the reference's back, with a frame, not of arguments -/
theorem back_M (hd : v.1 0 11 = nI (d + 1)) (h30 : d + 1 ≤ 30) (h4 : ¬ v.1 6 d = 4) : f_Md_back v = (if v.1 6 d = 1 then (if v.1 0 15 = (536870912 : Int32) then Option.bind (f_Md_cdr (v.1 7 d) (pm_setI v 0 11 (nI d))) fun o27 => (if o27.1 = (536870912 : Int32) then f_Md_give (536870912 : Int32) o27.2 else Option.bind (f_Md_at (v.1 7 d) (1 : Int32) o27.2) fun o29 => f_Md_go o29.1 (v.1 8 d) o29.2) else Option.bind (f_Md_car (v.1 7 d) (pm_setI v 0 11 (nI d))) fun o32 => f_Md_go o32.1 (v.1 8 d) o32.2) else if v.1 6 d = 2 then (if ((v.1 7 d) - (536871000 : Int32)) < 0 ∨ 40 ≤ ((v.1 7 d) - (536871000 : Int32)).toNatClampNeg then none else f_Md_give (v.1 7 d) (pm_setI (pm_setI v 0 11 (nI d)) 11 ((v.1 7 d) - (536871000 : Int32)).toNatClampNeg (v.1 0 15))) else Option.bind (f_Md_binding (v.1 7 d) (v.1 8 d) (pm_setI v 0 11 (nI d))) fun o10 => if o10.1 = (536870912 : Int32) then (if ((v.1 7 d) - (536871000 : Int32)) < 0 ∨ 40 ≤ ((v.1 7 d) - (536871000 : Int32)).toNatClampNeg then none else if (o10.2.1 11 ((v.1 7 d) - (536871000 : Int32)).toNatClampNeg) = (-2147483648 : Int32) then some ((-2 : Int32), o10.2) else f_Md_give (o10.2.1 0 15) (pm_setI o10.2 11 ((v.1 7 d) - (536871000 : Int32)).toNatClampNeg (o10.2.1 0 15))) else (if (o10.1 - (536873000 : Int32)) < 0 ∨ 206 ≤ (o10.1 - (536873000 : Int32)).toNatClampNeg then none else f_Md_give (o10.2.1 0 15) (pm_setI o10.2 3 (o10.1 - (536873000 : Int32)).toNatClampNeg (o10.2.1 0 15)))) := by
  unfold f_Md_back
  rw [hd, sub_1]
  rw [if_neg (show ¬ nI (d + 1) = 0 from q_ne (b := 0) (by omega) (by omega) (by omega))]
  have hb : ¬ (nI d < 0 ∨ 30 ≤ (nI d).toNatClampNeg) := nI_in (by omega) (by omega)
  simp only [if_neg hb, bind_pair]
  rw [nI_clamp (by omega), if_neg h4]
  by_cases q1 : v.1 6 d = 1
  · rw [if_pos q1, if_pos q1]
  · rw [if_neg q1, if_neg q1]
    by_cases q2 : v.1 6 d = 2
    · rw [if_pos q2, if_pos q2]
    · rw [if_neg q2, if_neg q2]
      congr 1
      funext o10
      by_cases q : o10.1 = (536870912 : Int32)
      · simp only [if_pos q]
        by_cases z : ((v.1 7 d) - (536871000 : Int32)) < 0 ∨ 40 ≤ ((v.1 7 d) - (536871000 : Int32)).toNatClampNeg
        · simp only [if_pos z]
        · simp only [if_neg z]
      · simp only [if_neg q]
theorem SO_choose (h : RL S sz m kn (d + 1) κ τ ρ φ L w v) (hk : w.1 13 d = 1) : SO S sz kn w v (f_Machine_choose S w) (f_Md_back v) := by
  have R := RL_Rd h
  obtain ⟨d1, d2, d3, d4, d5, d6⟩ := RL_dn h
  obtain ⟨g0, g1, g2, g3⟩ := d6 d (by omega)
  obtain ⟨s1, s2, s3⟩ := RL_st h
  obtain ⟨t1, t2, t3⟩ := s3 d (by omega)
  obtain ⟨s, a1, a2, a3, a4⟩ : ∃ s, s ∈ L ∧ κ s = 2 ∧ τ s = 0 ∧ w.1 14 d = vC s := by
    rcases t3 with ⟨_, q⟩ | ⟨q | q, _⟩ | ⟨q, _⟩
    · exact q
    all_goals (rw [hk] at q; exact absurd q (by decide))
  obtain ⟨f1, f2⟩ := fm_el R a1 a2 a3
  have hp := pop_sim h
  have Rp := RL_Rd hp
  have fw : frW w (pm_setI w 4 3 (nI d)) := frW_set frW_rf (by decide)
  have fv : frV v (pm_setI v 0 11 (nI d)) := frV_f frV_rf (by decide)
  have p17 : (pm_setI w 4 3 (nI d)).1 17 = w.1 17 := rdI_o _ (by decide)
  have p18 : (pm_setI w 4 3 (nI d)).1 18 = w.1 18 := rdI_o _ (by decide)
  rw [back_M d3 d1 (by rw [g0, hk]; decide), g0, hk, if_pos rfl, g1, g2, a4]
  unfold f_Machine_choose
  simp only [bind_pair]
  by_cases q : w.1 4 0 = 2
  · rw [if_pos q, if_pos (by rw [d4, q, tr_2]), fa_C d2 d1]
    simp only [Option.bind_some]
    rw [a4, Rd_snd R a1]
    simp only [Option.bind_some]
    rw [fb_C d2 d1]
    simp only [Option.bind_some]
    rw [pop_C d2 d1]
    simp only [Option.bind_some]
    rw [isPair_C, Rd_cdr Rp a1, p18]
    simp only [Option.bind_some]
    rcases f2 with z | ⟨y, y1, y2, y3, y4⟩
    · rw [z, kd_2, if_pos (show (if (2 : Int32) = 4 then (1 : Int32) else 0) = 0 by decide), if_pos tr_2]
      exact SO_ret hp gv_2 tr_2.symm fw fv
    · have hy := (Rd_L R y y1).1
      have hgy : gv kn κ L (vC y) := Or.inr (Or.inr (Or.inr (Or.inr ⟨y, y1, by rw [ptr_C y2]⟩)))
      rw [y4, (kd_C hy).1, if_pos rfl, if_neg (by decide), if_neg (by rw [Rd_nil Rp hgy]; exact vC_ne2 hy), Rd_fst Rp y1]
      simp only [Option.bind_some]
      obtain ⟨l, l1, l2, l3⟩ := chl_of Rp (t := 0) (by decide) (fm_el Rp a1 a2 a3).2
      have hc : chl κ L ((pm_setI w 4 3 (nI d)).1 18) (s :: l) (vC s) := ⟨a1, a2, rfl, l1⟩
      cases l with
      | nil =>
        have : (pm_setI w 4 3 (nI d)).1 18 s = 2 := l1
        rw [p18, y4] at this
        exact absurd this (vC_ne2 hy)
      | cons y' l =>
        have ey : y' = y := vC_inj (Rd_L R y' l1.1).1 hy (by rw [← l1.2.2.1, p18, y4])
        subst ey
        rw [show f_Md_at (tr φ (vC s)) 1 (pm_setI v 0 11 (nI d)) = some (tr φ ((pm_setI w 4 3 (nI d)).1 17 y'), pm_setI v 0 11 (nI d)) from at_M Rp hc (n := 1) (by simp)]
        simp only [Option.bind_some]
        exact SO_go hp (fm_el Rp y1 y2 y3).1 t1 rfl rfl fw fv
  · rw [if_neg q, if_neg (by rw [d4, Rd_nil R s1]; exact q), fa_C d2 d1]
    simp only [Option.bind_some]
    rw [fb_C d2 d1]
    simp only [Option.bind_some]
    rw [pop_C d2 d1]
    simp only [Option.bind_some]
    rw [a4, isPair_C, (kd_C (Rd_L R s a1).1).1]
    simp only [Option.bind_some, if_true]
    rw [if_neg (by decide), Rd_fst Rp a1, Rd_car Rp a1]
    simp only [Option.bind_some]
    exact SO_go hp (by rw [p17]; exact f1) t1 rfl rfl fw fv
theorem SO_define (h : RL S sz m kn (d + 1) κ τ ρ φ L w v) (hk : w.1 13 d = 2) : SO S sz kn w v (f_Machine_define S w) (f_Md_back v) := by
  have R := RL_Rd h
  have hkn := R.2.1.2.2.2.1
  obtain ⟨d1, d2, d3, d4, d5, d6⟩ := RL_dn h
  obtain ⟨g0, g1, g2, g3⟩ := d6 d (by omega)
  obtain ⟨s1, s2, s3⟩ := RL_st h
  obtain ⟨t1, t2, t3⟩ := s3 d (by omega)
  obtain ⟨y, y1, y2⟩ : ∃ y, y < kn ∧ w.1 14 d = vS y := by
    rcases t3 with ⟨q, _⟩ | ⟨_, q⟩ | ⟨q, _⟩
    · rw [hk] at q; exact absurd q (by decide)
    · exact q
    · rw [hk] at q; exact absurd q (by decide)
  rw [back_M d3 d1 (by rw [g0, hk]; decide), g0, hk, if_neg (by decide), if_pos rfl, g1, y2, tr_S (by omega), sub_sym, if_neg (nI_in (show y < 40 by omega) (by omega)), nI_clamp (by omega)]
  unfold f_Machine_define f_Value_content
  rw [fa_C d2 d1]
  simp only [Option.bind_some, bind_pair]
  rw [y2, (kd_S (by omega)).2, setG_C (by omega)]
  simp only [Option.bind_some]
  rw [pop_C (dn := d) (by rw [rdI_o _ (by decide)]; exact d2) d1]
  simp only [Option.bind_some]
  have hG := pop_sim (setG_sim h y1 s1)
  rw [setI_comm v (Or.inl (by decide)), d4]
  exact SO_ret hG (Or.inr (Or.inl ⟨y, y1, rfl⟩)) (by rw [tr_S (by omega)]) (frW_set (frW_set frW_rf (by decide)) (by decide)) (frV_f (frV_o frV_rf (by decide) (by decide)) (by decide))
theorem SO_assign (h : RL S sz m kn (d + 1) κ τ ρ φ L w v) (hk : w.1 13 d = 3) : SO S sz kn w v (f_Machine_assign S w) (f_Md_back v) := by
  have R := RL_Rd h
  have hkn := R.2.1.2.2.2.1
  obtain ⟨d1, d2, d3, d4, d5, d6⟩ := RL_dn h
  obtain ⟨g0, g1, g2, g3⟩ := d6 d (by omega)
  obtain ⟨s1, s2, s3⟩ := RL_st h
  obtain ⟨t1, t2, t3⟩ := s3 d (by omega)
  obtain ⟨y, y1, y2⟩ : ∃ y, y < kn ∧ w.1 14 d = vS y := by
    rcases t3 with ⟨q, _⟩ | ⟨_, q⟩ | ⟨q, _⟩
    · rw [hk] at q; exact absurd q (by decide)
    · exact q
    · rw [hk] at q; exact absurd q (by decide)
  have hgy : gv kn κ L (vS y) := Or.inr (Or.inl ⟨y, y1, rfl⟩)
  have R' : Rd S kn κ τ ρ φ L w (pm_setI v 0 11 (nI d)) := Rd_v R (ag_set ag_rf (by decide))
  obtain ⟨r, r1, r2, r3⟩ := bnd_sim R' hgy t1
  rw [back_M d3 d1 (by rw [g0, hk]; decide), g0, hk, if_neg (by decide), if_neg (by decide), g1, g2, y2, r2]
  simp only [Option.bind_some]
  rw [tr_S (by omega), sub_sym, nI_clamp (by omega)]
  unfold f_Machine_assign f_Value_content
  rw [fa_C d2 d1]
  simp only [Option.bind_some, bind_pair]
  rw [fb_C d2 d1]
  simp only [Option.bind_some]
  rw [y2, r1]
  simp only [Option.bind_some]
  rw [fa_C d2 d1]
  simp only [Option.bind_some]
  rw [y2, (kd_S (by omega)).2]
  have e15 : (pm_setI v 0 11 (nI d)).1 0 15 = tr φ (w.1 4 0) := by rw [rdI_n _ (Or.inr (by decide)), d4]
  have e11 : (pm_setI v 0 11 (nI d)).1 11 = v.1 11 := rdI_o _ (by decide)
  have fv : frV v (pm_setI v 0 11 (nI d)) := frV_f frV_rf (by decide)
  rcases r3 with r3 | ⟨b, b1, b2, b3, b4⟩
  · rw [if_pos r3, if_pos (by rw [r3, tr_2]), if_neg (ixc (show y < 40 by omega) (by omega)), glob_C (by omega)]
    simp only [Option.bind_some]
    rw [e11, h.2.2.2.2.2.1.2.2.1 y y1]
    rcases h.2.2.2.2.2.2 y y1 with q | q
    · rw [if_pos q, if_pos (by rw [q, tr_6])]
      refine SO_err (m := m) (RH_st (RL_RH h) (Nat.le_refl _) ag_rf (ag_set ag_rf (by decide)) (agF_set agF_rf (by decide))) (by decide) frW_rf fv
    · rw [if_neg (tr_ne6 R q).2, if_neg (tr_ne6 R q).1, setG_C (by omega)]
      simp only [Option.bind_some]
      rw [pop_C (dn := d) (by rw [rdI_o _ (by decide)]; exact d2) d1]
      simp only [Option.bind_some]
      have hG := pop_sim (setG_sim h y1 s1)
      rw [e15, setI_comm v (Or.inl (by decide))]
      refine SO_ret hG ?_ ?_ (frW_set (frW_set frW_rf (by decide)) (by decide)) (frV_f (frV_o frV_rf (by decide) (by decide)) (by decide))
      · rw [rdI_n _ (Or.inr (by decide)), rdI_n _ (Or.inl (by decide))]; exact s1
      · rw [rdI_n _ (Or.inr (by decide)), rdI_n _ (Or.inl (by decide))]
  · have hb := (Rd_L R b b1)
    have hgb : gv kn κ L (vC b) := Or.inr (Or.inr (Or.inr (Or.inr ⟨b, b1, by rw [ptr_C b2]⟩)))
    rw [b4, if_neg (vC_ne2 hb.1), if_neg (by rw [Rd_nil R hgb]; exact vC_ne2 hb.1), Rd_trC R b1, ptrM_sub, if_neg (nI_in hb.2 (by omega)), nI_clamp (by omega), setS_C R.1 R.2.1.2.2.1 (Rd_lt R b1)]
    simp only [Option.bind_some]
    rw [pop_C (dn := d) (by rw [rdI_o _ (by decide)]; exact d2) d1]
    simp only [Option.bind_some]
    have hG := pop_sim (setB_sim h b1 b2 b3 s1)
    rw [e15, setI_comm v (Or.inl (by decide))]
    refine SO_ret hG ?_ ?_ (frW_set (frW_set frW_rf (by decide)) (by decide)) (frV_f (frV_o frV_rf (by decide) (by decide)) (by decide))
    · rw [rdI_n _ (Or.inr (by decide)), rdI_n _ (Or.inl (by decide))]; exact s1
    · rw [rdI_n _ (Or.inr (by decide)), rdI_n _ (Or.inl (by decide))]
end
