/-! an argument's value comes back; giveBack with frames -/
section
variable {S sz m kn d n : Nat} {κ τ ρ φ : Nat → Nat} {L : List Nat} {w v : pm_W}
theorem SO_fr {w0 v0 : pm_W} {rc rm : Option (Int32 × pm_W)} (h : SO S sz kn w v rc rm) (f1 : frW w0 w) (f2 : frV v0 v) : SO S sz kn w0 v0 rc rm := by
  obtain ⟨r, w1, v1, a1, a2, a3, a4, a5⟩ := h
  exact ⟨r, w1, v1, a1, a2, frW_tr f1 a3, frV_tr f2 a4, a5⟩
theorem SO_arg (h16 : 16 ≤ kn) (h : RL S sz m kn (d + 1) κ τ ρ φ L w v) (hk : w.1 13 d = 4) : SO S sz kn w v (Option.bind (f_Machine_keepValue S w) fun o9 => if o9.1 = 0 then some ((-7 : Int32), o9.2) else Option.bind (f_State_a S o9.2) fun o11 => Option.bind (f_Value_isPair S o11.1 o11.2) fun o12 => if o12.1 = 0 then f_Machine_apply S o12.2 else f_Machine_nextArgument S o12.2) (f_Md_argument (nI d) v) := by
  obtain ⟨d1, d2, d3, d4, d5, d6⟩ := RL_dn h
  obtain ⟨b, L2, w2, v2, c1, c2, c3, c4, c5⟩ := room_sim h (n := 2) (by omega)
  unfold f_Machine_keepValue f_Md_argument
  rw [show f_Room_hasFor S 2 w = some (if b = true then 1 else 0, w2) from c1, show f_Md_room 2 v = some (if b = true then 1 else 0, v2) from c2]
  simp only [Option.bind_some]
  cases b with
  | false =>
    simp only [Bool.false_eq_true, if_false, if_true, Option.bind_some]
    exact SO_err (RL_RH c3) (by decide) (smR_fr c4) (smQ_fr c5)
  | true =>
    simp only [if_true] at c3 ⊢
    have W : ∀ o, o ≠ 5 → o ≠ 20 → o ≠ 21 → o ≠ 22 → w2.1 o = w.1 o := c4.2.1
    have w13 : w2.1 13 = w.1 13 := W 13 (by decide) (by decide) (by decide) (by decide)
    obtain ⟨e1, e2, e3, e4, e5, e6⟩ := RL_dn c3
    obtain ⟨s1, s2, s3⟩ := RL_st c3
    obtain ⟨t1, t2, t3⟩ := s3 d (by omega)
    have R2 := RL_Rd c3
    obtain ⟨r, hr⟩ := rank_ex (ρ := ρ) (fun s hs => (Rd_L R2 s hs).1) (w2.1 16 d)
    obtain ⟨s, t, w3, v3, x1, x2, x3, x4, x5, x6, x7, x8, x9, x10, x11⟩ := pair_sim (m := 0) 1 r (RL_RH c3) s1 (Lst_gv t2) ⟨fun q => absurd q (by decide), fun _ => ⟨rfl, fun q => absurd q (by decide), fun q => absurd q (by decide), fun _ => ⟨t2, hr⟩⟩⟩
    obtain ⟨y1, y2⟩ := MSt_ext (RL_dn c3) (RL_st c3) x7 x8 x9
    have h3 := RL_mk x6 y1 y2
    have h4 := setC_sim h3 (c := vC s) (Or.inr ⟨s, List.mem_cons_self, up1_s _ _ _, up1_s _ _ _, rfl⟩)
    obtain ⟨f1, f2, f3, f4, f5, f6⟩ := RL_dn h3
    have fa : frW w (pm_setI w3 16 d (vC s)) := frW_set (frW_tr (smR_fr c4) (smA_fr x8)) (by decide)
    have fb : frV v (pm_setI v3 9 d (tr (up1 φ s t) (vC s))) := frV_o (frV_tr (smQ_fr c5) (smB_fr x9)) (by decide) (by decide)
    obtain ⟨g1, g2, g3, g4, g5, g6⟩ := RL_dn h4
    obtain ⟨j1, j2, j3⟩ := RL_st h4
    have hin : ¬ (nI d < 0 ∨ 30 ≤ (nI d).toNatClampNeg) := nI_in (by omega) (by omega)
    have k3 : (pm_setI w3 16 d (vC s)).1 13 d = 4 := by
      rw [rdI_o _ (by decide), x8.2 13 (by decide) (by decide) (by decide) (by decide), w13]; exact hk
    have k4 : Lst (up1 κ s 2) (up1 τ s 1) (s :: L2) 0 ((pm_setI w3 16 d (vC s)).1 14 d) := by
      obtain ⟨_, _, z⟩ := j3 d (by omega)
      rcases z with ⟨z, _⟩ | ⟨z, _⟩ | ⟨_, z⟩
      · rw [k3] at z; exact absurd z (by decide)
      · rw [k3] at z; exact absurd z (by decide)
      · exact z
    have R4 := RL_Rd h4
    rw [if_neg (by decide), if_neg (by decide), if_neg hin, nI_clamp (by omega), fc_C e2 e1]
    have hin2 : ¬ (nI d < 0 ∨ 30 ≤ d) := by rw [nI_clamp (by omega)] at hin; exact hin
    simp only [Option.bind_some]
    rw [x4, (e6 d (by omega)).2.2.2, e4, x5]
    simp only [Option.bind_some]
    rw [setC_C f2 f1]
    simp only [Option.bind_some]
    rw [if_neg (by decide), fa_C g2 g1]
    simp only [Option.bind_some]
    rw [isPair_C]
    simp only [Option.bind_some]
    have v7 : v3.1 7 d = tr (up1 φ s t) ((pm_setI w3 16 d (vC s)).1 14 d) := by
      rw [← (g6 d (by omega)).2.1, rdI_o _ (by decide)]
    rw [if_neg hin2, if_neg hin2, v7]
    have knil := Rd_nil R4 (Lst_gv k4)
    simp only [bind_pair]
    rcases k4 with q | ⟨y, z1, z2, z3, z4⟩
    · have kn1 := knil.mpr q
      rw [if_neg (show ¬ (pm_setI w3 16 d (vC s)).1 14 d &&& 7 = 4 by rw [q]; decide), if_pos rfl, if_pos kn1, if_neg hin2]
      have k5 : Lst (up1 κ s 2) (up1 τ s 1) (s :: L2) 1 ((pm_setI w3 16 d (vC s)).1 16 d) := (j3 d (by omega)).2.1
      obtain ⟨l, l1, _, _⟩ := chl_of R4 (t := 1) (by decide) k5
      have e16 : (pm_setI w3 16 d (vC s)).1 16 d = vC s := by simp [pm_setI, pm_up]
      have e9 : (pm_setI v3 9 d (tr (up1 φ s t) (vC s))).1 9 d = tr (up1 φ s t) ((pm_setI w3 16 d (vC s)).1 16 d) := (g6 d (by omega)).2.2.2
      rw [e9]
      cases l with
      | nil =>
        have l1 : (pm_setI w3 16 d (vC s)).1 16 d = 2 := l1
        rw [e16] at l1
        exact absurd l1 (vC_ne2 (Rd_L R4 s List.mem_cons_self).1)
      | cons a l => exact SO_fr (SO_apply (n := l.length) h16 h4 ⟨l1, rfl⟩) fa fb
    · have n2 : ¬ (pm_setI w3 16 d (vC s)).1 14 d = 2 := by rw [z4]; exact vC_ne2 (Rd_L R4 y z1).1
      have hb4 : (pm_setI w3 16 d (vC s)).1 14 d &&& 7 = 4 := by rw [z4]; exact (kd_C (Rd_L R4 y z1).1).1
      obtain ⟨m1, m2⟩ := fm_el R4 z1 z2 z3
      have kn1 := fun q => n2 (knil.mp q)
      rw [if_neg kn1, if_pos hb4, if_neg (by decide)]
      unfold f_Machine_nextArgument
      rw [fa_C g2 g1]
      simp only [Option.bind_some, bind_pair]
      rw [z4, Rd_snd R4 z1, Rd_cdr R4 z1]
      simp only [Option.bind_some]
      rw [setA_C g2 g1, if_neg hin2]
      simp only [Option.bind_some]
      have h5 := setA_sim h4 k3 m2
      have R5 := RL_Rd h5
      obtain ⟨i1, i2, i3, i4, i5, i6⟩ := RL_dn h5
      rw [Rd_fst R5 z1, Rd_car R5 z1]
      simp only [Option.bind_some]
      rw [if_neg hin2, fb_C i2 i1, (i6 d (by omega)).2.2.1]
      simp only [Option.bind_some]
      exact SO_go h5 (fm_el R5 z1 z2 z3).1 ((RL_st h5).2.2 d (by omega)).1 rfl rfl (frW_set fa (by decide)) (frV_o fb (by decide) (by decide))
/-- giveBack, with a frame -/
theorem SO_back (h16 : 16 ≤ kn) (h : RL S sz m kn (d + 1) κ τ ρ φ L w v) : SO S sz kn w v (f_Machine_giveBack S w) (f_Md_back v) := by
  obtain ⟨d1, d2, d3, d4, d5, d6⟩ := RL_dn h
  obtain ⟨_, _, z⟩ := (RL_st h).2.2 d (by omega)
  unfold f_Machine_giveBack
  rw [kind_C d2 d1]
  simp only [Option.bind_some, bind_pair]
  rcases z with ⟨q, _⟩ | ⟨q | q, _⟩ | ⟨q, _⟩
  · rw [if_pos q]
    exact SO_choose h q
  · rw [if_neg (by rw [q]; decide), if_pos q]
    exact SO_define h q
  · rw [if_neg (by rw [q]; decide), if_neg (by rw [q]; decide), if_pos q]
    exact SO_assign h q
  · rw [if_neg (by rw [q]; decide), if_neg (by rw [q]; decide), if_neg (by rw [q]; decide), if_pos q]
    have hin : ¬ (nI d < 0 ∨ 30 ≤ (nI d).toNatClampNeg) := nI_in (by omega) (by omega)
    have hM : f_Md_back v = f_Md_argument (nI d) v := by
      unfold f_Md_back
      rw [d3, sub_1, if_neg (show ¬ nI (d + 1) = 0 from q_ne (b := 0) (by omega) (by omega) (by omega)), if_neg hin, nI_clamp (by omega), (d6 d (by omega)).1, if_pos q]
      simp only [bind_pair]
    rw [hM]
    exact SO_arg h16 h q
end
