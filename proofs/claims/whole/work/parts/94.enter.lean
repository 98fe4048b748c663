/-! a closure's call -/
section
variable {S sz m kn d n : Nat} {κ τ ρ φ : Nat → Nat} {L : List Nat} {w v : pm_W}
theorem vK_inj {s t : Nat} (hs : s < 1000) (ht : t < 1000) (h : vK s = vK t) : s = t := by
  have := (nI_eq (a := 8 * s + 5) (b := 8 * t + 5) (by omega) (by omega)).mp h
  omega
theorem nwT_3 {a b : Int32} : nwT kn κ τ ρ L 2 3 0 a b 2 := ⟨fun q => absurd q (by decide), fun _ => ⟨rfl, fun q => absurd q (by decide), fun q => absurd q (by decide), fun q => absurd q (by decide)⟩⟩
theorem rank_ex (hL : ∀ s ∈ L, s < 1000) (a : Int32) : ∃ r, ∀ t ∈ L, a = vC t → ρ t < r := by
  by_cases h : ∃ t ∈ L, a = vC t
  · obtain ⟨t, h1, h2⟩ := h
    refine ⟨ρ t + 1, fun u hu e => ?_⟩
    rw [vC_inj (hL u hu) (hL t h1) (e.symm.trans h2)]
    omega
  · exact ⟨0, fun t ht e => absurd ⟨t, ht, e⟩ h⟩
theorem gv_Km {x : Nat} (hx : x ∈ L) (hk : κ x = 3) : gv kn κ L (vK x) := Or.inr (Or.inr (Or.inr (Or.inr ⟨x, hx, by rw [ptr_K hk]⟩)))
theorem gv_Cm {x : Nat} (hx : x ∈ L) (hk : κ x = 2) : gv kn κ L (vC x) := Or.inr (Or.inr (Or.inr (Or.inr ⟨x, hx, by rw [ptr_C hk]⟩)))
/-- the loop that binds the parameters -/
theorem enter_l {c : Int32} {x : Nat} {l p : List Nat} (hl : l.length = n + 1) (hp : p.length = n) (hn : n < 200) : ∀ (k i m1 m2 : Nat) (κ τ ρ φ : Nat → Nat) (L : List Nat) (w v : pm_W) (env par : Int32), i + k = n → RH S sz (m + 4 * k) kn κ τ ρ φ L w v → chl κ L (w.1 18) l c → x ∈ L → κ x = 3 → chl κ L (w.1 18) p (w.1 17 x) → chl κ L (w.1 18) (p.drop i) par → Lst κ τ L 2 env → ∃ (κ' τ' ρ' φ' : Nat → Nat) (L' : List Nat) (w' v' : pm_W) (env' : Int32), l_Machine_boundEnvironment S (m1 + k + 1) 0 c (nI n) env par (nI i) w = some (env', w') ∧ l_Md_enter (m2 + k + 1) 0 (tr φ c) (nI n) (tr φ (vK x)) (tr φ env) (nI i) v = (Option.bind (f_Md_cdr (tr φ' (vK x)) (pm_setI v' 0 11 (v'.1 0 11 - 1))) fun o8 => f_Md_go o8.1 (tr φ' env') o8.2) ∧ RH S sz m kn κ' τ' ρ' φ' L' w' v' ∧ Ext kn κ τ φ L κ' τ' φ' L' w w' ∧ smA w w' ∧ smB v v' ∧ Lst κ' τ' L' 2 env' := by
  intro k
  induction k with
  | zero =>
    intro i m1 m2 κ τ ρ φ L w v env par hi h hc hx hk hpx hpr he
    have e : i = n := by omega
    subst e
    refine ⟨κ, τ, ρ, φ, L, w, v, env, ?_, ?_, h, Ext_rf, smA_rf, smB_rf, he⟩
    · rw [l_Machine_boundEnvironment_s]
      unfold b_Machine_boundEnvironment_23
      rw [if_pos (Int32.le_refl _)]
    · rw [l_Md_enter_s]
      unfold b_Md_enter_43
      rw [if_pos (Int32.le_refl _)]
      simp only [bind_pair]
  | succ k ih =>
    intro i m1 m2 κ τ ρ φ L w v env par hi h hc hx hk hpx hpr he
    have R := RH_Rd h
    have hi2 : i < p.length := by omega
    rw [List.drop_eq_getElem_cons hi2] at hpr
    obtain ⟨p1, p2, p3, p4⟩ := hpr
    have hj : n - 1 - i < l.length := by omega
    have hm := chl_mem l _ hc _ (List.getElem_mem hj)
    have hgx : gv kn κ L (w.1 17 p[i]) := (R.2.1.2.2.2.2 _ p1).2.1
    have hgy : gv kn κ L (w.1 17 (l[n - 1 - i]'hj)) := (R.2.1.2.2.2.2 _ hm.1).2.1
    have esub : nI n - 1 - nI i = nI (n - 1 - i) := by
      rw [show nI n - 1 = nI (n - 1) by rw [show nI n = nI (n - 1 + 1) by rw [show n - 1 + 1 = n by omega], sub_1], show nI (n - 1) = nI (n - 1 - i + i) by rw [show n - 1 - i + i = n - 1 by omega], ← nI_add, Int32.add_sub_cancel]
    obtain ⟨s, t, w1, v1, x1, x2, x3, x4, x5, x6, x7, x8, x9, x10, x11⟩ := pair_sim (m := m + 4 * k + 2) 3 0 (show RH S sz (m + 4 * k + 2 + 2) kn κ τ ρ φ L w v by rw [show m + 4 * k + 2 + 2 = m + 4 * (k + 1) by omega]; exact h) hgx hgy nwT_3
    have R1 := RH_Rd x6
    obtain ⟨r, hr⟩ := rank_ex (ρ := up1 ρ s 0) (fun s hs => (Rd_L R1 s hs).1) env
    have he1 := Ext_Lst x7 he
    have hs1 : gv kn (up1 κ s 2) (s :: L) (vC s) := gv_Cm List.mem_cons_self (up1_s _ _ _)
    obtain ⟨s', t', w2, v2, y1, y2, y3, y4, y5, y6, y7, y8, y9, y10, y11⟩ := pair_sim (m := m + 4 * k) 2 r x6 hs1 (Lst_gv he1) ⟨fun q => absurd q (by decide), fun _ => ⟨rfl, fun q => absurd q (by decide), fun _ => ⟨s, List.mem_cons_self, up1_s _ _ _, up1_s _ _ _, rfl⟩, fun _ => ⟨he1, hr⟩⟩⟩
    have R2 := RH_Rd y6
    have E := Ext_tr x7 y7
    obtain ⟨q0, q1, q2, q3, q4, q5, q6⟩ := E.1 _ p1
    obtain ⟨k0, k1, k2, k3, k4, k5, k6⟩ := E.1 _ hx
    have hc2 := chl_ext E _ _ hc
    have hp2 := chl_ext E _ _ hpx
    have hr2 := chl_ext E _ _ p4
    obtain ⟨κ', τ', ρ', φ', L', w', v', env', z1, z2, z3, z4, z5, z6, z7⟩ := ih (i + 1) m1 m2 _ _ _ _ _ w2 v2 (vC s') (w2.1 18 p[i]) (by omega) y6 hc2 k0 (by rw [k1, hk]) (by rw [k4]; exact hp2) (by rw [q5]; exact hr2) (Or.inr ⟨s', List.mem_cons_self, up1_s _ _ _, up1_s _ _ _, rfl⟩)
    refine ⟨κ', τ', ρ', φ', L', w', v', env', ?_, ?_, z3, Ext_tr E z4, smA_tr (smA_tr x8 y8) z5, smB_tr (smB_tr x9 y9) z6, z7⟩
    · rw [show m1 + (k + 1) + 1 = (m1 + k + 1) + 1 by omega, l_Machine_boundEnvironment_s]
      unfold b_Machine_boundEnvironment_23
      rw [if_neg (q_nle (by omega) (by omega)), esub]
      obtain ⟨b, b1, b2⟩ := tail_C R hc (n := n - 1 - i) (by omega)
      rw [List.drop_eq_getElem_cons hj] at b2
      rw [b1]
      simp only [Option.bind_some]
      rw [b2.2.2.1, Rd_fst R b2.1]
      simp only [Option.bind_some]
      rw [p3, Rd_fst R p1]
      simp only [Option.bind_some]
      rw [x4]
      simp only [Option.bind_some]
      rw [y4]
      simp only [Option.bind_some]
      rw [Rd_snd R2 q0]
      simp only [Option.bind_some]
      rw [nI_1, z1]
    · rw [show m2 + (k + 1) + 1 = (m2 + k + 1) + 1 by omega, l_Md_enter_s]
      unfold b_Md_enter_43
      rw [if_neg (q_nle (by omega) (by omega)), Rd_carK R hx]
      simp only [Option.bind_some]
      rw [at_M R hpx (n := i) (by omega)]
      simp only [Option.bind_some]
      rw [esub, at_M R hc (n := n - 1 - i) (by omega)]
      simp only [Option.bind_some]
      rw [x5]
      simp only [Option.bind_some]
      rw [← (x7.2 env (Lst_gv he)).2, y5]
      simp only [Option.bind_some]
      rw [nI_1, ← (E.2 c (chl_gv hc)).2, ← (E.2 (vK x) (gv_Km hx hk)).2, z2]
theorem SO_enter (h : RL S sz m kn (d + 1) κ τ ρ φ L w v) {l : List Nat} (hl : ApC κ L w d n l) (h7 : w.1 17 (l[n]'(by rw [hl.2]; omega)) &&& 7 = 5) : SO S sz kn w v (f_Machine_apply S w) (f_Md_apply (tr φ (w.1 16 d)) v) := by
  have R := RL_Rd h
  have hn := ap_n h hl
  have hln : n < l.length := by rw [hl.2]; omega
  have hm := chl_mem l _ hl.1 _ (List.getElem_mem hln)
  have hg := (R.2.1.2.2.2.2 _ hm.1).2.1
  obtain ⟨x, hx, hk, ex⟩ := gv_K R hg h7
  obtain ⟨g1, g2, g3⟩ := (R.2.1.2.2.2.2 x hx).2.2.2.1 hk
  obtain ⟨p, p1, p2, p3⟩ := chl_of R (t := 0) (by decide) g1
  have hS := R.2.1.2.2.1
  have hM : f_Md_apply (tr φ (w.1 16 d)) v = f_Md_enter (tr φ (w.1 16 d)) (nI n) (tr φ (vK x)) v := by
    unfold f_Md_apply
    rw [len_M R hl.1]
    simp only [Option.bind_some, bind_pair]
    rw [show nI l.length - 1 = nI n by rw [hl.2, sub_1], at_M R hl.1 (n := n) (by rw [hl.2]; omega)]
    simp only [Option.bind_some]
    rw [ex, Rd_isK R (gv_Km hx hk), (kd_K (Rd_L R x hx).1).1]
    simp only [Option.bind_some]
    rw [if_neg (by decide)]
  rw [hM]
  unfold f_Md_enter
  rw [Rd_carK R hx]
  simp only [Option.bind_some]
  rw [len_M R p1]
  simp only [Option.bind_some]
  have hfc : f_Machine_faultOfCall S (w.1 17 (l[n]'(by rw [hl.2]; omega))) (nI n) w = some (if n = p.length then 1 else -4, w) := by
    unfold f_Machine_faultOfCall f_Value_kind
    rw [ex, (kd_K (Rd_L R x hx).1).1]
    simp only [Option.bind_some]
    rw [if_neg (by decide), if_pos trivial, Rd_fstK R hx]
    simp only [Option.bind_some]
    rw [len_C R p1]
    simp only [Option.bind_some]
    by_cases q : n = p.length
    · rw [if_pos (by rw [← q]), if_pos q]
    · rw [if_neg (q_ne q (by omega) (by omega)), if_neg q]
  by_cases q : n = p.length
  · rw [if_pos (by rw [← q])]
    rw [if_pos q] at hfc
    obtain ⟨b, L2, w2, v2, c1, c2, c3, c4, c5⟩ := room_sim h (n := 4 * n) (by omega)
    rw [ap_C h hl, hfc]
    simp only [Option.bind_some]
    rw [if_pos trivial]
    unfold f_Machine_cellsOfCall f_Value_kind
    rw [ex, (kd_K (Rd_L R x hx).1).1]
    simp only [Option.bind_some]
    rw [if_pos trivial]
    simp only [Option.bind_some]
    rw [show (2 : Int32) * nI n * 2 = nI (4 * n) by rw [show (2 : Int32) = nI 2 from rfl, pk_mul, pk_mul, show 2 * n * 2 = 4 * n by omega], show (4 : Int32) * nI n = nI (4 * n) by rw [show (4 : Int32) = nI 4 from rfl, pk_mul], c1, c2]
    simp only [Option.bind_some]
    cases b with
    | false =>
      simp only [Bool.false_eq_true, if_false, if_true]
      exact SO_err (RL_RH c3) (by decide) (smR_fr c4) (smQ_fr c5)
    | true =>
      simp only [if_true] at c3 ⊢
      obtain ⟨d1, d2, d3, d4, d5, d6⟩ := RL_dn c3
      obtain ⟨hl2, w16, w17, w18, w19⟩ := ap_room h hl c3 c4
      have R2 := RL_Rd c3
      have hm2 := chl_mem l _ hl2.1 _ (List.getElem_mem hln)
      have hg2 := (R2.2.1.2.2.2.2 _ hm2.1).2.1
      obtain ⟨x', hx', hk', ex'⟩ := gv_K R2 hg2 (by rw [w17]; exact h7)
      have exx : x = x' := vK_inj (Rd_L R x hx).1 (Rd_L R2 x' hx').1 (by rw [← ex, ← ex', w17])
      subst exx
      obtain ⟨g1', g2', g3'⟩ := (R2.2.1.2.2.2.2 x hx').2.2.2.1 hk
      obtain ⟨p', p1', p2', p3'⟩ := chl_of R2 (t := 0) (by decide) g1'
      rw [w18, w17] at p1'
      have ep : p = p' := chl_det2 (fun s hs => (Rd_L R s hs).1) (fun s hs => (Rd_L R2 s hs).1) _ _ _ p1 p1'
      subst ep
      rw [← w18, ← w17] at p1'
      rw [if_neg (by decide), if_neg (by decide), pop_C d2 d1]
      simp only [Option.bind_some]
      have Rp := RL_Rd (pop_sim c3)
      have q17 : (pm_setI w2 4 3 (nI d)).1 17 = w2.1 17 := rdI_o _ (by decide)
      have q18 : (pm_setI w2 4 3 (nI d)).1 18 = w2.1 18 := rdI_o _ (by decide)
      have q19 : (pm_setI w2 4 3 (nI d)).1 19 = w2.1 19 := rdI_o _ (by decide)
      rw [Rd_sndK Rp hx']
      simp only [Option.bind_some]
      unfold f_Machine_boundEnvironment
      rw [Rd_trdK Rp hx']
      simp only [Option.bind_some]
      rw [Rd_fstK Rp hx']
      simp only [Option.bind_some]
      rw [Rd_trK R hx, ptrM_sub, if_neg (nI_in (Rd_L R x hx).2 (by omega)), nI_clamp (by have := (Rd_L R x hx).2; omega), (R2.2.2.1 x hx').2.2.2.2 hk, ← Rd_trK R hx]
      obtain ⟨κ', τ', ρ', φ', L', w', v', env', y1, y2, y3, y4, y5, y6, y7⟩ := enter_l (S := S) (sz := sz) (kn := kn) (m := 0) (c := w2.1 16 d) (x := x) (l := l) (p := p) hl.2 q.symm hn n 0 (pm_fuel - (n + 1)) (pm_fuel - (n + 1)) κ τ ρ φ L2 _ v2 (w2.1 19 x) (w2.1 17 x) (by omega) (by rw [Nat.zero_add]; exact RH_pop c3) (by rw [q18]; exact hl2.1) hx' hk (by rw [q18, q17]; exact p1') (by rw [q18, List.drop_zero]; exact p1') g3'
      rw [fuel_s _ (by omega), nI_0] at y1 y2
      obtain ⟨z0, z1, z2, z3, z4, z5, z6⟩ := y4.1 x hx'
      have R3 := RH_Rd y3
      have hfin := RL_fin c3 y3 y4 y5 y6
      rw [q17, q18, q19, ← w16, y1, y2]
      simp only [Option.bind_some]
      have v11 : v'.1 0 11 - 1 = nI d := by rw [y6.2 0 (by decide) (by decide) (by decide) (by decide), d3, sub_1]
      rw [v11, Rd_cdrK (RL_Rd hfin) z0]
      simp only [Option.bind_some]
      have e18 : w2.1 18 x = w'.1 18 x := by rw [z5, q18]
      rw [e18]
      refine SO_go hfin ?_ y7 rfl rfl (frW_tr (smR_fr c4) (frW_tr (frW_set frW_rf (by decide)) (smA_fr y5))) (frV_f (frV_tr (smQ_fr c5) (smB_fr y6)) (by decide))
      rw [← e18]
      exact Ext_Fmv y4 g2'
  · rw [if_neg (q_ne (Ne.symm q) (by omega) (by omega))]
    rw [if_neg q] at hfc
    exact ap_err h hl (by decide) hfc
/-- what is no function -/
theorem SO_nofn (h : RL S sz m kn (d + 1) κ τ ρ φ L w v) {l : List Nat} (hl : ApC κ L w d n l) (h5 : ¬ w.1 17 (l[n]'(by rw [hl.2]; omega)) &&& 7 = 5) (h3 : ¬ w.1 17 (l[n]'(by rw [hl.2]; omega)) &&& 7 = 3) : SO S sz kn w v (f_Machine_apply S w) (f_Md_apply (tr φ (w.1 16 d)) v) := by
  have R := RL_Rd h
  have hln : n < l.length := by rw [hl.2]; omega
  have hm := chl_mem l _ hl.1 _ (List.getElem_mem hln)
  have hg := (R.2.1.2.2.2.2 _ hm.1).2.1
  have hM : f_Md_apply (tr φ (w.1 16 d)) v = some (-5, v) := by
    unfold f_Md_apply
    rw [len_M R hl.1]
    simp only [Option.bind_some, bind_pair]
    rw [show nI l.length - 1 = nI n by rw [hl.2, sub_1], at_M R hl.1 (n := n) (by rw [hl.2]; omega)]
    simp only [Option.bind_some]
    rw [Rd_isK R hg]
    simp only [Option.bind_some]
    rw [if_neg h5, if_pos rfl, Rd_thing R hg]
    simp only [Option.bind_some]
    rcases tr_lt R.2.1.2.1 R.2.1.2.2.2.1 (Rd_L R) hg with ⟨q, r⟩ | ⟨s, h1, h2, h3⟩ | ⟨h1, h2⟩ | ⟨p, h1, h2, h3⟩ | ⟨s, h1, h2, h3⟩
    · rw [if_pos (Int32.lt_trans r (by decide))]
    · have := R.2.1.2.2.2.1
      rw [h3, if_pos (show nI (536871000 + s) < 536872000 from q_lt (b := 536872000) (by omega) (by omega))]
    · rw [h2, if_pos (by decide)]
    · rename_i q; exact absurd (by rw [h2]; exact (kd_P (by omega)).1) q
    · have h9 := (Rd_L R s h1).2
      have h4 : w.1 17 l[n] &&& 7 = 4 := by
        rcases R.2.1.2.1 s with r | r
        · rw [h2, ptr_C r, (kd_C (Rd_L R s h1).1).1]
        · exact absurd (by rw [h2, ptr_K r, (kd_K (Rd_L R s h1).1).1]) h5
      unfold ptrM at h3
      rw [h3, if_neg (show ¬ nI (536873000 + φ s) < 536872000 from q_nlt (b := 536872000) (by omega) (by omega)), if_pos (Or.inl h4), if_neg (by decide)]
  rw [hM]
  refine ap_err h hl (by decide) ?_
  unfold f_Machine_faultOfCall f_Value_kind
  simp only [Option.bind_some]
  rw [if_neg h3, if_neg h5]
/-- apply -/
theorem SO_apply (h16 : 16 ≤ kn) (h : RL S sz m kn (d + 1) κ τ ρ φ L w v) {l : List Nat} (hl : ApC κ L w d n l) : SO S sz kn w v (f_Machine_apply S w) (f_Md_apply (tr φ (w.1 16 d)) v) := by
  have R := RL_Rd h
  have hln : n < l.length := by rw [hl.2]; omega
  have hm := chl_mem l _ hl.1 _ (List.getElem_mem hln)
  have hg := (R.2.1.2.2.2.2 _ hm.1).2.1
  by_cases h5 : w.1 17 (l[n]'(by rw [hl.2]; omega)) &&& 7 = 5
  · exact SO_enter h hl h5
  · by_cases h3 : w.1 17 (l[n]'(by rw [hl.2]; omega)) &&& 7 = 3
    · obtain ⟨p, p1, p2⟩ := gv_P R hg h3
      have hc : p < 5 ∨ (p = 5 ∨ p = 7 ∨ p = 8) ∨ p = 6 ∨ p = 9 := by omega
      rcases hc with q | q | q | q
      · exact SO_two h16 h hl q p2
      · exact SO_one h16 h hl q p2
      · subst q; exact SO_cons h hl p2
      · subst q; exact SO_list h hl p2
    · exact SO_nofn h hl h5 h3
end
