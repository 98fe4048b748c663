/-! lambda, and evaluate as a whole -/
section
variable {S sz m kn dn : Nat} {κ τ ρ φ : Nat → Nat} {L : List Nat} {w v : pm_W}
theorem chl_det2 {g : Nat → Int32} {L2 : List Nat} (hL : ∀ s ∈ L, s < 1000) (hL2 : ∀ s ∈ L2, s < 1000) : ∀ (l m : List Nat) (a : Int32), chl κ L g l a → chl κ L2 g m a → l = m := by
  intro l
  induction l with
  | nil =>
    intro m a h1 h2
    cases m with
    | nil => rfl
    | cons t m =>
      obtain ⟨q1, _, q2, _⟩ := h2
      rw [show a = 2 from h1] at q2
      exact absurd q2.symm (vC_ne2 (hL2 t q1))
  | cons s l ih =>
    intro m a h1 h2
    obtain ⟨p1, _, p2, p3⟩ := h1
    cases m with
    | nil =>
      rw [show a = 2 from h2] at p2
      exact absurd p2.symm (vC_ne2 (hL s p1))
    | cons t m =>
      obtain ⟨q1, _, q2, q3⟩ := h2
      have e : s = t := vC_inj (hL s p1) (hL2 t q1) (p2.symm.trans q2)
      subst e
      rw [ih m _ p3 q3]
theorem Fmv_Lst {L2 : List Nat} {t : Nat} {τ2 : Nat → Nat} (hkn : kn ≤ 40) (hL : ∀ s ∈ L, s < 1000) {a : Int32} (h1 : Lst κ τ L t a) (h2 : Fmv kn κ τ2 L2 a) : Lst κ τ2 L2 0 a := by
  rcases h1 with h1 | ⟨s, s1, _, _, s2⟩
  · exact Or.inl h1
  · have h7 := (kd_C (hL s s1)).1
    rcases h2 with q | ⟨y, q1, q2⟩ | q
    · rw [s2, h7] at q; exact absurd q (by decide)
    · rw [← s2, q2, (kd_S (by omega)).1] at h7; exact absurd h7 (by decide)
    · exact q
def pOK (w : pm_W) (p : List Nat) : Bool := p.all (fun x => decide (w.1 17 x &&& 7 = 1))
theorem par_l (R : Rd S kn κ τ ρ φ L w v) : ∀ (p : List Nat) (i m : Nat) (a : Int32), chl κ L (w.1 18) p a → i ≤ 4 → l_Machine_areParameters S (m + p.length + 1) 0 a (nI i) w = some (if i + p.length ≤ 4 ∧ pOK w p = true then 1 else 0, w) := by
  intro p
  induction p with
  | nil =>
    intro i m a ha hi
    simp only [List.length_nil, Nat.add_zero]
    rw [l_Machine_areParameters_s]
    unfold b_Machine_areParameters_4
    rw [isPair_C, show a = 2 from ha, kd_2]
    rw [if_pos (show i ≤ 4 ∧ pOK w [] = true from ⟨hi, rfl⟩)]
    by_cases q : 4 ≤ i
    · rw [if_pos (show 4 ≤ nI i from q_le (a := 4) q (by omega))]
      rfl
    · rw [if_neg (show ¬ 4 ≤ nI i from q_nle (a := 4) (by omega) (by omega))]
      rfl
  | cons s p ih =>
    intro i m a ha hi
    simp only [List.length_cons]
    obtain ⟨p1, p2, p3, p4⟩ := id ha
    rw [show m + (p.length + 1) + 1 = (m + p.length + 1) + 1 by omega, l_Machine_areParameters_s]
    unfold b_Machine_areParameters_4
    rw [isPair_C, p3, (kd_C (Rd_L R s p1).1).1]
    by_cases q : 4 ≤ i
    · rw [if_pos (show 4 ≤ nI i from q_le (a := 4) q (by omega)), if_neg (vC_ne2 (Rd_L R s p1).1), if_neg (show ¬ (i + (p.length + 1) ≤ 4 ∧ pOK w (s :: p) = true) from fun r => by omega)]
    · rw [if_neg (show ¬ 4 ≤ nI i from q_nle (a := 4) (by omega) (by omega))]
      simp only [Option.bind_some, if_true]
      rw [if_neg (by decide), Rd_fst R p1]
      simp only [Option.bind_some]
      rw [isSym_C]
      simp only [Option.bind_some]
      by_cases r : w.1 17 s &&& 7 = 1
      · rw [if_pos r, if_neg (by decide), Rd_snd R p1]
        simp only [Option.bind_some]
        rw [nI_1, ih (i + 1) m _ p4 (by omega)]
        have e : pOK w (s :: p) = pOK w p := by simp [pOK, r]
        rw [e, show i + 1 + p.length = i + (p.length + 1) by omega]
      · have e : ¬ pOK w (s :: p) = true := by simp [pOK, r]
        rw [if_neg r, if_pos rfl, if_neg (show ¬ (i + (p.length + 1) ≤ 4 ∧ pOK w (s :: p) = true) from fun z => e z.2)]
theorem parM_0 {n : Nat} {a : Int32} : l_Md_areParameters (n + 1) 0 0 a v = some (0, v) := by
  rw [l_Md_areParameters_s]
  unfold b_Md_areParameters_31
  rw [if_pos rfl, if_pos (by decide)]
theorem par_lM (R : Rd S kn κ τ ρ φ L w v) : ∀ (p : List Nat) (m : Nat) (a : Int32), chl κ L (w.1 18) p a → l_Md_areParameters (m + p.length + 1) 0 1 (tr φ a) v = some (if pOK w p = true then 1 else 0, v) := by
  intro p
  induction p with
  | nil =>
    intro m a ha
    simp only [List.length_nil, Nat.add_zero]
    rw [l_Md_areParameters_s]
    unfold b_Md_areParameters_31
    rw [if_neg (by decide), Rd_isP R (chl_gv ha), show a = 2 from ha, kd_2]
    rfl
  | cons s p ih =>
    intro m a ha
    simp only [List.length_cons]
    obtain ⟨p1, p2, p3, p4⟩ := id ha
    rw [show m + (p.length + 1) + 1 = (m + p.length + 1) + 1 by omega, l_Md_areParameters_s]
    unfold b_Md_areParameters_31
    rw [if_neg (by decide), Rd_isP R (chl_gv ha), p3, (kd_C (Rd_L R s p1).1).1]
    simp only [Option.bind_some, if_true]
    rw [if_neg (by decide), Rd_car R p1]
    simp only [Option.bind_some]
    rw [Rd_isS R (R.2.1.2.2.2.2 s p1).2.1]
    simp only [Option.bind_some]
    rw [Rd_cdr R p1]
    simp only [Option.bind_some]
    by_cases r : w.1 17 s &&& 7 = 1
    · have e : pOK w (s :: p) = pOK w p := by simp [pOK, r]
      rw [if_pos r, ih m _ p4, e]
    · have e : ¬ pOK w (s :: p) = true := by simp [pOK, r]
      rw [if_neg r, if_neg e]
      exact parM_0
theorem fuel_s (n : Nat) (h : n < 100000) : pm_fuel - (n + 1) + n + 1 = pm_fuel := by
  show 100000 - (n + 1) + n + 1 = 100000
  omega
theorem fuel_1 : ∃ n, pm_fuel = n + 1 := ⟨99999, rfl⟩
theorem par_sim (R : Rd S kn κ τ ρ φ L w v) {a : Int32} (ha : Fmv kn κ τ L a) : ∃ b : Bool, f_Machine_areParameters S a w = some (if b = true then 1 else 0, w) ∧ f_Md_areParameters (tr φ a) v = some (if b = true then 1 else 0, v) ∧ (b = true → Lst κ τ L 0 a) := by
  have hS := R.2.1.2.2.1
  have hkn := R.2.1.2.2.2.1
  by_cases q : Lst κ τ L 0 a
  · obtain ⟨p, p1, p2, p3⟩ := chl_of R (t := 0) (by decide) q
    refine ⟨decide (p.length ≤ 4 ∧ pOK w p = true), ?_, ?_, fun _ => q⟩
    · have := par_l R p 0 (pm_fuel - (p.length + 1)) a p1 (by omega)
      rw [fuel_s _ (by omega), nI_0] at this
      unfold f_Machine_areParameters
      rw [this]
      simp
    · have := par_lM R p (pm_fuel - (p.length + 1)) a p1
      rw [fuel_s _ (by omega)] at this
      unfold f_Md_areParameters
      by_cases e : a = 2
      · have hp : p = [] := by
          cases p with
          | nil => rfl
          | cons s p => exact absurd (p1.2.2.1.symm.trans e) (vC_ne2 (Rd_L R s p1.1).1)
        subst hp
        rw [if_pos (by rw [e, tr_2]), this]
        rfl
      · rw [if_neg (by rw [Rd_nil R (Lst_gv q)]; exact e), Rd_isP R (Lst_gv q)]
        simp only [Option.bind_some]
        have h4 : a &&& 7 = 4 := by
          rcases q with q | ⟨s, s1, _, _, s2⟩
          · exact absurd q e
          · rw [s2, (kd_C (Rd_L R s s1).1).1]
        rw [if_pos h4, if_neg (by decide), len_M R p1]
        simp only [Option.bind_some]
        by_cases z : 5 ≤ p.length
        · rw [if_pos (show 5 ≤ nI p.length from q_le (a := 5) z (by omega))]
          obtain ⟨n, hn⟩ := fuel_1
          rw [hn, parM_0]
          have : ¬ p.length ≤ 4 := by omega
          simp [this]
        · rw [if_neg (show ¬ 5 ≤ nI p.length from q_nle (a := 5) (by omega) (by omega)), this]
          have : p.length ≤ 4 := by omega
          simp [this]
  · have hg : gv kn κ L a := Fmv_gv ha
    have n2 : ¬ a = 2 := fun e => q (Or.inl e)
    have n4 : ¬ a &&& 7 = 4 := by
      rcases ha with r | ⟨y, r1, r2⟩ | r
      · rw [r]; decide
      · rw [r2, (kd_S (by omega)).1]; decide
      · exact absurd r q
    refine ⟨false, ?_, ?_, fun z => absurd z (by decide)⟩
    · unfold f_Machine_areParameters
      obtain ⟨n, hn⟩ := fuel_1
      rw [hn, l_Machine_areParameters_s]
      unfold b_Machine_areParameters_4
      rw [if_neg (by decide), isPair_C, if_neg n4]
      simp only [Option.bind_some]
      rw [if_pos trivial, if_neg n2]
      rfl
    · unfold f_Md_areParameters
      rw [if_neg (by rw [Rd_nil R hg]; exact n2), Rd_isP R hg, if_neg n4]
      simp only [Option.bind_some]
      obtain ⟨n, hn⟩ := fuel_1
      rw [if_pos trivial, hn, parM_0]
      rfl
theorem SO_lam (h : RL S sz m kn dn κ τ ρ φ L w v) {s : Nat} (hs : s ∈ L) (hk : κ s = 2) (ht : τ s = 0) (e : w.1 4 0 = vC s) : SO S sz kn w v (f_Machine_evaluateLambda S w) (f_Md_special 12 v) := by
  have R := RL_Rd h
  have hS := R.2.1.2.2.1
  have hkn := R.2.1.2.2.2.1
  obtain ⟨d1, d2, d3, d4, d5, d6⟩ := RL_dn h
  obtain ⟨l, l1, l2, l3⟩ := chl_of R (t := 0) (by decide) (fm_el R hs hk ht).2
  have hc : chl κ L (w.1 18) (s :: l) (w.1 4 0) := ⟨hs, hk, e, l1⟩
  rw [spec_M R hs (by rw [d4, e]) l1, if_neg (by decide), if_neg (by decide)]
  unfold f_Machine_evaluateLambda
  rw [len_C R hc]
  simp only [Option.bind_some, bind_pair, List.length_cons]
  by_cases q : l.length = 2
  · obtain ⟨k1, k2, k3, k4, k5, k6⟩ := Rd_cs R l1 (by omega)
    have hl0 : τ l[0] = 0 := l2 _ (List.getElem_mem _)
    have hf0 := (fm_el R k4 k5 hl0).1
    rw [if_pos (show nI (l.length + 1) = 3 by rw [q]; rfl), if_pos (show nI l.length = 2 by rw [q]; rfl), if_pos trivial, k1]
    simp only [Option.bind_some]
    rw [show (1 : Int32) = nI 1 from rfl, part_C R hc (n := 1) (by simp only [List.length_cons]; omega)]
    simp only [Option.bind_some, List.getElem_cons_succ]
    obtain ⟨b, b1, b2, b3⟩ := par_sim R hf0
    rw [b1, b2]
    simp only [Option.bind_some]
    cases b with
    | false =>
      simp only [Bool.false_eq_true, if_false, if_true]
      rw [spec_0]
      exact SO_err (RL_RH h) (by decide) frW_rf frV_rf
    | true =>
      simp only [if_true]
      rw [if_neg (by decide), if_neg (by decide)]
      unfold b_Md_special_100
      rw [if_neg (by decide), if_neg (by decide), if_pos rfl]
      obtain ⟨b, L2, w2, v2, c1, c2, c3, c4, c5⟩ := room_sim h (n := 3) (by omega)
      rw [show (3 : Int32) = nI 3 from rfl, c1, c2]
      simp only [Option.bind_some, bind_pair]
      cases b with
      | false =>
        simp only [Bool.false_eq_true, if_false, if_true]
        exact SO_err (RL_RH c3) (by decide) (smR_fr c4) (smQ_fr c5)
      | true =>
        simp only [if_true] at c3 ⊢
        rw [if_neg (by decide), if_neg (by decide)]
        have R2 := RL_Rd c3
        have W : ∀ o, o ≠ 5 → o ≠ 20 → o ≠ 21 → o ≠ 22 → w2.1 o = w.1 o := c4.2.1
        have w4 : w2.1 4 = w.1 4 := W 4 (by decide) (by decide) (by decide) (by decide)
        have w17 : w2.1 17 = w.1 17 := W 17 (by decide) (by decide) (by decide) (by decide)
        have w18 : w2.1 18 = w.1 18 := W 18 (by decide) (by decide) (by decide) (by decide)
        have hs2 : s ∈ L2 := (gv_C R2 (Rd_L R s hs).1 (by rw [← e, ← w4]; exact (RL_st c3).1)).1
        obtain ⟨l', l1', l2', l3'⟩ := chl_of R2 (t := 0) (by decide) (fm_el R2 hs2 hk ht).2
        rw [w18] at l1'
        have el : l = l' := chl_det2 (fun s hs => (Rd_L R s hs).1) (fun s hs => (Rd_L R2 s hs).1) _ _ _ l1 l1'
        subst el
        rw [← w18] at l1'
        have hc2 : chl κ L2 (w2.1 18) (s :: l) (w2.1 4 0) := ⟨hs2, hk, by rw [w4]; exact e, l1'⟩
        obtain ⟨k1', k2', k3', k4', k5', k6'⟩ := Rd_cs R2 l1' (by omega)
        have m1 := chl_mem l _ l1' l[1] (List.getElem_mem _)
        rw [part_C R2 hc2 (n := 1) (by simp only [List.length_cons]; omega)]
        simp only [Option.bind_some, List.getElem_cons_succ]
        rw [show (2 : Int32) = nI 2 from rfl, part_C R2 hc2 (n := 2) (by simp only [List.length_cons]; omega)]
        simp only [Option.bind_some, List.getElem_cons_succ]
        rw [← w18, k1']
        simp only [Option.bind_some]
        rw [show f_Md_at (tr φ (w2.1 18 s)) 1 v2 = some (tr φ (w2.1 17 l[1]), v2) from at_M R2 l1' (n := 1) (by omega)]
        simp only [Option.bind_some]
        have ha : Lst κ τ L2 0 (w2.1 17 l[0]) := by
          have := (fm_el R2 k4' k5' hl0).1
          rw [w17] at this ⊢
          exact Fmv_Lst hkn (fun s hs => (Rd_L R s hs).1) (b3 rfl) this
        obtain ⟨x, t, w3, v3, x1, x2, x3, x4, x5, x6, x7, x8, x9⟩ := clo_sim (m := 0) (RL_RH c3) ha (fm_el R2 m1.1 m1.2 (l2 _ (List.getElem_mem _))).1 (RL_st c3).2.1
        rw [x4, (RL_dn c3).2.2.2.2.1, show nI 3 = 3 from rfl, x5]
        simp only [Option.bind_some]
        obtain ⟨y1, y2⟩ := MSt_ext (RL_dn c3) (RL_st c3) x7 x8 x9
        refine SO_ret (RL_mk x6 y1 y2) ?_ rfl (frW_tr (smR_fr c4) (smA_fr x8)) (frV_tr (smQ_fr c5) (smB_fr x9))
        exact Or.inr (Or.inr (Or.inr (Or.inr ⟨x, List.mem_cons_self, by rw [ptr_K (up1_s _ _ _)]⟩)))
  · rw [if_neg (show ¬ nI (l.length + 1) = 3 from q_ne (b := 3) (by omega) (by omega) (by omega)), if_neg (show ¬ nI l.length = 2 from q_ne (b := 2) (by omega) (by omega) (by omega)), spec_0]
    exact SO_err (RL_RH h) (by decide) frW_rf frV_rf
theorem SO_app (h : RL S sz m kn dn κ τ ρ φ L w v) {s : Nat} (hs : s ∈ L) (hk : κ s = 2) (ht : τ s = 0) (e : w.1 4 0 = vC s) : SO S sz kn w v (Option.bind (f_Room_second S (w.1 4 0) w) fun o21 => f_Machine_evaluateUnder S 4 o21.1 (o21.2.1 4 1) (w.1 17 s) o21.2) (Option.bind (f_Md_cdr (v.1 0 15) v) fun o7 => Option.bind (f_Md_push (4 : Int32) o7.1 (o7.2.1 0 16) o7.2) fun o8 => if o8.1 = (-6 : Int32) then some ((-6 : Int32), o8.2) else f_Md_go (tr φ (w.1 17 s)) (o8.2.1 0 16) o8.2) := by
  have R := RL_Rd h
  obtain ⟨d1, d2, d3, d4, d5, d6⟩ := RL_dn h
  obtain ⟨f1, f2⟩ := fm_el R hs hk ht
  rw [d4, e, Rd_snd R hs, Rd_cdr R hs]
  simp only [Option.bind_some]
  exact SO_under h ⟨(RL_st h).2.1, Or.inl rfl, Or.inr (Or.inr ⟨rfl, f2⟩)⟩ f1 rfl d5 rfl frW_rf frV_rf
theorem ev_def {x1 s0 : Int32} (h0 : ¬ s0 = 10) (h1 : ¬ s0 = 11) (h2 : ¬ s0 = 12) (h3 : ¬ s0 = 13) (h4 : ¬ s0 = 14) : b_Machine_evaluate_73 S x1 s0 w = Option.bind (f_Room_second S (w.1 4 0) w) fun o21 => f_Machine_evaluateUnder S 4 o21.1 (o21.2.1 4 1) x1 o21.2 := by
  unfold b_Machine_evaluate_73
  simp only [if_neg h0, if_neg h1, if_neg h2, if_neg h3, if_neg h4, bind_pair]
/-- evaluate -/
theorem SO_eval (h : RL S sz m kn dn κ τ ρ φ L w v) (hf : Fmv kn κ τ L (w.1 4 0)) : SO S sz kn w v (f_Machine_evaluate S w) (f_Md_evaluate v) := by
  have R := RL_Rd h
  have hkn := R.2.1.2.2.2.1
  obtain ⟨d1, d2, d3, d4, d5, d6⟩ := RL_dn h
  have hg := (RL_st h).1
  unfold f_Machine_evaluate f_Md_evaluate
  rw [isSym_C, d4, Rd_isS R hg]
  simp only [Option.bind_some, bind_pair]
  by_cases q1 : w.1 4 0 &&& 7 = 1
  · rw [if_pos q1, if_neg (by decide), if_neg (by decide)]
    rcases hf with q | ⟨y, y1, y2⟩ | q
    · rw [q] at q1; exact absurd q1 (by decide)
    · exact SO_sym h y1 y2
    · rcases q with q | ⟨s, s1, _, _, s2⟩
      · rw [q] at q1; exact absurd q1 (by decide)
      · rw [s2, (kd_C (Rd_L R s s1).1).1] at q1; exact absurd q1 (by decide)
  · rw [if_neg q1, if_pos rfl, if_pos rfl, isPair_C, d4, Rd_isP R hg]
    simp only [Option.bind_some]
    by_cases q4 : w.1 4 0 &&& 7 = 4
    · rw [if_pos q4, if_neg (by decide), if_neg (by decide), d4]
      obtain ⟨s, s1, s2, s3, s4⟩ : ∃ s, s ∈ L ∧ κ s = 2 ∧ τ s = 0 ∧ w.1 4 0 = vC s := by
        rcases hf with q | ⟨y, y1, y2⟩ | q
        · rw [q] at q4; exact absurd q4 (by decide)
        · rw [y2, (kd_S (by omega)).1] at q4; exact absurd q4 (by decide)
        · rcases q with q | q
          · rw [q] at q4; exact absurd q4 (by decide)
          · exact q
      obtain ⟨f1, f2⟩ := fm_el R s1 s2 s3
      have app := SO_app h s1 s2 s3 s4
      rw [d4] at app
      rw [s4] at app ⊢
      rw [Rd_fst R s1, Rd_car R s1]
      simp only [Option.bind_some, d4, s4]
      rw [isSym_C]
      simp only [Option.bind_some]
      by_cases z : w.1 17 s &&& 7 = 1
      · obtain ⟨y, y1, y2⟩ : ∃ y, y < kn ∧ w.1 17 s = vS y := by
          rcases f1 with r | r | r
          · rw [r] at z; exact absurd z (by decide)
          · exact r
          · rcases r with r | ⟨t, t1, _, _, t2⟩
            · rw [r] at z; exact absurd z (by decide)
            · rw [t2, (kd_C (Rd_L R t t1).1).1] at z; exact absurd z (by decide)
        rw [if_pos z, if_neg (by decide)]
        unfold f_Value_content
        simp only [Option.bind_some]
        rw [y2] at app ⊢
        rw [(kd_S (by omega)).2]
        rw [tr_S (by omega)] at app ⊢
        by_cases c1 : y < 10
        · rw [if_pos (show nI (536871000 + y) < 536871010 from q_lt (b := 536871010) (by omega) (by omega)), ev_def (show ¬ nI y = 10 from q_ne (b := 10) (by omega) (by omega) (by omega)) (show ¬ nI y = 11 from q_ne (b := 11) (by omega) (by omega) (by omega)) (show ¬ nI y = 12 from q_ne (b := 12) (by omega) (by omega) (by omega)) (show ¬ nI y = 13 from q_ne (b := 13) (by omega) (by omega) (by omega)) (show ¬ nI y = 14 from q_ne (b := 14) (by omega) (by omega) (by omega)), s4]
          exact app
        · rw [if_neg (show ¬ nI (536871000 + y) < 536871010 from q_nlt (b := 536871010) (by omega) (by omega))]
          by_cases c2 : 15 ≤ y
          · rw [if_pos (show 536871015 ≤ nI (536871000 + y) from q_le (a := 536871015) (by omega) (by omega)), ev_def (show ¬ nI y = 10 from q_ne (b := 10) (by omega) (by omega) (by omega)) (show ¬ nI y = 11 from q_ne (b := 11) (by omega) (by omega) (by omega)) (show ¬ nI y = 12 from q_ne (b := 12) (by omega) (by omega) (by omega)) (show ¬ nI y = 13 from q_ne (b := 13) (by omega) (by omega) (by omega)) (show ¬ nI y = 14 from q_ne (b := 14) (by omega) (by omega) (by omega)), s4]
            exact app
          · rw [if_neg (show ¬ 536871015 ≤ nI (536871000 + y) from q_nle (a := 536871015) (by omega) (by omega)), sub_sym]
            unfold b_Machine_evaluate_73
            simp only [bind_pair]
            have hy : y = 10 ∨ y = 11 ∨ y = 12 ∨ y = 13 ∨ y = 14 := by omega
            rcases hy with r | r | r | r | r
            · subst r
              rw [if_pos (show nI 10 = 10 from rfl)]
              exact SO_quote h s1 s2 s3 s4
            · subst r
              rw [if_neg (by decide), if_pos (show nI 11 = 11 from rfl)]
              exact SO_if h s1 s2 s3 s4
            · subst r
              rw [if_neg (by decide), if_neg (by decide), if_pos (show nI 12 = 12 from rfl)]
              exact SO_lam h s1 s2 s3 s4
            · subst r
              rw [if_neg (by decide), if_neg (by decide), if_neg (by decide), if_pos (show nI 13 = 13 from rfl)]
              exact SO_name (b' := 536870912) h s1 s2 s3 s4 (Or.inl ⟨rfl, rfl, rfl, rfl⟩)
            · subst r
              rw [if_neg (by decide), if_neg (by decide), if_neg (by decide), if_neg (by decide), if_pos (show nI 14 = 14 from rfl)]
              exact SO_name (b' := v.1 0 16) h s1 s2 s3 s4 (Or.inr ⟨rfl, rfl, rfl, rfl⟩)
      · rw [if_neg z, if_pos rfl, ev_def (by decide) (by decide) (by decide) (by decide) (by decide), s4]
        by_cases n0 : w.1 17 s &&& 7 = 0
        · rw [if_pos (show tr φ (w.1 17 s) < 536871010 by rw [tr_N n0]; exact Int32.lt_trans (num_lt _) (by decide))]
          exact app
        · rcases f1 with r | ⟨y, y1, y2⟩ | r
          · exact absurd r n0
          · rw [y2, (kd_S (by omega)).1] at z; exact absurd rfl z
          · rcases r with r | ⟨t, t1, _, _, t2⟩
            · rw [if_pos (show tr φ (w.1 17 s) < 536871010 by rw [r, tr_2]; decide)]
              exact app
            · have ht := (Rd_L R t t1).2
              have et : tr φ (w.1 17 s) = nI (536873000 + φ t) := by rw [t2, Rd_trC R t1]; rfl
              rw [if_neg (show ¬ tr φ (w.1 17 s) < 536871010 by rw [et]; exact q_nlt (b := 536871010) (by omega) (by omega)), if_pos (show 536871015 ≤ tr φ (w.1 17 s) by rw [et]; exact q_le (a := 536871015) (by omega) (by omega))]
              exact app
    · rw [if_neg q4, if_pos rfl, if_pos rfl, d4]
      exact SO_ret h hg rfl frW_rf frV_rf
end
