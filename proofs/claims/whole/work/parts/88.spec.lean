/-! the special forms -/
section
variable {S sz m kn dn : Nat} {κ τ ρ φ : Nat → Nat} {L : List Nat} {w v : pm_W}
theorem gv_C (R : Rd S kn κ τ ρ φ L w v) {s : Nat} (hs : s < 1000) (h : gv kn κ L (vC s)) : s ∈ L ∧ κ s = 2 := by
  have hκ := R.2.1.2.1
  have h7 := (kd_C hs).1
  rcases h with q | ⟨y, q1, q2⟩ | q | ⟨y, q1, q2⟩ | ⟨y, q1, q2⟩
  · rw [q] at h7; exact absurd h7 (by decide)
  · have := R.2.1.2.2.2.1
    rw [q2, (kd_S (by omega)).1] at h7; exact absurd h7 (by decide)
  · exact absurd q (vC_ne2 hs)
  · rw [q2, (kd_P (by omega)).1] at h7; exact absurd h7 (by decide)
  · have h1 := (Rd_L R y q1).1
    have h2 := hκ y
    have := (nI_eq (a := 8 * s + 4) (b := 8 * y + (κ y + 2)) (by omega) (by omega)).mp q2
    have e : y = s := by omega
    subst e
    exact ⟨q1, by omega⟩
theorem fm_el (R : Rd S kn κ τ ρ φ L w v) {x : Nat} (hx : x ∈ L) (hk : κ x = 2) (ht : τ x = 0) : Fmv kn κ τ L (w.1 17 x) ∧ Lst κ τ L 0 (w.1 18 x) := by
  obtain ⟨_, _, _, _, t5⟩ := R.2.1.2.2.2.2 x hx
  obtain ⟨q1, q2, q3, q4⟩ := t5 hk
  have := (q4 (by omega)).1
  rw [ht] at this
  exact ⟨q2 ht, this⟩
theorem part_C (R : Rd S kn κ τ ρ φ L w v) {l : List Nat} {n : Nat} (ha : chl κ L (w.1 18) l (w.1 4 0)) (hn : n < l.length) : f_Machine_part S (nI n) w = some (w.1 17 l[n], w) := by
  unfold f_Machine_part
  simp only [bind_pair]
  exact nth_C R ha hn
theorem SO_underK {w0 v0 : pm_W} {k a b x a' b' x' : Int32} {K : pm_W → Option (Int32 × pm_W)} (h : RL S sz m kn dn κ τ ρ φ L w v) (hf : frT kn κ τ L k a b 2) (hx : Fmv kn κ τ L x) (ea : a' = tr φ a) (eb : b' = tr φ b) (ex : x' = tr φ x) (f1 : frW w0 w) (f2 : frV v0 v) (hK : ∀ v', ag [1, 2, 3, 4] v v' → K v' = f_Md_go x' (v'.1 0 16) v') : SO S sz kn w0 v0 (f_Machine_evaluateUnder S k a b x w) (Option.bind (f_Md_push k a' b' v) fun o => if o.1 = (-6 : Int32) then some ((-6 : Int32), o.2) else K o.2) := by
  have e := SO_under (x' := x') h hf hx ea eb ex f1 f2
  obtain ⟨d1, d2, d3, d4, d5, d6⟩ := RL_dn h
  rw [push_M d3 d1] at e ⊢
  by_cases q : dn < 30
  · rw [if_pos q] at e ⊢
    simp only [Option.bind_some] at e ⊢
    rw [if_neg (by decide)] at e ⊢
    rw [hK _ (ag_set (ag_set (ag_set (ag_set (ag_set ag_rf (by decide)) (by decide)) (by decide)) (by decide)) (by decide))]
    exact e
  · rw [if_neg q] at e ⊢
    exact e
theorem Rd_v (R : Rd S kn κ τ ρ φ L w v) {v' : pm_W} (h : ag [1, 2, 3, 4] v v') : Rd S kn κ τ ρ φ L w v' := Rd_fr R rfl rfl rfl rfl (h 1 (by decide)) (h 2 (by decide)) (h 3 (by decide)) (h 4 (by decide))
theorem Rd_cs (R : Rd S kn κ τ ρ φ L w v) {l : List Nat} {a : Int32} (ha : chl κ L (w.1 18) l a) (hn : 0 < l.length) : f_Md_car (tr φ a) v = some (tr φ (w.1 17 l[0]), v) ∧ f_Md_cdr (tr φ a) v = some (tr φ (w.1 18 l[0]), v) ∧ a = vC l[0] ∧ l[0] ∈ L ∧ κ l[0] = 2 ∧ chl κ L (w.1 18) (l.drop 1) (w.1 18 l[0]) := by
  cases l with
  | nil => exact absurd hn (Nat.lt_irrefl _)
  | cons s l =>
    obtain ⟨p1, p2, p3, p4⟩ := ha
    rw [p3]
    exact ⟨Rd_car R p1, Rd_cdr R p1, rfl, p1, p2, p4⟩
/-- the reference's special forms, entered -/
theorem spec_M (R : Rd S kn κ τ ρ φ L w v) {s : Nat} (hs : s ∈ L) (hv : v.1 0 15 = tr φ (vC s)) {l : List Nat} (hc : chl κ L (w.1 18) l (w.1 18 s)) (x1 : Int32) : f_Md_special x1 v = (if x1 = (10 : Int32) then (if nI l.length = (1 : Int32) then b_Md_special_100 x1 (tr φ (w.1 18 s)) 1 v else b_Md_special_100 x1 (tr φ (w.1 18 s)) 0 v) else if x1 = (11 : Int32) then (if nI l.length = (2 : Int32) then b_Md_special_100 x1 (tr φ (w.1 18 s)) 1 v else if nI l.length = (3 : Int32) then b_Md_special_100 x1 (tr φ (w.1 18 s)) 1 v else b_Md_special_100 x1 (tr φ (w.1 18 s)) 0 v) else if nI l.length = (2 : Int32) then (if x1 = (12 : Int32) then Option.bind (f_Md_car (tr φ (w.1 18 s)) v) fun o10 => Option.bind (f_Md_areParameters o10.1 o10.2) fun o11 => (if o11.1 = 0 then b_Md_special_100 x1 (tr φ (w.1 18 s)) 0 o11.2 else b_Md_special_100 x1 (tr φ (w.1 18 s)) 1 o11.2) else Option.bind (f_Md_car (tr φ (w.1 18 s)) v) fun o7 => Option.bind (f_Md_isSymbol o7.1 o7.2) fun o8 => (if o8.1 = 0 then b_Md_special_100 x1 (tr φ (w.1 18 s)) 0 o8.2 else b_Md_special_100 x1 (tr φ (w.1 18 s)) 1 o8.2)) else b_Md_special_100 x1 (tr φ (w.1 18 s)) 0 v) := by
  unfold f_Md_special
  rw [hv, Rd_cdr R hs]
  simp only [Option.bind_some]
  rw [len_M R hc]
  simp only [Option.bind_some]
theorem spec_0 {x1 x2 : Int32} : b_Md_special_100 x1 x2 0 v = some (-3, v) := by
  unfold b_Md_special_100
  rw [if_pos rfl]
theorem SO_quote (h : RL S sz m kn dn κ τ ρ φ L w v) {s : Nat} (hs : s ∈ L) (hk : κ s = 2) (ht : τ s = 0) (e : w.1 4 0 = vC s) : SO S sz kn w v (f_Machine_evaluateQuote S w) (f_Md_special 10 v) := by
  have R := RL_Rd h
  have hS := R.2.1.2.2.1
  obtain ⟨d1, d2, d3, d4, d5, d6⟩ := RL_dn h
  obtain ⟨l, l1, l2, l3⟩ := chl_of R (t := 0) (by decide) (fm_el R hs hk ht).2
  have hc : chl κ L (w.1 18) (s :: l) (w.1 4 0) := ⟨hs, hk, e, l1⟩
  rw [spec_M R hs (by rw [d4, e]) l1, if_pos rfl]
  unfold f_Machine_evaluateQuote
  rw [len_C R hc]
  simp only [Option.bind_some, bind_pair, List.length_cons]
  by_cases q : l.length = 1
  · rw [if_pos (show nI (l.length + 1) = 2 by rw [q]; rfl), if_pos (show nI l.length = 1 by rw [q]; rfl), show (1 : Int32) = nI 1 from rfl, part_C R hc (n := 1) (by simp [q])]
    unfold b_Md_special_100
    obtain ⟨k1, k2, k3, k4, k5, k6⟩ := Rd_cs R l1 (by omega)
    rw [if_neg (by decide), if_pos rfl, k1]
    simp only [Option.bind_some, bind_pair, List.getElem_cons_succ]
    exact SO_ret h (R.2.1.2.2.2.2 _ k4).2.1 rfl frW_rf frV_rf
  · rw [if_neg (show ¬ nI (l.length + 1) = 2 from q_ne (b := 2) (by omega) (by omega) (by omega)), if_neg (show ¬ nI l.length = 1 from q_ne (b := 1) (by omega) (by omega) (by omega)), spec_0]
    exact SO_err (RL_RH h) (by decide) frW_rf frV_rf
theorem SO_if (h : RL S sz m kn dn κ τ ρ φ L w v) {s : Nat} (hs : s ∈ L) (hk : κ s = 2) (ht : τ s = 0) (e : w.1 4 0 = vC s) : SO S sz kn w v (f_Machine_evaluateIf S w) (f_Md_special 11 v) := by
  have R := RL_Rd h
  have hS := R.2.1.2.2.1
  obtain ⟨d1, d2, d3, d4, d5, d6⟩ := RL_dn h
  obtain ⟨l, l1, l2, l3⟩ := chl_of R (t := 0) (by decide) (fm_el R hs hk ht).2
  have hc : chl κ L (w.1 18) (s :: l) (w.1 4 0) := ⟨hs, hk, e, l1⟩
  rw [spec_M R hs (by rw [d4, e]) l1, if_neg (by decide), if_pos rfl]
  unfold f_Machine_evaluateIf
  rw [len_C R hc]
  simp only [Option.bind_some, bind_pair, List.length_cons]
  by_cases q : l.length = 2 ∨ l.length = 3
  · have main : SO S sz kn w v (Option.bind (f_Room_tail S (w.1 4 0) 2 w) fun o3 => Option.bind (f_Machine_part S 1 o3.2) fun o4 => f_Machine_evaluateUnder S 1 o3.1 (o3.2.1 4 1) o4.1 o4.2) (b_Md_special_100 11 (tr φ (w.1 18 s)) 1 v) := by
      obtain ⟨b, b1, b2⟩ := tail_C R hc (n := 2) (by simp only [List.length_cons]; omega)
      rw [show (2 : Int32) = nI 2 from rfl, b1]
      simp only [Option.bind_some]
      rw [show (1 : Int32) = nI 1 from rfl, part_C R hc (n := 1) (by simp only [List.length_cons]; omega)]
      simp only [Option.bind_some, List.getElem_cons_succ]
      obtain ⟨k1, k2, k3, k4, k5, k6⟩ := Rd_cs R l1 (by omega)
      have e2 : b = w.1 18 l[0] := by
        cases l with
        | nil => simp at q
        | cons x l =>
          cases l with
          | nil => simp at q
          | cons y l =>
            have z1 := b2.2.2.1
            have z2 := k6.2.2.1
            simp only [List.drop_succ_cons, List.drop_zero, List.getElem_cons_zero] at z1 z2 ⊢
            rw [z1, z2]
      subst e2
      unfold b_Md_special_100
      rw [if_neg (by decide), if_neg (by decide), if_neg (by decide), if_pos rfl, k2]
      simp only [Option.bind_some]
      unfold b_Md_special_228
      simp only [eq_self, if_true, bind_pair]
      have hl0 : τ l[0] = 0 := l2 _ (List.getElem_mem _)
      have hL1 : 0 < (l.drop 1).length := by rw [List.length_drop]; omega
      have hfr : frT kn κ τ L 1 (w.1 18 l[0]) (w.1 4 1) 2 := by
        refine ⟨(RL_st h).2.1, Or.inl rfl, Or.inl ⟨rfl, (l.drop 1)[0], ?_, ?_, ?_, ?_⟩⟩
        · exact (Rd_cs R k6 hL1).2.2.2.1
        · exact (Rd_cs R k6 hL1).2.2.2.2.1
        · exact l2 _ (List.drop_subset _ _ (List.getElem_mem _))
        · exact (Rd_cs R k6 hL1).2.2.1
      exact SO_underK (x' := tr φ (w.1 17 l[0])) (K := fun v' => Option.bind (f_Md_car (tr φ (w.1 18 s)) v') fun o39 => f_Md_go o39.1 (o39.2.1 0 16) o39.2) h hfr (fm_el R k4 k5 hl0).1 rfl d5 rfl frW_rf frV_rf (fun v' hv' => by
        have R' := Rd_v R hv'
        rw [(Rd_cs R' l1 (by omega)).1]
        simp only [Option.bind_some])
    rcases q with q | q
    · rw [if_pos (show nI (l.length + 1) = 3 by rw [q]; rfl), if_pos (show nI l.length = 2 by rw [q]; rfl)]
      exact main
    · rw [if_neg (show ¬ nI (l.length + 1) = 3 by rw [q]; decide), if_pos (show nI (l.length + 1) = 4 by rw [q]; rfl), if_neg (show ¬ nI l.length = 2 by rw [q]; decide), if_pos (show nI l.length = 3 by rw [q]; rfl)]
      exact main
  · rw [if_neg (show ¬ nI (l.length + 1) = 3 from q_ne (b := 3) (by omega) (by omega) (by omega)), if_neg (show ¬ nI (l.length + 1) = 4 from q_ne (b := 4) (by omega) (by omega) (by omega)), if_neg (show ¬ nI l.length = 2 from q_ne (b := 2) (by omega) (by omega) (by omega)), if_neg (show ¬ nI l.length = 3 from q_ne (b := 3) (by omega) (by omega) (by omega)), spec_0]
    exact SO_err (RL_RH h) (by decide) frW_rf frV_rf
/-- define and set! -/
theorem SO_name (h : RL S sz m kn dn κ τ ρ φ L w v) {s : Nat} (hs : s ∈ L) (hk : κ s = 2) (ht : τ s = 0) (e : w.1 4 0 = vC s) {x1 kd b b' : Int32} (hx : (x1 = 13 ∧ kd = 2 ∧ b = 2 ∧ b' = 536870912) ∨ (x1 = 14 ∧ kd = 3 ∧ b = w.1 4 1 ∧ b' = v.1 0 16)) : SO S sz kn w v (f_Machine_evaluateNaming S kd b w) (f_Md_special x1 v) := by
  have R := RL_Rd h
  have hS := R.2.1.2.2.1
  have hkn := R.2.1.2.2.2.1
  obtain ⟨d1, d2, d3, d4, d5, d6⟩ := RL_dn h
  obtain ⟨l, l1, l2, l3⟩ := chl_of R (t := 0) (by decide) (fm_el R hs hk ht).2
  have hc : chl κ L (w.1 18) (s :: l) (w.1 4 0) := ⟨hs, hk, e, l1⟩
  have n10 : ¬ x1 = 10 := by rcases hx with ⟨r, _⟩ | ⟨r, _⟩ <;> (rw [r]; decide)
  have n11 : ¬ x1 = 11 := by rcases hx with ⟨r, _⟩ | ⟨r, _⟩ <;> (rw [r]; decide)
  have n12 : ¬ x1 = 12 := by rcases hx with ⟨r, _⟩ | ⟨r, _⟩ <;> (rw [r]; decide)
  rw [spec_M R hs (by rw [d4, e]) l1, if_neg n10, if_neg n11]
  unfold f_Machine_evaluateNaming
  rw [len_C R hc]
  simp only [Option.bind_some, bind_pair, List.length_cons]
  by_cases q : l.length = 2
  · obtain ⟨k1, k2, k3, k4, k5, k6⟩ := Rd_cs R l1 (by omega)
    have hl0 : τ l[0] = 0 := l2 _ (List.getElem_mem _)
    have hl1 : τ l[1] = 0 := l2 _ (List.getElem_mem _)
    have hf0 := (fm_el R k4 k5 hl0).1
    have p1 := chl_mem l _ l1 l[1] (List.getElem_mem _)
    rw [if_pos (show nI (l.length + 1) = 3 by rw [q]; rfl), if_pos (show nI l.length = 2 by rw [q]; rfl), if_neg n12, k1]
    simp only [Option.bind_some]
    rw [show (1 : Int32) = nI 1 from rfl, part_C R hc (n := 1) (by simp only [List.length_cons]; omega)]
    simp only [Option.bind_some, List.getElem_cons_succ]
    rw [isSym_C, Rd_isS R (Fmv_gv hf0)]
    simp only [Option.bind_some]
    by_cases hy : w.1 17 l[0] &&& 7 = 1
    · rw [if_pos hy]
      rw [if_neg (by decide), if_neg (by decide), part_C R hc (n := 1) (by simp only [List.length_cons]; omega)]
      simp only [Option.bind_some, List.getElem_cons_succ]
      rw [show (2 : Int32) = nI 2 from rfl, part_C R hc (n := 2) (by simp only [List.length_cons]; omega)]
      simp only [Option.bind_some, List.getElem_cons_succ]
      obtain ⟨y, y1, y2⟩ : ∃ y, y < kn ∧ w.1 17 l[0] = vS y := by
        rcases hf0 with r | r | r
        · rw [r] at hy; exact absurd hy (by decide)
        · exact r
        · rcases r with r | ⟨t, t1, _, _, t2⟩
          · rw [r] at hy; exact absurd hy (by decide)
          · rw [t2, (kd_C (Rd_L R t t1).1).1] at hy; exact absurd hy (by decide)
      have hb : Lst κ τ L 2 b ∧ b' = tr φ b ∧ (kd = 2 ∨ kd = 3) := by
        rcases hx with ⟨_, r1, r2, r3⟩ | ⟨_, r1, r2, r3⟩
        · exact ⟨Or.inl r2, by rw [r2, r3, tr_2], Or.inl r1⟩
        · exact ⟨by rw [r2]; exact (RL_st h).2.1, by rw [r2, r3, d5], Or.inr r1⟩
      have hfr : frT kn κ τ L kd (w.1 17 l[0]) b 2 := ⟨hb.1, Or.inl rfl, Or.inr (Or.inl ⟨hb.2.2, y, y1, y2⟩)⟩
      have fin := SO_underK (x := w.1 17 l[1]) (a' := tr φ (w.1 17 l[0])) (b' := b') (x' := tr φ (w.1 17 l[1])) (K := fun v' => Option.bind (f_Md_at (tr φ (w.1 18 s)) 1 v') fun o37 => f_Md_go o37.1 (o37.2.1 0 16) o37.2) h hfr (fm_el R p1.1 p1.2 hl1).1 rfl hb.2.1 rfl frW_rf frV_rf (fun v' hv' => by
        have R' := Rd_v R hv'
        rw [show (1 : Int32) = nI 1 from rfl, at_M R' l1 (n := 1) (by omega)]
        simp only [Option.bind_some])
      unfold b_Md_special_100
      rw [if_neg (by decide), if_neg n10, if_neg n12, if_neg n11, k1]
      simp only [Option.bind_some, bind_pair]
      unfold b_Md_special_228
      simp only [if_neg n11, bind_pair]
      rcases hx with ⟨r, r1, r2, r3⟩ | ⟨r, r1, r2, r3⟩
      · subst r
        subst r1
        rw [if_pos rfl]
        subst r3
        exact fin
      · subst r
        subst r1
        rw [if_neg (by decide)]
        subst r3
        exact fin
    · rw [if_neg hy, if_pos rfl, if_pos rfl, spec_0]
      exact SO_err (RL_RH h) (by decide) frW_rf frV_rf
  · rw [if_neg (show ¬ nI (l.length + 1) = 3 from q_ne (b := 3) (by omega) (by omega) (by omega)), if_neg (show ¬ nI l.length = 2 from q_ne (b := 2) (by omega) (by omega) (by omega)), spec_0]
    exact SO_err (RL_RH h) (by decide) frW_rf frV_rf
end
