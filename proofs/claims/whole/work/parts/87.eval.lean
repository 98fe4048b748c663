/-! evaluate: a symbol, something plain, quote, if, define, set!, an application -/
theorem sub_1 (n : Nat) : nI (n + 1) - 1 = nI n := by rw [← nI_1, Int32.add_sub_cancel]
theorem top_C {S dn : Nat} {w : pm_W} (h : w.1 4 3 = nI (dn + 1)) (hd : dn + 1 ≤ 30) : f_State_hasTop S w = some (1, w) := by
  unfold f_State_hasTop
  rw [h, if_neg (show ¬ nI (dn + 1) < 1 from q_nlt (b := 1) (by omega) (by omega)), if_neg (show ¬ 30 < nI (dn + 1) from q_nlt (a := 30) hd (by omega))]
theorem kind_C {S dn : Nat} {w : pm_W} (h : w.1 4 3 = nI (dn + 1)) (hd : dn + 1 ≤ 30) : f_State_kind S w = some (w.1 13 dn, w) := by
  unfold f_State_kind
  rw [top_C h hd]
  simp only [Option.bind_some]
  rw [h, sub_1, if_neg (by decide), if_neg (nI_in (by omega) (by omega)), nI_clamp (by omega)]
theorem kind_0 {S : Nat} {w : pm_W} (h : w.1 4 3 = 0) : f_State_kind S w = some (0, w) := by
  unfold f_State_kind f_State_hasTop
  rw [h, if_pos (by decide)]
  rfl
theorem fa_C {S dn : Nat} {w : pm_W} (h : w.1 4 3 = nI (dn + 1)) (hd : dn + 1 ≤ 30) : f_State_a S w = some (w.1 14 dn, w) := by
  unfold f_State_a
  rw [top_C h hd]
  simp only [Option.bind_some]
  rw [h, sub_1, if_neg (by decide), if_neg (nI_in (by omega) (by omega)), nI_clamp (by omega)]
theorem fb_C {S dn : Nat} {w : pm_W} (h : w.1 4 3 = nI (dn + 1)) (hd : dn + 1 ≤ 30) : f_State_b S w = some (w.1 15 dn, w) := by
  unfold f_State_b
  rw [top_C h hd]
  simp only [Option.bind_some]
  rw [h, sub_1, if_neg (by decide), if_neg (nI_in (by omega) (by omega)), nI_clamp (by omega)]
theorem fc_C {S dn : Nat} {w : pm_W} (h : w.1 4 3 = nI (dn + 1)) (hd : dn + 1 ≤ 30) : f_State_c S w = some (w.1 16 dn, w) := by
  unfold f_State_c
  rw [top_C h hd]
  simp only [Option.bind_some]
  rw [h, sub_1, if_neg (by decide), if_neg (nI_in (by omega) (by omega)), nI_clamp (by omega)]
theorem setA_C {S dn : Nat} {w : pm_W} {x : Int32} (h : w.1 4 3 = nI (dn + 1)) (hd : dn + 1 ≤ 30) : f_State_setA S x w = some (pm_setI w 14 dn x) := by
  unfold f_State_setA
  rw [top_C h hd]
  simp only [Option.bind_some]
  rw [h, sub_1, if_neg (by decide), if_neg (nI_in (by omega) (by omega)), nI_clamp (by omega)]
theorem setC_C {S dn : Nat} {w : pm_W} {x : Int32} (h : w.1 4 3 = nI (dn + 1)) (hd : dn + 1 ≤ 30) : f_State_setC S x w = some (pm_setI w 16 dn x) := by
  unfold f_State_setC
  rw [top_C h hd]
  simp only [Option.bind_some]
  rw [h, sub_1, if_neg (by decide), if_neg (nI_in (by omega) (by omega)), nI_clamp (by omega)]
theorem pop_C {S dn : Nat} {w : pm_W} (h : w.1 4 3 = nI (dn + 1)) (hd : dn + 1 ≤ 30) : f_State_pop S w = some (pm_setI w 4 3 (nI dn)) := by
  unfold f_State_pop
  rw [h, if_neg (show ¬ nI (dn + 1) ≤ 0 from q_nle (b := 0) (by omega) (by omega)), sub_1]
theorem push_C {S dn : Nat} {w : pm_W} {k a b : Int32} (h : w.1 4 3 = nI dn) (hd : dn ≤ 30) : f_State_push S k a b w = if dn < 30 then some (1, pm_setI (pm_setI (pm_setI (pm_setI (pm_setI w 13 dn k) 14 dn a) 15 dn b) 16 dn 2) 4 3 (nI (dn + 1))) else some (0, w) := by
  unfold f_State_push
  rw [h, if_neg (nI_pos (by omega))]
  by_cases q : dn < 30
  · rw [if_pos (show nI dn < 30 from q_lt (b := 30) q (by omega)), if_pos q, if_neg (nI_in q (by omega)), if_neg (nI_in q (by omega)), if_neg (nI_in q (by omega)), if_neg (nI_in q (by omega)), nI_clamp (by omega), nI_1]
  · rw [if_neg (show ¬ nI dn < 30 from q_nlt (b := 30) (by omega) (by omega)), if_neg q]
theorem push_M {dn : Nat} {v : pm_W} {k a b : Int32} (h : v.1 0 11 = nI dn) (hd : dn ≤ 30) : f_Md_push k a b v = if dn < 30 then some (1, pm_setI (pm_setI (pm_setI (pm_setI (pm_setI v 6 dn k) 7 dn a) 8 dn b) 9 dn 536870912) 0 11 (nI (dn + 1))) else some (-6, v) := by
  unfold f_Md_push
  rw [h]
  by_cases q : dn < 30
  · rw [if_neg (show ¬ nI dn = 30 from q_ne (b := 30) (by omega) (by omega) (by omega)), if_pos q, if_neg (nI_in q (by omega)), if_neg (nI_in q (by omega)), if_neg (nI_in q (by omega)), if_neg (nI_in q (by omega)), nI_clamp (by omega), nI_1]
  · rw [if_pos (show nI dn = 30 by rw [show dn = 30 by omega]; rfl), if_neg q]
/-- what the machine does next -/
def EvR (kn : Nat) (κ τ : Nat → Nat) (L : List Nat) (w v : pm_W) : Prop := (w.1 4 2 = 1 ∧ v.1 0 18 = 0 ∧ Fmv kn κ τ L (w.1 4 0)) ∨ (w.1 4 2 = 0 ∧ v.1 0 18 = 1)
/-- a step's outcome on both sides -/
def SO (S sz kn : Nat) (w v : pm_W) (rc rm : Option (Int32 × pm_W)) : Prop := ∃ (r : Int32) (w1 v1 : pm_W), rc = some (r, w1) ∧ rm = some (r, v1) ∧ frW w w1 ∧ frV v v1 ∧ ((r = 1 ∧ ∃ (dn : Nat) (κ τ ρ φ : Nat → Nat) (L : List Nat), RL S sz 0 kn dn κ τ ρ φ L w1 v1 ∧ EvR kn κ τ L w1 v1) ∨ (r < 0 ∧ ∃ (κ τ ρ φ : Nat → Nat) (L : List Nat), RH S sz 0 kn κ τ ρ φ L w1 v1))
section
variable {S sz m kn dn : Nat} {κ τ ρ φ : Nat → Nat} {L : List Nat} {w v : pm_W}
theorem RH_0 (h : RH S sz m kn κ τ ρ φ L w v) : RH S sz 0 kn κ τ ρ φ L w v := RH_st h (Nat.zero_le _) ag_rf ag_rf agF_rf
theorem SO_err {w0 v0 : pm_W} {e : Int32} (h : RH S sz m kn κ τ ρ φ L w v) (he : e < 0) (f1 : frW w0 w) (f2 : frV v0 v) : SO S sz kn w0 v0 (some (e, w)) (some (e, v)) := ⟨e, w, v, rfl, rfl, f1, f2, Or.inr ⟨he, κ, τ, ρ, φ, L, RH_0 h⟩⟩
theorem SO_ret {w0 v0 : pm_W} {a b : Int32} (h : RL S sz m kn dn κ τ ρ φ L w v) (ha : gv kn κ L a) (hb : b = tr φ a) (f1 : frW w0 w) (f2 : frV v0 v) : SO S sz kn w0 v0 (f_Machine_returnNext S a w) (f_Md_give b v) := by
  subst hb
  refine ⟨1, _, _, rfl, rfl, frW_set (frW_set f1 (by decide)) (by decide), frV_f (frV_f f2 (by decide)) (by decide), Or.inl ⟨rfl, dn, κ, τ, ρ, φ, L, ret_sim h ha, Or.inr ⟨?_, ?_⟩⟩⟩
  · simp [pm_setI, pm_up]
  · simp [pm_setI, pm_up]
theorem SO_go {w0 v0 : pm_W} {a e b f : Int32} (h : RL S sz m kn dn κ τ ρ φ L w v) (ha : Fmv kn κ τ L a) (he : Lst κ τ L 2 e) (hb : b = tr φ a) (hf : f = tr φ e) (f1 : frW w0 w) (f2 : frV v0 v) : SO S sz kn w0 v0 (f_Machine_evaluateNext S a e w) (f_Md_go b f v) := by
  subst hb
  subst hf
  refine ⟨1, _, _, rfl, rfl, frW_set (frW_set (frW_set f1 (by decide)) (by decide)) (by decide), frV_f (frV_f (frV_f f2 (by decide)) (by decide)) (by decide), Or.inl ⟨rfl, dn, κ, τ, ρ, φ, L, go_sim h (Fmv_gv ha) he, Or.inl ⟨?_, ?_, ?_⟩⟩⟩
  · simp [pm_setI, pm_up]
  · simp [pm_setI, pm_up]
  · simpa [pm_setI, pm_up] using ha
theorem bind_pair {α β : Type} (o : Option (α × β)) : (Option.bind o fun x => some (x.1, x.2)) = o := by cases o <;> rfl
theorem RL_dn (h : RL S sz m kn dn κ τ ρ φ L w v) : dn ≤ 30 ∧ w.1 4 3 = nI dn ∧ v.1 0 11 = nI dn ∧ v.1 0 15 = tr φ (w.1 4 0) ∧ v.1 0 16 = tr φ (w.1 4 1) ∧ ∀ i, i < dn → v.1 6 i = w.1 13 i ∧ v.1 7 i = tr φ (w.1 14 i) ∧ v.1 8 i = tr φ (w.1 15 i) ∧ v.1 9 i = tr φ (w.1 16 i) := h.2.2.2.1
theorem RL_st (h : RL S sz m kn dn κ τ ρ φ L w v) : gv kn κ L (w.1 4 0) ∧ Lst κ τ L 2 (w.1 4 1) ∧ ∀ i, i < dn → frT kn κ τ L (w.1 13 i) (w.1 14 i) (w.1 15 i) (w.1 16 i) := h.2.2.2.2.1
/-- an expression under a new frame -/
theorem SO_under {w0 v0 : pm_W} {k a b x a' b' x' : Int32} (h : RL S sz m kn dn κ τ ρ φ L w v) (hf : frT kn κ τ L k a b 2) (hx : Fmv kn κ τ L x) (ea : a' = tr φ a) (eb : b' = tr φ b) (ex : x' = tr φ x) (f1 : frW w0 w) (f2 : frV v0 v) : SO S sz kn w0 v0 (f_Machine_evaluateUnder S k a b x w) (Option.bind (f_Md_push k a' b' v) fun o => if o.1 = (-6 : Int32) then some ((-6 : Int32), o.2) else f_Md_go x' (o.2.1 0 16) o.2) := by
  subst ea
  subst eb
  obtain ⟨d1, d2, d3, d4, d5, d6⟩ := RL_dn h
  unfold f_Machine_evaluateUnder
  rw [push_C d2 d1, push_M d3 d1]
  by_cases q : dn < 30
  · rw [if_pos q, if_pos q]
    simp only [Option.bind_some]
    rw [if_neg (by decide), if_neg (by decide), bind_pair]
    refine SO_go (push_sim h q hf) hx ?_ ex ?_ (frW_set (frW_set (frW_set (frW_set (frW_set f1 (by decide)) (by decide)) (by decide)) (by decide)) (by decide)) (frV_f (frV_o (frV_o (frV_o (frV_o f2 (by decide) (by decide)) (by decide) (by decide)) (by decide) (by decide)) (by decide) (by decide)) (by decide))
    · simpa [pm_setI, pm_up] using (RL_st h).2.1
    · simp [pm_setI, pm_up, d5]
  · rw [if_neg q, if_neg q]
    exact SO_err (RL_RH h) (by decide) f1 f2
theorem glob_C {y : Nat} (hy : y < 40) : f_Symbols_global S (nI y) w = some (w.1 12 y, w) := by
  unfold f_Symbols_global
  rw [if_neg (nI_pos (by omega)), if_neg (show ¬ 40 ≤ nI y from q_nle (a := 40) hy (by omega)), if_neg (nI_in hy (by omega)), nI_clamp (by omega)]
theorem setG_C {y : Nat} (hy : y < 40) {x : Int32} : f_Symbols_setGlobal S (nI y) x w = some (pm_setI w 12 y x) := by
  unfold f_Symbols_setGlobal
  rw [if_neg (nI_pos (by omega)), if_neg (show ¬ 40 ≤ nI y from q_nle (a := 40) hy (by omega)), if_neg (nI_in hy (by omega)), nI_clamp (by omega)]
theorem sub_sym (y : Nat) : nI (536871000 + y) - 536871000 = nI y := by
  rw [Nat.add_comm, ← nI_add]
  exact Int32.add_sub_cancel _ _
theorem tr_ne6 (h : Rd S kn κ τ ρ φ L w v) {a : Int32} (ha : gv kn κ L a) : ¬ tr φ a = -2147483648 ∧ ¬ a = 6 := by
  constructor
  · intro e
    by_cases q : a &&& 7 = 0
    · rw [tr_N q] at e
      exact lt_neI (num_gt a) e.symm
    · obtain ⟨k, k1, k2, k3, _⟩ := tr_rank h.2.1.2.1 h.2.1.2.2.2.1 (Rd_L h) ha q
      rw [k3] at e
      have h0 : ¬ nI k < 0 := nI_pos (by omega)
      rw [e] at h0
      exact h0 (by decide)
  · intro e
    have hκ := h.2.1.2.1
    have h7 : a &&& 7 = 6 := by rw [e]; decide
    rcases ha with q | ⟨s, q1, q2⟩ | q | ⟨s, q1, q2⟩ | ⟨s, q1, q2⟩
    · rw [q] at h7; exact absurd h7 (by decide)
    · have := h.2.1.2.2.2.1
      rw [q2, (kd_S (by omega)).1] at h7; exact absurd h7 (by decide)
    · rw [q] at h7; exact absurd h7 (by decide)
    · rw [q2, (kd_P (by omega)).1] at h7; exact absurd h7 (by decide)
    · rw [q2, (ptr_kind hκ (Rd_L h s q1).1).1] at h7
      rcases hκ s with r | r <;> (rw [r] at h7; exact absurd h7 (by decide))
/-- a symbol's value -/
theorem SO_sym (h : RL S sz m kn dn κ τ ρ φ L w v) {y : Nat} (hy : y < kn) (e : w.1 4 0 = vS y) : SO S sz kn w v (f_Machine_evaluateSymbol S w) (f_Md_lookUp v) := by
  have R := RL_Rd h
  have hkn := R.2.1.2.2.2.1
  obtain ⟨d1, d2, d3, d4, d5, d6⟩ := RL_dn h
  obtain ⟨s1, s2, s3⟩ := RL_st h
  obtain ⟨r, r1, r2, r3⟩ := bnd_sim R s1 s2
  unfold f_Machine_evaluateSymbol f_Md_lookUp
  rw [d4, d5, r1, r2]
  simp only [Option.bind_some, bind_pair]
  rcases r3 with r3 | ⟨b, b1, b2, b3, b4⟩
  · rw [if_pos r3, if_pos (by rw [r3, tr_2]), d4, e, tr_S (by omega), sub_sym, if_neg (nI_in (show y < 40 by omega) (by omega)), nI_clamp (by omega)]
    unfold f_Value_content
    simp only [Option.bind_some]
    rw [(kd_S (by omega)).2, glob_C (by omega)]
    simp only [Option.bind_some]
    rw [h.2.2.2.2.2.1.2.2.1 y hy]
    rcases h.2.2.2.2.2.2 y hy with q | q
    · rw [if_pos q, if_pos (by rw [q, tr_6])]
      exact SO_err (RL_RH h) (by decide) frW_rf frV_rf
    · rw [if_neg (tr_ne6 R q).2, if_neg (tr_ne6 R q).1]
      exact SO_ret h q rfl frW_rf frV_rf
  · have hg : gv kn κ L (w.1 18 b) := (R.2.1.2.2.2.2 b b1).2.2.1
    have hgb : gv kn κ L (vC b) := Or.inr (Or.inr (Or.inr (Or.inr ⟨b, b1, by rw [ptr_C b2]⟩)))
    rw [b4, if_neg (vC_ne2 (Rd_L R b b1).1), if_neg (by rw [Rd_nil R hgb]; exact vC_ne2 (Rd_L R b b1).1), Rd_snd R b1, Rd_cdr R b1]
    simp only [Option.bind_some]
    rw [if_neg (tr_ne6 R hg).1]
    exact SO_ret h hg rfl frW_rf frV_rf
end
