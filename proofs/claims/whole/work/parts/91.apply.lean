/-! applications: what is plain -/
theorem smB_set {v v1 : pm_W} {o k : Nat} {x : Int32} (h : smB v v1) : smB (pm_setI v o k x) (pm_setI v1 o k x) := ⟨h.1, fun a a1 a2 a3 a4 => by
  funext b
  have := congrFun (h.2 a a1 a2 a3 a4) b
  show pm_up v1.1 o k x a b = pm_up v.1 o k x a b
  unfold pm_up
  rw [this]⟩
section
variable {S sz m kn d n : Nat} {κ τ ρ φ : Nat → Nat} {L : List Nat} {w v : pm_W}
theorem gv_K (R : Rd S kn κ τ ρ φ L w v) {a : Int32} (h : gv kn κ L a) (h7 : a &&& 7 = 5) : ∃ s, s ∈ L ∧ κ s = 3 ∧ a = vK s := by
  have hκ := R.2.1.2.1
  rcases h with q | ⟨y, q1, q2⟩ | q | ⟨y, q1, q2⟩ | ⟨y, q1, q2⟩
  · rw [q] at h7; exact absurd h7 (by decide)
  · have := R.2.1.2.2.2.1
    rw [q2, (kd_S (by omega)).1] at h7; exact absurd h7 (by decide)
  · rw [q] at h7; exact absurd h7 (by decide)
  · rw [q2, (kd_P (by omega)).1] at h7; exact absurd h7 (by decide)
  · rcases hκ y with r | r
    · rw [q2, ptr_C r, (kd_C (Rd_L R y q1).1).1] at h7; exact absurd h7 (by decide)
    · exact ⟨y, q1, r, by rw [q2, ptr_K r]⟩
theorem gv_P (R : Rd S kn κ τ ρ φ L w v) {a : Int32} (h : gv kn κ L a) (h7 : a &&& 7 = 3) : ∃ p, p < 10 ∧ a = vP p := by
  have hκ := R.2.1.2.1
  rcases h with q | ⟨y, q1, q2⟩ | q | ⟨y, q1, q2⟩ | ⟨y, q1, q2⟩
  · rw [q] at h7; exact absurd h7 (by decide)
  · have := R.2.1.2.2.2.1
    rw [q2, (kd_S (by omega)).1] at h7; exact absurd h7 (by decide)
  · rw [q] at h7; exact absurd h7 (by decide)
  · exact ⟨y, q1, q2⟩
  · rw [q2, (ptr_kind hκ (Rd_L R y q1).1).1] at h7
    rcases hκ y with r | r <;> (rw [r] at h7; exact absurd h7 (by decide))
theorem has0 (h : CH S sz m κ L w) : f_Room_hasFor S 0 w = some (1, w) := by
  obtain ⟨⟨c0, c1, c1'⟩, c2, c3, c4, un, F, c5, c6, c7, c8, c9, c10, c11, c12⟩ := h
  unfold f_Room_hasFor
  rw [c2, c5, show (0 : Int32) = nI 0 from rfl, nI_add, Nat.add_zero, if_pos (q_le (by omega) (by omega)), if_neg (q_nlt (by omega) (by omega))]
theorem SO_done {w0 v0 : pm_W} {a b : Int32} (h : RL S sz m kn d κ τ ρ φ L w (pm_setI v 0 11 (nI d))) (hv : v.1 0 11 = nI (d + 1)) (ha : gv kn κ L a) (hb : b = tr φ a) (f1 : frW w0 w) (f2 : frV v0 v) : SO S sz kn w0 v0 (f_Machine_returnNext S a w) (f_Md_done b v) := by
  unfold f_Md_done
  rw [hv, sub_1, bind_pair]
  exact SO_ret h ha hb f1 (frV_f f2 (by decide))
/-- the arguments' frame, full: its row of values, the function last -/
def ApC (κ : Nat → Nat) (L : List Nat) (w : pm_W) (d n : Nat) (l : List Nat) : Prop := chl κ L (w.1 18) l (w.1 16 d) ∧ l.length = n + 1
theorem ap_C (h : RL S sz m kn (d + 1) κ τ ρ φ L w v) {l : List Nat} (hl : ApC κ L w d n l) : f_Machine_apply S w = (Option.bind (f_Machine_faultOfCall S (w.1 17 (l[n]'(by rw [hl.2]; omega))) (nI n) w) fun o5 => if o5.1 = (1 : Int32) then Option.bind (f_Machine_cellsOfCall S (w.1 17 (l[n]'(by rw [hl.2]; omega))) (nI n) o5.2) fun o7 => Option.bind (f_Room_hasFor S o7.1 o7.2) fun o8 => (if o8.1 = 0 then some ((-7 : Int32), o8.2) else Option.bind (f_State_pop S o8.2) fun o10 => (if w.1 17 (l[n]'(by rw [hl.2]; omega)) &&& 7 = 5 then Option.bind (f_Room_second S (w.1 17 (l[n]'(by rw [hl.2]; omega))) o10) fun o16 => Option.bind (f_Machine_boundEnvironment S (w.1 17 (l[n]'(by rw [hl.2]; omega))) (w.1 16 d) (nI n) o16.2) fun o17 => f_Machine_evaluateNext S o16.1 o17.1 o17.2 else Option.bind (f_Machine_primitiveResult S (w.1 17 (l[n]'(by rw [hl.2]; omega)) >>> ((3 : Int32) &&& 31)) (w.1 16 d) (nI n) o10) fun o14 => f_Machine_returnNext S o14.1 o14.2)) else some (o5.1, o5.2)) := by
  have R := RL_Rd h
  obtain ⟨d1, d2, d3, d4, d5, d6⟩ := RL_dn h
  unfold f_Machine_apply f_Value_kind f_Value_content
  rw [fc_C d2 d1]
  simp only [Option.bind_some, bind_pair]
  rw [len_C R hl.1]
  simp only [Option.bind_some]
  rw [show nI l.length - 1 = nI n by rw [hl.2, sub_1]]
  obtain ⟨b, b1, b2⟩ := tail_C R hl.1 (n := n) (by rw [hl.2]; omega)
  rw [b1]
  simp only [Option.bind_some]
  have hn : n < l.length := by rw [hl.2]; omega
  rw [List.drop_eq_getElem_cons hn] at b2
  rw [b2.2.2.1, Rd_fst R b2.1]
  simp only [Option.bind_some]
/-- the first two of the row -/
theorem two_C (R : Rd S kn κ τ ρ φ L w v) {l : List Nat} {c : Int32} (hc : chl κ L (w.1 18) l c) (hl : l.length = n + 1) : ∃ (last oth : Int32), f_Room_first S c w = some (last, w) ∧ f_Room_second S c w = some (w.1 18 (l[0]'(by rw [hl]; omega)), w) ∧ f_Room_first S (w.1 18 (l[0]'(by rw [hl]; omega))) w = some (oth, w) ∧ gv kn κ L last ∧ gv kn κ L oth ∧ (∀ h : 0 < l.length, last = w.1 17 l[0]) ∧ ∀ h : 1 < l.length, oth = w.1 17 l[1] := by
  cases l with
  | nil => simp at hl
  | cons s l =>
    obtain ⟨p1, p2, p3, p4⟩ := hc
    cases l with
    | nil =>
      have p4 : w.1 18 s = 2 := p4
      refine ⟨w.1 17 s, 2, by rw [p3]; exact Rd_fst R p1, by rw [p3]; exact Rd_snd R p1, ?_, (R.2.1.2.2.2.2 s p1).2.1, gv_2, fun _ => rfl, fun q => by simp at q⟩
      show f_Room_first S (w.1 18 s) w = _
      rw [p4]
      exact fst_n (by decide) (by decide)
    | cons y l =>
      obtain ⟨q1, q2, q3, q4⟩ := p4
      refine ⟨w.1 17 s, w.1 17 y, by rw [p3]; exact Rd_fst R p1, by rw [p3]; exact Rd_snd R p1, ?_, (R.2.1.2.2.2.2 s p1).2.1, (R.2.1.2.2.2.2 y q1).2.1, fun _ => rfl, fun _ => rfl⟩
      show f_Room_first S (w.1 18 s) w = _
      rw [q3]
      exact Rd_fst R q1
/-- the reference's apply, of a primitive -/
theorem ap_P (h : RL S sz m kn (d + 1) κ τ ρ φ L w v) {l : List Nat} (hl : ApC κ L w d n l) {p : Nat} (hp : p < 10) (hf : w.1 17 (l[n]'(by rw [hl.2]; omega)) = vP p) : f_Md_apply (tr φ (w.1 16 d)) v = if p = 9 then f_Md_listed (tr φ (w.1 16 d)) (nI n) v else if p = 5 ∨ p = 7 ∨ p = 8 then b_Md_apply_105 (tr φ (w.1 16 d)) (nI n) (nI p) 1 1 (nI n) v else b_Md_apply_105 (tr φ (w.1 16 d)) (nI n) (nI p) 0 2 (nI n) v := by
  have R := RL_Rd h
  have hg : gv kn κ L (vP p) := Or.inr (Or.inr (Or.inr (Or.inl ⟨p, hp, rfl⟩)))
  unfold f_Md_apply
  rw [len_M R hl.1]
  simp only [Option.bind_some, bind_pair]
  rw [show nI l.length - 1 = nI n by rw [hl.2, sub_1], at_M R hl.1 (n := n) (by rw [hl.2]; omega)]
  simp only [Option.bind_some]
  rw [hf, Rd_isK R hg]
  simp only [Option.bind_some]
  rw [(kd_P (by omega)).1]
  rw [if_pos (show (if (3 : Int32) = 5 then (1 : Int32) else 0) = 0 by decide)]
  rw [Rd_thing R hg]
  simp only [Option.bind_some]
  rw [(kd_P (by omega)).1, tr_P (by omega)]
  rw [if_neg (show ¬ nI (536872000 + p) < 536872000 from q_nlt (b := 536872000) (by omega) (by omega)), if_pos (show (if (3 : Int32) = 4 ∨ (3 : Int32) = 5 then (1 : Int32) else 0) = 0 by decide)]
  have hs : nI (536872000 + p) - 536872000 = nI p := by
    rw [Nat.add_comm, ← nI_add]
    exact Int32.add_sub_cancel _ _
  rw [hs]
  have hc : p = 0 ∨ p = 1 ∨ p = 2 ∨ p = 3 ∨ p = 4 ∨ p = 5 ∨ p = 6 ∨ p = 7 ∨ p = 8 ∨ p = 9 := by omega
  rcases hc with r | r | r | r | r | r | r | r | r | r <;> subst r <;> rfl
theorem fop_pre (h : RL S sz m kn (d + 1) κ τ ρ φ L w v) {l : List Nat} {oth last : Int32} {x1 x2 : Int32} (hl : ApC κ L w d n l) (e1 : f_Room_first S (w.1 16 d) w = some (last, w)) (e2 : f_Room_second S (w.1 16 d) w = some (w.1 18 (l[0]'(by rw [hl.2]; omega)), w)) (e3 : f_Room_first S (w.1 18 (l[0]'(by rw [hl.2]; omega))) w = some (oth, w)) : f_Machine_faultOfPrimitive S x1 x2 w = (if x1 = (4 : Int32) then (if x2 = (2 : Int32) then some ((1 : Int32), w) else some ((-4 : Int32), w)) else if x1 = (5 : Int32) then (if x2 = (1 : Int32) then some ((1 : Int32), w) else some ((-4 : Int32), w)) else if x1 = (6 : Int32) then (if x2 = (2 : Int32) then some ((1 : Int32), w) else some ((-4 : Int32), w)) else if x1 = (7 : Int32) then (if x2 = (1 : Int32) then (if last &&& 7 = 4 then some ((1 : Int32), w) else some ((-5 : Int32), w)) else some ((-4 : Int32), w)) else if x1 = (8 : Int32) then (if x2 = (1 : Int32) then (if last &&& 7 = 4 then some ((1 : Int32), w) else some ((-5 : Int32), w)) else some ((-4 : Int32), w)) else if x1 = (9 : Int32) then some ((1 : Int32), w) else (if x2 = (2 : Int32) then (if last &&& 7 = 0 then (if oth &&& 7 = 0 then some ((1 : Int32), w) else some ((-5 : Int32), w)) else some ((-5 : Int32), w)) else some ((-4 : Int32), w))) := by
  obtain ⟨d1, d2, d3, d4, d5, d6⟩ := RL_dn h
  unfold f_Machine_faultOfPrimitive
  rw [fc_C d2 d1]
  simp only [Option.bind_some]
  rw [e1]
  simp only [Option.bind_some]
  rw [fc_C d2 d1]
  simp only [Option.bind_some]
  rw [e2]
  simp only [Option.bind_some]
  rw [e3]
  simp only [Option.bind_some]
  simp only [isPair_C, isNum_C, Option.bind_some]
  by_cases q4 : last &&& 7 = 4 <;> by_cases q0 : last &&& 7 = 0 <;> by_cases o0 : oth &&& 7 = 0 <;> simp [q4, q0, o0]
/-- a primitive that wants no cells gives its value -/
theorem ap_ret (h : RL S sz m kn (d + 1) κ τ ρ φ L w v) {l : List Nat} (hl : ApC κ L w d n l) {p : Nat} (hp : p < 10) (h6 : p ≠ 6) (h9 : p ≠ 9) (hf : w.1 17 (l[n]'(by rw [hl.2]; omega)) = vP p) (hft : f_Machine_faultOfPrimitive S (nI p) (nI n) w = some (1, w)) {res : Int32} (hr : f_Machine_primitiveResult S (nI p) (w.1 16 d) (nI n) (pm_setI w 4 3 (nI d)) = some (res, pm_setI w 4 3 (nI d))) (hg : gv kn κ L res) : SO S sz kn w v (f_Machine_apply S w) (f_Md_done (tr φ res) v) := by
  obtain ⟨d1, d2, d3, d4, d5, d6⟩ := RL_dn h
  rw [ap_C h hl]
  unfold f_Machine_faultOfCall f_Machine_cellsOfCall f_Value_kind f_Value_content
  rw [hf, (kd_P (by omega)).1, (kd_P (by omega)).2]
  simp only [Option.bind_some, bind_pair]
  rw [if_pos trivial, hft]
  simp only [Option.bind_some]
  rw [if_pos trivial, if_neg (by decide), if_neg (show ¬ nI p = 6 from q_ne (b := 6) h6 (by omega) (by omega)), if_neg (show ¬ nI p = 9 from q_ne (b := 9) h9 (by omega) (by omega))]
  simp only [Option.bind_some]
  rw [has0 h.1]
  simp only [Option.bind_some]
  rw [if_neg (by decide), pop_C d2 d1]
  simp only [Option.bind_some]
  rw [if_neg (by decide), hr]
  simp only [Option.bind_some]
  exact SO_done (pop_sim h) d3 hg rfl (frW_set frW_rf (by decide)) frV_rf
theorem ap_err (h : RL S sz m kn (d + 1) κ τ ρ φ L w v) {l : List Nat} (hl : ApC κ L w d n l) {e : Int32} (he : e < 0) (hft : f_Machine_faultOfCall S (w.1 17 (l[n]'(by rw [hl.2]; omega))) (nI n) w = some (e, w)) : SO S sz kn w v (f_Machine_apply S w) (some (e, v)) := by
  rw [ap_C h hl, hft]
  simp only [Option.bind_some]
  rw [if_neg (fun q => by rw [q] at he; exact absurd he (by decide))]
  exact SO_err (RL_RH h) he frW_rf frV_rf
theorem fc_P {fn : Int32} {p : Nat} (hp : p < 10) (hf : fn = vP p) : f_Machine_faultOfCall S fn (nI n) w = f_Machine_faultOfPrimitive S (nI p) (nI n) w := by
  unfold f_Machine_faultOfCall f_Value_kind f_Value_content
  rw [hf, (kd_P (by omega)).1, (kd_P (by omega)).2]
  simp only [Option.bind_some, bind_pair]
  rw [if_pos trivial]
end
