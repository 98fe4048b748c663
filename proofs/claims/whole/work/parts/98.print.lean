/-! printing: lists -/
def sl (a : Int32) : Nat := (a >>> ((3 : Int32) &&& 31)).toNatClampNeg
theorem sl_C {s : Nat} (h : s < 1000) : sl (vC s) = s := by
  unfold sl
  rw [(kd_C h).2, nI_clamp (by omega)]
def ltE (p : Int32 → List Nat) (a : Int32) : List Nat := if a &&& 7 = 4 then [32, 46, 46, 46, 41] else if a = 2 then [41] else [32, 46, 32] ++ p a ++ [41]
def lt (f p : Int32 → List Nat) (g h : Nat → Int32) : Nat → Bool → Int32 → List Nat
  | 0, _, a => ltE p a
  | k + 1, b, a => if a &&& 7 = 4 then (if b = true then [] else [32]) ++ f (g (sl a)) ++ lt f p g h k false (h (sl a)) else ltE p a
def pt (nm : Nat → List Nat) (g h : Nat → Int32) : Nat → Int32 → List Nat
  | 0, a => if a &&& 7 = 4 then [46, 46, 46] else pl nm a
  | n + 1, a => if a &&& 7 = 4 then 40 :: lt (pt nm g h n) (pl nm) g h 40 true a else pl nm a
theorem pt_n {nm : Nat → List Nat} {g h : Nat → Int32} {n : Nat} {a : Int32} (h4 : ¬ a &&& 7 = 4) : pt nm g h n a = pl nm a := by
  cases n <;> (unfold pt; rw [if_neg h4])
section
variable {S kn : Nat} {κ τ ρ φ : Nat → Nat} {L : List Nat} {w0 v0 : pm_W} {nm : Nat → List Nat}
theorem Rd_sc (R : Rd S kn κ τ ρ φ L w0 v0) {w : pm_W} (hw : smC w0 w [2, 10]) : Rd S kn κ τ ρ φ L w v0 := Rd_fr R (hw.2 5 (by decide)) (hw.2 17 (by decide)) (hw.2 18 (by decide)) (hw.2 19 (by decide)) rfl rfl rfl rfl
/-- the end of a list, as the class prints it -/
theorem prC_78 {f : Int32 → List Nat} {pr : Int32 → Int32 → pm_W → Option pm_W} {rec : Nat → Int32 → Int32 → Int32 → pm_W → Option pm_W} {o : Int32} (hp : ∀ a, gv kn κ L a → prC w0 (pr a (o + 1)) (f a)) (hf : ∀ a, gv kn κ L a → ¬ a &&& 7 = 4 → f a = pl nm a) {a : Int32} (ha : gv kn κ L a) : prC w0 (b_Printer_printList_78 S pr rec o a) (ltE (pl nm) a) := by
  unfold ltE
  by_cases q : a &&& 7 = 4
  · rw [if_pos q]
    refine prC_cg (prC_bind (T := [32, 46, 46, 46]) (prC_2 (S := S)) (prC_put (S := S) (c := 41) (by decide))) (fun w _ => ?_)
    unfold b_Printer_printList_78
    rw [isPair_C]
    simp only [Option.bind_some, bind_some1]
    rw [if_pos q, if_neg (by decide)]
    rfl
  · rw [if_neg q]
    by_cases q2 : a = 2
    · rw [if_pos q2]
      refine prC_cg (prC_put (S := S) (c := 41) (by decide)) (fun w _ => ?_)
      unfold b_Printer_printList_78
      rw [isPair_C]
      simp only [Option.bind_some, bind_some1]
      rw [if_neg q, if_pos rfl, if_pos q2]
      rfl
    · rw [if_neg q2, List.append_assoc, ← hf a ha q]
      refine prC_cg (prC_bind (T := [32, 46, 32]) (prC_3 (S := S)) (prC_bind (hp a ha) (prC_put (S := S) (c := 41) (by decide)))) (fun w _ => ?_)
      unfold b_Printer_printList_78
      rw [isPair_C]
      simp only [Option.bind_some, bind_some1]
      rw [if_neg q, if_pos rfl, if_neg q2]
      rfl
theorem full_C {O : List Nat} {w : pm_W} (h : oC O w) : f_Output_isFull S w = some (if O.length < 200 then 0 else 1, w) := by
  unfold f_Output_isFull
  rw [h.2.1]
  by_cases q : O.length < 200
  · rw [if_pos (show nI O.length < 200 from q_lt (b := 200) q (by omega)), if_pos q]
  · rw [if_neg (show ¬ nI O.length < 200 from q_nlt (b := 200) (by omega) (by have := h.1; omega)), if_neg q]
/-- one thing of a list -/
theorem prC_el (R : Rd S kn κ τ ρ φ L w0 v0) {f : Int32 → List Nat} {pr : Int32 → Int32 → pm_W → Option pm_W} {rec : pm_W → Int32 → Option pm_W} {o : Int32} {U : List Nat} {c s : Nat} (hc : c < 65536) (hp : ∀ a, gv kn κ L a → prC w0 (pr a (o + 1)) (f a)) (hs : s ∈ L) (hr : prC w0 (fun w => rec w (w0.1 18 s)) U) : prC w0 (fun w => Option.bind (f_Output_put S (nI c) w) fun o11 => Option.bind (f_Room_first S (vC s) o11) fun o12 => Option.bind (pr o12.1 (o + 1) o12.2) fun o13 => Option.bind (f_Room_second S (vC s) o13) fun o14 => rec o14.2 o14.1) ([c] ++ f (w0.1 17 s) ++ U) := by
  intro O w hw hO
  obtain ⟨w1, a1, a2, a3⟩ := prC_put (S := S) (w0 := w0) hc O w hw hO
  obtain ⟨w2, b1, b2, b3⟩ := hp _ (R.2.1.2.2.2.2 s hs).2.1 _ w1 a3 a2
  obtain ⟨w3, c1, c2, c3⟩ := hr _ w2 b3 b2
  refine ⟨w3, ?_, ?_, c3⟩
  · show Option.bind (f_Output_put S (nI c) w) _ = _
    rw [a1]
    simp only [Option.bind_some]
    rw [Rd_fst (Rd_sc R a3) hs, a3.2 17 (by decide)]
    simp only [Option.bind_some]
    rw [b1]
    simp only [Option.bind_some]
    rw [Rd_snd (Rd_sc R b3) hs, b3.2 18 (by decide)]
    simp only [Option.bind_some]
    exact c1
  · rw [ap_ap, ap_ap] at c2
    rw [List.append_assoc]
    exact c2
theorem prC_ll (R : Rd S kn κ τ ρ φ L w0 v0) {f : Int32 → List Nat} {pr : Int32 → Int32 → pm_W → Option pm_W} {o : Int32} (hp : ∀ a, gv kn κ L a → prC w0 (pr a (o + 1)) (f a)) (hf : ∀ a, gv kn κ L a → ¬ a &&& 7 = 4 → f a = pl nm a) : ∀ (k m : Nat) (a : Int32), k < 40 → gv kn κ L a → prC w0 (fun w => l_Printer_printList S pr (m + k + 1) 0 o a (nI (40 - k)) w) (lt f (pl nm) (w0.1 17) (w0.1 18) k false a) := by
  intro k
  induction k with
  | zero =>
    intro m a _ ha
    refine prC_cg (prC_78 (S := S) (nm := nm) (rec := l_Printer_printList S pr m) hp hf ha) (fun w _ => ?_)
    show l_Printer_printList S pr (m + 1) 0 o a (nI 40) w = _
    rw [l_Printer_printList_s]
    unfold b_Printer_printList_5
    rw [if_pos (by decide)]
  | succ k ih =>
    intro m a hk ha
    have n40 : ¬ (40 : Int32) ≤ nI (40 - (k + 1)) := q_nle (a := 40) (by omega) (by omega)
    have e1 : nI (40 - (k + 1)) + 1 = nI (40 - k) := by rw [nI_1, show 40 - (k + 1) + 1 = 40 - k by omega]
    have n0 : ¬ nI (40 - (k + 1)) = 0 := nI_ne0 (by omega) (by omega)
    unfold lt
    by_cases q : a &&& 7 = 4
    · rw [if_pos q]
      obtain ⟨s, s1, s2, s3⟩ := gv_4 R ha q
      rw [s3, sl_C (Rd_L R s s1).1]
      intro O w hw hO
      have hst : ∀ b, f_Output_isFull S w = some (b, w) → l_Printer_printList S pr (m + (k + 1) + 1) 0 o (vC s) (nI (40 - (k + 1))) w = if b = 0 then (Option.bind (f_Output_put S (nI 32) w) fun o11 => Option.bind (f_Room_first S (vC s) o11) fun o12 => Option.bind (pr o12.1 (o + 1) o12.2) fun o13 => Option.bind (f_Room_second S (vC s) o13) fun o14 => l_Printer_printList S pr (m + k + 1) 0 o o14.1 (nI (40 - k)) o14.2) else b_Printer_printList_78 S pr (l_Printer_printList S pr (m + k + 1)) o (vC s) w := fun b hb => by
        rw [show m + (k + 1) + 1 = (m + k + 1) + 1 by omega, l_Printer_printList_s]
        unfold b_Printer_printList_5
        rw [if_neg n40, isPair_C, (kd_C (Rd_L R s s1).1).1]
        simp only [Option.bind_some]
        rw [if_pos trivial, if_neg (by decide), hb]
        simp only [Option.bind_some]
        rw [if_neg n0, e1]
        rfl
      have hb := hst _ (full_C (S := S) hO)
      show ∃ w1, l_Printer_printList S pr (m + (k + 1) + 1) 0 o (vC s) (nI (40 - (k + 1))) w = some w1 ∧ _
      rw [hb]
      by_cases z : O.length < 200
      · rw [if_pos z, if_pos rfl, if_neg (by decide)]
        have := prC_el (S := S) (f := f) (pr := pr) (o := o) (rec := fun w x => l_Printer_printList S pr (m + k + 1) 0 o x (nI (40 - k)) w) (c := 32) R (by decide) hp s1 (ih m _ (by omega) (R.2.1.2.2.2.2 s s1).2.2.1)
        exact this O w hw hO
      · rw [if_neg z, if_neg (by decide)]
        have e : O.length = 200 := by have := hO.1; omega
        rw [s3] at ha
        obtain ⟨w1, a1, a2, a3⟩ := prC_78 (S := S) (nm := nm) (rec := l_Printer_printList S pr (m + k + 1)) hp hf ha O w hw hO
        refine ⟨w1, a1, ?_, a3⟩
        rw [ap_full e] at a2 ⊢
        exact a2
    · rw [if_neg q]
      refine prC_cg (prC_78 (S := S) (nm := nm) (rec := l_Printer_printList S pr (m + k + 1)) hp hf ha) (fun w _ => ?_)
      show l_Printer_printList S pr (m + (k + 1) + 1) 0 o a (nI (40 - (k + 1))) w = _
      rw [show m + (k + 1) + 1 = (m + k + 1) + 1 by omega, l_Printer_printList_s]
      unfold b_Printer_printList_5
      rw [if_neg n40, isPair_C]
      simp only [Option.bind_some]
      rw [if_neg q, if_pos rfl]
theorem prC_lst (R : Rd S kn κ τ ρ φ L w0 v0) {f : Int32 → List Nat} {pr : Int32 → Int32 → pm_W → Option pm_W} {o : Int32} (hp : ∀ a, gv kn κ L a → prC w0 (pr a (o + 1)) (f a)) (hf : ∀ a, gv kn κ L a → ¬ a &&& 7 = 4 → f a = pl nm a) {a : Int32} (ha : gv kn κ L a) (q : a &&& 7 = 4) : prC w0 (f_Printer_printList S pr a o) (40 :: lt f (pl nm) (w0.1 17) (w0.1 18) 40 true a) := by
  obtain ⟨s, s1, s2, s3⟩ := gv_4 R ha q
  rw [s3] at ha
  have hT : 40 :: lt f (pl nm) (w0.1 17) (w0.1 18) 40 true a = [40] ++ f (w0.1 17 s) ++ lt f (pl nm) (w0.1 17) (w0.1 18) 39 false (w0.1 18 s) := by
    rw [show lt f (pl nm) (w0.1 17) (w0.1 18) 40 true a = (if a &&& 7 = 4 then (if true = true then [] else [32]) ++ f (w0.1 17 (sl a)) ++ lt f (pl nm) (w0.1 17) (w0.1 18) 39 false (w0.1 18 (sl a)) else ltE (pl nm) a) from rfl, if_pos q, s3, sl_C (Rd_L R s s1).1]
    simp
  rw [hT, s3]
  obtain ⟨M, hfu⟩ : ∃ M, pm_fuel = (M + 39 + 1) + 1 := ⟨99959, rfl⟩
  have hst : ∀ w b, f_Output_isFull S w = some (b, w) → f_Printer_printList S pr (vC s) o w = if b = 0 then (Option.bind (f_Output_put S (nI 40) w) fun o11 => Option.bind (f_Room_first S (vC s) o11) fun o12 => Option.bind (pr o12.1 (o + 1) o12.2) fun o13 => Option.bind (f_Room_second S (vC s) o13) fun o14 => l_Printer_printList S pr (M + 39 + 1) 0 o o14.1 (nI (40 - 39)) o14.2) else b_Printer_printList_78 S pr (l_Printer_printList S pr (M + 39 + 1)) o (vC s) w := fun w b hb => by
    unfold f_Printer_printList
    rw [hfu, l_Printer_printList_s]
    unfold b_Printer_printList_5
    rw [if_neg (by decide), isPair_C, (kd_C (Rd_L R s s1).1).1]
    simp only [Option.bind_some]
    rw [if_pos trivial, if_neg (by decide), hb]
    simp only [Option.bind_some]
    rw [if_pos trivial]
    rfl
  intro O w hw hO
  rw [hst w _ (full_C (S := S) hO)]
  by_cases z : O.length < 200
  · rw [if_pos z, if_pos rfl]
    have := prC_el (S := S) (f := f) (pr := pr) (o := o) (rec := fun w x => l_Printer_printList S pr (M + 39 + 1) 0 o x (nI (40 - 39)) w) (c := 40) R (by decide) hp s1 (prC_ll (S := S) (nm := nm) R hp hf 39 M _ (by omega) (R.2.1.2.2.2.2 s s1).2.2.1)
    exact this O w hw hO
  · rw [if_neg z, if_neg (by decide)]
    have e : O.length = 200 := by have := hO.1; omega
    obtain ⟨w1, a1, a2, a3⟩ := prC_78 (S := S) (nm := nm) (rec := l_Printer_printList S pr (M + 39 + 1)) hp hf ha O w hw hO
    refine ⟨w1, a1, ?_, a3⟩
    rw [ap_full e] at a2 ⊢
    exact a2
theorem f_Pr_s (n : Nat) : f_Pr S (n + 1) = f_Printer_print S (f_Printer_printList S (f_Pr S n)) := rfl
theorem prC_Pr (R : Rd S kn κ τ ρ φ L w0 v0) (hN : NmR kn nm w0 v0) (h16 : 16 ≤ kn) : ∀ (n m : Nat) (a : Int32), n ≤ 16 → gv kn κ L a → prC w0 (f_Pr S (m + n + 1) a (nI (16 - n))) (pt nm (w0.1 17) (w0.1 18) n a) := by
  intro n
  induction n with
  | zero =>
    intro m a _ ha
    by_cases q : a &&& 7 = 4
    · unfold pt
      rw [if_pos q]
      refine prC_cg (prC_1 (S := S)) (fun w _ => ?_)
      rw [show m + 0 + 1 = m + 1 by omega, f_Pr_s]
      unfold f_Printer_print f_Value_kind
      simp only [Option.bind_some, bind_some1]
      rw [q, if_neg (by decide), if_neg (by decide), if_neg (by decide), if_neg (by decide), if_pos rfl, if_neg (by decide)]
    · rw [pt_n q]
      exact prC_pl R hN h16 ha q _ _
  | succ n ih =>
    intro m a hn ha
    by_cases q : a &&& 7 = 4
    · unfold pt
      rw [if_pos q]
      have hp : ∀ a, gv kn κ L a → prC w0 (f_Pr S (m + n + 1) a (nI (16 - (n + 1)) + 1)) (pt nm (w0.1 17) (w0.1 18) n a) := fun a ha => by
        rw [nI_1, show 16 - (n + 1) + 1 = 16 - n by omega]
        exact ih m a (by omega) ha
      refine prC_cg (prC_lst (S := S) (nm := nm) R hp (fun a _ h4 => pt_n h4) ha q) (fun w _ => ?_)
      rw [show m + (n + 1) + 1 = (m + n + 1) + 1 by omega, f_Pr_s]
      unfold f_Printer_print f_Value_kind
      simp only [Option.bind_some, bind_some1]
      rw [q, if_neg (by decide), if_neg (by decide), if_neg (by decide), if_neg (by decide), if_pos rfl, if_pos (show nI (16 - (n + 1)) < 16 from q_lt (b := 16) (by omega) (by omega))]
    · rw [pt_n q]
      exact prC_pl R hN h16 ha q _ _
/-- the class prints a line -/
theorem prC_line (R : Rd S kn κ τ ρ φ L w0 v0) (hN : NmR kn nm w0 v0) (h16 : 16 ≤ kn) {a : Int32} (ha : gv kn κ L a) : prC w0 (f_Printer_printLine S a) (pt nm (w0.1 17) (w0.1 18) 16 a ++ [10]) := by
  refine prC_cg (prC_bind (prC_Pr (S := S) R hN h16 16 1 a (by omega) ha) (prC_put (S := S) (c := 10) (by decide))) (fun w _ => ?_)
  unfold f_Printer_printLine
  simp only [bind_some1]
  rfl
end
