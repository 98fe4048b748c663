/-! printing: the output, characters, numbers, names -/
def oC (O : List Nat) (w : pm_W) : Prop := O.length ≤ 200 ∧ w.1 2 1 = nI O.length ∧ ∀ (i : Nat) (h : i < O.length), w.1 10 i = nI O[i]
def oM (O : List Nat) (v : pm_W) : Prop := O.length ≤ 200 ∧ v.1 0 22 = nI O.length ∧ ∀ (i : Nat) (h : i < O.length), v.1 13 i = nI O[i]
def ap (O T : List Nat) : List Nat := (O ++ T).take 200
theorem ap_ap (O T U : List Nat) : ap (ap O T) U = ap O (T ++ U) := by
  unfold ap
  rw [← List.append_assoc, List.take_append, List.take_append (l₁ := O ++ T), List.take_take, Nat.min_self, List.length_take]
  congr 2
  omega
theorem ap_full {O T : List Nat} (h : O.length = 200) : ap O T = O := by
  unfold ap
  rw [List.take_append, h, List.take_of_length_le (by omega)]
  simp
theorem ap_nil {O : List Nat} (h : O.length ≤ 200) : ap O [] = O := by
  unfold ap
  rw [List.append_nil, List.take_of_length_le h]
theorem ap_1 {O : List Nat} {c : Nat} (h : O.length < 200) : ap O [c] = O ++ [c] := by
  unfold ap
  rw [List.take_of_length_le (by simp; omega)]
theorem ap_le (O T : List Nat) : (ap O T).length ≤ 200 := by
  unfold ap
  rw [List.length_take]
  omega
theorem z_chr {k : Nat} (hk : k < 65536) : ((nI k).toUInt32 % 65536).toInt32 = nI k := by
  rw [pk_char, pk_tn (by omega), Nat.mod_eq_of_lt hk]
theorem z_chv {k : Nat} (hk : k < 65536) : vp_nar .char (nI k) = nI k := by
  have := z_char hk
  rwa [z_chr hk] at this
theorem smC_tr {a b c : pm_W} {os : List Nat} (h1 : smC a b os) (h2 : smC b c os) : smC a c os := ⟨h2.1.trans h1.1, fun o ho => (h2.2 o ho).trans (h1.2 o ho)⟩
theorem smM_tr {a b c : pm_W} {ks os : List Nat} (h1 : smM a b ks os) (h2 : smM b c ks os) : smM a c ks os := ⟨h2.1.trans h1.1, fun k hk => (h2.2.1 k hk).trans (h1.2.1 k hk), fun o h0 ho => (h2.2.2 o h0 ho).trans (h1.2.2 o h0 ho)⟩
theorem smM_wk {a b : pm_W} {ks os os2 : List Nat} (h : smM a b ks os) (hs : ∀ o ∈ os, o ∈ os2) : smM a b ks os2 := ⟨h.1, h.2.1, fun o h0 ho => h.2.2 o h0 (fun q => ho (hs o q))⟩
theorem put_C {S c : Nat} {O : List Nat} {w : pm_W} (h : oC O w) (hc : c < 65536) : ∃ w1, f_Output_put S (nI c) w = some w1 ∧ oC (ap O [c]) w1 ∧ smC w w1 [2, 10] := by
  obtain ⟨h1, h2, h3⟩ := h
  unfold f_Output_put
  rw [h2, if_neg (nI_pos (by omega))]
  by_cases q : O.length < 200
  · rw [if_neg (show ¬ (200 : Int32) ≤ nI O.length from q_nle (a := 200) q (by omega)), if_neg (nI_in q (by omega)), nI_clamp (by omega), z_chv hc]
    refine ⟨_, rfl, ?_, smC_set (smC_set smC_rf (by decide)) (by decide)⟩
    rw [ap_1 q]
    refine ⟨by simp; omega, ?_, fun i hi => ?_⟩
    · rw [rdI_s, nI_1]; simp
    · rw [rdI_n _ (Or.inl (by decide))]
      by_cases e : i = O.length
      · subst e; rw [rdI_s]; simp
      · have hl : i < O.length := by simp at hi; omega
        rw [rdI_n _ (Or.inr e), h3 i hl, List.getElem_append_left hl]
  · have e : O.length = 200 := by omega
    rw [if_pos (show (200 : Int32) ≤ nI O.length from q_le (a := 200) (by omega) (by omega))]
    exact ⟨w, rfl, by rw [ap_full e]; exact ⟨h1, h2, h3⟩, smC_rf⟩
theorem put_M {c : Nat} {O : List Nat} {v : pm_W} (h : oM O v) (hc : c < 65536) : ∃ v1, f_Md_put (nI c) v = some v1 ∧ oM (ap O [c]) v1 ∧ smM v v1 [22] [13] := by
  obtain ⟨h1, h2, h3⟩ := h
  unfold f_Md_put
  rw [h2]
  by_cases q : O.length < 200
  · rw [if_neg (show ¬ (200 : Int32) ≤ nI O.length from q_nle (a := 200) q (by omega)), if_neg (nI_in q (by omega)), nI_clamp (by omega), z_char hc]
    refine ⟨_, rfl, ?_, smM_f (smM_a smM_rf (by decide) (by decide)) (by decide)⟩
    rw [ap_1 q]
    refine ⟨by simp; omega, ?_, fun i hi => ?_⟩
    · rw [rdI_s, nI_1]; simp
    · rw [rdI_n _ (Or.inl (by decide))]
      by_cases e : i = O.length
      · subst e; rw [rdI_s]; simp
      · have hl : i < O.length := by simp at hi; omega
        rw [rdI_n _ (Or.inr e), h3 i hl, List.getElem_append_left hl]
  · have e : O.length = 200 := by omega
    rw [if_pos (show (200 : Int32) ≤ nI O.length from q_le (a := 200) (by omega) (by omega))]
    exact ⟨v, rfl, by rw [ap_full e]; exact ⟨h1, h2, h3⟩, smM_rf⟩
/-- what writes a text, and nothing else -/
def prC (w0 : pm_W) (f : pm_W → Option pm_W) (T : List Nat) : Prop := ∀ (O : List Nat) (w : pm_W), smC w0 w [2, 10] → oC O w → ∃ w1, f w = some w1 ∧ oC (ap O T) w1 ∧ smC w0 w1 [2, 10]
def prM (v0 : pm_W) (f : pm_W → Option pm_W) (T : List Nat) : Prop := ∀ (O : List Nat) (v : pm_W), smM v0 v [22] [13, 17, 18] → oM O v → ∃ v1, f v = some v1 ∧ oM (ap O T) v1 ∧ smM v v1 [22] [13]
section
variable {S : Nat} {w0 v0 : pm_W} {f g : pm_W → Option pm_W} {T U : List Nat}
theorem prC_bind (hf : prC w0 f T) (hg : prC w0 g U) : prC w0 (fun w => Option.bind (f w) g) (T ++ U) := by
  intro O w hw hO
  obtain ⟨w1, a1, a2, a3⟩ := hf O w hw hO
  obtain ⟨w2, b1, b2, b3⟩ := hg _ w1 a3 a2
  refine ⟨w2, ?_, by rw [← ap_ap]; exact b2, b3⟩
  show Option.bind (f w) g = _
  rw [a1]; exact b1
theorem prM_bind (hf : prM v0 f T) (hg : prM v0 g U) : prM v0 (fun v => Option.bind (f v) g) (T ++ U) := by
  intro O v hv hO
  obtain ⟨v1, a1, a2, a3⟩ := hf O v hv hO
  obtain ⟨v2, b1, b2, b3⟩ := hg _ v1 (smM_tr hv (smM_wk a3 (by decide))) a2
  refine ⟨v2, ?_, by rw [← ap_ap]; exact b2, smM_tr a3 b3⟩
  show Option.bind (f v) g = _
  rw [a1]; exact b1
theorem prC_put {c : Nat} (hc : c < 65536) : prC w0 (f_Output_put S (nI c)) [c] := fun O w hw hO => by
  obtain ⟨w1, a1, a2, a3⟩ := put_C (S := S) hO hc
  exact ⟨w1, a1, a2, smC_tr hw a3⟩
theorem prM_put {c : Nat} (hc : c < 65536) : prM v0 (f_Md_put (nI c)) [c] := fun O w hw hO => put_M hO hc
theorem prC_id : prC w0 some [] := fun O w hw hO => ⟨w, rfl, by rw [ap_nil hO.1]; exact hO, hw⟩
theorem prM_id : prM v0 some [] := fun O w hw hO => ⟨w, rfl, by rw [ap_nil hO.1]; exact hO, smM_rf⟩
theorem prC_cg (h : prC w0 f T) (e : ∀ w, smC w0 w [2, 10] → g w = f w) : prC w0 g T := fun O w hw hO => by rw [e w hw]; exact h O w hw hO
theorem prM_cg (h : prM v0 f T) (e : ∀ v, smM v0 v [22] [13, 17, 18] → g v = f v) : prM v0 g T := fun O w hw hO => by rw [e w hw]; exact h O w hw hO
theorem bind_some1 {α : Type} (o : Option α) : (Option.bind o fun x => some x) = o := by cases o <;> rfl
/-- the class's literals -/
theorem prC_tl {k : Nat} (hk : k < 6) (hl : T.length = st_len.getD k 0) (h99 : T.length < 1000) (hT : ∀ (j : Nat) (h : j < T.length), st_ch k (nI j) = nI T[j] ∧ T[j] < 65536) : ∀ (n i m : Nat), i + n = T.length → prC w0 (fun w => l_Printer_printText S (m + n + 1) 0 k (nI i) w) (T.drop i) := by
  intro n
  induction n with
  | zero =>
    intro i m hi
    have e : i = T.length := by omega
    subst e
    rw [List.drop_length]
    refine prC_cg prC_id (fun w _ => ?_)
    rw [l_Printer_printText_s]
    unfold b_Printer_printText_2
    rw [if_pos hk, ← hl, if_pos (Int32.le_refl _)]
  | succ n ih =>
    intro i m hi
    have hi2 : i < T.length := by omega
    rw [List.drop_eq_getElem_cons hi2]
    refine prC_cg (prC_bind (T := [T[i]]) (prC_put (S := S) (hT i hi2).2) (ih (i + 1) m (by omega))) (fun w _ => ?_)
    show l_Printer_printText S (m + (n + 1) + 1) 0 k (nI i) w = _
    rw [show m + (n + 1) + 1 = (m + n + 1) + 1 by omega, l_Printer_printText_s]
    unfold b_Printer_printText_2
    rw [if_pos hk, ← hl, if_neg (q_nle hi2 (by omega)), if_pos hk, if_neg (nI_in hi2 (by omega)), if_pos (q_lt hi2 (by omega)), (hT i hi2).1, nI_1]
theorem prC_txt {k : Nat} (hk : k < 6) (hl : T.length = st_len.getD k 0) (h99 : T.length < 1000) (hT : ∀ (j : Nat) (h : j < T.length), st_ch k (nI j) = nI T[j] ∧ T[j] < 65536) : prC w0 (f_Printer_printText S k) T := by
  have := prC_tl (S := S) (w0 := w0) hk hl h99 hT T.length 0 (pm_fuel - (T.length + 1)) (by omega)
  rw [fuel_s _ (by omega), nI_0] at this
  exact this
theorem prC_1 : prC w0 (f_Printer_printText S 1) [46, 46, 46] := prC_txt (by decide) (by decide) (by decide) (by decide +kernel)
theorem prC_2 : prC w0 (f_Printer_printText S 2) [32, 46, 46, 46] := prC_txt (by decide) (by decide) (by decide) (by decide +kernel)
theorem prC_3 : prC w0 (f_Printer_printText S 3) [32, 46, 32] := prC_txt (by decide) (by decide) (by decide) (by decide +kernel)
theorem prC_4 : prC w0 (f_Printer_printText S 4) [60, 102, 110, 62] := prC_txt (by decide) (by decide) (by decide) (by decide +kernel)
theorem prC_5 : prC w0 (f_Printer_printText S 5) [40, 41] := prC_txt (by decide) (by decide) (by decide) (by decide +kernel)
theorem prM_dots : prM v0 f_Md_putDots [46, 46, 46] := by
  refine prM_cg (prM_bind (T := [46]) (prM_put (c := 46) (by decide)) (prM_bind (T := [46]) (prM_put (c := 46) (by decide)) (prM_put (c := 46) (by decide)))) (fun v _ => ?_)
  unfold f_Md_putDots
  simp only [bind_some1]
  rfl
end
/-- the digits of a number, from the j-th down -/
def dg (x : Nat) : Nat → List Nat
  | 0 => [48 + x % 10]
  | j + 1 => (if 10 ^ (j + 1) ≤ x then [48 + x / 10 ^ (j + 1) % 10] else []) ++ dg x j
def dgA (x : Nat) : Nat → List Nat
  | 0 => [48 + x % 10]
  | j + 1 => [48 + x / 10 ^ (j + 1) % 10] ++ dgA x j
theorem dg_up {x j : Nat} (h : x < 10 ^ (j + 1)) : ∀ d, dg x (j + d) = dg x j := by
  intro d
  induction d with
  | zero => rfl
  | succ d ih =>
    show (if 10 ^ (j + d + 1) ≤ x then _ else _) ++ dg x (j + d) = _
    have : 10 ^ (j + 1) ≤ 10 ^ (j + d + 1) := Nat.pow_le_pow_right (by omega) (by omega)
    rw [if_neg (by omega), ih]
    rfl
theorem dg_A {x : Nat} : ∀ j, (j = 0 ∨ 10 ^ j ≤ x) → dg x j = dgA x j := by
  intro j
  induction j with
  | zero => intro _; rfl
  | succ j ih =>
    intro h
    have h1 : 10 ^ (j + 1) ≤ x := by
      rcases h with h | h
      · omega
      · exact h
    have h2 : 10 ^ j ≤ 10 ^ (j + 1) := Nat.pow_le_pow_right (by omega) (by omega)
    show (if 10 ^ (j + 1) ≤ x then _ else _) ++ dg x j = [_] ++ dgA x j
    rw [if_pos h1, ih (Or.inr (by omega))]
section
variable {S : Nat} {w0 v0 : pm_W} {f g : pm_W → Option pm_W} {T U : List Nat}
theorem p10 {j : Nat} (h : j ≤ 8) : 0 < 10 ^ j ∧ 10 ^ j < 2 ^ 31 := ⟨Nat.pow_pos (by omega), Nat.lt_of_le_of_lt (Nat.pow_le_pow_right (by omega) h) (by decide)⟩
theorem dig_e {x j : Nat} (hx : x < 2 ^ 31) (h : j ≤ 8) : (48 : Int32) + (nI x / nI (10 ^ j) - nI x / nI (10 ^ j) / (10 : Int32) * (10 : Int32)) = nI (48 + x / 10 ^ j % 10) := by
  obtain ⟨h1, h2⟩ := p10 h
  have h3 : x / 10 ^ j ≤ x := Nat.div_le_self _ _
  rw [pk_div hx h1 h2, show (10 : Int32) = nI 10 from rfl, pk_rem (by omega) (by omega) (by omega), show (48 : Int32) = nI 48 from rfl, nI_add]
theorem dig_l {x j : Nat} : 48 + x / 10 ^ j % 10 < 65536 := by omega
theorem numC_l {x : Nat} (hx : x < 2 ^ 31) : ∀ (j m : Nat), j ≤ 8 → prC w0 (fun w => l_Printer_printNumber S (m + j + 2) 0 (nI x) (nI (10 ^ j)) w) (dg x j) := by
  intro j
  induction j with
  | zero =>
    intro m _
    have := prC_put (S := S) (w0 := w0) (c := 48 + x / 10 ^ 0 % 10) dig_l
    rw [show dg x 0 = [48 + x / 10 ^ 0 % 10] by simp [dg]]
    refine prC_cg (prC_bind (T := [48 + x / 10 ^ 0 % 10]) this prC_id) (fun w _ => ?_)
    show l_Printer_printNumber S ((m + 1) + 1) 0 (nI x) (nI (10 ^ 0)) w = _
    rw [l_Printer_printNumber_s]
    unfold b_Printer_printNumber_21
    rw [dig_e hx (by omega), z_chr dig_l]
    have e0 : ∀ o, l_Printer_printNumber S (m + 1) 0 (nI x) (nI (10 ^ 0) / 10) o = some o := fun o => by
      rw [l_Printer_printNumber_s]
      unfold b_Printer_printNumber_21
      rw [if_pos (by decide)]
    simp only [e0]
    rw [if_neg (show ¬ nI (10 ^ 0) ≤ 0 by decide)]
    by_cases q : nI (10 ^ 0) ≤ nI x
    · rw [if_pos q, if_neg (by decide)]
    · rw [if_neg q, if_pos (by decide), if_neg (by decide)]
  | succ j ih =>
    intro m hj
    obtain ⟨h1, h2⟩ := p10 hj
    have hd : nI (10 ^ (j + 1)) / 10 = nI (10 ^ j) := by
      rw [show (10 : Int32) = nI 10 from rfl, pk_div h2 (by omega) (by omega), Nat.pow_succ, Nat.mul_div_cancel _ (by omega)]
    have n0 : ¬ nI (10 ^ (j + 1)) ≤ 0 := nI_nle h1 h2
    have n1 : ¬ nI (10 ^ (j + 1)) = 0 := nI_ne0 h1 h2
    have n2 : ¬ nI (10 ^ (j + 1)) = 1 := q_ne (b := 1) (by have : 10 ^ (j + 1) = 10 ^ j * 10 := Nat.pow_succ ..; omega) h2 (by omega)
    show prC w0 _ ((if 10 ^ (j + 1) ≤ x then _ else _) ++ dg x j)
    by_cases q : 10 ^ (j + 1) ≤ x
    · rw [if_pos q]
      refine prC_cg (prC_bind (T := [48 + x / 10 ^ (j + 1) % 10]) (prC_put (S := S) dig_l) (ih m (by omega))) (fun w _ => ?_)
      show l_Printer_printNumber S ((m + j + 2) + 1) 0 (nI x) (nI (10 ^ (j + 1))) w = _
      rw [l_Printer_printNumber_s]
      unfold b_Printer_printNumber_21
      rw [dig_e hx hj, z_chr dig_l, if_neg n0, if_pos (q_le q hx), if_neg n1, hd]
    · rw [if_neg q, List.nil_append]
      refine prC_cg (ih m (by omega)) (fun w _ => ?_)
      show l_Printer_printNumber S ((m + j + 2) + 1) 0 (nI x) (nI (10 ^ (j + 1))) w = _
      rw [l_Printer_printNumber_s]
      unfold b_Printer_printNumber_21
      rw [if_neg n0, if_neg (q_nle (by omega) h2), if_neg n2, hd]
theorem numM_2 {x : Nat} (hx : x < 2 ^ 31) : ∀ (j m : Nat), j ≤ 8 → prM v0 (fun v => l_Md_putNumber (m + j + 2) 1 (nI x) (nI (10 ^ j)) v) (dgA x j) := by
  intro j
  induction j with
  | zero =>
    intro m _
    have := prM_put (v0 := v0) (c := 48 + x / 10 ^ 0 % 10) dig_l
    rw [show dgA x 0 = [48 + x / 10 ^ 0 % 10] by simp [dgA]]
    refine prM_cg (prM_bind (T := [48 + x / 10 ^ 0 % 10]) this prM_id) (fun w _ => ?_)
    show l_Md_putNumber ((m + 1) + 1) 1 (nI x) (nI (10 ^ 0)) w = _
    rw [l_Md_putNumber_s1]
    unfold b_Md_putNumber_39
    rw [dig_e hx (by omega)]
    have e0 : ∀ o, l_Md_putNumber (m + 1) 1 (nI x) (nI (10 ^ 0) / 10) o = some o := fun o => by
      rw [l_Md_putNumber_s1]
      unfold b_Md_putNumber_39
      rw [if_pos (by decide)]
    simp only [e0]
    rw [if_neg (by decide), if_neg (by decide)]
  | succ j ih =>
    intro m hj
    obtain ⟨h1, h2⟩ := p10 hj
    have hd : nI (10 ^ (j + 1)) / 10 = nI (10 ^ j) := by
      rw [show (10 : Int32) = nI 10 from rfl, pk_div h2 (by omega) (by omega), Nat.pow_succ, Nat.mul_div_cancel _ (by omega)]
    have n0 : ¬ nI (10 ^ (j + 1)) ≤ 0 := nI_nle h1 h2
    have n1 : ¬ nI (10 ^ (j + 1)) = 0 := nI_ne0 h1 h2
    refine prM_cg (prM_bind (T := [48 + x / 10 ^ (j + 1) % 10]) (prM_put dig_l) (ih m (by omega))) (fun w _ => ?_)
    show l_Md_putNumber ((m + j + 2) + 1) 1 (nI x) (nI (10 ^ (j + 1))) w = _
    rw [l_Md_putNumber_s1]
    unfold b_Md_putNumber_39
    rw [dig_e hx hj, if_neg n0, if_neg n1, hd]
theorem numM_1 {x : Nat} (hx : x < 10 ^ 9) : ∀ (d i m : Nat), i + d = 8 → (i = 0 ∨ 10 ^ i ≤ x) → ∃ (j n : Nat), j ≤ 8 ∧ m ≤ n ∧ (j = 0 ∨ 10 ^ j ≤ x) ∧ x < 10 ^ (j + 1) ∧ ∀ v, l_Md_putNumber (m + d + 1) 0 (nI x) (nI (10 ^ i)) v = l_Md_putNumber n 1 (nI x) (nI (10 ^ j)) v := by
  intro d
  induction d with
  | zero =>
    intro i m hi hp
    have e : i = 8 := by omega
    subst e
    refine ⟨8, m, by omega, by omega, hp, hx, fun v => ?_⟩
    rw [show m + 0 + 1 = m + 1 by omega, l_Md_putNumber_s0]
    unfold b_Md_putNumber_23
    obtain ⟨h1, h2⟩ := p10 (j := 8) (by omega)
    rw [if_neg (nI_ne0 h1 h2), pk_div (by omega) h1 h2, if_pos (show nI (x / 10 ^ 8) ≤ 9 from q_le (b := 9) (by omega) (by omega))]
  | succ d ih =>
    intro i m hi hp
    obtain ⟨h1, h2⟩ := p10 (j := i) (by omega)
    have e1 : ∀ v, l_Md_putNumber (m + (d + 1) + 1) 0 (nI x) (nI (10 ^ i)) v = if x / 10 ^ i ≤ 9 then l_Md_putNumber (m + d + 1) 1 (nI x) (nI (10 ^ i)) v else l_Md_putNumber (m + d + 1) 0 (nI x) (nI (10 ^ (i + 1))) v := fun v => by
      rw [show m + (d + 1) + 1 = (m + d + 1) + 1 by omega, l_Md_putNumber_s0]
      unfold b_Md_putNumber_23
      have h3 : x / 10 ^ i ≤ x := Nat.div_le_self _ _
      rw [if_neg (nI_ne0 h1 h2), pk_div (by omega) h1 h2, show (10 : Int32) = nI 10 from rfl, pk_mul, ← Nat.pow_succ]
      by_cases q : x / 10 ^ i ≤ 9
      · rw [if_pos (show nI (x / 10 ^ i) ≤ 9 from q_le (b := 9) q (by omega)), if_pos q]
      · rw [if_neg (show ¬ nI (x / 10 ^ i) ≤ 9 from q_nle (b := 9) (by omega) (by omega)), if_neg q]
    by_cases q : x / 10 ^ i ≤ 9
    · refine ⟨i, m + d + 1, by omega, by omega, hp, ?_, fun v => by rw [e1, if_pos q]⟩
      have := (Nat.div_lt_iff_lt_mul h1).mp (show x / 10 ^ i < 10 by omega)
      rw [Nat.pow_succ, Nat.mul_comm]
      exact this
    · have : 10 ^ (i + 1) ≤ x := by
        have := (Nat.le_div_iff_mul_le h1).mp (show 10 ≤ x / 10 ^ i by omega)
        rw [Nat.pow_succ, Nat.mul_comm]
        exact this
      obtain ⟨j, n, a1, a2, a3, a4, a5⟩ := ih (i + 1) m (by omega) (Or.inr this)
      exact ⟨j, n, a1, a2, a3, a4, fun v => by rw [e1, if_neg q, a5]⟩
theorem numM_l {x : Nat} (hx : x < 10 ^ 9) : prM v0 (fun v => l_Md_putNumber pm_fuel 0 (nI x) 1 v) (dg x 8) := by
  obtain ⟨j, n, a1, a2, a3, a4, a5⟩ := numM_1 hx 8 0 (pm_fuel - 9) (by omega) (Or.inl rfl)
  have hn : n = (n - j - 2) + j + 2 := by
    have : pm_fuel - 9 = 99991 := rfl
    omega
  rw [show (8 : Nat) = j + (8 - j) by omega, dg_up a4, dg_A j a3]
  refine prM_cg (numM_2 (v0 := v0) (x := x) (by omega) j (n - j - 2) a1) (fun v _ => ?_)
  rw [← hn, ← a5]
  rfl
/-- the text of a number -/
def nt (z : Int32) : List Nat := if 0 ≤ z then dg z.toNatClampNeg 8 else 45 :: dg (0 - z).toNatClampNeg 8
theorem num_ab (a : Int32) : (0 ≤ a >>> ((3 : Int32) &&& 31) ∧ ∃ x, x < 10 ^ 9 ∧ a >>> ((3 : Int32) &&& 31) = nI x) ∨ (¬ 0 ≤ a >>> ((3 : Int32) &&& 31) ∧ ∃ x, x < 10 ^ 9 ∧ 0 - (a >>> ((3 : Int32) &&& 31)) = nI x) := by
  have h1 := Int32.toInt_lt a
  have h2 := Int32.le_toInt a
  have h3 := shr_int a
  by_cases q : 0 ≤ a >>> ((3 : Int32) &&& 31)
  · refine Or.inl ⟨q, (a >>> ((3 : Int32) &&& 31)).toInt.toNat, ?_, ?_⟩
    · rw [h3]; omega
    · have q2 := Int32.le_iff_toInt_le.mp q
      rw [show (0 : Int32).toInt = 0 from rfl, h3] at q2
      apply Int32.toInt_inj.mp
      rw [nI_toInt (by rw [h3]; omega), h3]
      omega
  · have q2 : (a >>> ((3 : Int32) &&& 31)).toInt < 0 := by
      have := Int32.lt_iff_toInt_lt.mp (Int32.not_le.mp q)
      rwa [show (0 : Int32).toInt = 0 from rfl] at this
    rw [h3] at q2
    refine Or.inr ⟨q, (-(a.toInt / 8)).toNat, by omega, ?_⟩
    apply Int32.toInt_inj.mp
    rw [nI_toInt (by omega), Int32.toInt_sub, h3, show (0 : Int32).toInt = 0 from rfl]
    rw [Int.bmod_eq_of_le (by omega) (by omega)]
    omega
theorem prC_num (a : Int32) : prC w0 (f_Printer_printNumber S (a >>> ((3 : Int32) &&& 31))) (nt (a >>> ((3 : Int32) &&& 31))) := by
  have hf : pm_fuel = 99990 + 8 + 2 := rfl
  rcases num_ab a with ⟨q, x, x1, x2⟩ | ⟨q, x, x1, x2⟩
  · unfold nt
    rw [if_pos q, x2, nI_clamp (by omega)]
    refine prC_cg (numC_l (S := S) (w0 := w0) (x := x) (by omega) 8 99990 (by omega)) (fun w _ => ?_)
    unfold f_Printer_printNumber
    rw [x2] at q
    rw [if_pos q, if_pos q, hf]
    rfl
  · unfold nt
    rw [if_neg q, x2, nI_clamp (by omega)]
    refine prC_cg (prC_bind (T := [45]) (prC_put (S := S) (c := 45) (by decide)) (numC_l (S := S) (w0 := w0) (x := x) (by omega) 8 99990 (by omega))) (fun w _ => ?_)
    unfold f_Printer_printNumber
    rw [if_neg q, if_neg q, x2, hf]
    rfl
theorem neg_0 (z : Int32) : -z = 0 - z := by simp
theorem putN_p {z : Int32} {w : pm_W} (q : 0 ≤ z) : f_Md_putNumber z w = l_Md_putNumber pm_fuel 0 z 1 w := by
  unfold f_Md_putNumber
  rw [if_pos q, if_pos q]
theorem putN_n {z y : Int32} {w : pm_W} (q : ¬ 0 ≤ z) (e : 0 - z = y) : f_Md_putNumber z w = Option.bind (f_Md_put (nI 45) w) fun o => l_Md_putNumber pm_fuel 0 y 1 o := by
  have e1 : (fun o3 => if 0 ≤ z then l_Md_putNumber pm_fuel 0 z 1 o3 else l_Md_putNumber pm_fuel 0 (-z) 1 o3) = fun o => l_Md_putNumber pm_fuel 0 y 1 o := by
    funext o
    rw [if_neg q, neg_0, e]
  have e2 : f_Md_put 45 w = f_Md_put (nI 45) w := rfl
  unfold f_Md_putNumber
  rw [if_neg q, e1, e2]
theorem prM_num (a : Int32) : prM v0 (f_Md_putNumber (a >>> ((3 : Int32) &&& 31))) (nt (a >>> ((3 : Int32) &&& 31))) := by
  rcases num_ab a with ⟨q, x, x1, x2⟩ | ⟨q, x, x1, x2⟩
  · unfold nt
    rw [if_pos q, x2, nI_clamp (by omega)]
    rw [x2] at q
    exact prM_cg (numM_l (v0 := v0) (x := x) x1) (fun w _ => putN_p q)
  · unfold nt
    rw [if_neg q, x2, nI_clamp (by omega)]
    exact prM_cg (prM_bind (T := [45]) (prM_put (c := 45) (by decide)) (numM_l (v0 := v0) (x := x) x1)) (fun w _ => putN_n q x2)
end
