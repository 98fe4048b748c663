/-! printing: names, plain values -/
def pkN (l : List Nat) : Nat := l.foldl (fun n c => 256 * n + c) 0
theorem pkN_nil : pkN [] = 0 := rfl
theorem pkN_sn (l : List Nat) (c : Nat) : pkN (l ++ [c]) = 256 * pkN l + c := by
  simp [pkN, List.foldl_append]
def bt1 (n j : Nat) : List Nat := if n / 256 ^ j % 256 = 0 then [] else [n / 256 ^ j % 256]
def nmb (n : Nat) : Nat → List Nat
  | 0 => bt1 n 0
  | j + 1 => bt1 n (j + 1) ++ nmb n j
theorem bt1_sh {n c : Nat} (hc : c < 256) (j : Nat) : bt1 (256 * n + c) (j + 1) = bt1 n j := by
  unfold bt1
  rw [Nat.pow_succ, Nat.mul_comm (256 ^ j), ← Nat.div_div_eq_div_mul, show (256 * n + c) / 256 = n by omega]
theorem nmb_sh {n c : Nat} (h0 : c ≠ 0) (hc : c < 256) : ∀ j, nmb (256 * n + c) (j + 1) = nmb n j ++ [c] := by
  intro j
  induction j with
  | zero =>
    show bt1 _ (0 + 1) ++ bt1 (256 * n + c) 0 = bt1 n 0 ++ [c]
    rw [bt1_sh hc]
    unfold bt1
    rw [show (256 * n + c) / 256 ^ 0 % 256 = c by simp; omega, if_neg h0]
  | succ j ih =>
    show bt1 _ (j + 1 + 1) ++ nmb _ (j + 1) = (bt1 n (j + 1) ++ nmb n j) ++ [c]
    rw [bt1_sh hc, ih, List.append_assoc]
theorem nmb_0 : ∀ j, nmb 0 j = [] := by
  intro j
  induction j with
  | zero => rfl
  | succ j ih =>
    show bt1 0 (j + 1) ++ nmb 0 j = []
    rw [ih]
    unfold bt1
    simp
theorem nmb_l : ∀ (j : Nat) (l : List Nat), l.length ≤ j + 1 → (∀ c ∈ l, 0 < c ∧ c < 256) → nmb (pkN l) j = l := by
  intro j
  induction j with
  | zero =>
    intro l hl hc
    rcases List.eq_nil_or_concat l with q | ⟨T, s, q⟩
    · rw [q]; exact nmb_0 0
    · rw [List.concat_eq_append] at q
      subst q
      have hT : T = [] := by
        cases T with
        | nil => rfl
        | cons a T => simp at hl
      subst hT
      have := hc s (by simp)
      show bt1 (256 * 0 + s) 0 = [s]
      unfold bt1
      rw [show (256 * 0 + s) / 256 ^ 0 % 256 = s by simp; omega, if_neg (by omega)]
  | succ j ih =>
    intro l hl hc
    rcases List.eq_nil_or_concat l with q | ⟨T, s, q⟩
    · rw [q]; exact nmb_0 _
    · rw [List.concat_eq_append] at q
      subst q
      have := hc s (by simp)
      rw [pkN_sn, nmb_sh (by omega) (by omega), ih T (by simp at hl; omega) (fun c h => hc c (by simp [h]))]
theorem pkN_lt : ∀ (l : List Nat), (∀ c ∈ l, c < 256) → pkN l < 256 ^ l.length := by
  intro l
  induction hn : l.length generalizing l with
  | zero =>
    intro _
    have : l = [] := List.eq_nil_of_length_eq_zero hn
    subst this
    decide
  | succ n ih =>
    intro hc
    rcases List.eq_nil_or_concat l with q | ⟨T, s, q⟩
    · rw [q] at hn; simp at hn
    · rw [List.concat_eq_append] at q
      subst q
      have h1 := ih T (by simp at hn; omega) (fun c h => hc c (by simp [h]))
      have h2 := hc s (by simp)
      rw [pkN_sn, Nat.pow_succ]
      omega
theorem pkN_64 {l : List Nat} (hc : ∀ c ∈ l, c < 256) (hl : l.length ≤ 8) : pkN l < 2 ^ 64 := Nat.lt_of_lt_of_le (pkN_lt l hc) (Nat.le_trans (Nat.pow_le_pow_right (by omega) hl) (by decide))
theorem chn_s : ∀ j, j < 8 → ((nI (8 * j)).toInt64.toUInt64 &&& Int64.toUInt64 63) = UInt64.ofNat (8 * j) := by decide +kernel
theorem chn_t : ∀ j, j < 8 → (UInt64.ofNat (8 * j)).toNat % 64 = 8 * j := by decide +kernel
theorem lN_bn {n : Nat} (h : n < 2 ^ 64) : (lN n).toBitVec.toNat = n := by
  show (BitVec.ofNat 64 n).toNat = n
  rw [BitVec.toNat_ofNat, Nat.mod_eq_of_lt h]
theorem chn {n j : Nat} (hn : n < 2 ^ 64) (hj : j < 8) : ((((lN n).toUInt64 >>> ((nI (8 * j)).toInt64.toUInt64 &&& Int64.toUInt64 63)).toInt64) &&& (255 : Int64)).toInt32 = nI (n / 256 ^ j % 256) := by
  rw [chn_s j hj, ← lN_i]
  congr 1
  apply Int64.toBitVec_inj.mp
  apply BitVec.eq_of_toNat_eq
  have h1 : n / 256 ^ j % 256 < 256 := Nat.mod_lt _ (by omega)
  rw [Int64.toBitVec_and, BitVec.toNat_and, lN_bn (by omega)]
  show ((lN n).toUInt64 >>> UInt64.ofNat (8 * j)).toNat &&& 255 = _
  rw [UInt64.toNat_shiftRight, chn_t j hj, Nat.shiftRight_eq_div_pow, show (255 : Nat) = 2 ^ 8 - 1 from rfl, Nat.and_two_pow_sub_one_eq_mod]
  rw [show (lN n).toUInt64.toNat = n from lN_bn hn, Nat.pow_mul]
def NmR (kn : Nat) (nm : Nat → List Nat) (w v : pm_W) : Prop := ∀ s, s < kn → nm s ≠ [] ∧ (nm s).length ≤ 8 ∧ (∀ c ∈ nm s, 0 < c ∧ c < 256) ∧ w.2 11 s = lN (pkN (nm s)) ∧ ∀ q, q < 8 → v.1 10 (8 * s + q) = nI ((nm s).getD q 0)
section
variable {S kn : Nat} {w0 v0 : pm_W} {f g : pm_W → Option pm_W} {T U : List Nat} {nm : Nat → List Nat}
theorem nameC_l {n : Nat} (hn : n < 2 ^ 64) : ∀ (j m : Nat), j < 8 → prC w0 (fun w => l_Printer_printName S (m + j + 2) 0 (lN n) (nI (8 * j)) w) (nmb n j) := by
  intro j
  induction j with
  | zero =>
    intro m _
    have e0 : ∀ o, l_Printer_printName S (m + 1) 0 (lN n) (nI (8 * 0) + (-8)) o = some o := fun o => by
      rw [l_Printer_printName_s]
      unfold b_Printer_printName_3
      rw [if_pos (by decide)]
    have h1 : n / 256 ^ 0 % 256 < 256 := Nat.mod_lt _ (by omega)
    show prC w0 _ (bt1 n 0)
    unfold bt1
    by_cases q : n / 256 ^ 0 % 256 = 0
    · rw [if_pos q]
      refine prC_cg prC_id (fun w _ => ?_)
      show l_Printer_printName S ((m + 1) + 1) 0 (lN n) (nI (8 * 0)) w = _
      rw [l_Printer_printName_s]
      unfold b_Printer_printName_3
      rw [chn hn (by omega), q, if_neg (by decide), if_pos (by decide), e0]
    · rw [if_neg q]
      refine prC_cg (prC_bind (T := [n / 256 ^ 0 % 256]) (prC_put (S := S) (by omega)) prC_id) (fun w _ => ?_)
      show l_Printer_printName S ((m + 1) + 1) 0 (lN n) (nI (8 * 0)) w = _
      rw [l_Printer_printName_s]
      unfold b_Printer_printName_3
      rw [chn hn (by omega), if_neg (by decide), if_neg (nI_ne0 (by omega) (by omega)), z_chr (by omega)]
      simp only [e0]
  | succ j ih =>
    intro m hj
    have e0 : nI (8 * (j + 1)) + (-8) = nI (8 * j) := by
      rw [show (-8 : Int32) = -(nI 8) from rfl, ← Int32.sub_eq_add_neg, pk_sub (by omega), show 8 * (j + 1) - 8 = 8 * j by omega]
    have h1 : n / 256 ^ (j + 1) % 256 < 256 := Nat.mod_lt _ (by omega)
    show prC w0 _ (bt1 n (j + 1) ++ nmb n j)
    unfold bt1
    by_cases q : n / 256 ^ (j + 1) % 256 = 0
    · rw [if_pos q, List.nil_append]
      refine prC_cg (ih m (by omega)) (fun w _ => ?_)
      show l_Printer_printName S ((m + j + 2) + 1) 0 (lN n) (nI (8 * (j + 1))) w = _
      rw [l_Printer_printName_s]
      unfold b_Printer_printName_3
      rw [chn hn hj, q, if_neg (nI_pos (by omega)), if_pos (by decide), e0]
    · rw [if_neg q]
      refine prC_cg (prC_bind (T := [n / 256 ^ (j + 1) % 256]) (prC_put (S := S) (by omega)) (ih m (by omega))) (fun w _ => ?_)
      show l_Printer_printName S ((m + j + 2) + 1) 0 (lN n) (nI (8 * (j + 1))) w = _
      rw [l_Printer_printName_s]
      unfold b_Printer_printName_3
      rw [chn hn hj, if_neg (nI_pos (by omega)), if_neg (nI_ne0 (by omega) (by omega)), z_chr (by omega), e0]
theorem prC_nm {v : pm_W} (hN : NmR kn nm w0 v) (hkn : kn ≤ 40) {s : Nat} (hs : s < kn) : prC w0 (fun w => Option.bind (f_Symbols_name S (nI s) w) fun o7 => f_Printer_printName S o7.1 o7.2) (nm s) := by
  obtain ⟨h0, h1, h2, h3, h4⟩ := hN s hs
  have hf : pm_fuel = 99991 + 7 + 2 := rfl
  have := nameC_l (S := S) (w0 := w0) (n := pkN (nm s)) (pkN_64 (fun c h => (h2 c h).2) h1) 7 99991 (by omega)
  rw [nmb_l 7 (nm s) (by omega) h2, ← hf, ← h3] at this
  refine prC_cg this (fun w hw => ?_)
  unfold f_Symbols_name f_Printer_printName
  rw [if_neg (nI_pos (by omega)), if_neg (show ¬ (40 : Int32) ≤ nI s from q_nle (a := 40) (by omega) (by omega)), if_neg (nI_in (by omega) (by omega)), nI_clamp (by omega), hw.1]
  rfl
theorem nameM_l {w : pm_W} (hN : NmR kn nm w v0) (hkn : kn ≤ 40) {s : Nat} (hs : s < kn) : ∀ (d q m : Nat), q + d = 8 → prM v0 (fun v => l_Md_putName (m + d + 1) 0 (nI s) (nI q) v) ((nm s).drop q) := by
  obtain ⟨h0, h1, h2, h3, h4⟩ := hN s hs
  intro d
  induction d with
  | zero =>
    intro q m hq
    rw [List.drop_eq_nil_of_le (by omega)]
    refine prM_cg prM_id (fun v _ => ?_)
    rw [l_Md_putName_s]
    unfold b_Md_putName_2
    rw [if_pos (show (8 : Int32) ≤ nI q from q_le (a := 8) (by omega) (by omega))]
  | succ d ih =>
    intro q m hq
    have eix : (8 : Int32) * nI s + nI q = nI (8 * s + q) := by rw [z_8, nI_add]
    have hin3 : ¬ (nI (8 * s + q) < 0 ∨ 320 ≤ 8 * s + q) := by
      have := nI_in (c := 8 * s + q) (N := 320) (by omega) (by omega)
      rwa [nI_clamp (by omega)] at this
    have e10 : ∀ v, smM v0 v [22] [13, 17, 18] → v.1 10 (8 * s + q) = nI ((nm s).getD q 0) := fun v hv => by
      rw [hv.2.2 10 (by decide) (by decide)]; exact h4 q (by omega)
    by_cases hl : q < (nm s).length
    · have eg : (nm s).getD q 0 = (nm s)[q] := by rw [List.getD_eq_getElem?_getD, List.getElem?_eq_getElem hl]; rfl
      have hc := h2 _ (List.getElem_mem hl)
      rw [List.drop_eq_getElem_cons hl]
      refine prM_cg (prM_bind (T := [(nm s)[q]]) (prM_put (by omega)) (ih (q + 1) m (by omega))) (fun v hv => ?_)
      show l_Md_putName (m + (d + 1) + 1) 0 (nI s) (nI q) v = _
      rw [show m + (d + 1) + 1 = (m + d + 1) + 1 by omega, l_Md_putName_s]
      unfold b_Md_putName_2
      rw [if_neg (show ¬ (8 : Int32) ≤ nI q from q_nle (a := 8) (by omega) (by omega)), eix, nI_clamp (by omega), if_neg hin3, e10 v hv, eg, if_neg (nI_nle (by omega) (by omega)), if_neg hin3, nI_1]
    · have eg : (nm s).getD q 0 = 0 := by rw [List.getD_eq_getElem?_getD, List.getElem?_eq_none (by omega)]; rfl
      rw [List.drop_eq_nil_of_le (by omega)]
      have := ih (q + 1) m (by omega)
      rw [List.drop_eq_nil_of_le (by omega)] at this
      refine prM_cg this (fun v hv => ?_)
      show l_Md_putName (m + (d + 1) + 1) 0 (nI s) (nI q) v = _
      rw [show m + (d + 1) + 1 = (m + d + 1) + 1 by omega, l_Md_putName_s]
      unfold b_Md_putName_2
      rw [if_neg (show ¬ (8 : Int32) ≤ nI q from q_nle (a := 8) (by omega) (by omega)), eix, nI_clamp (by omega), if_neg hin3, e10 v hv, eg, if_pos (by decide), nI_1]
theorem prM_nm {w : pm_W} (hN : NmR kn nm w v0) (hkn : kn ≤ 40) {s : Nat} (hs : s < kn) : prM v0 (f_Md_putName (nI s)) (nm s) := by
  have := nameM_l hN hkn hs 8 0 (pm_fuel - 9) (by omega)
  rw [show pm_fuel - 9 + 8 + 1 = pm_fuel from rfl, List.drop_zero] at this
  exact this
end
/-- the text of a plain value -/
def pl (nm : Nat → List Nat) (a : Int32) : List Nat := if a &&& 7 = 0 then nt (a >>> ((3 : Int32) &&& 31)) else if a &&& 7 = 1 ∨ a &&& 7 = 3 then nm (a >>> ((3 : Int32) &&& 31)).toNatClampNeg else if a &&& 7 = 5 then [60, 102, 110, 62] else [40, 41]
section
variable {S kn : Nat} {κ τ ρ φ : Nat → Nat} {L : List Nat} {w0 v0 : pm_W} {nm : Nat → List Nat}
theorem prC_pl (R : Rd S kn κ τ ρ φ L w0 v0) (hN : NmR kn nm w0 v0) (h16 : 16 ≤ kn) {a : Int32} (ha : gv kn κ L a) (h4 : ¬ a &&& 7 = 4) (fl : Int32 → Int32 → pm_W → Option pm_W) (x2 : Int32) : prC w0 (f_Printer_print S fl a x2) (pl nm a) := by
  have hκ := R.2.1.2.1
  have hkn := R.2.1.2.2.2.1
  rcases ha with q | ⟨y, q1, q2⟩ | q | ⟨y, q1, q2⟩ | ⟨y, q1, q2⟩
  · unfold pl
    rw [if_pos q]
    refine prC_cg (prC_num (S := S) a) (fun w _ => ?_)
    unfold f_Printer_print f_Value_kind f_Value_content
    simp only [Option.bind_some, bind_some1]
    rw [if_pos q]
  · have k1 : vS y &&& 7 = 1 := (kd_S (by omega)).1
    have k2 := (kd_S (s := y) (by omega)).2
    unfold pl
    rw [q2, k1, k2, if_neg (by decide), if_pos (by decide), nI_clamp (by omega)]
    refine prC_cg (prC_nm (S := S) hN hkn q1) (fun w _ => ?_)
    unfold f_Printer_print f_Value_kind f_Value_content
    simp only [Option.bind_some, bind_some1]
    rw [k1, k2, if_neg (by decide), if_pos rfl]
  · subst q
    refine prC_cg (prC_5 (S := S)) (fun w _ => ?_)
    unfold f_Printer_print f_Value_kind f_Value_content
    simp only [Option.bind_some, bind_some1]
    rw [if_neg (by decide), if_neg (by decide), if_pos (by decide)]
  · have k1 : vP y &&& 7 = 3 := (kd_P (by omega)).1
    have k2 := (kd_P (s := y) (by omega)).2
    unfold pl
    rw [q2, k1, k2, if_neg (by decide), if_pos (by decide), nI_clamp (by omega)]
    refine prC_cg (prC_nm (S := S) hN hkn (s := y) (by omega)) (fun w _ => ?_)
    unfold f_Printer_print f_Value_kind f_Value_content
    simp only [Option.bind_some, bind_some1]
    rw [k1, k2, if_neg (by decide), if_neg (by decide), if_neg (by decide), if_pos rfl]
  · rcases hκ y with r | r
    · exact absurd (by rw [q2, ptr_C r]; exact (kd_C (Rd_L R y q1).1).1) h4
    · have k1 : vK y &&& 7 = 5 := (kd_K (Rd_L R y q1).1).1
      unfold pl
      rw [q2, ptr_K r, k1, if_neg (by decide), if_neg (by decide), if_pos rfl]
      refine prC_cg (prC_4 (S := S)) (fun w _ => ?_)
      unfold f_Printer_print f_Value_kind f_Value_content
      simp only [Option.bind_some, bind_some1]
      rw [k1, if_neg (by decide), if_neg (by decide), if_neg (by decide), if_neg (by decide), if_neg (by decide), if_pos rfl]
theorem Rd_sm (R : Rd S kn κ τ ρ φ L w0 v0) {v : pm_W} (hv : smM v0 v [22] [13, 17, 18]) : Rd S kn κ τ ρ φ L w0 v := Rd_v R (fun o ho => by
  simp only [List.mem_cons, List.not_mem_nil, or_false] at ho
  rcases ho with rfl | rfl | rfl | rfl <;> exact hv.2.2 _ (by decide) (by decide))
theorem prM_pl (R : Rd S kn κ τ ρ φ L w0 v0) (hN : NmR kn nm w0 v0) (h16 : 16 ≤ kn) {a : Int32} (ha : gv kn κ L a) (h4 : ¬ a &&& 7 = 4) : prM v0 (f_Md_putPlain (tr φ a)) (pl nm a) := by
  have hκ := R.2.1.2.1
  have hkn := R.2.1.2.2.2.1
  have ga := ha
  rcases ha with q | ⟨y, q1, q2⟩ | q | ⟨y, q1, q2⟩ | ⟨y, q1, q2⟩
  · unfold pl
    rw [if_pos q]
    refine prM_cg (prM_num a) (fun v hv => ?_)
    unfold f_Md_putPlain
    rw [Rd_isN (Rd_sm R hv) ga]
    simp only [Option.bind_some, bind_some1]
    rw [if_pos q, if_neg (by decide), tr_N q]
  · have k1 : vS y &&& 7 = 1 := (kd_S (by omega)).1
    have k2 := (kd_S (s := y) (by omega)).2
    unfold pl
    rw [q2, k1, k2, if_neg (by decide), if_pos (by decide), nI_clamp (by omega)]
    rw [q2] at ga
    have n2' : ¬ a = 2 := fun e => by rw [← q2, e] at k1; exact absurd k1 (by decide)
    rw [q2] at n2'
    refine prM_cg (prM_nm hN hkn q1) (fun v hv => ?_)
    unfold f_Md_putPlain
    have n2 := fun e => n2' ((Rd_nil R ga).mp e)
    rw [Rd_isN (Rd_sm R hv) ga]
    simp only [Option.bind_some, bind_some1]
    rw [k1, if_neg (show ¬ (1 : Int32) = 0 by decide), if_pos rfl, if_neg n2, Rd_thing (Rd_sm R hv) ga]
    simp only [Option.bind_some]
    rw [k1, if_pos (by decide), Rd_isS (Rd_sm R hv) ga]
    simp only [Option.bind_some]
    rw [k1, if_pos rfl, if_neg (by decide), tr_S (by omega), sub_sym]
  · subst q
    refine prM_cg (prM_bind (T := [40]) (prM_put (c := 40) (by decide)) (prM_put (c := 41) (by decide))) (fun v hv => ?_)
    unfold f_Md_putPlain
    rw [Rd_isN (Rd_sm R hv) ga]
    simp only [Option.bind_some, bind_some1]
    rw [if_pos (show (if (2 : Int32) &&& 7 = 0 then (1 : Int32) else 0) = 0 by decide), if_pos tr_2]
    rfl
  · have k1 : vP y &&& 7 = 3 := (kd_P (by omega)).1
    have k2 := (kd_P (s := y) (by omega)).2
    unfold pl
    rw [q2, k1, k2, if_neg (by decide), if_pos (by decide), nI_clamp (by omega)]
    rw [q2] at ga
    have n2' : ¬ a = 2 := fun e => by rw [← q2, e] at k1; exact absurd k1 (by decide)
    rw [q2] at n2'
    refine prM_cg (prM_nm hN hkn (s := y) (by omega)) (fun v hv => ?_)
    unfold f_Md_putPlain
    have n2 := fun e => n2' ((Rd_nil R ga).mp e)
    rw [Rd_isN (Rd_sm R hv) ga]
    simp only [Option.bind_some, bind_some1]
    rw [k1, if_neg (show ¬ (3 : Int32) = 0 by decide), if_pos rfl, if_neg n2, Rd_thing (Rd_sm R hv) ga]
    simp only [Option.bind_some]
    rw [k1, if_pos (by decide), Rd_isS (Rd_sm R hv) ga]
    simp only [Option.bind_some]
    rw [k1, if_pos (show (if (3 : Int32) = 1 then (1 : Int32) else 0) = 0 by decide), tr_P (by omega)]
    rw [show nI (536872000 + y) - 536872000 = nI y by rw [Nat.add_comm, ← nI_add]; exact Int32.add_sub_cancel _ _]
  · rcases hκ y with r | r
    · exact absurd (by rw [q2, ptr_C r]; exact (kd_C (Rd_L R y q1).1).1) h4
    · have k1 : vK y &&& 7 = 5 := (kd_K (Rd_L R y q1).1).1
      rw [q2, ptr_K r] at ga
      have n2' : ¬ vK y = 2 := fun e => by rw [e] at k1; exact absurd k1 (by decide)
      unfold pl
      rw [q2, ptr_K r, k1, if_neg (by decide), if_neg (by decide), if_pos rfl]
      refine prM_cg (prM_bind (T := [60]) (prM_put (c := 60) (by decide)) (prM_bind (T := [102]) (prM_put (c := 102) (by decide)) (prM_bind (T := [110]) (prM_put (c := 110) (by decide)) (prM_put (c := 62) (by decide))))) (fun v hv => ?_)
      unfold f_Md_putPlain
      have n2 := fun e => n2' ((Rd_nil R ga).mp e)
      rw [Rd_isN (Rd_sm R hv) ga]
      simp only [Option.bind_some, bind_some1]
      rw [k1, if_neg (show ¬ (5 : Int32) = 0 by decide), if_pos rfl, if_neg n2, Rd_thing (Rd_sm R hv) ga]
      simp only [Option.bind_some]
      rw [k1, if_neg (by decide)]
      rfl
theorem dg_ne (x j : Nat) : dg x j ≠ [] := by
  cases j with
  | zero => simp [dg]
  | succ j =>
    intro h
    have h2 : dg x j = [] := by
      unfold dg at h
      simp at h
      exact h.2
    have : ∀ j, dg x j ≠ [] := fun j => by
      induction j with
      | zero => simp [dg]
      | succ j ih => intro q; unfold dg at q; simp at q; exact ih q.2
    exact this j h2
theorem pl_ne (R : Rd S kn κ τ ρ φ L w0 v0) (hN : NmR kn nm w0 v0) (h16 : 16 ≤ kn) {a : Int32} (ha : gv kn κ L a) : pl nm a ≠ [] := by
  have hκ := R.2.1.2.1
  have hkn := R.2.1.2.2.2.1
  unfold pl
  rcases ha with q | ⟨y, q1, q2⟩ | q | ⟨y, q1, q2⟩ | ⟨y, q1, q2⟩
  · rw [if_pos q]
    unfold nt
    split
    · exact dg_ne _ _
    · simp
  · rw [q2, (kd_S (by omega)).1, (kd_S (by omega)).2, if_neg (by decide), if_pos (by decide), nI_clamp (by omega)]
    exact (hN y q1).1
  · subst q; rw [if_neg (by decide), if_neg (by decide), if_neg (by decide)]; simp
  · rw [q2, (kd_P (by omega)).1, (kd_P (by omega)).2, if_neg (by decide), if_pos (by decide), nI_clamp (by omega)]
    exact (hN y (by omega)).1
  · rcases hκ y with r | r
    · rw [q2, ptr_C r, (kd_C (Rd_L R y q1).1).1, if_neg (by decide), if_neg (by decide), if_neg (by decide)]; simp
    · rw [q2, ptr_K r, (kd_K (Rd_L R y q1).1).1, if_neg (by decide), if_neg (by decide), if_pos rfl]; simp
end
