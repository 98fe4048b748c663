/-! reading: words -/
/-- the first characters of a word -/
def wl (tx : Nat → Nat) (k e : Nat) : List Nat := (List.range (min 8 (e - k))).map (fun q => tx (k + q))
abbrev dgt (c : Nat) : Prop := 48 ≤ c ∧ c ≤ 57
def allD (tx : Nat → Nat) : Nat → Nat → Bool
  | 0, _ => true
  | d + 1, i => decide (dgt (tx i)) && allD tx d (i + 1)
def nf (tx : Nat → Nat) (k : Nat) : Nat := if tx k = 45 then k + 1 else k
def isN (tx : Nat → Nat) (k e : Nat) : Bool := decide (nf tx k < e) && decide (e - nf tx k ≤ 9) && allD tx (e - nf tx k) (nf tx k)
def sumD (tx : Nat → Nat) : Nat → Nat → Int32 → Int32
  | 0, _, x => x
  | d + 1, i, x => sumD tx d (i + 1) (10 * x + (nI (tx i) - 48))
def figN (tx : Nat → Nat) (k e : Nat) : Int32 := if tx k = 45 then -(sumD tx (e - nf tx k) (nf tx k) 0) else sumD tx (e - nf tx k) (nf tx k) 0
section
variable {S n : Nat} {tx : Nat → Nat} {w v : pm_W}
theorem isNC_l (h : TxC n tx w) {e : Nat} (he : e ≤ n) : ∀ (d i m : Nat), i + d = e → l_Text_isNumber S (m + d + 1) 0 (nI e) (nI i) w = some (b2 (allD tx d i), w) := by
  have hn := h.1
  intro d
  induction d with
  | zero =>
    intro i m hi
    rw [l_Text_isNumber_s]
    unfold b_Text_isNumber_38
    rw [if_pos (q_le (by omega) (by omega))]
    rfl
  | succ d ih =>
    intro i m hi
    have hc := ch_lt (h.2.2 i (by omega)).1
    rw [show m + (d + 1) + 1 = (m + d + 1) + 1 by omega, l_Text_isNumber_s]
    unfold b_Text_isNumber_38 allD
    rw [if_neg (q_nle (by omega) (by omega)), at_C h (by omega)]
    simp only [Option.bind_some]
    rw [at_C h (by omega)]
    simp only [Option.bind_some]
    by_cases q : 48 ≤ tx i
    · rw [if_neg (show ¬ nI (tx i) < 48 from q_nlt (b := 48) q (by omega))]
      by_cases r : tx i ≤ 57
      · rw [if_pos (show nI (tx i) ≤ 57 from q_le (b := 57) r (by omega)), nI_1, ih (i + 1) m (by omega), show decide (dgt (tx i)) = true by simp [q, r]]
        rfl
      · rw [if_neg (show ¬ nI (tx i) ≤ 57 from q_nle (b := 57) (by omega) (by omega)), show decide (dgt (tx i)) = false by simp [r]]
        rfl
    · rw [if_pos (show nI (tx i) < 48 from q_lt (b := 48) (by omega) (by omega)), show decide (dgt (tx i)) = false by simp [q]]
      rfl
theorem isN_C (h : TxC n tx w) {k e : Nat} (hk : k < n) (hke : k < e) (he : e ≤ n) : f_Text_isNumber S (nI k) (nI e) w = some (b2 (isN tx k e), w) := by
  have hn := h.1
  have hc := ch_lt (h.2.2 k hk).1
  have key : ∀ i, i ≤ e → (if nI e - nI i < 1 then some ((0 : Int32), w) else if nI e - nI i ≤ 9 then l_Text_isNumber S pm_fuel 0 (nI e) (nI i) w else some (0, w)) = some (b2 (decide (i < e) && decide (e - i ≤ 9) && allD tx (e - i) i), w) := fun i hi => by
    rw [pk_sub hi]
    by_cases q : i < e
    · rw [if_neg (show ¬ nI (e - i) < 1 from q_nlt (b := 1) (by omega) (by omega))]
      by_cases r : e - i ≤ 9
      · have := isNC_l (S := S) h he (e - i) i (pm_fuel - (e - i + 1)) (by omega)
        rw [fuel_s _ (by omega)] at this
        rw [if_pos (show nI (e - i) ≤ 9 from q_le (b := 9) r (by omega)), this]
        simp [q, r]
      · rw [if_neg (show ¬ nI (e - i) ≤ 9 from q_nle (b := 9) (by omega) (by omega))]
        simp [r, b2]
    · rw [if_pos (show nI (e - i) < 1 from q_lt (b := 1) (by omega) (by omega))]
      simp [q, b2]
  unfold f_Text_isNumber isN nf
  rw [at_C h hk]
  simp only [Option.bind_some]
  by_cases z : tx k = 45
  · rw [if_pos (show nI (tx k) = 45 by rw [z]; rfl), if_pos z, nI_1]
    exact key (k + 1) (by omega)
  · rw [if_neg (show ¬ nI (tx k) = 45 from q_ne (b := 45) z (by omega) (by omega)), if_neg z]
    exact key k (by omega)
theorem isNM_l (h : TxM n tx v) {e : Nat} (he : e ≤ n) : ∀ (d i m : Nat) (b : Bool), i + d = e → l_Md_isFigure (m + d + 1) 0 (nI e) (b2 b) (nI i) v = some (b2 (b && allD tx d i), v) := by
  have hn := h.1
  intro d
  induction d with
  | zero =>
    intro i m b hi
    rw [l_Md_isFigure_s]
    unfold b_Md_isFigure_42
    rw [if_pos (q_le (by omega) (by omega)), if_pos (by cases b <;> decide)]
    cases b <;> rfl
  | succ d ih =>
    intro i m b hi
    obtain ⟨c1, c2⟩ := h.2.2 i (by omega)
    have hc := ch_lt c1
    have hin : ¬ (nI i < 0 ∨ 120 ≤ (nI i).toNatClampNeg) := nI_in (by omega) (by omega)
    rw [show m + (d + 1) + 1 = (m + d + 1) + 1 by omega, l_Md_isFigure_s]
    unfold b_Md_isFigure_42 allD
    have i0 : l_Md_isFigure (m + d + 1) 0 (nI e) 0 (nI (i + 1)) v = some (b2 (false && allD tx d (i + 1)), v) := ih (i + 1) m false (by omega)
    have i1 : l_Md_isFigure (m + d + 1) 0 (nI e) 1 (nI (i + 1)) v = some (b2 (true && allD tx d (i + 1)), v) := ih (i + 1) m true (by omega)
    rw [if_neg (q_nle (by omega) (by omega)), nI_1, i0, i1]
    cases b with
    | false => rw [if_pos (show b2 false = 0 from rfl)]; rfl
    | true =>
      rw [if_neg (show ¬ b2 true = 0 by decide), if_neg hin, if_neg hin, nI_clamp (by omega), c2]
      by_cases q : 48 ≤ tx i
      · rw [if_neg (show ¬ nI (tx i) < 48 from q_nlt (b := 48) q (by omega))]
        by_cases r : tx i ≤ 57
        · rw [if_neg (show ¬ (57 : Int32) < nI (tx i) from q_nlt (a := 57) r (by omega)), show decide (dgt (tx i)) = true by simp [q, r]]
          simp
        · rw [if_pos (show (57 : Int32) < nI (tx i) from q_lt (a := 57) (by omega) (by omega)), show decide (dgt (tx i)) = false by simp [r]]
          simp
      · rw [if_pos (show nI (tx i) < 48 from q_lt (b := 48) (by omega) (by omega)), show decide (dgt (tx i)) = false by simp [q]]
        simp
theorem isN_M (h : TxM n tx v) {k e : Nat} (hk : k < n) (hke : k < e) (he : e ≤ n) : f_Md_isFigure (nI k) (nI e) v = some (b2 (isN tx k e), v) := by
  have hn := h.1
  obtain ⟨c1, c2⟩ := h.2.2 k hk
  have hc := ch_lt c1
  have lp : ∀ i b, i ≤ e → l_Md_isFigure pm_fuel 0 (nI e) (b2 b) (nI i) v = some (b2 (b && allD tx (e - i) i), v) := fun i b hi => by
    have := isNM_l h he (e - i) i (pm_fuel - (e - i + 1)) b (by omega)
    rwa [fuel_s _ (by omega)] at this
  have key : ∀ i, i ≤ e → (if nI e ≤ nI i then l_Md_isFigure pm_fuel 0 (nI e) (b2 false) (nI i) v else if (10 : Int32) ≤ nI e - nI i then l_Md_isFigure pm_fuel 0 (nI e) (b2 false) (nI i) v else l_Md_isFigure pm_fuel 0 (nI e) (b2 true) (nI i) v) = some (b2 (decide (i < e) && decide (e - i ≤ 9) && allD tx (e - i) i), v) := fun i hi => by
    rw [lp i false hi, lp i true hi, pk_sub hi]
    by_cases q : i < e
    · rw [if_neg (q_nle q (by omega))]
      by_cases r : e - i ≤ 9
      · rw [if_neg (show ¬ (10 : Int32) ≤ nI (e - i) from q_nle (a := 10) (by omega) (by omega))]
        simp [q, r]
      · rw [if_pos (show (10 : Int32) ≤ nI (e - i) from q_le (a := 10) (by omega) (by omega))]
        simp [r]
    · rw [if_pos (q_le (by omega) (by omega))]
      simp [q]
  unfold f_Md_isFigure isN nf
  rw [if_neg (nI_in (by omega) (by omega)), nI_clamp (by omega), c2]
  by_cases z : tx k = 45
  · rw [if_pos (show nI (tx k) = 45 by rw [z]; rfl), if_pos z, nI_1]
    exact key (k + 1) (by omega)
  · rw [if_neg (show ¬ nI (tx k) = 45 from q_ne (b := 45) z (by omega) (by omega)), if_neg z]
    exact key k (by omega)
theorem numC_lp (h : TxC n tx w) {e : Nat} (he : e ≤ n) {s : Bool} : ∀ (d i m : Nat) (x : Int32), i + d = e → l_Text_number S (m + d + 1) 0 (nI e) (b2 s) x (nI i) w = some (if s = true then -(sumD tx d i x) else sumD tx d i x, w) := by
  have hn := h.1
  intro d
  induction d with
  | zero =>
    intro i m x hi
    rw [l_Text_number_s]
    unfold b_Text_number_32
    rw [if_pos (q_le (by omega) (by omega))]
    cases s <;> rfl
  | succ d ih =>
    intro i m x hi
    rw [show m + (d + 1) + 1 = (m + d + 1) + 1 by omega, l_Text_number_s]
    unfold b_Text_number_32
    rw [if_neg (q_nle (by omega) (by omega)), at_C h (by omega)]
    simp only [Option.bind_some]
    rw [nI_1, ih (i + 1) m _ (by omega)]
    rfl
theorem num_C (h : TxC n tx w) {k e : Nat} (hk : k < n) (hke : k < e) (he : e ≤ n) : f_Text_number S (nI k) (nI e) w = some (figN tx k e, w) := by
  have hn := h.1
  have hc := ch_lt (h.2.2 k hk).1
  have lp : ∀ i s, i ≤ e → l_Text_number S pm_fuel 0 (nI e) (b2 s) 0 (nI i) w = some (if s = true then -(sumD tx (e - i) i 0) else sumD tx (e - i) i 0, w) := fun i s hi => by
    have := numC_lp (S := S) h he (s := s) (e - i) i (pm_fuel - (e - i + 1)) 0 (by omega)
    rwa [fuel_s _ (by omega)] at this
  unfold f_Text_number figN nf
  rw [at_C h hk]
  simp only [Option.bind_some]
  by_cases z : tx k = 45
  · rw [if_pos (show nI (tx k) = 45 by rw [z]; rfl), if_pos z, if_pos z, nI_1, if_neg (show ¬ (1 : Int32) = 0 by decide)]
    exact lp (k + 1) true (by omega)
  · rw [if_neg (show ¬ nI (tx k) = 45 from q_ne (b := 45) z (by omega) (by omega)), if_neg z, if_neg z, if_pos trivial]
    exact lp k false (by omega)
theorem numM_lp (h : TxM n tx v) {k e : Nat} (hk : k < n) (he : e ≤ n) : ∀ (d i m : Nat) (x : Int32), i + d = e → l_Md_figure (m + d + 1) 0 (nI k) (nI e) x (nI i) v = some ((((if tx k = 45 then -(sumD tx d i x) else sumD tx d i x) <<< ((3 : Int32) &&& 31)) >>> ((3 : Int32) &&& 31)), v) := by
  have hn := h.1
  obtain ⟨c1, c2⟩ := h.2.2 k hk
  have hc := ch_lt c1
  intro d
  induction d with
  | zero =>
    intro i m x hi
    rw [l_Md_figure_s]
    unfold b_Md_figure_22 f_Md_wrap
    rw [if_pos (q_le (by omega) (by omega)), if_neg (nI_in (by omega) (by omega)), nI_clamp (by omega), c2]
    simp only [Option.bind_some]
    by_cases z : tx k = 45
    · rw [if_pos (show nI (tx k) = 45 by rw [z]; rfl), if_pos z]
      rfl
    · rw [if_neg (show ¬ nI (tx k) = 45 from q_ne (b := 45) z (by omega) (by omega)), if_neg z]
      rfl
  | succ d ih =>
    intro i m x hi
    obtain ⟨c3, c4⟩ := h.2.2 i (by omega)
    rw [show m + (d + 1) + 1 = (m + d + 1) + 1 by omega, l_Md_figure_s]
    unfold b_Md_figure_22
    rw [if_neg (q_nle (by omega) (by omega)), if_neg (nI_in (by omega) (by omega)), nI_clamp (by omega), c4, nI_1, ih (i + 1) m _ (by omega), Int32.sub_eq_add_neg, Int32.add_assoc, ← Int32.sub_eq_add_neg]
    rfl
theorem num_M (h : TxM n tx v) {k e : Nat} (hk : k < n) (hke : k < e) (he : e ≤ n) : f_Md_figure (nI k) (nI e) v = some (((figN tx k e <<< ((3 : Int32) &&& 31)) >>> ((3 : Int32) &&& 31)), v) := by
  have hn := h.1
  obtain ⟨c1, c2⟩ := h.2.2 k hk
  have hc := ch_lt c1
  have lp : ∀ i, i ≤ e → l_Md_figure pm_fuel 0 (nI k) (nI e) 0 (nI i) v = some ((((if tx k = 45 then -(sumD tx (e - i) i 0) else sumD tx (e - i) i 0) <<< ((3 : Int32) &&& 31)) >>> ((3 : Int32) &&& 31)), v) := fun i hi => by
    have := numM_lp h hk he (e - i) i (pm_fuel - (e - i + 1)) 0 (by omega)
    rwa [fuel_s _ (by omega)] at this
  unfold f_Md_figure figN nf
  rw [if_neg (nI_in (by omega) (by omega)), nI_clamp (by omega), c2]
  by_cases z : tx k = 45
  · rw [if_pos (show nI (tx k) = 45 by rw [z]; rfl), if_pos z, nI_1, lp (k + 1) (by omega), if_pos z, if_pos z]
  · rw [if_neg (show ¬ nI (tx k) = 45 from q_ne (b := 45) z (by omega) (by omega)), if_neg z, lp k (by omega), if_neg z, if_neg z]
/-- the packed name -/
theorem shl8 : ((8 : Int32).toInt64 &&& 63) = (8 : Int64) := by decide +kernel
theorem lN_ext {a : Int64} {n : Nat} (h : a.toBitVec.toNat = n) : a = lN n := by
  apply Int64.toBitVec_inj.mp
  apply BitVec.eq_of_toNat_eq
  rw [h]
  show n = (BitVec.ofNat 64 n).toNat
  rw [BitVec.toNat_ofNat, Nat.mod_eq_of_lt]
  rw [← h]
  exact a.toBitVec.isLt
theorem pkN_sh {a c : Nat} (ha : a < 2 ^ 56) (hc : c < 256) : (lN a <<< ((8 : Int32).toInt64 &&& 63)) ||| (nI c).toInt64 = lN (256 * a + c) := by
  apply lN_ext
  rw [shl8, nI_l (by omega), Int64.toBitVec_or, BitVec.toNat_or, lN_bn (by omega), Int64.toBitVec_shiftLeft]
  show ((lN a).toBitVec <<< ((8 : Int64).toBitVec.smod 64)).toNat ||| c = _
  rw [show ((8 : Int64).toBitVec.smod 64) = 8#64 by decide +kernel, BitVec.shiftLeft_eq', BitVec.toNat_shiftLeft, lN_bn (by omega)]
  show (a <<< 8) % 2 ^ 64 ||| c = _
  rw [Nat.mod_eq_of_lt (by rw [Nat.shiftLeft_eq]; omega), ← Nat.shiftLeft_add_eq_or_of_lt (by omega), Nat.shiftLeft_eq]
  omega
theorem wl_sn {k j : Nat} (f : Nat → Nat) : (List.range (j + 1)).map f = (List.range j).map f ++ [f j] := by
  rw [List.range_succ, List.map_append]
  rfl
theorem name_l (h : TxC n tx w) {k e : Nat} (he : e ≤ n) : ∀ (d j m : Nat), j + d = min 8 (e - k) → k ≤ e → l_Text_name S (m + d + 1) 0 (nI k) (nI e) (lN (pkN ((List.range j).map (fun q => tx (k + q))))) (nI (k + j)) w = some (lN (pkN (wl tx k e)), w) := by
  have hn := h.1
  intro d
  induction d with
  | zero =>
    intro j m hj hk
    rw [l_Text_name_s]
    unfold b_Text_name_5 wl
    rw [show (8 : Int32) = nI 8 from rfl, nI_add, show min 8 (e - k) = j by omega]
    by_cases z : e ≤ k + j
    · rw [if_pos (q_le z (by omega))]
    · rw [if_neg (q_nle (by omega) (by omega)), if_pos (q_le (by omega) (by omega))]
  | succ d ih =>
    intro j m hj hk
    have hlt : pkN ((List.range j).map (fun q => tx (k + q))) < 2 ^ 56 := by
      have := pkN_lt ((List.range j).map (fun q => tx (k + q))) (fun c hc => by
        obtain ⟨q, q1, q2⟩ := List.mem_map.mp hc
        rw [List.mem_range] at q1
        have := ch_lt (h.2.2 (k + q) (by omega)).1
        omega)
      rw [List.length_map, List.length_range] at this
      exact Nat.lt_of_lt_of_le this (Nat.le_trans (Nat.pow_le_pow_right (by omega) (show j ≤ 7 by omega)) (by decide))
    have hc := ch_lt (h.2.2 (k + j) (by omega)).1
    rw [show m + (d + 1) + 1 = (m + d + 1) + 1 by omega, l_Text_name_s]
    unfold b_Text_name_5
    rw [if_neg (q_nle (by omega) (by omega)), show (8 : Int32) = nI 8 from rfl, nI_add, if_neg (q_nle (by omega) (by omega)), at_C h (by omega)]
    simp only [Option.bind_some]
    rw [show nI 8 = (8 : Int32) from rfl, pkN_sh hlt (by omega), nI_1, ← pkN_sn]
    have := ih (j + 1) m (by omega) hk
    rw [wl_sn (k := k)] at this
    exact this
theorem name_C (h : TxC n tx w) {k e : Nat} (hk : k ≤ e) (he : e ≤ n) : f_Text_name S (nI k) (nI e) w = some (lN (pkN (wl tx k e)), w) := by
  have hn := h.1
  have := name_l (S := S) h he (min 8 (e - k)) 0 (pm_fuel - (min 8 (e - k) + 1)) (by omega) hk
  rw [fuel_s _ (by omega)] at this
  exact this
theorem wl_ok (h : TxC n tx w) {k e : Nat} (hk : k < e) (he : e ≤ n) : wl tx k e ≠ [] ∧ (wl tx k e).length ≤ 8 ∧ ∀ c ∈ wl tx k e, 0 < c ∧ c < 256 := by
  refine ⟨fun z => ?_, ?_, fun c hc => ?_⟩
  · have := congrArg List.length z
    unfold wl at this
    simp at this
    omega
  · unfold wl
    rw [List.length_map, List.length_range]
    omega
  · unfold wl at hc
    obtain ⟨q, q1, q2⟩ := List.mem_map.mp hc
    rw [List.mem_range] at q1
    have h1 := (h.2.2 (k + q) (by omega)).1
    have h2 := ch_lt h1
    have h3 : 0 < tx (k + q) := by rcases h1 with r | r <;> omega
    omega
theorem wl_get {k e q : Nat} (hq : q < 8) : (wl tx k e).getD q 0 = if k + q < e then tx (k + q) else 0 := by
  unfold wl
  rw [List.getD_eq_getElem?_getD, List.getElem?_map]
  by_cases z : k + q < e
  · rw [List.getElem?_range (by omega), if_pos z]
    rfl
  · rw [List.getElem?_eq_none (by rw [List.length_range]; omega), if_neg z]
    rfl
end
/-- names are the same where their packing is -/
theorem pk_inj {a b : List Nat} (ha : a.length ≤ 8) (hb : b.length ≤ 8) (ca : ∀ c ∈ a, 0 < c ∧ c < 256) (cb : ∀ c ∈ b, 0 < c ∧ c < 256) : (lN (pkN a) = lN (pkN b)) = (a = b) := by
  apply propext
  constructor
  · intro h
    have h2 : pkN a = pkN b := by
      have : (lN (pkN a)).toBitVec.toNat = (lN (pkN b)).toBitVec.toNat := by rw [h]
      rwa [lN_bn (pkN_64 (fun c h => (ca c h).2) ha), lN_bn (pkN_64 (fun c h => (cb c h).2) hb)] at this
    rw [← nmb_l 7 a (by omega) ca, h2, nmb_l 7 b (by omega) cb]
  · intro h; rw [h]
theorem cmp_0 (x y : Int64) : (lg_cmp x y = 0) = (x = y) := by
  unfold lg_cmp
  apply propext
  by_cases h : x = y
  · subst h
    have : ¬ x > x := Int64.lt_irrefl
    simp [this]
  · simp only [h, if_false, iff_false]
    split <;> decide
def fd (nm : Nat → List Nat) (l : List Nat) : Nat → Nat → Nat
  | 0, i => i
  | d + 1, i => if nm i = l then i else fd nm l d (i + 1)
theorem fd_ok {nm : Nat → List Nat} {l : List Nat} : ∀ (d i : Nat), i ≤ fd nm l d i ∧ fd nm l d i ≤ i + d ∧ (fd nm l d i < i + d → nm (fd nm l d i) = l) ∧ ∀ j, i ≤ j → j < fd nm l d i → nm j ≠ l := by
  intro d
  induction d with
  | zero => intro i; refine ⟨Nat.le_refl _, Nat.le_refl _, fun h => ?_, fun j h1 h2 => ?_⟩
            · unfold fd at h; omega
            · unfold fd at h2; omega
  | succ d ih =>
    intro i
    unfold fd
    by_cases h : nm i = l
    · rw [if_pos h]
      exact ⟨Nat.le_refl _, by omega, fun _ => h, fun j h1 h2 => by omega⟩
    · rw [if_neg h]
      obtain ⟨a1, a2, a3, a4⟩ := ih (i + 1)
      refine ⟨by omega, by omega, fun z => a3 (by omega), fun j h1 h2 => ?_⟩
      by_cases e : j = i
      · rw [e]; exact h
      · exact a4 j (by omega) h2
section
variable {S n kn : Nat} {tx : Nat → Nat} {w v : pm_W} {nm : Nat → List Nat}
theorem findC_l (hN : NmR kn nm w v) (hkn : kn ≤ 40) (h32 : w.1 3 2 = nI kn) {l : List Nat} (hl : l.length ≤ 8) (hc : ∀ c ∈ l, 0 < c ∧ c < 256) : ∀ (d i m : Nat), i + d = kn → l_Symbols_find S (m + d + 1) 0 (lN (pkN l)) (nI i) w = some (if fd nm l d i < kn then nI (fd nm l d i) else -1, w) := by
  intro d
  induction d with
  | zero =>
    intro i m hi
    rw [l_Symbols_find_s]
    unfold b_Symbols_find_2
    rw [h32, if_pos (q_le (by omega) (by omega)), if_neg (show ¬ fd nm l 0 i < kn by unfold fd; omega)]
  | succ d ih =>
    intro i m hi
    obtain ⟨h0, h1, h2, h3, h4⟩ := hN i (by omega)
    rw [show m + (d + 1) + 1 = (m + d + 1) + 1 by omega, l_Symbols_find_s]
    unfold b_Symbols_find_2 fd
    have hcmp : (lg_cmp (lN (pkN (nm i))) (lN (pkN l)) = 0) = (nm i = l) := by rw [cmp_0, pk_inj h1 hl h2 hc]
    rw [h32, if_neg (q_nle (by omega) (by omega)), if_neg (show ¬ (40 : Int32) ≤ nI i from q_nle (a := 40) (by omega) (by omega)), if_neg (nI_in (by omega) (by omega)), nI_clamp (by omega), h3]
    by_cases z : nm i = l
    · rw [if_pos (hcmp.mpr z), if_pos z, if_pos (by omega)]
    · rw [if_neg (fun y => z (hcmp.mp y)), if_neg z, nI_1, ih (i + 1) m (by omega)]
theorem find_C (hN : NmR kn nm w v) (hkn : kn ≤ 40) (h32 : w.1 3 2 = nI kn) {l : List Nat} (hl : l.length ≤ 8) (hc : ∀ c ∈ l, 0 < c ∧ c < 256) : f_Symbols_find S (lN (pkN l)) w = some (if fd nm l kn 0 < kn then nI (fd nm l kn 0) else -1, w) := by
  have := findC_l (S := S) hN hkn h32 hl hc kn 0 (pm_fuel - (kn + 1)) (by omega)
  rw [fuel_s _ (by omega)] at this
  exact this
end
