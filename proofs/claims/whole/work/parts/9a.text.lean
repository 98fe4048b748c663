/-! reading: the text and its pieces -/
abbrev bl (c : Nat) : Prop := c = 10 ∨ c = 32
abbrev sg (c : Nat) : Prop := c = 40 ∨ c = 41 ∨ c = 39
abbrev wd (c : Nat) : Prop := ¬ bl c ∧ ¬ sg c
def TxC (n : Nat) (tx : Nat → Nat) (w : pm_W) : Prop := n ≤ 120 ∧ w.1 1 1 = nI n ∧ ∀ i, i < n → isCh (tx i) ∧ w.1 9 i = nI (tx i)
def TxM (n : Nat) (tx : Nat → Nat) (v : pm_W) : Prop := n ≤ 120 ∧ v.1 0 20 = nI n ∧ ∀ i, i < n → isCh (tx i) ∧ v.1 12 i = nI (tx i)
/-- where words end, where blanks end -/
def wend (tx : Nat → Nat) : Nat → Nat → Nat
  | 0, k => k
  | d + 1, k => if wd (tx k) then wend tx d (k + 1) else k
def skp (tx : Nat → Nat) : Nat → Nat → Nat
  | 0, k => k
  | d + 1, k => if bl (tx k) then skp tx d (k + 1) else k
def nx (n : Nat) (tx : Nat → Nat) (k : Nat) : Nat := if wd (tx k) then wend tx (n - k) k else k + 1
def sk (n : Nat) (tx : Nat → Nat) (k : Nat) : Nat := skp tx (n - k) k
theorem wend_le {tx : Nat → Nat} : ∀ (d k : Nat), k ≤ wend tx d k ∧ wend tx d k ≤ k + d := by
  intro d
  induction d with
  | zero => intro k; exact ⟨Nat.le_refl _, Nat.le_refl _⟩
  | succ d ih =>
    intro k
    unfold wend
    split
    · have := ih (k + 1); omega
    · omega
theorem skp_le {tx : Nat → Nat} : ∀ (d k : Nat), k ≤ skp tx d k ∧ skp tx d k ≤ k + d := by
  intro d
  induction d with
  | zero => intro k; exact ⟨Nat.le_refl _, Nat.le_refl _⟩
  | succ d ih =>
    intro k
    unfold skp
    split
    · have := ih (k + 1); omega
    · omega
theorem nx_le {n k : Nat} {tx : Nat → Nat} (hk : k < n) : k < nx n tx k ∧ nx n tx k ≤ n := by
  unfold nx
  split
  · rename_i h
    rw [show n - k = (n - (k + 1)) + 1 by omega]
    unfold wend
    rw [if_pos h]
    have := wend_le (tx := tx) (n - (k + 1)) (k + 1)
    omega
  · omega
theorem sk_le {n k : Nat} {tx : Nat → Nat} (hk : k ≤ n) : k ≤ sk n tx k ∧ sk n tx k ≤ n := by
  have := skp_le (tx := tx) (n - k) k
  unfold sk
  omega
theorem sk_b {n k : Nat} {tx : Nat → Nat} (hk : k < n) (h : bl (tx k)) : sk n tx k = sk n tx (k + 1) := by
  unfold sk
  rw [show n - k = (n - (k + 1)) + 1 by omega]
  show (if bl (tx k) then _ else _) = _
  rw [if_pos h]
theorem sk_n {n k : Nat} {tx : Nat → Nat} (hk : k < n) (h : ¬ bl (tx k)) : sk n tx k = k := by
  unfold sk
  rw [show n - k = (n - (k + 1)) + 1 by omega]
  show (if bl (tx k) then _ else _) = _
  rw [if_neg h]
theorem sk_end {n : Nat} {tx : Nat → Nat} : sk n tx n = n := by
  unfold sk
  rw [Nat.sub_self]
  rfl
section
variable {S n : Nat} {tx : Nat → Nat} {w v : pm_W}
theorem ch_lt {c : Nat} (h : isCh c) : c < 127 := by
  rcases h with h | h <;> omega
theorem u16 {c : Nat} (h : c < 127) : (nI c).toUInt32.toUInt16.toUInt32.toInt32 = nI c := (by decide +kernel : ∀ c, c < 127 → (nI c).toUInt32.toUInt16.toUInt32.toInt32 = nI c) c h
theorem at_C (h : TxC n tx w) {k : Nat} (hk : k < n) : f_Text_at S (nI k) w = some (nI (tx k), w) := by
  obtain ⟨h1, h2, h3⟩ := h
  obtain ⟨c1, c2⟩ := h3 k hk
  unfold f_Text_at
  rw [h2, if_neg (nI_pos (by omega)), if_neg (q_nle hk (by omega)), if_neg (nI_in (by omega) (by omega)), nI_clamp (by omega), c2, if_pos (u16 (ch_lt c1))]
theorem blank_C {c : Nat} (hc : c < 127) : f_Text_isBlank S (nI c) w = some (if bl c then 1 else 0, w) := by
  unfold f_Text_isBlank
  simp (disch := omega) only [zl, z_eq]
  by_cases h1 : c = 10
  · simp [h1]
  · by_cases h2 : c = 32
    · simp [h2]
    · rw [if_neg h1, if_neg h2, if_neg (show ¬ bl c from fun q => by rcases q with q | q <;> contradiction)]
theorem word_C {c : Nat} (hc : c < 127) : f_Text_isOfWord S (nI c) w = some (if wd c then 1 else 0, w) := by
  unfold f_Text_isOfWord
  rw [blank_C hc]
  simp only [Option.bind_some]
  simp (disch := omega) only [zl, z_eq]
  by_cases h1 : bl c
  · rw [if_pos h1, if_neg (by decide), if_neg (fun q => q.1 h1)]
  · rw [if_neg h1, if_pos rfl]
    by_cases h2 : c = 40
    · rw [if_pos h2, if_neg (fun q => q.2 (Or.inl h2))]
    · by_cases h3 : c = 41
      · rw [if_neg h2, if_pos h3, if_neg (fun q => q.2 (Or.inr (Or.inl h3)))]
      · by_cases h4 : c = 39
        · rw [if_neg h2, if_neg h3, if_pos h4, if_neg (fun q => q.2 (Or.inr (Or.inr h4)))]
        · rw [if_neg h2, if_neg h3, if_neg h4, if_pos ⟨h1, fun q => by rcases q with q | q | q <;> contradiction⟩]
theorem blank_M {c : Nat} (hc : c < 127) : f_Md_isBlank (nI c) v = some (if bl c then 1 else 0, v) := by
  unfold f_Md_isBlank
  simp (disch := omega) only [zl, z_eq]
  by_cases h1 : c = 10
  · simp [h1]
  · by_cases h2 : c = 32
    · simp [h2]
    · rw [if_neg h1, if_neg h2, if_neg (show ¬ bl c from fun q => by rcases q with q | q <;> contradiction)]
theorem sign_M {c : Nat} (hc : c < 127) : f_Md_isSign (nI c) v = some (if sg c then 1 else 0, v) := by
  unfold f_Md_isSign
  simp (disch := omega) only [zl, z_eq]
  by_cases h1 : c = 40
  · simp [h1]
  · by_cases h2 : c = 41
    · simp [h2]
    · by_cases h3 : c = 39
      · simp [h3]
      · rw [if_neg h1, if_neg h2, if_neg h3, if_neg (show ¬ sg c from fun q => by rcases q with q | q | q <;> contradiction)]
theorem piece_l (h : TxC n tx w) : ∀ (d k m : Nat), k + d = n → l_Text_pieceEnd S (m + d + 1) 0 (nI k) w = some (nI (wend tx d k), w) := by
  have hn := h.1
  intro d
  induction d with
  | zero =>
    intro k m hk
    have e : k = n := by omega
    subst e
    rw [l_Text_pieceEnd_s]
    unfold b_Text_pieceEnd_15
    rw [h.2.1, if_pos (Int32.le_refl _)]
    rfl
  | succ d ih =>
    intro k m hk
    have hc := ch_lt (h.2.2 k (by omega)).1
    rw [show m + (d + 1) + 1 = (m + d + 1) + 1 by omega, l_Text_pieceEnd_s]
    unfold b_Text_pieceEnd_15 wend
    rw [h.2.1, if_neg (q_nle (by omega) (by omega)), at_C h (by omega)]
    simp only [Option.bind_some]
    rw [word_C hc]
    simp only [Option.bind_some]
    by_cases q : wd (tx k)
    · rw [if_pos q, if_neg (by decide), nI_1, ih (k + 1) m (by omega), if_pos q]
    · rw [if_neg q, if_pos rfl, if_neg q]
theorem piece_C (h : TxC n tx w) {k : Nat} (hk : k < n) : f_Text_pieceEnd S (nI k) w = some (nI (nx n tx k), w) := by
  have hn := h.1
  have hc := ch_lt (h.2.2 k hk).1
  unfold f_Text_pieceEnd nx
  rw [at_C h hk]
  simp only [Option.bind_some]
  rw [word_C hc]
  simp only [Option.bind_some]
  by_cases q : wd (tx k)
  · have := piece_l (S := S) h (n - (k + 1)) (k + 1) (pm_fuel - (n - (k + 1) + 1)) (by omega)
    rw [fuel_s _ (by omega)] at this
    rw [if_pos q, if_neg (by decide), nI_1, this, if_pos q, show n - k = (n - (k + 1)) + 1 by omega]
    show _ = some (nI (if wd (tx k) then _ else _), w)
    rw [if_pos q]
  · rw [if_neg q, if_pos rfl, if_neg q, nI_1]
theorem skip_l (h : TxM n tx v) : ∀ (d k m : Nat), k + d = n → l_Md_skip (m + d + 1) 0 (nI k) v = some (nI (skp tx d k), v) := by
  have hn := h.1
  intro d
  induction d with
  | zero =>
    intro k m hk
    have e : k = n := by omega
    subst e
    rw [l_Md_skip_s]
    unfold b_Md_skip_2
    rw [h.2.1, if_pos (Int32.le_refl _)]
    rfl
  | succ d ih =>
    intro k m hk
    obtain ⟨c1, c2⟩ := h.2.2 k (by omega)
    have hc := ch_lt c1
    rw [show m + (d + 1) + 1 = (m + d + 1) + 1 by omega, l_Md_skip_s]
    unfold b_Md_skip_2 skp
    rw [h.2.1, if_neg (q_nle (by omega) (by omega)), if_neg (nI_in (by omega) (by omega)), nI_clamp (by omega), c2, blank_M hc]
    simp only [Option.bind_some]
    by_cases q : bl (tx k)
    · rw [if_pos q, if_neg (by decide), nI_1, ih (k + 1) m (by omega), if_pos q]
    · rw [if_neg q, if_pos rfl, if_neg q]
theorem skip_M (h : TxM n tx v) {k : Nat} (hk : k ≤ n) : f_Md_skip (nI k) v = some (nI (sk n tx k), v) := by
  have hn := h.1
  have := skip_l h (n - k) k (pm_fuel - (n - k + 1)) (by omega)
  rw [fuel_s _ (by omega)] at this
  exact this
theorem token_l (h : TxM n tx v) : ∀ (d k m : Nat), k + d = n → l_Md_tokenEnd (m + d + 1) 0 (nI k) v = some (nI (wend tx d k), v) := by
  have hn := h.1
  intro d
  induction d with
  | zero =>
    intro k m hk
    have e : k = n := by omega
    subst e
    rw [l_Md_tokenEnd_s]
    unfold b_Md_tokenEnd_18
    rw [h.2.1, if_pos (Int32.le_refl _)]
    rfl
  | succ d ih =>
    intro k m hk
    obtain ⟨c1, c2⟩ := h.2.2 k (by omega)
    have hc := ch_lt c1
    rw [show m + (d + 1) + 1 = (m + d + 1) + 1 by omega, l_Md_tokenEnd_s]
    unfold b_Md_tokenEnd_18 wend
    have hin : ¬ (nI k < 0 ∨ 120 ≤ (nI k).toNatClampNeg) := nI_in (by omega) (by omega)
    rw [h.2.1, if_neg (q_nle (by omega) (by omega)), if_neg hin, nI_clamp (by omega), c2, blank_M hc]
    simp only [Option.bind_some]
    rw [nI_clamp (by omega)] at hin
    rw [if_neg hin, c2, sign_M hc]
    simp only [Option.bind_some]
    by_cases q : bl (tx k)
    · rw [if_pos q, if_neg (by decide), if_neg (fun z => z.1 q)]
    · rw [if_neg q, if_pos rfl]
      by_cases r : sg (tx k)
      · rw [if_pos r, if_neg (by decide), if_neg (fun z => z.2 r)]
      · rw [if_neg r, if_pos rfl, nI_1, ih (k + 1) m (by omega), if_pos ⟨q, r⟩]
theorem token_M (h : TxM n tx v) {k : Nat} (hk : k < n) (hb : ¬ bl (tx k)) : f_Md_tokenEnd (nI k) v = some (nI (nx n tx k), v) := by
  have hn := h.1
  obtain ⟨c1, c2⟩ := h.2.2 k hk
  have hc := ch_lt c1
  unfold f_Md_tokenEnd nx
  rw [if_neg (nI_in (by omega) (by omega)), nI_clamp (by omega), c2, sign_M hc]
  simp only [Option.bind_some]
  by_cases q : sg (tx k)
  · rw [if_pos q, if_neg (by decide), if_neg (fun z => z.2 q), nI_1]
  · have := token_l h (n - k) k (pm_fuel - (n - k + 1)) (by omega)
    rw [fuel_s _ (by omega)] at this
    rw [if_neg q, if_pos rfl, this, if_pos ⟨hb, q⟩]
theorem TxC_sm {w1 : pm_W} (h : TxC n tx w) (h1 : w1.1 1 = w.1 1) (h9 : w1.1 9 = w.1 9) : TxC n tx w1 := by
  unfold TxC
  rw [h1, h9]
  exact h
theorem TxM_sm {v1 : pm_W} (h : TxM n tx v) (h1 : v1.1 0 20 = v.1 0 20) (h9 : v1.1 12 = v.1 12) : TxM n tx v1 := by
  unfold TxM
  rw [h1, h9]
  exact h
/-- a piece's text is dropped -/
theorem dropC_l {e : Nat} : ∀ (d k m : Nat) (w : pm_W), k + d = n → e ≤ k → n ≤ 120 → w.1 1 1 = nI n → (∀ i, i < n - e → isCh (tx (i + e)) ∧ w.1 9 (if i + e < k then i else i + e) = nI (tx (i + e))) → ∃ w1, l_Text_drop S (m + d + 1) 0 (nI e) (nI k) w = some w1 ∧ TxC (n - e) (fun i => tx (i + e)) w1 ∧ smC w w1 [1, 9] := by
  intro d
  induction d with
  | zero =>
    intro k m w hk he hn h1 hi
    have e1 : k = n := by omega
    subst e1
    refine ⟨pm_setI w 1 1 (nI (k - e)), ?_, ⟨by omega, by rw [rdI_s], fun i hj => ?_⟩, smC_set smC_rf (by decide)⟩
    · rw [l_Text_drop_s]
      unfold b_Text_drop_15
      rw [h1, if_pos (Int32.le_refl _), pk_sub he]
    · have := hi i hj
      rw [if_pos (by omega)] at this
      rw [rdI_n _ (Or.inl (by decide))]
      exact this
  | succ d ih =>
    intro k m w hk he hn h1 hi
    have hke := hi (k - e) (by omega)
    rw [show k - e + e = k by omega, if_neg (by omega)] at hke
    have hc := ch_lt hke.1
    obtain ⟨w1, a1, a2, a3⟩ := ih (k + 1) m (pm_setI w 9 (k - e) (nI (tx k))) (by omega) (by omega) hn (by rw [rdI_n _ (Or.inl (by decide))]; exact h1) (fun i hj => by
      obtain ⟨b1, b2⟩ := hi i hj
      refine ⟨b1, ?_⟩
      by_cases q : i + e < k
      · rw [if_pos q] at b2
        rw [if_pos (by omega), rdI_n _ (Or.inr (by omega))]
        exact b2
      · rw [if_neg q] at b2
        by_cases q2 : i + e = k
        · rw [if_pos (by omega), show i = k - e by omega, rdI_s, show k - e + e = k by omega]
        · rw [if_neg (by omega), rdI_n _ (Or.inr (by omega))]
          exact b2)
    refine ⟨w1, ?_, a2, smC_tr (smC_set smC_rf (by decide)) a3⟩
    rw [show m + (d + 1) + 1 = (m + d + 1) + 1 by omega, l_Text_drop_s]
    unfold b_Text_drop_15
    rw [h1, if_neg (q_nle (by omega) (by omega)), if_neg (nI_in (by omega) (by omega)), pk_sub (by omega), if_neg (nI_in (by omega) (by omega)), nI_clamp (by omega), nI_clamp (by omega), hke.2, z_chv (by omega), nI_1]
    exact a1
theorem drop_C {e : Nat} (h : TxC n tx w) (he : e ≤ n) : ∃ w1, f_Text_drop S (nI e) w = some w1 ∧ TxC (n - e) (fun i => tx (i + e)) w1 ∧ smC w w1 [1, 9] := by
  obtain ⟨h1, h2, h3⟩ := h
  have := dropC_l (S := S) (tx := tx) (e := e) (n - e) e (pm_fuel - (n - e + 1)) w (by omega) (Nat.le_refl _) h1 h2 (fun i hi => by
    rw [if_neg (by omega)]
    exact h3 (i + e) (by omega))
  rw [fuel_s _ (by omega)] at this
  unfold f_Text_drop
  rw [h2, if_neg (q_nlt he (by omega))]
  by_cases q : e = 0
  · subst q
    rw [if_neg (by decide)]
    exact this
  · rw [if_pos (show (0 : Int32) < nI e from q_lt (a := 0) (by omega) (by omega))]
    exact this
theorem dropM_l {e : Nat} : ∀ (d k m : Nat) (v : pm_W), k + d = n → e ≤ k → n ≤ 120 → v.1 0 20 = nI n → (∀ i, i < n - e → isCh (tx (i + e)) ∧ v.1 12 (if i + e < k then i else i + e) = nI (tx (i + e))) → ∃ v1, l_Md_drop (m + d + 1) 0 (nI e) (nI k) v = some v1 ∧ TxM (n - e) (fun i => tx (i + e)) v1 ∧ smM v v1 [20] [12] := by
  intro d
  induction d with
  | zero =>
    intro k m w hk he hn h1 hi
    have e1 : k = n := by omega
    subst e1
    refine ⟨pm_setI w 0 20 (nI (k - e)), ?_, ⟨by omega, by rw [rdI_s], fun i hj => ?_⟩, smM_f smM_rf (by decide)⟩
    · rw [l_Md_drop_s]
      unfold b_Md_drop_2
      rw [h1, if_pos (Int32.le_refl _), pk_sub he]
    · have := hi i hj
      rw [if_pos (by omega)] at this
      rw [rdI_n _ (Or.inl (by decide))]
      exact this
  | succ d ih =>
    intro k m w hk he hn h1 hi
    have hke := hi (k - e) (by omega)
    rw [show k - e + e = k by omega, if_neg (by omega)] at hke
    have hc := ch_lt hke.1
    obtain ⟨w1, a1, a2, a3⟩ := ih (k + 1) m (pm_setI w 12 (k - e) (nI (tx k))) (by omega) (by omega) hn (by rw [rdI_n _ (Or.inl (by decide))]; exact h1) (fun i hj => by
      obtain ⟨b1, b2⟩ := hi i hj
      refine ⟨b1, ?_⟩
      by_cases q : i + e < k
      · rw [if_pos q] at b2
        rw [if_pos (by omega), rdI_n _ (Or.inr (by omega))]
        exact b2
      · rw [if_neg q] at b2
        by_cases q2 : i + e = k
        · rw [if_pos (by omega), show i = k - e by omega, rdI_s, show k - e + e = k by omega]
        · rw [if_neg (by omega), rdI_n _ (Or.inr (by omega))]
          exact b2)
    refine ⟨w1, ?_, a2, smM_tr (smM_a smM_rf (by decide) (by decide)) a3⟩
    rw [show m + (d + 1) + 1 = (m + d + 1) + 1 by omega, l_Md_drop_s]
    unfold b_Md_drop_2
    rw [h1, if_neg (q_nle (by omega) (by omega)), if_neg (nI_in (by omega) (by omega)), pk_sub (by omega), if_neg (nI_in (by omega) (by omega)), nI_clamp (by omega), nI_clamp (by omega), hke.2, z_chv (by omega), nI_1]
    exact a1
theorem drop_M {e : Nat} (h : TxM n tx v) (he : e ≤ n) : ∃ v1, f_Md_drop (nI e) v = some v1 ∧ TxM (n - e) (fun i => tx (i + e)) v1 ∧ smM v v1 [20] [12] := by
  obtain ⟨h1, h2, h3⟩ := h
  have := dropM_l (tx := tx) (e := e) (n - e) e (pm_fuel - (n - e + 1)) v (by omega) (Nat.le_refl _) h1 h2 (fun i hi => by
    rw [if_neg (by omega)]
    exact h3 (i + e) (by omega))
  rw [fuel_s _ (by omega)] at this
  exact this
end
