/-! feed -/
theorem z_sub1 (x : Int32) : x + (-1) = x - 1 := (Int32.sub_eq_add_neg x 1).symm
theorem z_char {k : Nat} (hk : k < 65536) : vp_nar .char ((nI k).toUInt32 % 65536).toInt32 = nI k := by
  rw [pk_vc, pk_char, pk_tn (by omega), Nat.mod_eq_of_lt hk]
theorem z_8 (c : Nat) : (8 : Int32) * nI c = nI (8 * c) := pk_mul 8 c
def byN (a : Int32) (i : Nat) : Nat := (byC a i).toNatClampNeg
theorem byN_eq (a : Int32) (i : Nat) : byC a i = nI (byN a i) ∧ byN a i < 256 := by
  obtain ⟨k, h1, h2⟩ := byC_lt a i
  have h3 : byN a i = k := by
    unfold byN
    rw [h2, nI_clamp (by omega)]
  rw [h3]
  exact ⟨h2, h1⟩
theorem byN_C (a : Int32) (i : Nat) : ((a.toUInt32 >>> (((8 : Int32) * nI i).toUInt32 &&& Int32.toUInt32 31)).toInt32) &&& (255 : Int32) = nI (byN a i) := by
  rw [z_8]
  exact (byN_eq a i).1
theorem byN_M (a : Int32) {i : Nat} (hi : i < 4) : (a >>> (((8 : Int32) * nI i) &&& 31)) &&& (255 : Int32) = nI (byN a i) := by
  rw [z_8, byC_eq a hi]
  exact (byN_eq a i).1
/-- the first loop: both go on, or both say no -/
theorem feed_1 {S n : Nat} {a : Int32} {w v : pm_W} (hn : n ≤ 4) : ∀ (d i m : Nat), i + d = n →
    ((∀ j, i ≤ j → j < n → isCh (byN a j)) ∧ l_Text_append S (m + d + 1) 0 a (nI n) (nI i) w = l_Text_append S m 1 a 0 (nI n - 1) w ∧ l_Md_feed (m + d + 1) 0 a (nI n) (nI i) v = l_Md_feed m 1 a 0 (nI n - 1) v) ∨
    (l_Text_append S (m + d + 1) 0 a (nI n) (nI i) w = some (0, w) ∧ l_Md_feed (m + d + 1) 0 a (nI n) (nI i) v = some (0, v)) := by
  intro d
  induction d with
  | zero =>
    intro i m hi
    have e : i = n := by omega
    subst e
    refine Or.inl ⟨fun j h1 h2 => absurd h2 (by omega), ?_, ?_⟩
    · show b_Text_append_25 S _ a (nI i) (nI i) w = _
      unfold b_Text_append_25
      rw [if_pos (Int32.le_refl _)]
      rfl
    · show b_Md_feed_30 _ a (nI i) (nI i) v = _
      unfold b_Md_feed_30
      rw [if_pos (Int32.le_refl _)]
      rfl
  | succ d ih =>
    intro i m hi
    have hlt : ¬ nI n ≤ nI i := nI_ge (by omega) (by omega)
    have hb := (byN_eq a i).2
    have eC : l_Text_append S (m + (d + 1) + 1) 0 a (nI n) (nI i) w = if isCh (byN a i) then l_Text_append S (m + d + 1) 0 a (nI n) (nI (i + 1)) w else some (0, w) := by
      show b_Text_append_25 S (l_Text_append S (m + (d + 1))) a (nI n) (nI i) w = _
      unfold b_Text_append_25
      rw [if_neg hlt, byN_C, f_isCh hb, Option.bind_some]
      by_cases h : byN a i = 10 ∨ (32 ≤ byN a i ∧ byN a i ≤ 126)
      · rw [if_pos h, if_pos (show isCh _ from h), if_neg (show ¬ (1 : Int32) = 0 by decide), show nI i + (1 : Int32) = nI (i + 1) from nI_1 i]
        rfl
      · rw [if_neg h, if_neg (show ¬ isCh _ from h), if_pos rfl]
    have eM : l_Md_feed (m + (d + 1) + 1) 0 a (nI n) (nI i) v = if isCh (byN a i) then l_Md_feed (m + d + 1) 0 a (nI n) (nI (i + 1)) v else some (0, v) := by
      show b_Md_feed_30 (l_Md_feed (m + (d + 1))) a (nI n) (nI i) v = _
      unfold b_Md_feed_30
      rw [if_neg hlt, byN_M a (by omega), show nI i + (1 : Int32) = nI (i + 1) from nI_1 i]
      simp (disch := omega) only [zl, z_lt, z_le, z_eq]
      by_cases h1 : byN a i = 10
      · rw [if_pos h1, if_pos (show isCh _ from Or.inl h1)]
        rfl
      · rw [if_neg h1]
        by_cases h2 : byN a i < 32
        · rw [if_pos h2, if_neg (show ¬ isCh (byN a i) from fun h => by rcases h with h | h <;> omega)]
        · rw [if_neg h2]
          by_cases h3 : byN a i ≤ 126
          · rw [if_pos h3, if_pos (show isCh _ from Or.inr ⟨by omega, h3⟩)]
            rfl
          · rw [if_neg h3, if_neg (show ¬ isCh (byN a i) from fun h => by rcases h with h | h <;> omega)]
    rw [eC, eM]
    by_cases h : isCh (byN a i)
    · rw [if_pos h, if_pos h]
      rcases ih (i + 1) m (by omega) with ⟨h1, h2, h3⟩ | h1
      · refine Or.inl ⟨fun j h4 h5 => ?_, h2, h3⟩
        by_cases e : j = i
        · rw [e]; exact h
        · exact h1 j (by omega) h5
      · exact Or.inr h1
    · rw [if_neg h, if_neg h]
      exact Or.inr ⟨rfl, rfl⟩
theorem feed_m1 : nI 0 - 1 < 0 := by decide
theorem feed_z {S m : Nat} {a : Int32} {w v : pm_W} : l_Text_append S (m + 1) 1 a 0 (nI 0 - 1) w = some (1, w) ∧ l_Md_feed (m + 1) 1 a 0 (nI 0 - 1) v = some (1, v) := by
  constructor
  · show b_Text_append_58 S (l_Text_append S m) a (nI 0 - 1) w = _
    unfold b_Text_append_58
    rw [if_pos feed_m1]
  · show b_Md_feed_80 (l_Md_feed m) a (nI 0 - 1) v = _
    unfold b_Md_feed_80
    rw [if_pos feed_m1]
theorem feed_s {S m c t : Nat} {a : Int32} {w v : pm_W} (hc : c < 4) (ht : t < 120) (h2 : w.1 1 1 = nI t) (h3 : v.1 0 20 = nI t) :
    l_Text_append S (m + 1) 1 a 0 (nI (c + 1) - 1) w = l_Text_append S m 1 a 0 (nI c - 1) (pm_setI (pm_setI w 9 t (nI (byN a c))) 1 1 (nI (t + 1))) ∧
    l_Md_feed (m + 1) 1 a 0 (nI (c + 1) - 1) v = l_Md_feed m 1 a 0 (nI c - 1) (pm_setI (pm_setI v 12 t (nI (byN a c))) 0 20 (nI (t + 1))) := by
  have hb := (byN_eq a c).2
  constructor
  · show b_Text_append_58 S (l_Text_append S m) a (nI (c + 1) - 1) w = _
    unfold b_Text_append_58
    rw [nI_pred, h2, byN_C, z_char (by omega), if_neg (nI_pos (by omega)), if_neg (show ¬ (120 : Int32) ≤ nI t from nI_ge (b := 120) (by omega) (by omega)), if_neg (nI_in (N := 120) (by omega) (by omega)), nI_clamp (by omega), z_sub1, show nI t + (1 : Int32) = nI (t + 1) from nI_1 t]
  · show b_Md_feed_80 (l_Md_feed m) a (nI (c + 1) - 1) v = _
    unfold b_Md_feed_80
    rw [nI_pred, h3, byN_M a (by omega), z_char (by omega), if_neg (nI_pos (by omega)), if_neg (nI_in (N := 120) (by omega) (by omega)), nI_clamp (by omega), z_sub1, show nI t + (1 : Int32) = nI (t + 1) from nI_1 t]
theorem feed_T {w v : pm_W} {t k : Nat} {tx : Nat → Nat} (h : TxR w v t tx) (ht : t < 120) (hk : isCh k) : TxR (pm_setI (pm_setI w 9 t (nI k)) 1 1 (nI (t + 1))) (pm_setI (pm_setI v 12 t (nI k)) 0 20 (nI (t + 1))) (t + 1) (fun i => if i = t then k else tx i) := by
  obtain ⟨h1, h2, h3, h4⟩ := h
  refine ⟨by omega, ?_, ?_, fun i hi => ?_⟩
  · exact pm_rd (pm_up w.1 9 t (nI k)) 1 1 (nI (t + 1))
  · exact pm_rd (pm_up v.1 12 t (nI k)) 0 20 (nI (t + 1))
  by_cases e : i = t
  · subst e
    simp only [if_true]
    refine ⟨hk, ?_, ?_⟩
    · rw [rdI_n _ (Or.inl (by decide)), rdI_s]
    · rw [rdI_n _ (Or.inl (by decide)), rdI_s]
  · simp only [if_neg e]
    obtain ⟨g1, g2, g3⟩ := h4 i (by omega)
    refine ⟨g1, ?_, ?_⟩
    · rw [rdI_n _ (Or.inl (by decide)), rdI_n _ (Or.inr e)]
      exact g2
    · rw [rdI_n _ (Or.inl (by decide)), rdI_n _ (Or.inr e)]
      exact g3
/-- the second loop: c characters more -/
theorem feed_2 {S : Nat} {a : Int32} : ∀ (c m t : Nat) (w v : pm_W) (tx : Nat → Nat), c ≤ 4 → TxR w v t tx → t + c ≤ 120 → (∀ j, j < c → isCh (byN a j)) →
    ∃ (w1 v1 : pm_W) (tx1 : Nat → Nat), l_Text_append S (m + c + 1) 1 a 0 (nI c - 1) w = some (1, w1) ∧ l_Md_feed (m + c + 1) 1 a 0 (nI c - 1) v = some (1, v1) ∧ TxR w1 v1 (t + c) tx1 ∧ smC w w1 [1, 9] ∧ smM v v1 [20] [12] := by
  intro c
  induction c with
  | zero =>
    intro m t w v tx _ hT _ _
    obtain ⟨e1, e2⟩ := feed_z (S := S) (m := m) (a := a) (w := w) (v := v)
    exact ⟨w, v, tx, e1, e2, hT, smC_rf, smM_rf⟩
  | succ c ih =>
    intro m t w v tx hc hT ht hch
    obtain ⟨w1, v1, tx1, g1, g2, g3, g4, g5⟩ := ih m (t + 1) _ _ _ (by omega) (feed_T hT (by omega) (hch c (by omega))) (by omega) (fun j hj => hch j (by omega))
    obtain ⟨s1, s2⟩ := feed_s (S := S) (m := m + c + 1) (a := a) (w := w) (v := v) (c := c) (t := t) (by omega) (by omega) hT.2.1 hT.2.2.1
    refine ⟨w1, v1, tx1, s1.trans g1, s2.trans g2, by rw [show t + (c + 1) = t + 1 + c by omega]; exact g3, ?_, ?_⟩
    · exact ⟨g4.1, fun o ho => (g4.2 o ho).trans ((smC_set (smC_set (smC_rf (w := w) (os := [1, 9])) (by decide)) (by decide)).2 o ho)⟩
    · have hv : smM v (pm_setI (pm_setI v 12 t (nI (byN a c))) 0 20 (nI (t + 1))) [20] [12] := smM_f (smM_a smM_rf (by decide) (by decide)) (by decide)
      exact ⟨g5.1.trans hv.1, fun k hk => (g5.2.1 k hk).trans (hv.2.1 k hk), fun o h0 ho => (g5.2.2 o h0 ho).trans (hv.2.2 o h0 ho)⟩
theorem feed_sim {S n : Nat} {w v : pm_W} {tx : Nat → Nat} (h : TxR w v n tx) (a b : Int32) : ∃ (r : Int32) (w1 v1 : pm_W) (n1 : Nat) (tx1 : Nat → Nat), f_CL_feed S a b w = some (r, w1) ∧ f_Md_feed a b v = some (r, v1) ∧ TxR w1 v1 n1 tx1 ∧ smC w w1 [1, 9] ∧ smM v v1 [0, 20] [12] := by
  obtain ⟨h1, h2, h3, h4⟩ := id h
  have hv0 : TxR w (pm_setI v 0 0 0) n tx := ⟨h1, h2, h3, h4⟩
  have hs0 : smM v (pm_setI v 0 0 0) [0, 20] [12] := smM_f smM_rf (by decide)
  have no : ∀ {fC : Option (Int32 × pm_W)} {fM : Option (Int32 × pm_W)}, f_Text_append S a b w = some (0, w) → f_Md_feed a b v = some (0, pm_setI v 0 0 0) → ∃ (r : Int32) (w1 v1 : pm_W) (n1 : Nat) (tx1 : Nat → Nat), f_CL_feed S a b w = some (r, w1) ∧ f_Md_feed a b v = some (r, v1) ∧ TxR w1 v1 n1 tx1 ∧ smC w w1 [1, 9] ∧ smM v v1 [0, 20] [12] := by
    intro _ _ e1 e2
    refine ⟨0, w, pm_setI v 0 0 0, n, tx, ?_, e2, hv0, smC_rf, hs0⟩
    unfold f_CL_feed
    rw [e1, Option.bind_some, if_pos (show (0 : Int32) &&& 1 = 0 by decide)]
  by_cases c1 : b < 1
  · exact no (fC := none) (fM := none) (by unfold f_Text_append; rw [if_pos c1]) (by unfold f_Md_feed; rw [if_pos c1])
  by_cases c2 : (4 : Int32) < b
  · exact no (fC := none) (fM := none) (by unfold f_Text_append; rw [if_neg c1, if_pos c2]) (by unfold f_Md_feed; rw [if_neg c1, if_pos c2])
  obtain ⟨k, hk1, rfl⟩ := nI_of2 (M := 4) (n := 4) (by decide) (x := b) (fun q => c1 (Int32.lt_trans q (by decide))) (Int32.not_lt.mp c2)
  by_cases c3 : n + k ≤ 120
  · have c3' : w.1 1 1 + nI k ≤ 120 := by
      rw [h2, nI_add]
      exact nI_le (b := 120) c3 (by omega)
    have c3v : v.1 0 20 + nI k ≤ 120 := by
      rw [h3, nI_add]
      exact nI_le (b := 120) c3 (by omega)
    have eC : f_Text_append S a (nI k) w = l_Text_append S pm_fuel 0 a (nI k) (nI 0) w := by
      unfold f_Text_append
      rw [if_neg c1, if_neg c2, if_pos c3', nI_0]
    have eM : f_Md_feed a (nI k) v = l_Md_feed pm_fuel 0 a (nI k) (nI 0) (pm_setI v 0 0 0) := by
      unfold f_Md_feed
      rw [if_neg c1, if_neg c2, if_pos c3v, nI_0]
    have hf : pm_fuel = (99999 - 2 * k - 1 + k + 1) + k + 1 := by
      show 100000 = _
      omega
    rcases feed_1 (S := S) (n := k) (a := a) (w := w) (v := pm_setI v 0 0 0) hk1 k 0 (99999 - 2 * k - 1 + k + 1) (by omega) with ⟨g1, g2, g3⟩ | ⟨g2, g3⟩
    · obtain ⟨w1, v1, tx1, e1, e2, e3, e4, e5⟩ := feed_2 (S := S) (a := a) k (99999 - 2 * k - 1) n w (pm_setI v 0 0 0) tx hk1 hv0 c3 (fun j hj => g1 j (Nat.zero_le _) hj)
      refine ⟨1, w1, v1, n + k, tx1, ?_, ?_, e3, e4, ?_⟩
      · unfold f_CL_feed
        rw [eC, hf, g2, e1, Option.bind_some, if_pos (show (1 : Int32) &&& 1 = 1 by decide)]
      · rw [eM, hf, g3, e2]
      · exact ⟨e5.1.trans hs0.1, fun q hq => (e5.2.1 q (fun z => hq (by simp at z ⊢; exact Or.inr z))).trans (hs0.2.1 q hq), fun o h0 ho => (e5.2.2 o h0 ho).trans (hs0.2.2 o h0 ho)⟩
    · exact no (fC := none) (fM := none) (by rw [eC, hf, g2]) (by rw [eM, hf, g3])
  · have c3' : ¬ w.1 1 1 + nI k ≤ 120 := by
      rw [h2, nI_add]
      exact nI_ge (a := 120) (by omega) (by omega)
    have c3v : ¬ v.1 0 20 + nI k ≤ 120 := by
      rw [h3, nI_add]
      exact nI_ge (a := 120) (by omega) (by omega)
    exact no (fC := none) (fM := none) (by unfold f_Text_append; rw [if_neg c1, if_neg c2, if_neg c3']) (by unfold f_Md_feed; rw [if_neg c1, if_neg c2, if_neg c3v])
