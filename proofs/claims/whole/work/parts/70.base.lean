/-! ===== Int32 by its bits: bt x i ===== -/
def bt (x : Int32) (i : Nat) : Bool := x.toBitVec.getLsbD i
theorem b_ext {x y : Int32} (h : ∀ i, i < 32 → bt x i = bt y i) : x = y := Int32.toBitVec_inj.mp (BitVec.eq_of_getLsbD_eq (fun i hi => h i hi))
theorem b_or (x y : Int32) (i : Nat) : bt (x ||| y) i = (bt x i || bt y i) := by unfold bt; rw [Int32.toBitVec_or, BitVec.getLsbD_or]
theorem b_and (x y : Int32) (i : Nat) : bt (x &&& y) i = (bt x i && bt y i) := by unfold bt; rw [Int32.toBitVec_and, BitVec.getLsbD_and]
theorem b_xor (x y : Int32) (i : Nat) : bt (x ^^^ y) i = (bt x i ^^ bt y i) := by unfold bt; rw [Int32.toBitVec_xor, BitVec.getLsbD_xor]
theorem b_big {x : Int32} {i : Nat} (h : 32 ≤ i) : bt x i = false := BitVec.getLsbD_of_ge _ _ h
theorem b_255 (i : Nat) : bt 255 i = decide (i < 8) := by
  rcases Nat.lt_or_ge i 32 with h | h
  · exact (by decide +kernel : ∀ i, i < 32 → bt 255 i = decide (i < 8)) i h
  · rw [b_big h, decide_eq_false (by omega)]
theorem b_65535 (i : Nat) : bt 65535 i = decide (i < 16) := by
  rcases Nat.lt_or_ge i 32 with h | h
  · exact (by decide +kernel : ∀ i, i < 32 → bt 65535 i = decide (i < 16)) i h
  · rw [b_big h, decide_eq_false (by omega)]
theorem b_m1 : ∀ i, i < 32 → bt (-1) i = true := by decide +kernel
theorem b_0 (i : Nat) : bt 0 i = false := BitVec.getLsbD_zero
theorem s_l : ∀ n, n < 32 → ((nI n &&& 31).toBitVec.smod 32).toNat = n := by decide +kernel
theorem s_u : ∀ n, n < 32 → (((nI n).toUInt32 &&& Int32.toUInt32 31).toBitVec % 32).toNat = n := by decide +kernel
theorem b_shl (n : Nat) (hn : n < 32) (x : Int32) {i : Nat} (hi : i < 32) : bt (x <<< (nI n &&& 31)) i = (decide (n ≤ i) && bt x (i - n)) := by
  unfold bt
  rw [Int32.toBitVec_shiftLeft]
  show (x.toBitVec <<< ((nI n &&& 31).toBitVec.smod 32).toNat).getLsbD i = _
  rw [s_l n hn, BitVec.getLsbD_shiftLeft]
  rcases Nat.lt_or_ge i n with h | h
  · simp [h, Nat.not_le.mpr h]
  · simp [hi, h, Nat.not_lt.mpr h]
theorem b_ushr (n : Nat) (hn : n < 32) (x : Int32) (i : Nat) : bt ((x.toUInt32 >>> ((nI n).toUInt32 &&& Int32.toUInt32 31)).toInt32) i = bt x (n + i) := by
  show (x.toUInt32 >>> ((nI n).toUInt32 &&& Int32.toUInt32 31)).toBitVec.getLsbD i = x.toUInt32.toBitVec.getLsbD (n + i)
  rw [UInt32.toBitVec_shiftRight]
  show (x.toUInt32.toBitVec >>> (((nI n).toUInt32 &&& Int32.toUInt32 31).toBitVec % 32).toNat).getLsbD i = _
  rw [s_u n hn, BitVec.getLsbD_ushiftRight]
theorem b_sshr (n : Nat) (hn : n < 32) (x : Int32) {i : Nat} (hi : i < 32) : bt (x >>> (nI n &&& 31)) i = if n + i < 32 then bt x (n + i) else bt x 31 := by
  unfold bt
  rw [Int32.toBitVec_shiftRight]
  show (x.toBitVec.sshiftRight ((nI n &&& 31).toBitVec.smod 32).toNat).getLsbD i = _
  rw [s_l n hn, BitVec.getLsbD_sshiftRight, BitVec.msb_eq_getLsbD_last]
  simp [hi]
theorem b_shl8 (x : Int32) {i : Nat} (hi : i < 32) : bt (x <<< ((8 : Int32) &&& 31)) i = (decide (8 ≤ i) && bt x (i - 8)) := b_shl 8 (by omega) x hi
theorem b_shl16 (x : Int32) {i : Nat} (hi : i < 32) : bt (x <<< ((16 : Int32) &&& 31)) i = (decide (16 ≤ i) && bt x (i - 16)) := b_shl 16 (by omega) x hi
theorem b_shl24 (x : Int32) {i : Nat} (hi : i < 32) : bt (x <<< ((24 : Int32) &&& 31)) i = (decide (24 ≤ i) && bt x (i - 24)) := b_shl 24 (by omega) x hi
theorem b_sshr8 (x : Int32) {i : Nat} (hi : i < 32) : bt (x >>> ((8 : Int32) &&& 31)) i = if 8 + i < 32 then bt x (8 + i) else bt x 31 := b_sshr 8 (by omega) x hi
/-! numbers -/
theorem zl (n : Nat) : (OfNat.ofNat n : Int32) = nI n := rfl
theorem z_lt {a b : Nat} (ha : a < 2 ^ 31) (hb : b < 2 ^ 31) : (nI a < nI b) = (a < b) := propext (nI_ltI ha hb)
theorem z_le {a b : Nat} (ha : a < 2 ^ 31) (hb : b < 2 ^ 31) : (nI a ≤ nI b) = (a ≤ b) := propext (nI_leI ha hb)
theorem z_eq {a b : Nat} (ha : a < 2 ^ 31) (hb : b < 2 ^ 31) : (nI a = nI b) = (a = b) := propext (nI_eq ha hb)
theorem z_bnd {a n : Nat} (ha : a < n) (hn : n < 2 ^ 31) : (nI a < 0 ∨ n ≤ (nI a).toNatClampNeg) = False := by
  rw [eq_iff_iff, iff_false]
  exact nI_in ha hn
theorem z_neg {a : Nat} (ha : a < 2 ^ 31) : (nI a < 0) = False := by
  rw [eq_iff_iff, iff_false]
  exact nI_pos ha
theorem z_m1 (n : Nat) : nI (n + 1) + (-1) = nI n := pk_m1 n
theorem pm_it_succ {α : Type} (b : α) (s : α → α) (n : Nat) : pm_it b s (n + 1) = s (pm_it b s n) := rfl
theorem pm_rd {α : Type} (f : Nat → Nat → α) (o k : Nat) (v : α) : pm_up f o k v o k = v := by simp [pm_up]
theorem pm_rn {α : Type} (f : Nat → Nat → α) {o k a b : Nat} (v : α) (h : a ≠ o ∨ b ≠ k) : pm_up f o k v a b = f a b := by
  unfold pm_up
  rcases h with h | h
  · rw [if_neg h]
  · by_cases h2 : a = o
    · rw [if_pos h2, if_neg h]
    · rw [if_neg h2]
theorem rdI_s (w : pm_W) (o k : Nat) (v : Int32) : (pm_setI w o k v).1 o k = v := pm_rd w.1 o k v
theorem rdI_n (w : pm_W) {o k a b : Nat} {v : Int32} (h : a ≠ o ∨ b ≠ k) : (pm_setI w o k v).1 a b = w.1 a b := pm_rn w.1 v h
theorem rdI_o (w : pm_W) {o k a : Nat} {v : Int32} (h : a ≠ o) : (pm_setI w o k v).1 a = w.1 a := pm_up_off h
/-- worlds that agree but for the objects os -/
def smC (w w1 : pm_W) (os : List Nat) : Prop := w1.2 = w.2 ∧ ∀ o, o ∉ os → w1.1 o = w.1 o
theorem smC_rf {w : pm_W} {os : List Nat} : smC w w os := ⟨rfl, fun _ _ => rfl⟩
theorem smC_set {w w1 : pm_W} {os : List Nat} {o k : Nat} {x : Int32} (h : smC w w1 os) (ho : o ∈ os) : smC w (pm_setI w1 o k x) os := ⟨h.1, fun a ha => by
  have : a ≠ o := fun e => ha (e ▸ ho)
  rw [show (pm_setI w1 o k x).1 a = w1.1 a from pm_up_off this]
  exact h.2 a ha⟩
/-- the reference: object 0 but for its fields ks, the arrays but for os -/
def smM (v v1 : pm_W) (ks os : List Nat) : Prop := v1.2 = v.2 ∧ (∀ k, k ∉ ks → v1.1 0 k = v.1 0 k) ∧ ∀ o, o ≠ 0 → o ∉ os → v1.1 o = v.1 o
theorem smM_rf {v : pm_W} {ks os : List Nat} : smM v v ks os := ⟨rfl, fun _ _ => rfl, fun _ _ _ => rfl⟩
theorem smM_f {v v1 : pm_W} {ks os : List Nat} {k : Nat} {x : Int32} (h : smM v v1 ks os) (hk : k ∈ ks) : smM v (pm_setI v1 0 k x) ks os := ⟨h.1, fun a ha => by
  show pm_up v1.1 0 k x 0 a = _
  rw [pm_rn _ _ (Or.inr (show a ≠ k from fun e => ha (by rw [e]; exact hk)))]
  exact h.2.1 a ha, fun o h0 ho => by
  rw [show (pm_setI v1 0 k x).1 o = v1.1 o from pm_up_off h0]
  exact h.2.2 o h0 ho⟩
theorem smM_a {v v1 : pm_W} {ks os : List Nat} {o k : Nat} {x : Int32} (h : smM v v1 ks os) (ho0 : o ≠ 0) (ho : o ∈ os) : smM v (pm_setI v1 o k x) ks os := ⟨h.1, fun a ha => by
  rw [show (pm_setI v1 o k x).1 0 = v1.1 0 from pm_up_off (Ne.symm ho0)]
  exact h.2.1 a ha, fun a h0 ha => by
  rw [show (pm_setI v1 o k x).1 a = v1.1 a from pm_up_off (fun e => ha (e ▸ ho))]
  exact h.2.2 a h0 ha⟩
/-- what waits to be taken -/
def OuR (w v : pm_W) (n : Nat) (ou : Nat → Nat) : Prop := n ≤ 200 ∧ w.1 2 1 = nI n ∧ v.1 0 22 = nI n ∧ ∀ i, i < n → ou i < 65536 ∧ w.1 10 i = nI (ou i) ∧ v.1 13 i = nI (ou i)
theorem out_sim {S n : Nat} {w v : pm_W} {ou : Nat → Nat} (h : OuR w v n ou) (a : Int32) : ∃ r, f_CL_out S a w = some (r, w) ∧ f_Md_out a v = some (r, pm_setI v 0 0 0) := by
  obtain ⟨h1, h2, h3, h4⟩ := h
  rcases pk_ix a (n := n) (by omega) with h | h | ⟨j, hj, rfl⟩
  · exact ⟨-1, by simp [f_CL_out, f_Output_at, h], by simp [f_Md_out, h]⟩
  · have h0 : ¬ a < 0 := fun q => by
      have := Int32.lt_of_lt_of_le q (Int32.le_trans (nI_pos' (n := n) (by omega)) h)
      exact absurd this (by simp)
    have h5 : ¬ a < nI n := Int32.not_lt.mpr h
    exact ⟨-1, by simp [f_CL_out, f_Output_at, h0, h2, h], by simp [f_Md_out, h0, h3, h5]⟩
  · have h5 : j < 200 := by omega
    have h6 : ¬ n ≤ j := by omega
    have h7 : ¬ 200 ≤ j := by omega
    refine ⟨nI (ou j), ?_, ?_⟩
    · simp (disch := omega) [f_CL_out, f_Output_at, zl, z_lt, z_le, z_neg, z_bnd, h2, nI_clamp, (h4 j hj).2.1, h6, h7]
    · simp (disch := omega) [f_Md_out, zl, z_lt, z_le, z_neg, z_bnd, h3, nI_clamp, (h4 j hj).2.2, hj, h5]
/-- the text that waits -/
def TxR (w v : pm_W) (n : Nat) (tx : Nat → Nat) : Prop := n ≤ 120 ∧ w.1 1 1 = nI n ∧ v.1 0 20 = nI n ∧ ∀ i, i < n → (tx i = 10 ∨ (32 ≤ tx i ∧ tx i ≤ 126)) ∧ w.1 9 i = nI (tx i) ∧ v.1 12 i = nI (tx i)
/-- the byte i of a word, as both sides read it -/
def byC (a : Int32) (i : Nat) : Int32 := ((a.toUInt32 >>> ((nI (8 * i)).toUInt32 &&& Int32.toUInt32 31)).toInt32) &&& 255
theorem byC_eq (a : Int32) {i : Nat} (hi : i < 4) : (a >>> (nI (8 * i) &&& 31)) &&& 255 = byC a i := by
  apply b_ext
  intro j hj
  unfold byC
  rw [b_and, b_and, b_255, b_sshr (8 * i) (by omega) a hj, b_ushr (8 * i) (by omega)]
  by_cases h : j < 8
  · rw [if_pos (by omega)]
  · simp [h]
theorem byC_lt (a : Int32) (i : Nat) : ∃ k : Nat, k < 256 ∧ byC a i = nI k := by
  obtain ⟨k, h1, h2⟩ := pk_andE ((a.toUInt32 >>> ((nI (8 * i)).toUInt32 &&& Int32.toUInt32 31)).toInt32) (m := 255) 8 (by decide)
  exact ⟨k, h1, h2⟩
/-- is it a character -/
abbrev isCh (k : Nat) : Prop := k = 10 ∨ (32 ≤ k ∧ k ≤ 126)
theorem f_isCh {S k : Nat} {w : pm_W} (hk : k < 256) : f_Text_isCharacter S (nI k) w = some (if k = 10 ∨ (32 ≤ k ∧ k ≤ 126) then 1 else 0, w) := by
  unfold f_Text_isCharacter
  simp (disch := omega) only [zl, z_lt, z_le, z_eq]
  by_cases h1 : k = 10
  · simp [h1]
  · by_cases h2 : k < 32
    · have h3 : ¬ 32 ≤ k := by omega
      simp [h1, h2, h3]
    · by_cases h3 : 126 < k
      · have h4 : ¬ k ≤ 126 := by omega
        simp [h1, h2, h3, h4]
      · have h4 : k ≤ 126 := by omega
        have h5 : 32 ≤ k := by omega
        simp [h1, h2, h3, h4, h5]
