/-! reading values on both sides -/
theorem isPair_C {S : Nat} {a : Int32} {w : pm_W} : f_Value_isPair S a w = some (if a &&& 7 = 4 then 1 else 0, w) := by
  unfold f_Value_isPair f_Value_kind
  by_cases h : a &&& 7 = 4 <;> simp [h]
theorem isSym_C {S : Nat} {a : Int32} {w : pm_W} : f_Value_isSymbol S a w = some (if a &&& 7 = 1 then 1 else 0, w) := by
  unfold f_Value_isSymbol f_Value_kind
  by_cases h : a &&& 7 = 1 <;> simp [h]
theorem isNum_C {S : Nat} {a : Int32} {w : pm_W} : f_Value_isNumber S a w = some (if a &&& 7 = 0 then 1 else 0, w) := by
  unfold f_Value_isNumber f_Value_kind
  by_cases h : a &&& 7 = 0 <;> simp [h]
theorem here_C {S : Nat} {s : Nat} {w : pm_W} (h1 : w.1 5 1 = nI S) (hS : S ≤ 200) (hs : s < S) : f_Room_isHere S (vC s) w = some (1, w) := by
  unfold f_Room_isHere
  rw [(kd_C (s := s) (by omega)).1, (kd_C (s := s) (by omega)).2, h1, if_pos rfl, if_neg (nI_pos (by omega)), if_neg (q_nle hs (by omega))]
theorem here_K {S : Nat} {s : Nat} {w : pm_W} (h1 : w.1 5 1 = nI S) (hS : S ≤ 200) (hs : s < S) : f_Room_isHere S (vK s) w = some (1, w) := by
  unfold f_Room_isHere
  rw [(kd_K (s := s) (by omega)).1, (kd_K (s := s) (by omega)).2, h1, if_neg (by decide), if_pos rfl, if_neg (nI_pos (by omega)), if_neg (q_nle hs (by omega))]
theorem here_n {S : Nat} {a : Int32} {w : pm_W} (h1 : ¬ a &&& 7 = 4) (h2 : ¬ a &&& 7 = 5) : f_Room_isHere S a w = some (0, w) := by
  unfold f_Room_isHere
  rw [if_neg h1, if_neg h2]
theorem fst_n {S : Nat} {a : Int32} {w : pm_W} (h1 : ¬ a &&& 7 = 4) (h2 : ¬ a &&& 7 = 5) : f_Room_first S a w = some (2, w) := by
  unfold f_Room_first
  rw [here_n h1 h2]
  rfl
theorem snd_n {S : Nat} {a : Int32} {w : pm_W} (h1 : ¬ a &&& 7 = 4) (h2 : ¬ a &&& 7 = 5) : f_Room_second S a w = some (2, w) := by
  unfold f_Room_second
  rw [here_n h1 h2]
  rfl
theorem fst_C {S : Nat} {s : Nat} {w : pm_W} (h1 : w.1 5 1 = nI S) (hS : S ≤ 200) (hs : s < S) : f_Room_first S (vC s) w = some (w.1 17 s, w) := by
  unfold f_Room_first f_Value_content
  rw [here_C h1 hS hs]
  simp only [Option.bind_some]
  rw [(kd_C (s := s) (by omega)).2, if_neg (by decide), if_neg (nI_in hs (by omega)), nI_clamp (by omega)]
theorem fst_K {S : Nat} {s : Nat} {w : pm_W} (h1 : w.1 5 1 = nI S) (hS : S ≤ 200) (hs : s < S) : f_Room_first S (vK s) w = some (w.1 17 s, w) := by
  unfold f_Room_first f_Value_content
  rw [here_K h1 hS hs]
  simp only [Option.bind_some]
  rw [(kd_K (s := s) (by omega)).2, if_neg (by decide), if_neg (nI_in hs (by omega)), nI_clamp (by omega)]
theorem snd_C {S : Nat} {s : Nat} {w : pm_W} (h1 : w.1 5 1 = nI S) (hS : S ≤ 200) (hs : s < S) : f_Room_second S (vC s) w = some (w.1 18 s, w) := by
  unfold f_Room_second f_Value_content
  rw [here_C h1 hS hs]
  simp only [Option.bind_some]
  rw [(kd_C (s := s) (by omega)).2, if_neg (by decide), if_neg (nI_in hs (by omega)), nI_clamp (by omega)]
theorem snd_K {S : Nat} {s : Nat} {w : pm_W} (h1 : w.1 5 1 = nI S) (hS : S ≤ 200) (hs : s < S) : f_Room_second S (vK s) w = some (w.1 18 s, w) := by
  unfold f_Room_second f_Value_content
  rw [here_K h1 hS hs]
  simp only [Option.bind_some]
  rw [(kd_K (s := s) (by omega)).2, if_neg (by decide), if_neg (nI_in hs (by omega)), nI_clamp (by omega)]
theorem trd_K {S : Nat} {s : Nat} {w : pm_W} (h1 : w.1 5 1 = nI S) (hS : S ≤ 200) (hs : s < S) : f_Room_third S (vK s) w = some (w.1 19 s, w) := by
  unfold f_Room_third f_Value_content
  rw [here_K h1 hS hs]
  simp only [Option.bind_some]
  rw [(kd_K (s := s) (by omega)).2, if_neg (by decide), if_neg (nI_in hs (by omega)), nI_clamp (by omega)]
theorem setS_C {S : Nat} {s : Nat} {w : pm_W} {x : Int32} (h1 : w.1 5 1 = nI S) (hS : S ≤ 200) (hs : s < S) : f_Room_setSecond S (vC s) x w = some (pm_setI w 18 s x) := by
  unfold f_Room_setSecond f_Value_content
  rw [here_C h1 hS hs]
  simp only [Option.bind_some]
  rw [(kd_C (s := s) (by omega)).2, if_neg (by decide), if_neg (nI_in hs (by omega)), nI_clamp (by omega)]
theorem car_t {t : Nat} {v : pm_W} (ht : t < 206) : f_Md_car (ptrM t) v = some (v.1 2 t, v) := by
  unfold f_Md_car
  rw [ptrM_sub, if_neg (nI_in ht (by omega)), nI_clamp (by omega)]
theorem cdr_t {t : Nat} {v : pm_W} (ht : t < 206) : f_Md_cdr (ptrM t) v = some (v.1 3 t, v) := by
  unfold f_Md_cdr
  rw [ptrM_sub, if_neg (nI_in ht (by omega)), nI_clamp (by omega)]
/-- what both sides need to read values: the context -/
def Rd (S kn : Nat) (κ τ ρ φ : Nat → Nat) (L : List Nat) (w v : pm_W) : Prop := w.1 5 1 = nI S ∧ HT S kn κ τ ρ L w ∧ (∀ s ∈ L, φ s < 206 ∧ v.1 1 (φ s) = nI (κ s) ∧ v.1 2 (φ s) = tr φ (w.1 17 s) ∧ v.1 3 (φ s) = tr φ (w.1 18 s) ∧ (κ s = 3 → v.1 4 (φ s) = tr φ (w.1 19 s))) ∧ (∀ s ∈ L, ∀ t ∈ L, φ s = φ t → s = t)
theorem RH_Rd {S sz m kn : Nat} {κ τ ρ φ : Nat → Nat} {L : List Nat} {w v : pm_W} (h : RH S sz m kn κ τ ρ φ L w v) : Rd S kn κ τ ρ φ L w v := ⟨h.1.2.2.1, h.2.2.1, h.2.1.2.1, h.2.1.2.2.1⟩
theorem RL_Rd {S sz m kn dn : Nat} {κ τ ρ φ : Nat → Nat} {L : List Nat} {w v : pm_W} (h : RL S sz m kn dn κ τ ρ φ L w v) : Rd S kn κ τ ρ φ L w v := RH_Rd (RL_RH h)
theorem Rd_fr {S kn : Nat} {κ τ ρ φ : Nat → Nat} {L : List Nat} {w v w1 v1 : pm_W} (h : Rd S kn κ τ ρ φ L w v) (h5 : w1.1 5 = w.1 5) (h17 : w1.1 17 = w.1 17) (h18 : w1.1 18 = w.1 18) (h19 : w1.1 19 = w.1 19) (g1 : v1.1 1 = v.1 1) (g2 : v1.1 2 = v.1 2) (g3 : v1.1 3 = v.1 3) (g4 : v1.1 4 = v.1 4) : Rd S kn κ τ ρ φ L w1 v1 := by
  unfold Rd HT slT
  rw [h5, h17, h18, h19, g1, g2, g3, g4]
  exact h
section
variable {S kn : Nat} {κ τ ρ φ : Nat → Nat} {L : List Nat} {w v : pm_W}
theorem Rd_lt (h : Rd S kn κ τ ρ φ L w v) {s : Nat} (hs : s ∈ L) : s < S := (h.2.1.2.2.2.2 s hs).1
theorem Rd_L (h : Rd S kn κ τ ρ φ L w v) : ∀ s ∈ L, s < 1000 ∧ φ s < 206 := fun s hs => ⟨by have := Rd_lt h hs; have := h.2.1.2.2.1; omega, (h.2.2.1 s hs).1⟩
theorem Rd_fst (h : Rd S kn κ τ ρ φ L w v) {s : Nat} (hs : s ∈ L) : f_Room_first S (vC s) w = some (w.1 17 s, w) := fst_C h.1 h.2.1.2.2.1 (Rd_lt h hs)
theorem Rd_snd (h : Rd S kn κ τ ρ φ L w v) {s : Nat} (hs : s ∈ L) : f_Room_second S (vC s) w = some (w.1 18 s, w) := snd_C h.1 h.2.1.2.2.1 (Rd_lt h hs)
theorem Rd_fstK (h : Rd S kn κ τ ρ φ L w v) {s : Nat} (hs : s ∈ L) : f_Room_first S (vK s) w = some (w.1 17 s, w) := fst_K h.1 h.2.1.2.2.1 (Rd_lt h hs)
theorem Rd_sndK (h : Rd S kn κ τ ρ φ L w v) {s : Nat} (hs : s ∈ L) : f_Room_second S (vK s) w = some (w.1 18 s, w) := snd_K h.1 h.2.1.2.2.1 (Rd_lt h hs)
theorem Rd_trdK (h : Rd S kn κ τ ρ φ L w v) {s : Nat} (hs : s ∈ L) : f_Room_third S (vK s) w = some (w.1 19 s, w) := trd_K h.1 h.2.1.2.2.1 (Rd_lt h hs)
theorem Rd_trC (h : Rd S kn κ τ ρ φ L w v) {s : Nat} (hs : s ∈ L) : tr φ (vC s) = ptrM (φ s) := tr_C (Rd_L h s hs).1
theorem Rd_trK (h : Rd S kn κ τ ρ φ L w v) {s : Nat} (hs : s ∈ L) : tr φ (vK s) = ptrM (φ s) := tr_K (Rd_L h s hs).1
theorem Rd_car (h : Rd S kn κ τ ρ φ L w v) {s : Nat} (hs : s ∈ L) : f_Md_car (tr φ (vC s)) v = some (tr φ (w.1 17 s), v) := by
  rw [Rd_trC h hs, car_t (h.2.2.1 s hs).1, (h.2.2.1 s hs).2.2.1]
theorem Rd_cdr (h : Rd S kn κ τ ρ φ L w v) {s : Nat} (hs : s ∈ L) : f_Md_cdr (tr φ (vC s)) v = some (tr φ (w.1 18 s), v) := by
  rw [Rd_trC h hs, cdr_t (h.2.2.1 s hs).1, (h.2.2.1 s hs).2.2.2.1]
theorem Rd_carK (h : Rd S kn κ τ ρ φ L w v) {s : Nat} (hs : s ∈ L) : f_Md_car (tr φ (vK s)) v = some (tr φ (w.1 17 s), v) := by
  rw [Rd_trK h hs, car_t (h.2.2.1 s hs).1, (h.2.2.1 s hs).2.2.1]
theorem Rd_cdrK (h : Rd S kn κ τ ρ φ L w v) {s : Nat} (hs : s ∈ L) : f_Md_cdr (tr φ (vK s)) v = some (tr φ (w.1 18 s), v) := by
  rw [Rd_trK h hs, cdr_t (h.2.2.1 s hs).1, (h.2.2.1 s hs).2.2.2.1]
/-- the kinds, as the reference tells them -/
theorem Rd_thing (h : Rd S kn κ τ ρ φ L w v) {a : Int32} (ha : gv kn κ L a) : f_Md_isThing (tr φ a) v = some (if a &&& 7 = 4 ∨ a &&& 7 = 5 then 1 else 0, v) := by
  have hκ := h.2.1.2.1
  unfold f_Md_isThing
  rcases tr_lt hκ h.2.1.2.2.2.1 (Rd_L h) ha with ⟨q, r⟩ | ⟨s, h1, h2, h3⟩ | ⟨h1, h2⟩ | ⟨p, h1, h2, h3⟩ | ⟨s, h1, h2, h3⟩
  · rw [if_pos (Int32.lt_trans r (by decide)), q, if_neg (by decide)]
  · have := h.2.1.2.2.2.1
    rw [h3, if_pos (show nI (536871000 + s) < 536873000 from q_lt (b := 536873000) (by omega) (by omega)), h2, (kd_S (by omega)).1, if_neg (by decide)]
  · rw [h2, h1, if_pos (by decide), if_neg (by decide)]
  · rw [h3, if_pos (show nI (536872000 + p) < 536873000 from q_lt (b := 536873000) (by omega) (by omega)), h2, (kd_P (by omega)).1, if_neg (by decide)]
  · rw [h3, if_neg (ptrM_thing (Rd_L h s h1).2), h2, (ptr_kind hκ (Rd_L h s h1).1).1]
    rcases hκ s with q | q <;> rw [q, if_pos (by decide)]
theorem Rd_isP (h : Rd S kn κ τ ρ φ L w v) {a : Int32} (ha : gv kn κ L a) : f_Md_isPair (tr φ a) v = some (if a &&& 7 = 4 then 1 else 0, v) := by
  have hκ := h.2.1.2.1
  unfold f_Md_isPair
  rw [Rd_thing h ha]
  simp only [Option.bind_some]
  rcases tr_lt hκ h.2.1.2.2.2.1 (Rd_L h) ha with ⟨q, r⟩ | ⟨s, h1, h2, h3⟩ | ⟨h1, h2⟩ | ⟨p, h1, h2, h3⟩ | ⟨s, h1, h2, h3⟩
  · rw [q]; rfl
  · have := h.2.1.2.2.2.1
    rw [h2, (kd_S (by omega)).1]; rfl
  · rw [h1]; rfl
  · rw [h2, (kd_P (by omega)).1]; rfl
  · have hk := (ptr_kind hκ (Rd_L h s h1).1).1
    have e2 : (if (if a &&& 7 = 4 ∨ a &&& 7 = 5 then (1 : Int32) else 0) = 0 then False else True) := by
      rw [h2, hk]
      rcases hκ s with q | q <;> rw [q] <;> decide
    have e3 : ¬ (if a &&& 7 = 4 ∨ a &&& 7 = 5 then (1 : Int32) else 0) = 0 := fun q => by rw [if_pos q] at e2; exact e2
    rw [if_neg e3, h3, ptrM_sub, if_neg (nI_in (Rd_L h s h1).2 (by omega)), nI_clamp (by have := (Rd_L h s h1).2; omega), (h.2.2.1 s h1).2.1, h2, hk]
    rcases hκ s with q | q <;> rw [q] <;> rfl
theorem Rd_isK (h : Rd S kn κ τ ρ φ L w v) {a : Int32} (ha : gv kn κ L a) : f_Md_isClosure (tr φ a) v = some (if a &&& 7 = 5 then 1 else 0, v) := by
  have hκ := h.2.1.2.1
  unfold f_Md_isClosure
  rw [Rd_thing h ha]
  simp only [Option.bind_some]
  rcases tr_lt hκ h.2.1.2.2.2.1 (Rd_L h) ha with ⟨q, r⟩ | ⟨s, h1, h2, h3⟩ | ⟨h1, h2⟩ | ⟨p, h1, h2, h3⟩ | ⟨s, h1, h2, h3⟩
  · rw [q]; rfl
  · have := h.2.1.2.2.2.1
    rw [h2, (kd_S (by omega)).1]; rfl
  · rw [h1]; rfl
  · rw [h2, (kd_P (by omega)).1]; rfl
  · have hk := (ptr_kind hκ (Rd_L h s h1).1).1
    have e2 : (if (if a &&& 7 = 4 ∨ a &&& 7 = 5 then (1 : Int32) else 0) = 0 then False else True) := by
      rw [h2, hk]
      rcases hκ s with q | q <;> rw [q] <;> decide
    have e3 : ¬ (if a &&& 7 = 4 ∨ a &&& 7 = 5 then (1 : Int32) else 0) = 0 := fun q => by rw [if_pos q] at e2; exact e2
    rw [if_neg e3, h3, ptrM_sub, if_neg (nI_in (Rd_L h s h1).2 (by omega)), nI_clamp (by have := (Rd_L h s h1).2; omega), (h.2.2.1 s h1).2.1, h2, hk]
    rcases hκ s with q | q <;> rw [q] <;> rfl
theorem Rd_isS (h : Rd S kn κ τ ρ φ L w v) {a : Int32} (ha : gv kn κ L a) : f_Md_isSymbol (tr φ a) v = some (if a &&& 7 = 1 then 1 else 0, v) := by
  have hκ := h.2.1.2.1
  unfold f_Md_isSymbol
  rcases tr_lt hκ h.2.1.2.2.2.1 (Rd_L h) ha with ⟨q, r⟩ | ⟨s, h1, h2, h3⟩ | ⟨h1, h2⟩ | ⟨p, h1, h2, h3⟩ | ⟨s, h1, h2, h3⟩
  · rw [if_pos (Int32.lt_trans r (by decide)), q, if_neg (by decide)]
  · have := h.2.1.2.2.2.1
    rw [h3, if_neg (show ¬ nI (536871000 + s) < 536871000 from q_nlt (b := 536871000) (by omega) (by omega)), if_neg (show ¬ 536872000 ≤ nI (536871000 + s) from q_nle (a := 536872000) (by omega) (by omega)), h2, (kd_S (by omega)).1, if_pos rfl]
  · rw [h2, h1, if_pos (by decide), if_neg (by decide)]
  · rw [h3, if_neg (show ¬ nI (536872000 + p) < 536871000 from q_nlt (b := 536871000) (by omega) (by omega)), if_pos (show 536872000 ≤ nI (536872000 + p) from q_le (a := 536872000) (by omega) (by omega)), h2, (kd_P (by omega)).1, if_neg (by decide)]
  · have := (Rd_L h s h1).2
    unfold ptrM at h3
    rw [h3, if_neg (show ¬ nI (536873000 + φ s) < 536871000 from q_nlt (b := 536871000) (by omega) (by omega)), if_pos (show 536872000 ≤ nI (536873000 + φ s) from q_le (a := 536872000) (by omega) (by omega)), h2, (ptr_kind hκ (Rd_L h s h1).1).1]
    rcases hκ s with q | q <;> rw [q, if_neg (by decide)]
theorem Rd_isN (h : Rd S kn κ τ ρ φ L w v) {a : Int32} (ha : gv kn κ L a) : f_Md_isNumber (tr φ a) v = some (if a &&& 7 = 0 then 1 else 0, v) := by
  have hκ := h.2.1.2.1
  unfold f_Md_isNumber
  by_cases q : a &&& 7 = 0
  · rw [tr_N q, if_neg (Int32.not_le.mpr (num_lt a)), if_pos q]
  · obtain ⟨k, k1, k2, k3, _⟩ := tr_rank hκ h.2.1.2.2.2.1 (Rd_L h) ha q
    rw [k3, if_pos (show 536870912 ≤ nI k from q_le (a := 536870912) k1 (by omega)), if_neg q]
theorem Rd_eq (h : Rd S kn κ τ ρ φ L w v) {a b : Int32} (ha : gv kn κ L a) (hb : gv kn κ L b) : (tr φ a = tr φ b) = (a = b) := tr_inj h.2.1.2.1 h.2.1.2.2.2.1 (Rd_L h) h.2.2.2 ha hb
theorem gv_2 : gv kn κ L 2 := Or.inr (Or.inr (Or.inl rfl))
theorem Rd_nil (h : Rd S kn κ τ ρ φ L w v) {a : Int32} (ha : gv kn κ L a) : (tr φ a = 536870912) = (a = 2) := by
  rw [← Rd_eq h ha gv_2, tr_2]
end
