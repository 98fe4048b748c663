/-! all together -/
theorem nm0_ok : ∀ s, s < 16 → nm0 s ≠ [] ∧ (nm0 s).length ≤ 8 ∧ (∀ c ∈ nm0 s, 0 < c ∧ c < 256) ∧ nm0 s ≠ nilW := by decide +kernel
theorem start {S sz : Nat} {wY wR vM : pm_W} (hS : S = sz / 2) (h20 : 20 ≤ sz) (h400 : sz ≤ 400) (hY : okY wY) (r0 : wR.1 0 0 = nI sz) (r1 : wR.1 0 1 = nI S) (r9 : wR.1 0 9 = nI S) (r10 : wR.1 0 10 = 0) (r6 : ∀ j, j < S → wR.1 6 j = nI j) (r4 : ∀ j, wR.1 4 j = 0) (m0 : ∀ k, k ∉ [1, 12, 15, 16] → vM.1 0 k = 0) (m1 : vM.1 0 1 = nI sz) (m2 : vM.1 0 12 = nI 16) (m3 : vM.1 0 15 = 536870912) (m4 : vM.1 0 16 = 536870912) (m5 : ∀ s, s < 16 → ∀ q, q < 8 → vM.1 10 (8 * s + q) = nI ((nm0 s).getD q 0)) (m6 : ∀ j, j < 40 → vM.1 11 j = if j < 10 then nI (536872000 + j) else if j = 15 then 536871015 else -2147483648) (m7 : ∀ t, vM.1 1 t = 0) : ST S sz (w0C wY wR) vM := by
  have z5 : (w0C wY wR).1 5 = wR.1 0 := rfl
  have z20 : (w0C wY wR).1 20 = wR.1 4 := rfl
  have z22 : (w0C wY wR).1 22 = wR.1 6 := rfl
  have z3 : (w0C wY wR).1 3 = wY.1 0 := rfl
  have z12 : (w0C wY wR).1 12 = wY.1 2 := rfl
  have z4 : (w0C wY wR).1 4 = (pm_setI (pm_setI pm_0 0 0 2) 0 1 2).1 0 := rfl
  have h40 : (w0C wY wR).1 4 0 = 2 := by rw [z4, rdI_n _ (Or.inr (by decide)), rdI_s]
  have h41 : (w0C wY wR).1 4 1 = 2 := by rw [z4, rdI_s]
  have h43 : (w0C wY wR).1 4 3 = 0 := by rw [z4, rdI_n _ (Or.inr (by decide)), rdI_n _ (Or.inr (by decide))]; rfl
  refine Or.inr ⟨16, fun _ => 2, fun _ => 0, fun _ => 0, fun _ => 0, [], nm0, 0, fun _ => 0, [], RL_idle (m := 0) ⟨?_, ?_, ?_, ?_, ?_⟩ h40 h41 h43 (m0 11 (by decide)) m3 m4, ⟨?_, ?_, ?_, ?_, ?_, fun s hs => (nm0_ok s hs).2.2.2, by omega, ?_⟩, rfl, m0 17 (by decide), h40, h41⟩
  · refine ⟨⟨h20, h400, hS⟩, by rw [z5]; exact r0, by rw [z5]; exact r1, fun s _ => by rw [z20]; exact r4 s, 0, List.range S, by rw [z5]; exact r10, by rw [z5, List.length_range]; exact r9, fun j hj => ?_, List.nodup_range, fun s hs => ⟨List.mem_range.mp hs, List.not_mem_nil⟩, Nat.zero_le _, by rw [List.length_range]; omega, by omega⟩
    rw [List.length_range] at hj
    rw [z22, List.getElem_range, r6 j hj]
  · refine ⟨m1, fun s hs => absurd hs List.not_mem_nil, fun s hs => absurd hs List.not_mem_nil, ?_⟩
    have : cnt vM = sumTo (fun _ => 0) 206 := by
      unfold cnt
      refine sumTo_cg 206 (fun t ht => ?_)
      rw [if_pos (m7 t)]
    have h0 : sumTo (fun _ => 0) 206 = 0 := by decide +kernel
    omega
  · exact ⟨List.nodup_nil, fun _ => Or.inl rfl, by omega, by omega, fun s hs => absurd hs List.not_mem_nil⟩
  · refine ⟨by rw [z3]; exact hY.1, m2, fun i hi => ?_, fun i h1 h2 => ?_⟩
    · rw [z12, (hY.2 i hi).1, m6 i (by omega)]
      unfold gl0
      by_cases y : i < 10
      · rw [if_pos y, if_pos y, tr_P (by omega)]
      · rw [if_neg y, if_neg y]
        by_cases x : i = 15
        · rw [if_pos x, if_pos x, tr_S (by omega)]
          rfl
        · rw [if_neg x, if_neg x, tr_6]
    · rw [m6 i h2, if_neg (by omega), if_neg (by omega)]
  · intro i hi
    rw [z12, (hY.2 i hi).1]
    unfold gl0
    by_cases y : i < 10
    · rw [if_pos y]
      exact Or.inr (Or.inr (Or.inr (Or.inr (Or.inl ⟨i, y, rfl⟩))))
    · rw [if_neg y]
      by_cases x : i = 15
      · rw [if_pos x]
        exact Or.inr (Or.inr (Or.inl ⟨15, by omega, rfl⟩))
      · rw [if_neg x]
        exact Or.inl rfl
  · exact ⟨by omega, rfl, fun i hi => absurd hi (by omega)⟩
  · exact ⟨by omega, m0 20 (by decide), fun i hi => absurd hi (by omega)⟩
  · exact ⟨by simp, rfl, fun i hi => absurd hi (by simp)⟩
  · exact ⟨by simp, m0 22 (by decide), fun i hi => absurd hi (by simp)⟩
  · intro s hs
    obtain ⟨n0, n1, n2, n3⟩ := nm0_ok s hs
    exact ⟨n0, n1, n2, (hY.2 s hs).2, m5 s hs⟩
  · rw [m0 19 (by decide)]
    rfl
theorem pure_1 : Pure_1 := by
  intro x1
  -- the room's size
  have hsz : ∃ sz, 20 ≤ sz ∧ sz ≤ 400 ∧ (if (20 : Int32) < (if (400 : Int32) < x1 then 400 else x1) then (if (400 : Int32) < x1 then 400 else x1) else 20) = nI sz ∧ ∀ w, f_Md_init x1 w = l_Md_init pm_fuel 0 0 (pm_setI w 0 1 (nI sz)) := by
    by_cases z1 : (20 : Int32) ≤ x1
    · by_cases z2 : x1 ≤ 400
      · obtain ⟨N, n1, n2⟩ := nI_of2 (M := 400) (n := 400) (by decide) (x := x1) (fun q => Int32.lt_irrefl (Int32.lt_of_lt_of_le (Int32.lt_of_lt_of_le q (show (0 : Int32) ≤ 20 by decide)) z1)) z2
        subst n2
        have hN : 20 ≤ N := by
          have h := z1
          rw [show (20 : Int32) = nI 20 from rfl, z_le (by omega) (by omega)] at h
          exact h
        refine ⟨N, hN, n1, ?_, fun w => ?_⟩
        · rw [if_neg (show ¬ (400 : Int32) < nI N from q_nlt (a := 400) n1 (by omega))]
          by_cases y : N = 20
          · subst y; rfl
          · rw [if_pos (show (20 : Int32) < nI N from q_lt (a := 20) (by omega) (by omega))]
        · unfold f_Md_init
          rw [if_pos z1, if_pos z2]
      · refine ⟨400, by omega, by omega, ?_, fun w => ?_⟩
        · rw [if_pos (Int32.not_le.mp z2), if_pos (by decide)]
          rfl
        · unfold f_Md_init
          rw [if_pos z1, if_neg z2]
          rfl
    · have z3 : x1 < 20 := Int32.not_le.mp z1
      refine ⟨20, by omega, by omega, ?_, fun w => ?_⟩
      · rw [if_neg (show ¬ (400 : Int32) < x1 from fun q => Int32.lt_irrefl (Int32.lt_trans (Int32.lt_trans q z3) (by decide))), if_neg (show ¬ (20 : Int32) < x1 from fun q => Int32.lt_irrefl (Int32.lt_trans q z3))]
        rfl
      · unfold f_Md_init
        rw [if_neg z1]
        rfl
  obtain ⟨sz, s1, s2, s3, s4⟩ := hsz
  obtain ⟨wY, y1, y2⟩ := iY
  obtain ⟨vM, v1, v2, v3, v4, v5, v6, v7, v8, v9⟩ := initM sz
  obtain ⟨wR, r1, r2, r3, r4, r5⟩ := roomI_l (S := sz / 2) (by omega) (sz / 2) 0 (pm_fuel - (sz / 2 + 1)) (pm_setI (pm_setI pm_0 0 0 (nI sz)) 0 1 (nI (sz / 2))) (by omega) (rdI_s _ _ _ _)
  rw [fuel_s _ (by omega)] at r1
  refine ⟨sz / 2, nI sz, wY, wR, vM, ST (sz / 2) sz, s3, ?_, by omega, y1, r1, by rw [s4]; exact v1, ?_, sim_all _ _⟩
  · rw [show (2 : Int32) = nI 2 from rfl, pk_div (by omega) (by omega) (by omega), if_pos (show (0 : Int32) < nI (sz / 2) from q_lt (a := 0) (by omega) (by omega))]
  · refine start rfl s1 s2 y2 ?_ ?_ r2 ?_ (fun j hj => ?_) (fun j => ?_) v2 v3 v4 v5 v6 v7 v8 v9
    · rw [r4 0 (by decide), rdI_n _ (Or.inr (by decide)), rdI_s]
    · rw [r4 1 (by decide), rdI_s]
    · rw [r4 10 (by decide), rdI_n _ (Or.inr (by decide)), rdI_n _ (Or.inr (by decide))]; rfl
    · rw [r3 j, if_pos (by omega)]
    · rw [r5 4 (by decide) (by decide), rdI_n _ (Or.inl (by decide)), rdI_n _ (Or.inl (by decide))]; rfl
theorem i_vc : Claimed_1_1 ∧ Claimed_1_2 := i_vc_open pure_1
