/-! reading: the form's symbols are learned -/
def smL (w w1 : pm_W) : Prop := (∀ o, o ≠ 11 → w1.2 o = w.2 o) ∧ ∀ o, o ≠ 3 → o ≠ 12 → w1.1 o = w.1 o
theorem smL_rf {w : pm_W} : smL w w := ⟨fun _ _ => rfl, fun _ _ _ => rfl⟩
theorem smL_tr {a b c : pm_W} (h1 : smL a b) (h2 : smL b c) : smL a c := ⟨fun o ho => (h2.1 o ho).trans (h1.1 o ho), fun o x y => (h2.2 o x y).trans (h1.2 o x y)⟩
def NmX (kn : Nat) (nm : Nat → List Nat) : Prop := ∀ s, s < kn → nm s ≠ nilW
/-- the symbols of the pieces are known -/
def kno (n : Nat) (tx : Nat → Nat) (kn : Nat) (nm : Nat → List Nat) : Nat → Nat → Prop
  | 0, _ => True
  | P + 1, k => (wd (tx k) → isN tx k (nx n tx k) = true ∨ wl tx k (nx n tx k) = nilW ∨ ∃ j, j < kn ∧ nm j = wl tx k (nx n tx k)) ∧ kno n tx kn nm P (nx n tx k)
theorem wf_nx {n : Nat} {tx : Nat → Nat} {P k o : Nat} {q : Bool} {d e : Nat} (h : wf n tx (P + 1) k o q d e) : k < n ∧ ∃ o' q' d', wf n tx P (nx n tx k) o' q' d' e := by
  obtain ⟨hk, h⟩ := h
  refine ⟨hk, ?_⟩
  split at h
  · rename_i z
    exact ⟨_, _, _, by rw [nx_s (fun y => y.1 z)]; exact h⟩
  · split at h
    · rename_i z
      obtain ⟨_, d', _, h⟩ := h
      exact ⟨_, _, _, by rw [nx_s (fun y => y.2 (Or.inr (Or.inr z)))]; exact h⟩
    · split at h
      · rename_i z
        obtain ⟨_, d', _, h⟩ := h
        exact ⟨_, _, _, by rw [nx_s (fun y => y.2 (Or.inl z))]; exact h⟩
      · split at h
        · rename_i z
          obtain ⟨_, _, h⟩ := h
          exact ⟨_, _, _, by rw [nx_s (fun y => y.2 (Or.inr (Or.inl z)))]; exact h⟩
        · obtain ⟨d', _, h⟩ := h
          exact ⟨_, _, _, h⟩
def r0 : Nat → Int32 → Int32 → Int32 → pm_W → Option (Int32 × pm_W) := fun _ _ _ _ _ => none
theorem b122_r (rec : Nat → Int32 → Int32 → Int32 → pm_W → Option (Int32 × pm_W)) (s : Int32) (v : pm_W) : b_Md_reading_122 rec s v = b_Md_reading_122 r0 s v := by
  unfold b_Md_reading_122
  rfl
def K1 (v : pm_W) : Option (Int32 × pm_W) := Option.bind (f_Md_room (v.1 0 30) v) fun o9 => if o9.1 = 0 then b_Md_reading_122 r0 (-7) o9.2 else b_Md_reading_122 r0 1 o9.2
def K0 (v : pm_W) : Option (Int32 × pm_W) := b_Md_reading_122 r0 (-8) v
section
variable {S sz m dn n : Nat} {κ τ ρ φ : Nat → Nat} {L : List Nat} {tx : Nat → Nat}
theorem learn_w {kn : Nat} {nm : Nat → List Nat} {w v : pm_W} (h : RL S sz m kn dn κ τ ρ φ L w v) (hN : NmR kn nm w v) (hX : NmX kn nm) (hC : TxC n tx w) (hM : TxM n tx v) {k e : Nat} (hk : k < e) (he : e ≤ n) (hnum : isN tx k e = false) (hnil : wl tx k e ≠ nilW) : (∃ (w1 v1 : pm_W) (kn1 : Nat) (nm1 : Nat → List Nat), f_Symbols_learn S (lN (pkN (wl tx k e))) w = some (1, w1) ∧ f_Md_meet (nI k) (nI e) v = some (1, v1) ∧ RL S sz m kn1 dn κ τ ρ φ L w1 v1 ∧ NmR kn1 nm1 w1 v1 ∧ NmX kn1 nm1 ∧ kn ≤ kn1 ∧ (∀ i, i < kn → nm1 i = nm i) ∧ (∃ j, j < kn1 ∧ nm1 j = wl tx k e) ∧ smL w w1 ∧ smM v v1 [12] [10]) ∨ (f_Symbols_learn S (lN (pkN (wl tx k e))) w = some (0, w) ∧ f_Md_meet (nI k) (nI e) v = some (0, v)) := by
  have hkn := h.2.2.1.2.2.2.1
  obtain ⟨m1, m2, m3, m4⟩ := h.2.2.2.2.2.1
  obtain ⟨w0, w1, w2⟩ := wl_ok hC hk he
  have hfC := find_C (S := S) hN hkn m1 w1 w2
  have hfM := sym_M hM hC hN hkn m2 hk he
  obtain ⟨f1, f2, f3, f4⟩ := fd_ok (nm := nm) (l := wl tx k e) kn 0
  have hmeet : f_Md_meet (nI k) (nI e) v = if kn ≤ fd nm (wl tx k e) kn 0 then (if kn = 40 then some (0, v) else l_Md_meet pm_fuel 0 (nI k) (nI e) (nI 0) v) else some (1, v) := by
    unfold f_Md_meet
    rw [isN_M hM (by omega) hk he, hnum]
    simp only [Option.bind_some]
    rw [if_pos (show b2 false = 0 from rfl), nil_M hM hk he]
    simp only [Option.bind_some]
    rw [show decide (wl tx k e = nilW) = false by simp [hnil], if_pos (show b2 false = 0 from rfl), hfM]
    simp only [Option.bind_some]
    rw [m2]
    by_cases z : kn ≤ fd nm (wl tx k e) kn 0
    · rw [if_pos (q_le z (by omega)), if_pos z]
      by_cases y : kn = 40
      · rw [if_pos (show nI kn = 40 by rw [y]; rfl), if_pos y]
      · rw [if_neg (show ¬ nI kn = 40 from q_ne (b := 40) y (by omega) (by omega)), if_neg y]
        rfl
    · rw [if_neg (q_nle (by omega) (by omega)), if_neg z]
  by_cases z : fd nm (wl tx k e) kn 0 < kn
  · left
    refine ⟨w, v, kn, nm, ?_, by rw [hmeet, if_neg (by omega)], h, hN, hX, Nat.le_refl _, fun _ _ => rfl, ⟨_, z, f3 (by omega)⟩, smL_rf, smM_rf⟩
    unfold f_Symbols_learn
    rw [hfC, if_pos z]
    simp only [Option.bind_some]
    rw [if_neg (nI_pos (by omega))]
  · have hl : f_Symbols_learn S (lN (pkN (wl tx k e))) w = if kn < 40 then some (1, pm_setI (pm_setI (pm_setJ w 11 kn (lN (pkN (wl tx k e)))) 12 kn 6) 3 2 (nI (kn + 1))) else some (0, w) := by
      unfold f_Symbols_learn
      rw [hfC, if_neg z]
      simp only [Option.bind_some]
      rw [if_pos (by decide), m1]
      by_cases y : kn < 40
      · rw [if_pos (show nI kn < 40 from q_lt (b := 40) y (by omega)), if_neg (nI_in (by omega) (by omega)), if_neg (nI_in (by omega) (by omega)), nI_clamp (by omega), nI_1, if_pos y]
      · rw [if_neg (show ¬ nI kn < 40 from q_nlt (b := 40) (by omega) (by omega)), if_neg y]
    by_cases y : kn < 40
    · left
      obtain ⟨v1, a1, a2, a3, a4⟩ := meet_l (tx := tx) hk he y 8 0 (pm_fuel - 9) v (by omega) hM m2
      rw [show pm_fuel - 9 + 8 + 1 = pm_fuel from rfl] at a1
      have hsl : smL w (pm_setI (pm_setI (pm_setJ w 11 kn (lN (pkN (wl tx k e)))) 12 kn 6) 3 2 (nI (kn + 1))) := ⟨fun o ho => by
        funext j
        simp [pm_setI, pm_setJ, pm_up, ho], fun o h3 h12 => by
        rw [rdI_o _ h3, rdI_o _ h12]; rfl⟩
      refine ⟨_, v1, kn + 1, up1 nm kn (wl tx k e), by rw [hl, if_pos y], by rw [hmeet, if_pos (by omega), if_neg (by omega)]; exact a1, ?_, ?_, ?_, by omega, fun i hi => up1_n _ _ (by omega), ⟨kn, by omega, up1_s _ _ _⟩, hsl, a2⟩
      · refine RL_kn h y hsl.2 (rdI_s _ _ _ _) ?_ a2 a3
        rw [rdI_o _ (by decide)]
        funext j
        simp [pm_setI, pm_setJ, pm_up, up1]
      · intro s hs
        by_cases x : s = kn
        · subst x
          rw [up1_s]
          refine ⟨w0, w1, w2, ?_, fun q hq => ?_⟩
          · simp [pm_setI, pm_setJ, pm_up]
          · rw [a4, if_pos (by omega), show 8 * s + q - 8 * s = q by omega]
        · rw [up1_n _ _ x]
          obtain ⟨n0, n1, n2, n3, n4⟩ := hN s (by omega)
          refine ⟨n0, n1, n2, ?_, fun q hq => ?_⟩
          · rw [← n3]
            simp [pm_setI, pm_setJ, pm_up, x]
          · rw [a4, if_neg (by omega), n4 q hq]
      · intro s hs
        by_cases x : s = kn
        · subst x; rw [up1_s]; exact hnil
        · rw [up1_n _ _ x]; exact hX s (by omega)
    · right
      exact ⟨by rw [hl, if_neg y], by rw [hmeet, if_pos (by omega), if_pos (by omega)]⟩
/-- what learning gives -/
def LRo (S sz m dn n : Nat) (κ τ ρ φ : Nat → Nat) (L : List Nat) (tx : Nat → Nat) (P k kn : Nat) (nm : Nat → List Nat) (w v : pm_W) (rc rm : Option (Int32 × pm_W)) : Prop := ∃ (w1 v1 : pm_W) (kn1 : Nat) (nm1 : Nat → List Nat) (ok : Bool), rc = some (b2 ok, w1) ∧ rm = (if ok = true then K1 v1 else K0 v1) ∧ RL S sz m kn1 dn κ τ ρ φ L w1 v1 ∧ NmR kn1 nm1 w1 v1 ∧ NmX kn1 nm1 ∧ kn ≤ kn1 ∧ (∀ i, i < kn → nm1 i = nm i) ∧ smL w w1 ∧ smM v v1 [12] [10] ∧ (ok = true → kno n tx kn1 nm1 P k)
theorem LRo_tr {P k kn kn' : Nat} {nm nm' : Nat → List Nat} {w v w' v' : pm_W} {rc rm : Option (Int32 × pm_W)} (h : LRo S sz m dn n κ τ ρ φ L tx P (nx n tx k) kn' nm' w' v' rc rm) (h1 : kn ≤ kn') (h2 : ∀ i, i < kn → nm' i = nm i) (h3 : smL w w') (h4 : smM v v' [12] [10]) (h5 : wd (tx k) → isN tx k (nx n tx k) = true ∨ wl tx k (nx n tx k) = nilW ∨ ∃ j, j < kn' ∧ nm' j = wl tx k (nx n tx k)) : LRo S sz m dn n κ τ ρ φ L tx (P + 1) k kn nm w v rc rm := by
  obtain ⟨w1, v1, kn1, nm1, ok, a1, a2, a3, a4, a5, a6, a7, a8, a9, a10⟩ := h
  refine ⟨w1, v1, kn1, nm1, ok, a1, a2, a3, a4, a5, by omega, fun i hi => (a7 i (by omega)).trans (h2 i hi), smL_tr h3 a8, smM_tr h4 a9, fun z => ⟨fun y => ?_, a10 z⟩⟩
  rcases h5 y with q | q | ⟨j, q1, q2⟩
  · exact Or.inl q
  · exact Or.inr (Or.inl q)
  · exact Or.inr (Or.inr ⟨j, by omega, by rw [a7 j q1]; exact q2⟩)
theorem learn_l {e : Nat} : ∀ (P k o x4 f1 f2 kn d : Nat) (q : Bool) (nm : Nat → List Nat) (w v : pm_W), wf n tx P k o q d e → k ≤ n → x4 ≤ k → RL S sz m kn dn κ τ ρ φ L w v → NmR kn nm w v → NmX kn nm → TxC n tx w → TxM n tx v → w.1 7 3 = nI e → v.1 0 29 = nI e → LRo S sz m dn n κ τ ρ φ L tx P k kn nm w v (l_Reader_learnSymbols S (f1 + P + 1) 0 (nI k) (nI x4) w) (l_Md_reading (f2 + P + 1) 0 1 1 (nI (sk n tx k)) v) := by
  intro P
  induction P with
  | zero =>
    intro k o x4 f1 f2 kn d q nm w v hw hkn hx h hN hX hC hM h73 h29
    have hn := hC.1
    have ek : k = e := hw.1
    subst ek
    have hs := sk_le (tx := tx) hkn
    refine ⟨w, v, kn, nm, true, ?_, ?_, h, hN, hX, Nat.le_refl _, fun _ _ => rfl, smL_rf, smM_rf, fun _ => trivial⟩
    · rw [l_Reader_learnSymbols_s]
      unfold b_Reader_learnSymbols_4
      rw [h73, if_pos (Int32.le_refl _)]
      by_cases z : (120 : Int32) ≤ nI x4
      · rw [if_pos z]; rfl
      · rw [if_neg z]; rfl
    · rw [l_Md_reading_s, if_pos rfl]
      unfold b_Md_reading_32 K1
      rw [h29, if_pos (q_le hs.1 (by omega)), if_pos (by decide), if_neg (by decide)]
      simp only [b122_r (l_Md_reading f2)]
  | succ P ih =>
    intro k o x4 f1 f2 kn d q nm w v hw hkn hx h hN hX hC hM h73 h29
    have hn := hC.1
    have hke := wf_pos hw
    obtain ⟨hk, o', q', d', hw'⟩ := wf_nx hw
    obtain ⟨x1, x2⟩ := nx_le (tx := tx) hk
    have hle := wf_le _ _ _ _ _ _ hw' x2
    have hc := ch_lt (hC.2.2 k hk).1
    have tM := (hM.2.2 k hk).2
    have eC : l_Reader_learnSymbols S (f1 + (P + 1) + 1) 0 (nI k) (nI x4) w = (if b2 (decide (wd (tx k)) && !(isN tx k (nx n tx k)) && !(decide (wl tx k (nx n tx k) = nilW))) = 0 then l_Reader_learnSymbols S (f1 + P + 1) 0 (nI (nx n tx k)) (nI (x4 + 1)) w else Option.bind (f_Symbols_learn S (lN (pkN (wl tx k (nx n tx k)))) w) fun o7 => if o7.1 = 0 then some (0, o7.2) else l_Reader_learnSymbols S (f1 + P + 1) 0 (nI (nx n tx k)) (nI (x4 + 1)) o7.2) := by
      rw [show f1 + (P + 1) + 1 = (f1 + P + 1) + 1 by omega, l_Reader_learnSymbols_s]
      unfold b_Reader_learnSymbols_4
      rw [if_neg (show ¬ (120 : Int32) ≤ nI x4 from q_nle (a := 120) (by omega) (by omega)), h73, if_neg (q_nle hke (by omega)), piece_C hC hk]
      simp only [Option.bind_some]
      rw [sym_C hC x1 x2]
      simp only [Option.bind_some]
      rw [name_C hC (by omega) x2]
      simp only [Option.bind_some]
      rw [nI_1]
    by_cases hwd : wd (tx k)
    · -- a word
      have eM : l_Md_reading (f2 + (P + 1) + 1) 0 1 1 (nI (sk n tx k)) v = Option.bind (f_Md_meet (nI k) (nI (nx n tx k)) v) fun o22 => (if o22.1 = 0 then (Option.bind (f_Md_tokenEnd (nI k) o22.2) fun o24 => Option.bind (f_Md_skip o24.1 o24.2) fun o25 => l_Md_reading (f2 + P + 1) 0 1 0 o25.1 o25.2) else Option.bind (f_Md_tokenEnd (nI k) o22.2) fun o26 => Option.bind (f_Md_skip o26.1 o26.2) fun o27 => l_Md_reading (f2 + P + 1) 0 1 1 o27.1 o27.2) := by
        rw [sk_n hk hwd.1, show f2 + (P + 1) + 1 = (f2 + P + 1) + 1 by omega, l_Md_reading_s]
        unfold b_Md_reading_32
        rw [h29, if_neg (q_nle hke (by omega)), if_neg (show ¬ (1 : Int32) = 0 by decide), if_neg (nI_in (by omega) (by omega)), nI_clamp (by omega), tM, sign_M hc]
        simp only [Option.bind_some]
        rw [if_neg hwd.2, if_pos rfl, token_M hM hk hwd.1]
        simp only [Option.bind_some]
      have cont : ∀ v1, TxM n tx v1 → (Option.bind (f_Md_tokenEnd (nI k) v1) fun o26 => Option.bind (f_Md_skip o26.1 o26.2) fun o27 => l_Md_reading (f2 + P + 1) 0 1 1 o27.1 o27.2) = l_Md_reading (f2 + P + 1) 0 1 1 (nI (sk n tx (nx n tx k))) v1 := fun v1 hM1 => by
        rw [token_M hM1 hk hwd.1]
        simp only [Option.bind_some]
        rw [skip_M hM1 x2]
        rfl
      by_cases hsy : isN tx k (nx n tx k) = false ∧ wl tx k (nx n tx k) ≠ nilW
      · obtain ⟨y1, y2⟩ := hsy
        have hb : b2 (decide (wd (tx k)) && !(isN tx k (nx n tx k)) && !(decide (wl tx k (nx n tx k) = nilW))) = 1 := by
          rw [y1, decide_eq_true hwd, decide_eq_false y2]; rfl
        rw [eC, eM, hb, if_neg (by decide)]
        rcases learn_w h hN hX hC hM x1 x2 y1 y2 with ⟨w1, v1, kn1, nm1, a1, a2, a3, a4, a5, a6, a7, a8, a9, a10⟩ | ⟨a1, a2⟩
        · rw [a1, a2]
          simp only [Option.bind_some]
          have hM1 : TxM n tx v1 := TxM_sm hM (a10.2.1 20 (by decide)) (a10.2.2 12 (by decide) (by decide))
          rw [if_neg (by decide), if_neg (by decide), cont v1 hM1]
          exact LRo_tr (ih (nx n tx k) o' (x4 + 1) f1 f2 kn1 d' q' nm1 w1 v1 hw' x2 (by omega) a3 a4 a5 (TxC_sm hC (a9.2 1 (by decide) (by decide)) (a9.2 9 (by decide) (by decide))) hM1 (by rw [a9.2 7 (by decide) (by decide)]; exact h73) (by rw [a10.2.1 29 (by decide)]; exact h29)) a6 a7 a9 a10 (fun _ => Or.inr (Or.inr a8))
        · rw [a1, a2]
          simp only [Option.bind_some]
          rw [if_pos trivial, if_pos trivial, token_M hM hk hwd.1]
          simp only [Option.bind_some]
          rw [skip_M hM x2]
          simp only [Option.bind_some]
          refine ⟨w, v, kn, nm, false, rfl, ?_, h, hN, hX, Nat.le_refl _, fun _ _ => rfl, smL_rf, smM_rf, fun z => absurd z (by decide)⟩
          rw [l_Md_reading_s, if_neg (by decide)]
          unfold b_Md_reading_32 K0
          simp only [b122_r (l_Md_reading (f2 + P))]
          rw [if_pos trivial]
          simp
      · have hb : b2 (decide (wd (tx k)) && !(isN tx k (nx n tx k)) && !(decide (wl tx k (nx n tx k) = nilW))) = 0 := by
          cases y : isN tx k (nx n tx k) with
          | true => simp [b2]
          | false =>
            have y2 : wl tx k (nx n tx k) = nilW := by
              apply Classical.byContradiction
              intro z
              exact hsy ⟨y, z⟩
            rw [decide_eq_true y2]
            simp [b2]
        have hme : f_Md_meet (nI k) (nI (nx n tx k)) v = some (1, v) := by
          unfold f_Md_meet
          rw [isN_M hM hk x1 x2]
          simp only [Option.bind_some]
          cases y : isN tx k (nx n tx k) with
          | true => rw [if_neg (show ¬ b2 true = 0 by decide)]
          | false =>
            have y2 : wl tx k (nx n tx k) = nilW := by
              apply Classical.byContradiction
              intro z
              exact hsy ⟨y, z⟩
            rw [if_pos (show b2 false = 0 from rfl), nil_M hM x1 x2, decide_eq_true y2]
            simp only [Option.bind_some]
            rw [if_neg (show ¬ b2 true = 0 by decide)]
        rw [eC, eM, hb, if_pos rfl, hme]
        simp only [Option.bind_some]
        rw [if_neg (by decide), cont v hM]
        refine LRo_tr (ih (nx n tx k) o' (x4 + 1) f1 f2 kn d' q' nm w v hw' x2 (by omega) h hN hX hC hM h73 h29) (Nat.le_refl _) (fun _ _ => rfl) smL_rf smM_rf (fun _ => ?_)
        cases y : isN tx k (nx n tx k) with
        | true => exact Or.inl rfl
        | false =>
          refine Or.inr (Or.inl ?_)
          apply Classical.byContradiction
          intro z
          exact hsy ⟨y, z⟩
    · have hb : b2 (decide (wd (tx k)) && !(isN tx k (nx n tx k)) && !(decide (wl tx k (nx n tx k) = nilW))) = 0 := by
        rw [decide_eq_false hwd]; rfl
      rw [eC, hb, if_pos rfl]
      have eM : ∃ f, l_Md_reading (f2 + (P + 1) + 1) 0 1 1 (nI (sk n tx k)) v = l_Md_reading (f + P + 1) 0 1 1 (nI (sk n tx (nx n tx k))) v := by
        by_cases hb : bl (tx k)
        · exact ⟨f2 + 1, by rw [sk_b hk hb, nx_s hwd, show f2 + (P + 1) + 1 = f2 + 1 + P + 1 by omega]⟩
        · have hs : sg (tx k) := by
            apply Classical.byContradiction
            intro z
            exact hwd ⟨hb, z⟩
          refine ⟨f2, ?_⟩
          rw [sk_n hk hb, show f2 + (P + 1) + 1 = (f2 + P + 1) + 1 by omega, l_Md_reading_s]
          unfold b_Md_reading_32
          rw [h29, if_neg (q_nle hke (by omega)), if_neg (show ¬ (1 : Int32) = 0 by decide), if_neg (nI_in (by omega) (by omega)), nI_clamp (by omega), tM, sign_M hc]
          simp only [Option.bind_some]
          rw [if_pos hs, if_neg (by decide), token_M hM hk hb]
          simp only [Option.bind_some]
          rw [skip_M hM x2]
          rfl
      obtain ⟨f, eM⟩ := eM
      rw [eM]
      exact LRo_tr (ih (nx n tx k) o' (x4 + 1) f1 f kn d' q' nm w v hw' x2 (by omega) h hN hX hC hM h73 h29) (Nat.le_refl _) (fun _ _ => rfl) smL_rf smM_rf (fun z => absurd z hwd)
end
