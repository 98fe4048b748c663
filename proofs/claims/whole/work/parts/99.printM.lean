/-! printing: the reference's loop -/
def stk (kn : Nat) (κ φ : Nat → Nat) (L : List Nat) (v : pm_W) : List (Int32 × Nat) → Prop
  | [] => True
  | p :: r => v.1 17 (r.length + 1) = tr φ p.1 ∧ v.1 18 (r.length + 1) = nI p.2 ∧ gv kn κ L p.1 ∧ p.2 ≤ 40 ∧ stk kn κ φ L v r
def rem (nm : Nat → List Nat) (g h : Nat → Int32) : List (Int32 × Nat) → List Nat
  | [] => []
  | p :: r => lt (pt nm g h (16 - (r.length + 1))) (pl nm) g h (40 - p.2) (p.2 == 0) p.1 ++ rem nm g h r
section
variable {S kn : Nat} {κ τ ρ φ : Nat → Nat} {L : List Nat} {w0 v0 : pm_W} {nm : Nat → List Nat}
theorem stk_cg {v v1 : pm_W} : ∀ (st : List (Int32 × Nat)), stk kn κ φ L v st → (∀ j, j ≤ st.length → v1.1 17 j = v.1 17 j ∧ v1.1 18 j = v.1 18 j) → stk kn κ φ L v1 st := by
  intro st
  induction st with
  | nil => intro _ _; trivial
  | cons p r ih =>
    intro h hj
    obtain ⟨h1, h2, h3, h4, h5⟩ := h
    have := hj (r.length + 1) (by simp)
    exact ⟨by rw [this.1]; exact h1, by rw [this.2]; exact h2, h3, h4, ih h5 (fun j q => hj j (by simp only [List.length_cons]; omega))⟩
theorem stk_sm {v v1 : pm_W} {st : List (Int32 × Nat)} (h : stk kn κ φ L v st) (hs : smM v v1 [22] [13]) : stk kn κ φ L v1 st := stk_cg st h (fun j _ => by rw [hs.2.2 17 (by decide) (by decide), hs.2.2 18 (by decide) (by decide)]; exact ⟨rfl, rfl⟩)
theorem ap_grow {O T : List Nat} (h : T ≠ []) : min 200 (O.length + 1) ≤ (ap O T).length := by
  unfold ap
  rw [List.length_take, List.length_append]
  have : 0 < T.length := List.length_pos_iff.mpr h
  omega
/-- begin: something of the text is written, the rest is on the stack -/
theorem begin_M (R : Rd S kn κ τ ρ φ L w0 v0) (hN : NmR kn nm w0 v0) (h16 : 16 ≤ kn) {a : Int32} (ha : gv kn κ L a) {v : pm_W} {O : List Nat} {st : List (Int32 × Nat)} (hv : smM v0 v [22] [13, 17, 18]) (hO : oM O v) (hs : stk kn κ φ L v st) (hd : st.length ≤ 16) : ∃ (v1 : pm_W) (O1 : List Nat) (st1 : List (Int32 × Nat)), f_Md_begin (tr φ a) (nI st.length) v = some (nI st1.length, v1) ∧ smM v0 v1 [22] [13, 17, 18] ∧ oM O1 v1 ∧ stk kn κ φ L v1 st1 ∧ st1.length ≤ 16 ∧ min 200 (O.length + 1) ≤ O1.length ∧ ap O1 (rem nm (w0.1 17) (w0.1 18) st1) = ap O (pt nm (w0.1 17) (w0.1 18) (16 - st.length) a ++ rem nm (w0.1 17) (w0.1 18) st) := by
  have hb : ∀ v, smM v0 v [22] [13, 17, 18] → f_Md_isPair (tr φ a) v = some (if a &&& 7 = 4 then 1 else 0, v) := fun v hv => Rd_isP (Rd_sm R hv) ha
  by_cases q : a &&& 7 = 4
  · by_cases h6 : st.length = 16
    · obtain ⟨v1, a1, a2, a3⟩ := prM_dots (v0 := v0) O v hv hO
      have hv1 := smM_tr hv (smM_wk (os2 := [13, 17, 18]) a3 (by decide))
      refine ⟨v1, _, st, ?_, hv1, a2, stk_sm hs a3, hd, ap_grow (by simp), ?_⟩
      · unfold f_Md_begin b_Md_begin_35
        rw [hb v hv]
        simp only [Option.bind_some]
        rw [if_pos q, if_neg (by decide), if_pos (show nI st.length = 16 by rw [h6]; rfl), a1]
        simp only [Option.bind_some]
        rw [hb v1 hv1]
        simp only [Option.bind_some]
        rw [if_pos q, if_neg (by decide), if_pos (show nI st.length = 16 by rw [h6]; rfl)]
      · rw [ap_ap, h6]
        show _ = ap O ((if a &&& 7 = 4 then _ else _) ++ _)
        rw [if_pos q]
    · obtain ⟨v1, a1, a2, a3⟩ := prM_put (v0 := v0) (c := 40) (by decide) O v hv hO
      have hv1 := smM_tr hv (smM_wk (os2 := [13, 17, 18]) a3 (by decide))
      have n16 : ¬ nI st.length = 16 := q_ne (b := 16) h6 (by omega) (by omega)
      have hin : ¬ (nI (st.length + 1) < 0 ∨ 18 ≤ (nI (st.length + 1)).toNatClampNeg) := nI_in (by omega) (by omega)
      refine ⟨pm_setI (pm_setI v1 17 (st.length + 1) (tr φ a)) 18 (st.length + 1) 0, ap O [40], (a, 0) :: st, ?_, smM_a (smM_a hv1 (by decide) (by decide)) (by decide) (by decide), ?_, ?_, by simp only [List.length_cons]; omega, ap_grow (by simp), ?_⟩
      · unfold f_Md_begin b_Md_begin_35
        rw [hb v hv]
        simp only [Option.bind_some]
        rw [if_pos q, if_neg (by decide), if_neg n16, show f_Md_put 40 v = some v1 from a1]
        simp only [Option.bind_some]
        rw [hb v1 hv1]
        simp only [Option.bind_some]
        rw [if_pos q, if_neg (by decide), if_neg n16, nI_1, if_neg hin, if_neg hin, nI_clamp (by omega)]
        rfl
      · obtain ⟨b1, b2, b3⟩ := a2
        refine ⟨b1, ?_, fun i hi => ?_⟩
        · rw [rdI_n _ (Or.inl (by decide)), rdI_n _ (Or.inl (by decide))]; exact b2
        · rw [rdI_n _ (Or.inl (by decide)), rdI_n _ (Or.inl (by decide))]; exact b3 i hi
      · refine ⟨?_, ?_, ha, by omega, stk_cg st (stk_sm hs a3) (fun j hj => ?_)⟩
        · rw [rdI_n _ (Or.inl (by decide)), rdI_s]
        · rw [rdI_s]; rfl
        · constructor
          · rw [rdI_n _ (Or.inl (by decide)), rdI_n _ (Or.inr (by omega))]
          · rw [rdI_n _ (Or.inr (by omega)), rdI_n _ (Or.inl (by decide))]
      · rw [ap_ap]
        have e : pt nm (w0.1 17) (w0.1 18) (16 - st.length) a = 40 :: lt (pt nm (w0.1 17) (w0.1 18) (16 - (st.length + 1))) (pl nm) (w0.1 17) (w0.1 18) 40 true a := by
          rw [show 16 - st.length = (16 - (st.length + 1)) + 1 by omega]
          show (if a &&& 7 = 4 then _ else _) = _
          rw [if_pos q]
        rw [e]
        rfl
  · obtain ⟨v1, a1, a2, a3⟩ := prM_pl R hN h16 ha q O v hv hO
    have hv1 := smM_tr hv (smM_wk (os2 := [13, 17, 18]) a3 (by decide))
    refine ⟨v1, _, st, ?_, hv1, a2, stk_sm hs a3, hd, ap_grow (pl_ne R hN h16 ha), ?_⟩
    · unfold f_Md_begin b_Md_begin_35
      rw [hb v hv]
      simp only [Option.bind_some]
      rw [if_neg q, if_pos rfl, a1]
      simp only [Option.bind_some]
      rw [hb v1 hv1]
      simp only [Option.bind_some]
      rw [if_neg q, if_pos rfl]
    · rw [ap_ap, pt_n q]
/-- the end of a list, as the reference prints it -/
theorem prM_85 (R : Rd S kn κ τ ρ φ L w0 v0) (hN : NmR kn nm w0 v0) (h16 : 16 ≤ kn) {a : Int32} (ha : gv kn κ L a) {v : pm_W} {O : List Nat} {d : Nat} (hv : smM v0 v [22] [13, 17, 18]) (hO : oM O v) : ∃ v1, (if a = 2 then b_Md_further_85 (nI (d + 1)) (tr φ a) v else Option.bind (f_Md_put (nI 32) v) fun o => b_Md_further_85 (nI (d + 1)) (tr φ a) o) = some (nI d, v1) ∧ oM (ap O (ltE (pl nm) a)) v1 ∧ smM v v1 [22] [13] := by
  have hb : ∀ v, smM v0 v [22] [13, 17, 18] → f_Md_isPair (tr φ a) v = some (if a &&& 7 = 4 then 1 else 0, v) := fun v hv => Rd_isP (Rd_sm R hv) ha
  have key : ∀ (f : pm_W → Option pm_W) (T : List Nat), prM v0 f T → (∀ v, smM v0 v [22] [13, 17, 18] → (if a = 2 then b_Md_further_85 (nI (d + 1)) (tr φ a) v else Option.bind (f_Md_put (nI 32) v) fun o => b_Md_further_85 (nI (d + 1)) (tr φ a) o) = Option.bind (f v) fun o => some (nI d, o)) → ltE (pl nm) a = T → ∃ v1, (if a = 2 then b_Md_further_85 (nI (d + 1)) (tr φ a) v else Option.bind (f_Md_put (nI 32) v) fun o => b_Md_further_85 (nI (d + 1)) (tr φ a) o) = some (nI d, v1) ∧ oM (ap O (ltE (pl nm) a)) v1 ∧ smM v v1 [22] [13] := by
    intro f T hf he hT
    obtain ⟨v1, a1, a2, a3⟩ := hf O v hv hO
    refine ⟨v1, ?_, by rw [hT]; exact a2, a3⟩
    rw [he v hv, a1]
    rfl
  have put_sm : ∀ {v v1 : pm_W}, smM v0 v [22] [13, 17, 18] → f_Md_put (nI 32) v = some v1 → smM v0 v1 [22] [13, 17, 18] := fun {v v1} h1 h2 => by
    unfold f_Md_put at h2
    split at h2
    · rw [← Option.some.inj h2]; exact h1
    · split at h2
      · exact absurd h2 (by simp)
      · rw [← Option.some.inj h2]
        exact smM_f (smM_a h1 (by decide) (by decide)) (by decide)
  by_cases q2 : a = 2
  · refine key (f_Md_put (nI 41)) [41] (prM_put (by decide)) (fun v hv => ?_) (by rw [q2]; rfl)
    rw [if_pos q2]
    unfold b_Md_further_85
    rw [hb v hv]
    simp only [Option.bind_some]
    rw [if_neg (show ¬ a &&& 7 = 4 by rw [q2]; decide), if_pos rfl, if_pos (by rw [q2, tr_2]), sub_1]
    rfl
  · by_cases q : a &&& 7 = 4
    · refine key (fun v => Option.bind (f_Md_put (nI 32) v) fun o => Option.bind (f_Md_putDots o) fun o => f_Md_put (nI 41) o) [32, 46, 46, 46, 41] (prM_bind (T := [32]) (prM_put (by decide)) (prM_bind (T := [46, 46, 46]) prM_dots (prM_put (by decide)))) (fun v hv => ?_) (by unfold ltE; rw [if_pos q])
      rw [if_neg q2]
      cases e : f_Md_put (nI 32) v with
      | none => rfl
      | some v1 =>
        simp only [Option.bind_some]
        unfold b_Md_further_85
        rw [hb v1 (put_sm hv e)]
        simp only [Option.bind_some]
        rw [if_pos q, if_neg (by decide), sub_1]
        cases f_Md_putDots v1 <;> rfl
    · refine key (fun v => Option.bind (f_Md_put (nI 32) v) fun o => Option.bind (f_Md_put (nI 46) o) fun o => Option.bind (f_Md_put (nI 32) o) fun o => Option.bind (f_Md_putPlain (tr φ a) o) fun o => f_Md_put (nI 41) o) ([32] ++ ([46] ++ ([32] ++ (pl nm a ++ [41])))) (prM_bind (prM_put (by decide)) (prM_bind (prM_put (by decide)) (prM_bind (prM_put (by decide)) (prM_bind (prM_pl R hN h16 ha q) (prM_put (by decide)))))) (fun v hv => ?_) (by unfold ltE; rw [if_neg q, if_neg q2]; simp)
      rw [if_neg q2]
      cases e : f_Md_put (nI 32) v with
      | none => rfl
      | some v1 =>
        simp only [Option.bind_some]
        unfold b_Md_further_85
        rw [hb v1 (put_sm hv e)]
        simp only [Option.bind_some]
        rw [if_neg q, if_pos rfl, if_neg (fun z => q2 ((Rd_nil R ha).mp z)), sub_1]
        show (Option.bind (f_Md_put (nI 46) v1) fun o29 => Option.bind (f_Md_put (nI 32) o29) fun o30 => Option.bind (f_Md_putPlain (tr φ a) o30) fun o31 => Option.bind (f_Md_put (nI 41) o31) fun o32 => some (nI d, o32)) = _
        cases f_Md_put (nI 46) v1 with
        | none => rfl
        | some v2 =>
          simp only [Option.bind_some]
          cases f_Md_put (nI 32) v2 with
          | none => rfl
          | some v3 =>
            simp only [Option.bind_some]
            cases f_Md_putPlain (tr φ a) v3 <;> rfl
theorem lt_E {f p : Int32 → List Nat} {g h : Nat → Int32} {k : Nat} {b : Bool} {a : Int32} (hk : k = 0 ∨ ¬ a &&& 7 = 4) : lt f p g h k b a = ltE p a := by
  cases k with
  | zero => rfl
  | succ k =>
    show (if a &&& 7 = 4 then _ else _) = _
    rcases hk with q | q
    · omega
    · rw [if_neg q]
theorem ltE_ne {p : Int32 → List Nat} {a : Int32} : ltE p a ≠ [] := by
  unfold ltE
  split
  · simp
  · split
    · simp
    · simp
/-- one round of the reference's loop -/
theorem further_M (R : Rd S kn κ τ ρ φ L w0 v0) (hN : NmR kn nm w0 v0) (h16 : 16 ≤ kn) {a : Int32} {t : Nat} {v : pm_W} {O : List Nat} {st : List (Int32 × Nat)} (hv : smM v0 v [22] [13, 17, 18]) (hO : oM O v) (hs : stk kn κ φ L v ((a, t) :: st)) (hd : st.length < 16) : ∃ (v1 : pm_W) (O1 : List Nat) (st1 : List (Int32 × Nat)), f_Md_further (nI (st.length + 1)) v = some (nI st1.length, v1) ∧ smM v0 v1 [22] [13, 17, 18] ∧ oM O1 v1 ∧ stk kn κ φ L v1 st1 ∧ st1.length ≤ 16 ∧ min 200 (O.length + 1) ≤ O1.length ∧ ap O1 (rem nm (w0.1 17) (w0.1 18) st1) = ap O (rem nm (w0.1 17) (w0.1 18) ((a, t) :: st)) := by
  obtain ⟨s1, s2, ha, s4, s5⟩ := hs
  have s1 : v.1 17 (st.length + 1) = tr φ a := s1
  have s2 : v.1 18 (st.length + 1) = nI t := s2
  have ha : gv kn κ L a := ha
  have s4 : t ≤ 40 := s4
  have hin : ¬ (nI (st.length + 1) < 0 ∨ 18 ≤ (nI (st.length + 1)).toNatClampNeg) := nI_in (by omega) (by omega)
  have hin2 : ¬ (nI (st.length + 1) < 0 ∨ 18 ≤ st.length + 1) := by rw [nI_clamp (by omega)] at hin; exact hin
  have hb : f_Md_isPair (tr φ a) v = some (if a &&& 7 = 4 then 1 else 0, v) := Rd_isP (Rd_sm R hv) ha
  have hnil : ∀ x y : Option (Int32 × pm_W), (if tr φ a = 536870912 then x else y) = if a = 2 then x else y := fun x y => by
    by_cases z : a = 2
    · rw [if_pos z, if_pos (by rw [z, tr_2])]
    · rw [if_neg z, if_neg (fun e => z ((Rd_nil R ha).mp e))]
  by_cases q : a &&& 7 = 4 ∧ t < 40
  · obtain ⟨q, ht⟩ := q
    obtain ⟨s, e1, e2, e3⟩ := gv_4 R ha q
    have hT : rem nm (w0.1 17) (w0.1 18) ((a, t) :: st) = (if t = 0 then [] else [32]) ++ (pt nm (w0.1 17) (w0.1 18) (16 - (st.length + 1)) (w0.1 17 s) ++ rem nm (w0.1 17) (w0.1 18) ((w0.1 18 s, t + 1) :: st)) := by
      show lt _ _ _ _ (40 - t) (t == 0) a ++ _ = _
      rw [show 40 - t = (40 - (t + 1)) + 1 by omega]
      show (if a &&& 7 = 4 then _ else _) ++ _ = _
      rw [if_pos q, e3, sl_C (Rd_L R s e1).1]
      have e4 : (if (t == 0) = true then ([] : List Nat) else [32]) = if t = 0 then [] else [32] := by
        by_cases z : t = 0 <;> simp [z]
      rw [e4]
      have e5 : (t + 1 == 0) = false := by simp
      show _ = _ ++ (_ ++ (lt _ _ _ _ (40 - (t + 1)) (t + 1 == 0) (w0.1 18 s) ++ _))
      rw [e5]
      simp only [List.append_assoc]
    -- the world before begin, after the blank
    have hcore : ∀ (v2 : pm_W) (O2 : List Nat), smM v0 v2 [22] [13, 17, 18] → smM v v2 [22] [13] → oM O2 v2 → ∃ (v1 : pm_W) (O1 : List Nat) (st1 : List (Int32 × Nat)), (Option.bind (f_Md_cdr (tr φ a) (pm_setI v2 18 (st.length + 1) (nI t + 1))) fun o14 => if nI (st.length + 1) < 0 ∨ 18 ≤ st.length + 1 then none else Option.bind (f_Md_car (tr φ a) (pm_setI o14.2 17 (st.length + 1) o14.1)) fun o16 => f_Md_begin o16.1 (nI (st.length + 1)) o16.2) = some (nI st1.length, v1) ∧ smM v0 v1 [22] [13, 17, 18] ∧ oM O1 v1 ∧ stk kn κ φ L v1 st1 ∧ st1.length ≤ 16 ∧ min 200 (O2.length + 1) ≤ O1.length ∧ ap O1 (rem nm (w0.1 17) (w0.1 18) st1) = ap O2 (pt nm (w0.1 17) (w0.1 18) (16 - (st.length + 1)) (w0.1 17 s) ++ rem nm (w0.1 17) (w0.1 18) ((w0.1 18 s, t + 1) :: st)) := by
      intro v2 O2 h1 h2 h3
      have g1 := smM_a (x := nI (t + 1)) (k := st.length + 1) (o := 18) h1 (by decide) (by decide)
      have g2 := smM_a (x := tr φ (w0.1 18 s)) (k := st.length + 1) (o := 17) g1 (by decide) (by decide)
      have hst : stk kn κ φ L (pm_setI (pm_setI v2 18 (st.length + 1) (nI (t + 1))) 17 (st.length + 1) (tr φ (w0.1 18 s))) ((w0.1 18 s, t + 1) :: st) := by
        refine ⟨?_, ?_, (R.2.1.2.2.2.2 s e1).2.2.1, (by show t + 1 ≤ 40; omega), stk_cg st (stk_sm s5 h2) (fun j hj => ?_)⟩
        · rw [rdI_s]
        · rw [rdI_n _ (Or.inl (by decide)), rdI_s]
        · constructor
          · rw [rdI_n _ (Or.inr (by omega)), rdI_n _ (Or.inl (by decide))]
          · rw [rdI_n _ (Or.inl (by decide)), rdI_n _ (Or.inr (by omega))]
      have hO3 : oM O2 (pm_setI (pm_setI v2 18 (st.length + 1) (nI (t + 1))) 17 (st.length + 1) (tr φ (w0.1 18 s))) := by
        obtain ⟨b1, b2, b3⟩ := h3
        refine ⟨b1, ?_, fun i hi => ?_⟩
        · rw [rdI_n _ (Or.inl (by decide)), rdI_n _ (Or.inl (by decide))]; exact b2
        · rw [rdI_n _ (Or.inl (by decide)), rdI_n _ (Or.inl (by decide))]; exact b3 i hi
      obtain ⟨v1, O1, st1, c1, c2, c3, c4, c5, c6, c7⟩ := begin_M R hN h16 (R.2.1.2.2.2.2 s e1).2.1 g2 hO3 hst (by simp only [List.length_cons]; omega)
      refine ⟨v1, O1, st1, ?_, c2, c3, c4, c5, c6, c7⟩
      rw [e3, nI_1, Rd_cdr (Rd_sm R g1) e1]
      simp only [Option.bind_some]
      rw [if_neg hin2, Rd_car (Rd_sm R g2) e1]
      simp only [Option.bind_some]
      exact c1
    have n40 : ¬ (40 : Int32) ≤ nI t := q_nle (a := 40) ht (by omega)
    by_cases t0 : t = 0
    · obtain ⟨v1, O1, st1, c1, c2, c3, c4, c5, c6, c7⟩ := hcore v O hv smM_rf hO
      refine ⟨v1, O1, st1, ?_, c2, c3, c4, c5, c6, by rw [hT, if_pos t0, List.nil_append]; exact c7⟩
      unfold f_Md_further
      rw [if_neg hin, nI_clamp (by omega), s1, hb]
      simp only [Option.bind_some]
      rw [if_pos q, if_neg (by decide), if_neg hin2, s2, if_neg n40, if_neg hin2, if_pos (by rw [t0]; decide), if_neg hin2, if_neg hin2]
      simp only [bind_pair]
      exact c1
    · obtain ⟨v2, a1, a2, a3⟩ := prM_put (v0 := v0) (c := 32) (by decide) O v hv hO
      have hv2 := smM_tr hv (smM_wk (os2 := [13, 17, 18]) a3 (by decide))
      obtain ⟨v1, O1, st1, c1, c2, c3, c4, c5, c6, c7⟩ := hcore v2 _ hv2 a3 a2
      refine ⟨v1, O1, st1, ?_, c2, c3, c4, c5, ?_, by rw [hT, if_neg t0, c7, ap_ap]⟩
      · unfold f_Md_further
        rw [if_neg hin, nI_clamp (by omega), s1, hb]
        simp only [Option.bind_some]
        rw [if_pos q, if_neg (by decide), if_neg hin2, s2, if_neg n40, if_neg hin2, if_neg (nI_nle (by omega) (by omega)), show f_Md_put 32 v = some v2 from a1]
        simp only [Option.bind_some, bind_pair]
        rw [if_neg hin2, if_neg hin2, a3.2.2 18 (by decide) (by decide), s2]
        exact c1
      · have h1 := ap_grow (O := O) (T := [32]) (by simp)
        omega
  · have hk : (40 - t = 0) ∨ ¬ a &&& 7 = 4 := by
      by_cases z : a &&& 7 = 4
      · left
        have : ¬ t < 40 := fun y => q ⟨z, y⟩
        omega
      · exact Or.inr z
    obtain ⟨v1, a1, a2, a3⟩ := prM_85 (d := st.length) R hN h16 ha hv hO
    refine ⟨v1, _, st, ?_, smM_tr hv (smM_wk (os2 := [13, 17, 18]) a3 (by decide)), a2, stk_sm s5 a3, by omega, ap_grow ltE_ne, ?_⟩
    · rw [← a1]
      unfold f_Md_further
      rw [if_neg hin, nI_clamp (by omega), s1, hb]
      simp only [Option.bind_some]
      by_cases z : a &&& 7 = 4
      · have ht : t = 40 := by
          have : ¬ t < 40 := fun y => q ⟨z, y⟩
          omega
        rw [if_pos z, if_neg (by decide), if_neg hin2, s2, if_pos (by rw [ht]; decide), hnil]
        rfl
      · rw [if_neg z, if_pos rfl, hnil]
        rfl
    · rw [ap_ap]
      show _ = ap O (lt _ _ _ _ _ _ _ ++ _)
      rw [lt_E hk]
/-- the reference's loop -/
theorem loop_M (R : Rd S kn κ τ ρ φ L w0 v0) (hN : NmR kn nm w0 v0) (h16 : 16 ≤ kn) : ∀ (n m : Nat) (v : pm_W) (O : List Nat) (st : List (Int32 × Nat)), smM v0 v [22] [13, 17, 18] → oM O v → stk kn κ φ L v st → st.length ≤ 16 → 200 ≤ n + O.length → ∃ v1, l_Md_print (m + n + 1) 0 (nI st.length) v = some v1 ∧ smM v0 v1 [22] [13, 17, 18] ∧ oM (ap O (rem nm (w0.1 17) (w0.1 18) st ++ [10])) v1 := by
  intro n
  induction n with
  | zero =>
    intro m v O st hv hO hs hd hn
    obtain ⟨v1, a1, a2, a3⟩ := prM_put (v0 := v0) (c := 10) (by decide) O v hv hO
    have e : O.length = 200 := by have := hO.1; omega
    refine ⟨v1, ?_, smM_tr hv (smM_wk (os2 := [13, 17, 18]) a3 (by decide)), by rw [ap_full e] at a2 ⊢; exact a2⟩
    rw [show m + 0 + 1 = m + 1 by omega, l_Md_print_s]
    unfold b_Md_print_10
    simp only [bind_some1]
    rw [hO.2.1, if_pos (show (200 : Int32) ≤ nI O.length from q_le (a := 200) (by omega) (by omega))]
    by_cases z : nI st.length ≤ 0
    · rw [if_pos z]; exact a1
    · rw [if_neg z]; exact a1
  | succ n ih =>
    intro m v O st hv hO hs hd hn
    rw [show m + (n + 1) + 1 = (m + n + 1) + 1 by omega, l_Md_print_s]
    unfold b_Md_print_10
    simp only [bind_some1]
    cases st with
    | nil =>
      obtain ⟨v1, a1, a2, a3⟩ := prM_put (v0 := v0) (c := 10) (by decide) O v hv hO
      refine ⟨v1, ?_, smM_tr hv (smM_wk (os2 := [13, 17, 18]) a3 (by decide)), a2⟩
      rw [if_pos (show nI ([] : List (Int32 × Nat)).length ≤ 0 by decide)]
      exact a1
    | cons p st =>
      rw [if_neg (show ¬ nI (p :: st).length ≤ 0 from nI_nle (by simp) (by omega)), hO.2.1]
      by_cases z : O.length < 200
      · rw [if_neg (show ¬ (200 : Int32) ≤ nI O.length from q_nle (a := 200) z (by omega))]
        obtain ⟨v1, O1, st1, c1, c2, c3, c4, c5, c6, c7⟩ := further_M (a := p.1) (t := p.2) R hN h16 hv hO hs (by simp only [List.length_cons] at hd; omega)
        rw [show (p :: st).length = st.length + 1 from rfl, c1]
        simp only [Option.bind_some]
        obtain ⟨v2, d1, d2, d3⟩ := ih m v1 O1 st1 c2 c3 c4 c5 (by omega)
        refine ⟨v2, d1, d2, ?_⟩
        rw [← ap_ap, c7, ap_ap] at d3
        exact d3
      · obtain ⟨v1, a1, a2, a3⟩ := prM_put (v0 := v0) (c := 10) (by decide) O v hv hO
        have e : O.length = 200 := by have := hO.1; omega
        rw [if_pos (show (200 : Int32) ≤ nI O.length from q_le (a := 200) (by omega) (by omega))]
        exact ⟨v1, a1, smM_tr hv (smM_wk (os2 := [13, 17, 18]) a3 (by decide)), by rw [ap_full e] at a2 ⊢; exact a2⟩
/-- the reference prints a line -/
theorem print_M (R : Rd S kn κ τ ρ φ L w0 v0) (hN : NmR kn nm w0 v0) (h16 : 16 ≤ kn) {a : Int32} (ha : gv kn κ L a) (h15 : v0.1 0 15 = tr φ a) {O : List Nat} (hO : oM O v0) : ∃ v1, f_Md_print v0 = some v1 ∧ smM v0 v1 [22] [13, 17, 18] ∧ oM (ap O (pt nm (w0.1 17) (w0.1 18) 16 a ++ [10])) v1 := by
  obtain ⟨v1, O1, st1, c1, c2, c3, c4, c5, c6, c7⟩ := begin_M (st := []) R hN h16 ha smM_rf hO trivial (by simp)
  obtain ⟨v2, d1, d2, d3⟩ := loop_M R hN h16 200 (pm_fuel - 201) v1 O1 st1 c2 c3 c4 c5 (by omega)
  rw [show pm_fuel - 201 + 200 + 1 = pm_fuel from rfl] at d1
  refine ⟨v2, ?_, d2, ?_⟩
  · unfold f_Md_print
    rw [h15, show f_Md_begin (tr φ a) 0 v0 = some (nI st1.length, v1) from c1]
    exact d1
  · rw [← ap_ap, c7, ap_ap] at d3
    simpa [rem] using d3
end
