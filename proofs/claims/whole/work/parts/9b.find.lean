/-! reading: the next form is looked for -/
def b2 (q : Bool) : Int32 := if q = true then 1 else 0
/-- P pieces from k to e make a form; d cells are still to be counted -/
def wf (n : Nat) (tx : Nat → Nat) : Nat → Nat → Nat → Bool → Nat → Nat → Prop
  | 0, k, o, q, d, e => k = e ∧ o = 0 ∧ q = false ∧ d = 0
  | P + 1, k, o, q, d, e => k < n ∧ if bl (tx k) then wf n tx P (k + 1) o q d e else if tx k = 39 then q = false ∧ ∃ d', d = d' + (4 + if 0 < o then 2 else 0) ∧ wf n tx P (k + 1) o true d' e else if tx k = 40 then o < 10 ∧ ∃ d', d = d' + (if 0 < o ∧ q = false then 2 else 0) ∧ wf n tx P (k + 1) (o + 1) false d' e else if tx k = 41 then 0 < o ∧ q = false ∧ wf n tx P (k + 1) (o - 1) false d e else ∃ d', d = d' + (if 0 < o ∧ q = false then 2 else 0) ∧ wf n tx P (nx n tx k) o false d' e
theorem nx_s {n k : Nat} {tx : Nat → Nat} (h : ¬ wd (tx k)) : nx n tx k = k + 1 := by
  unfold nx
  rw [if_neg h]
theorem wf_le {n : Nat} {tx : Nat → Nat} : ∀ (P k o : Nat) (q : Bool) (d e : Nat), wf n tx P k o q d e → k ≤ n → k ≤ e ∧ e ≤ n := by
  intro P
  induction P with
  | zero => intro k o q d e h hk; have := h.1; omega
  | succ P ih =>
    intro k o q d e h _
    obtain ⟨hk, h⟩ := h
    split at h
    · have := ih _ _ _ _ _ h (by omega); omega
    · split at h
      · obtain ⟨_, d', _, h⟩ := h
        have := ih _ _ _ _ _ h (by omega); omega
      · split at h
        · obtain ⟨_, d', _, h⟩ := h
          have := ih _ _ _ _ _ h (by omega); omega
        · split at h
          · obtain ⟨_, _, h⟩ := h
            have := ih _ _ _ _ _ h (by omega); omega
          · obtain ⟨d', _, h⟩ := h
            have h9 := nx_le (tx := tx) hk
            have := ih _ _ _ _ _ h (by omega); omega
theorem wf_pos {n : Nat} {tx : Nat → Nat} {P k o : Nat} {q : Bool} {d e : Nat} (h : wf n tx (P + 1) k o q d e) : k < e := by
  obtain ⟨hk, h⟩ := h
  split at h
  · have := wf_le _ _ _ _ _ _ h (by omega); omega
  · split at h
    · obtain ⟨_, d', _, h⟩ := h
      have := wf_le _ _ _ _ _ _ h (by omega); omega
    · split at h
      · obtain ⟨_, d', _, h⟩ := h
        have := wf_le _ _ _ _ _ _ h (by omega); omega
      · split at h
        · obtain ⟨_, _, h⟩ := h
          have := wf_le _ _ _ _ _ _ h (by omega); omega
        · obtain ⟨d', _, h⟩ := h
          have h9 := nx_le (tx := tx) hk
          have := wf_le _ _ _ _ _ _ h (by omega); omega
section
variable {S n : Nat} {tx : Nat → Nat}
/-- what both say of the form -/
def FFo (n : Nat) (tx : Nat → Nat) (k o : Nat) (q : Bool) (c : Nat) (w v : pm_W) (rc rm : Option (Int32 × pm_W)) : Prop := ∃ (w1 v1 : pm_W) (r : Int32), smC w w1 [7] ∧ smM v v1 [29, 30] [] ∧ rc = some (r, w1) ∧ ((r = 2 ∧ rm = some (0, v1)) ∨ (r = -1 ∧ rm = some (-1, v1) ∧ ∃ e, e ≤ n ∧ w1.1 7 3 = nI e ∧ v1.1 0 29 = nI e) ∨ (r = 0 ∧ rm = some (1, v1) ∧ ∃ (P d e : Nat), wf n tx P k o q d e ∧ w1.1 7 3 = nI e ∧ v1.1 0 29 = nI e ∧ w1.1 7 4 = nI (c + d) ∧ v1.1 0 30 = nI (c + d) ∧ c + d ≤ 6 * n))
theorem FFo_tr {k o c k' o' c' : Nat} {q q' : Bool} {w v w' v' : pm_W} {rc rm : Option (Int32 × pm_W)} (h : FFo n tx k' o' q' c' w' v' rc rm) (h1 : smC w w' [7]) (h2 : smM v v' [29, 30] []) (hw : ∀ P d e, wf n tx P k' o' q' d e → wf n tx (P + 1) k o q (c' - c + d) e) (hc : c ≤ c') : FFo n tx k o q c w v rc rm := by
  obtain ⟨w1, v1, r, a1, a2, a3, a4⟩ := h
  refine ⟨w1, v1, r, smC_tr h1 a1, smM_tr h2 a2, a3, ?_⟩
  rcases a4 with a4 | a4 | ⟨b1, b2, P, d, e, b3, b4, b5, b6, b7, b8⟩
  · exact Or.inl a4
  · exact Or.inr (Or.inl a4)
  · refine Or.inr (Or.inr ⟨b1, b2, P + 1, c' - c + d, e, hw P d e b3, b4, b5, ?_, ?_, by omega⟩)
    · rw [b6, show c + (c' - c + d) = c' + d by omega]
    · rw [b7, show c + (c' - c + d) = c' + d by omega]
theorem b2_0 : b2 false = 0 := rfl
theorem b2_1 : b2 true = 1 := rfl
theorem ffC_pre {rec : Nat → Int32 → Int32 → Int32 → Int32 → pm_W → Option (Int32 × pm_W)} {k x4 : Nat} {x1 x2 : Int32} {w : pm_W} (hC : TxC n tx w) (hk : k < n) (hx : x4 ≤ k) : b_Reader_findForm_14 S rec x1 x2 (nI k) (nI x4) w = if bl (tx k) then rec 0 x1 x2 (nI (nx n tx k)) (nI (x4 + 1)) (pm_setI w 7 3 (nI (nx n tx k))) else (Option.bind (f_Reader_isFault S (nI (tx k)) x1 x2 (pm_setI w 7 3 (nI (nx n tx k)))) fun o7 => if o7.1 = 0 then Option.bind (f_Reader_cellsOfPiece S (nI (tx k)) x1 x2 o7.2) fun o9 => (if tx k = 39 then b_Reader_findForm_157 S rec x1 1 (nI (nx n tx k)) (nI x4) (pm_setI o9.2 7 4 ((o7.2.1 7 4) + o9.1)) else if tx k = 40 then b_Reader_findForm_157 S rec (x1 + 1) 0 (nI (nx n tx k)) (nI x4) (pm_setI o9.2 7 4 ((o7.2.1 7 4) + o9.1)) else if tx k = 41 then b_Reader_findForm_157 S rec (x1 + (-1)) 0 (nI (nx n tx k)) (nI x4) (pm_setI o9.2 7 4 ((o7.2.1 7 4) + o9.1)) else if (o9.2.1 7 3) < (o9.2.1 1 1) then b_Reader_findForm_157 S rec x1 0 (nI (nx n tx k)) (nI x4) (pm_setI o9.2 7 4 ((o7.2.1 7 4) + o9.1)) else some (2, pm_setI o9.2 7 4 ((o7.2.1 7 4) + o9.1))) else some (-1, o7.2)) := by
  have hn := hC.1
  have hc := ch_lt (hC.2.2 k hk).1
  unfold b_Reader_findForm_14
  rw [if_neg (show ¬ (120 : Int32) ≤ nI x4 from q_nle (a := 120) (by omega) (by omega)), hC.2.1, if_neg (q_nle hk (by omega)), at_C hC hk]
  simp only [Option.bind_some]
  rw [piece_C hC hk]
  simp only [Option.bind_some]
  rw [blank_C hc]
  simp only [Option.bind_some]
  by_cases q : bl (tx k)
  · rw [if_pos q, if_neg (by decide), if_pos q, nI_1]
  · rw [if_neg q, if_pos rfl, if_neg q]
    congr 1
    funext o7
    by_cases z : o7.1 = 0
    · rw [if_pos z, if_pos z]
      congr 1
      funext o9
      by_cases c1 : tx k = 39
      · rw [c1, if_pos (show nI 39 = 39 from rfl), if_neg (show ¬ nI 39 = 40 by decide), if_neg (show ¬ nI 39 = 41 by decide), if_neg (show ¬ (1 : Int32) = 0 by decide), if_pos rfl]
      · by_cases c2 : tx k = 40
        · rw [c2, if_neg (show ¬ nI 40 = 39 by decide), if_pos (show nI 40 = 40 from rfl), if_neg (show ¬ 40 = 39 by decide), if_pos rfl]
        · by_cases c3 : tx k = 41
          · rw [c3, if_neg (show ¬ nI 41 = 39 by decide), if_neg (show ¬ nI 41 = 40 by decide), if_pos (show nI 41 = 41 from rfl), if_neg (show ¬ 41 = 39 by decide), if_neg (show ¬ 41 = 40 by decide), if_pos rfl]
          · rw [if_neg (show ¬ nI (tx k) = 39 from q_ne (b := 39) c1 (by omega) (by omega)), if_neg (show ¬ nI (tx k) = 40 from q_ne (b := 40) c2 (by omega) (by omega)), if_neg (show ¬ nI (tx k) = 41 from q_ne (b := 41) c3 (by omega) (by omega)), if_neg c1, if_neg c2, if_neg c3, if_pos trivial]
    · rw [if_neg z, if_neg z]
theorem f157 {rec : Nat → Int32 → Int32 → Int32 → Int32 → pm_W → Option (Int32 × pm_W)} {o : Nat} {q : Bool} {x3 : Int32} {x4 : Nat} {w : pm_W} (ho : o ≤ 10) : b_Reader_findForm_157 S rec (nI o) (b2 q) x3 (nI x4) w = if o = 0 ∧ q = false then some (0, w) else rec 0 (nI o) (b2 q) x3 (nI (x4 + 1)) w := by
  unfold b_Reader_findForm_157
  rw [nI_1]
  by_cases z : o = 0
  · subst z
    rw [if_pos (show nI 0 = 0 from rfl)]
    cases q with
    | false => rw [if_pos (show b2 false = 0 from rfl), if_pos ⟨rfl, rfl⟩]
    | true => rw [if_neg (show ¬ b2 true = 0 by decide), if_neg (fun z => absurd z.2 (by decide))]
  · rw [if_neg (nI_ne0 (by omega) (by omega)), if_neg (fun y => z y.1)]
/-- the reference's round -/
theorem ffM_pre {rec : Nat → Int32 → Int32 → Int32 → pm_W → Option (Int32 × pm_W)} {k : Nat} {x1 x2 : Int32} {v : pm_W} (hM : TxM n tx v) (hk : k < n) (hb : ¬ bl (tx k)) : b_Md_lookOver_15 rec x1 x2 (nI k) v = (if tx k = 41 then (if x1 = 0 then some (-1, pm_setI v 0 29 (nI (nx n tx k))) else if x2 = 0 then b_Md_lookOver_66 rec x1 x2 (nI (tx k)) (pm_setI v 0 29 (nI (nx n tx k))) else some (-1, pm_setI v 0 29 (nI (nx n tx k)))) else if tx k = 39 then (if x2 = 0 then b_Md_lookOver_66 rec x1 x2 (nI (tx k)) (pm_setI v 0 29 (nI (nx n tx k))) else some (-1, pm_setI v 0 29 (nI (nx n tx k)))) else b_Md_lookOver_66 rec x1 x2 (nI (tx k)) (pm_setI v 0 29 (nI (nx n tx k)))) := by
  have hn := hM.1
  obtain ⟨c1, c2⟩ := hM.2.2 k hk
  have hc := ch_lt c1
  unfold b_Md_lookOver_15
  rw [hM.2.1, if_neg (q_nle hk (by omega)), if_neg (nI_in (by omega) (by omega)), nI_clamp (by omega), c2, token_M hM hk hb]
  simp only [Option.bind_some]
  by_cases z1 : tx k = 41
  · rw [z1, if_pos (show nI 41 = 41 from rfl), if_pos rfl, if_neg (show ¬ nI 41 = 39 by decide)]
  · rw [if_neg (show ¬ nI (tx k) = 41 from q_ne (b := 41) z1 (by omega) (by omega)), if_neg z1]
    by_cases z2 : tx k = 39
    · rw [z2, if_pos (show nI 39 = 39 from rfl), if_pos rfl]
    · rw [if_neg (show ¬ nI (tx k) = 39 from q_ne (b := 39) z2 (by omega) (by omega)), if_neg z2]
theorem f66 {rec : Nat → Int32 → Int32 → Int32 → pm_W → Option (Int32 × pm_W)} {c : Nat} {x1 x2 : Int32} {v : pm_W} (hc : c < 127) : b_Md_lookOver_66 rec x1 x2 (nI c) v = if c = 40 ∧ x1 = 10 then some (-1, v) else if ¬ sg c ∧ v.1 0 29 = v.1 0 20 then some (0, v) else b_Md_lookOver_102 rec x1 x2 (nI c) v := by
  unfold b_Md_lookOver_66
  rw [sign_M hc]
  simp only [Option.bind_some]
  by_cases z : c = 40
  · subst z
    rw [if_pos (show nI 40 = 40 from rfl)]
    by_cases y : x1 = 10
    · rw [if_pos y, if_pos ⟨rfl, y⟩]
    · rw [if_neg y, if_neg (show ¬ (40 = 40 ∧ x1 = 10) from fun q => y q.2), if_neg (show ¬ (if sg 40 then (1 : Int32) else 0) = 0 by decide), if_neg (show ¬ (¬ sg 40 ∧ v.1 0 29 = v.1 0 20) from fun q => q.1 (Or.inl rfl))]
  · rw [if_neg (show ¬ nI c = 40 from q_ne (b := 40) z (by omega) (by omega)), if_neg (show ¬ (c = 40 ∧ x1 = 10) from fun q => z q.1)]
    by_cases y : sg c
    · rw [if_pos y, if_neg (show ¬ (1 : Int32) = 0 by decide), if_neg (show ¬ (¬ sg c ∧ v.1 0 29 = v.1 0 20) from fun q => q.1 y)]
    · rw [if_neg y, if_pos (show (0 : Int32) = 0 from rfl)]
      by_cases x : v.1 0 29 = v.1 0 20
      · rw [if_pos x, if_pos ⟨y, x⟩]
      · rw [if_neg x, if_neg (show ¬ (¬ sg c ∧ v.1 0 29 = v.1 0 20) from fun q => x q.2)]
theorem f144 {rec : Nat → Int32 → Int32 → Int32 → pm_W → Option (Int32 × pm_W)} {c e : Nat} {x1 : Int32} {v : pm_W} (hc : c < 127) (hM : TxM n tx v) (he : v.1 0 29 = nI e) (hen : e ≤ n) : b_Md_lookOver_144 rec x1 (nI c) v = (if (if c = 40 then x1 + 1 else if c = 41 then x1 + (-1) else x1) = 0 ∧ ¬ c = 39 then some (1, v) else rec 0 (if c = 40 then x1 + 1 else if c = 41 then x1 + (-1) else x1) (b2 (decide (c = 39))) (nI (sk n tx e)) v) := by
  have h164 : ∀ y1, b_Md_lookOver_164 rec y1 (nI c) v = if y1 = 0 ∧ ¬ c = 39 then some (1, v) else rec 0 y1 (b2 (decide (c = 39))) (nI (sk n tx e)) v := fun y1 => by
    unfold b_Md_lookOver_164
    rw [he, skip_M hM hen]
    simp only [Option.bind_some]
    by_cases z : c = 39
    · subst z
      rw [if_pos (show nI 39 = 39 from rfl), if_neg (show ¬ (y1 = 0 ∧ ¬ 39 = 39) from fun q => q.2 rfl), show b2 (decide (39 = 39)) = 1 from rfl]
      by_cases y : y1 = 0
      · rw [if_pos y, if_neg (show ¬ (1 : Int32) = 0 by decide)]
      · rw [if_neg y]
    · rw [if_neg (show ¬ nI c = 39 from q_ne (b := 39) z (by omega) (by omega)), show b2 (decide (c = 39)) = 0 by simp [b2, z]]
      by_cases y : y1 = 0
      · rw [if_pos y, if_pos trivial, if_pos (show y1 = 0 ∧ ¬ c = 39 from ⟨y, z⟩)]
      · rw [if_neg y, if_neg (show ¬ (y1 = 0 ∧ ¬ c = 39) from fun q => y q.1)]
  unfold b_Md_lookOver_144
  by_cases z : c = 40
  · subst z
    rw [if_pos (show nI 40 = 40 from rfl), if_neg (show ¬ nI 40 = 41 by decide), h164, if_pos rfl]
  · rw [if_neg (show ¬ nI c = 40 from q_ne (b := 40) z (by omega) (by omega)), if_neg z]
    by_cases y : c = 41
    · rw [if_pos (show nI c = 41 by rw [y]; rfl), h164, if_pos y]
    · rw [if_neg (show ¬ nI c = 41 from q_ne (b := 41) y (by omega) (by omega)), h164, if_neg y]
end
