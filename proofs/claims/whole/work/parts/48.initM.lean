theorem d_Md_word_0 : decode k_Md_word 0 = .ok (.aload_n 0, 1) := by decide +kernel
theorem d_Md_word_1 : decode k_Md_word 1 = .ok (.getfield 38, 3) := by decide +kernel
theorem d_Md_word_4 : decode k_Md_word 4 = .ok (.bipush 8, 2) := by decide +kernel
theorem d_Md_word_6 : decode k_Md_word 6 = .ok (.aload_n 0, 1) := by decide +kernel
theorem d_Md_word_7 : decode k_Md_word 7 = .ok (.getfield 84, 3) := by decide +kernel
theorem d_Md_word_10 : decode k_Md_word 10 = .ok (.imul, 1) := by decide +kernel
theorem d_Md_word_11 : decode k_Md_word 11 = .ok (.iload_n 1, 1) := by decide +kernel
theorem d_Md_word_12 : decode k_Md_word 12 = .ok (.i2c, 1) := by decide +kernel
theorem d_Md_word_13 : decode k_Md_word 13 = .ok (.castore, 1) := by decide +kernel
theorem d_Md_word_14 : decode k_Md_word 14 = .ok (.aload_n 0, 1) := by decide +kernel
theorem d_Md_word_15 : decode k_Md_word 15 = .ok (.getfield 38, 3) := by decide +kernel
theorem d_Md_word_18 : decode k_Md_word 18 = .ok (.bipush 8, 2) := by decide +kernel
theorem d_Md_word_20 : decode k_Md_word 20 = .ok (.aload_n 0, 1) := by decide +kernel
theorem d_Md_word_21 : decode k_Md_word 21 = .ok (.getfield 84, 3) := by decide +kernel
theorem d_Md_word_24 : decode k_Md_word 24 = .ok (.imul, 1) := by decide +kernel
theorem d_Md_word_25 : decode k_Md_word 25 = .ok (.iconst 1, 1) := by decide +kernel
theorem d_Md_word_26 : decode k_Md_word 26 = .ok (.iadd, 1) := by decide +kernel
theorem d_Md_word_27 : decode k_Md_word 27 = .ok (.iload_n 2, 1) := by decide +kernel
theorem d_Md_word_28 : decode k_Md_word 28 = .ok (.i2c, 1) := by decide +kernel
theorem d_Md_word_29 : decode k_Md_word 29 = .ok (.castore, 1) := by decide +kernel
theorem d_Md_word_30 : decode k_Md_word 30 = .ok (.aload_n 0, 1) := by decide +kernel
theorem d_Md_word_31 : decode k_Md_word 31 = .ok (.getfield 38, 3) := by decide +kernel
theorem d_Md_word_34 : decode k_Md_word 34 = .ok (.bipush 8, 2) := by decide +kernel
theorem d_Md_word_36 : decode k_Md_word 36 = .ok (.aload_n 0, 1) := by decide +kernel
theorem d_Md_word_37 : decode k_Md_word 37 = .ok (.getfield 84, 3) := by decide +kernel
theorem d_Md_word_40 : decode k_Md_word 40 = .ok (.imul, 1) := by decide +kernel
theorem d_Md_word_41 : decode k_Md_word 41 = .ok (.iconst 2, 1) := by decide +kernel
theorem d_Md_word_42 : decode k_Md_word 42 = .ok (.iadd, 1) := by decide +kernel
theorem d_Md_word_43 : decode k_Md_word 43 = .ok (.iload_n 3, 1) := by decide +kernel
theorem d_Md_word_44 : decode k_Md_word 44 = .ok (.i2c, 1) := by decide +kernel
theorem d_Md_word_45 : decode k_Md_word 45 = .ok (.castore, 1) := by decide +kernel
theorem d_Md_word_46 : decode k_Md_word 46 = .ok (.aload_n 0, 1) := by decide +kernel
theorem d_Md_word_47 : decode k_Md_word 47 = .ok (.getfield 38, 3) := by decide +kernel
theorem d_Md_word_50 : decode k_Md_word 50 = .ok (.bipush 8, 2) := by decide +kernel
theorem d_Md_word_52 : decode k_Md_word 52 = .ok (.aload_n 0, 1) := by decide +kernel
theorem d_Md_word_53 : decode k_Md_word 53 = .ok (.getfield 84, 3) := by decide +kernel
theorem d_Md_word_56 : decode k_Md_word 56 = .ok (.imul, 1) := by decide +kernel
theorem d_Md_word_57 : decode k_Md_word 57 = .ok (.iconst 3, 1) := by decide +kernel
theorem d_Md_word_58 : decode k_Md_word 58 = .ok (.iadd, 1) := by decide +kernel
theorem d_Md_word_59 : decode k_Md_word 59 = .ok (.iload 4, 2) := by decide +kernel
theorem d_Md_word_61 : decode k_Md_word 61 = .ok (.i2c, 1) := by decide +kernel
theorem d_Md_word_62 : decode k_Md_word 62 = .ok (.castore, 1) := by decide +kernel
theorem d_Md_word_63 : decode k_Md_word 63 = .ok (.aload_n 0, 1) := by decide +kernel
theorem d_Md_word_64 : decode k_Md_word 64 = .ok (.getfield 38, 3) := by decide +kernel
theorem d_Md_word_67 : decode k_Md_word 67 = .ok (.bipush 8, 2) := by decide +kernel
theorem d_Md_word_69 : decode k_Md_word 69 = .ok (.aload_n 0, 1) := by decide +kernel
theorem d_Md_word_70 : decode k_Md_word 70 = .ok (.getfield 84, 3) := by decide +kernel
theorem d_Md_word_73 : decode k_Md_word 73 = .ok (.imul, 1) := by decide +kernel
theorem d_Md_word_74 : decode k_Md_word 74 = .ok (.iconst 4, 1) := by decide +kernel
theorem d_Md_word_75 : decode k_Md_word 75 = .ok (.iadd, 1) := by decide +kernel
theorem d_Md_word_76 : decode k_Md_word 76 = .ok (.iload 5, 2) := by decide +kernel
theorem d_Md_word_78 : decode k_Md_word 78 = .ok (.i2c, 1) := by decide +kernel
theorem d_Md_word_79 : decode k_Md_word 79 = .ok (.castore, 1) := by decide +kernel
theorem d_Md_word_80 : decode k_Md_word 80 = .ok (.aload_n 0, 1) := by decide +kernel
theorem d_Md_word_81 : decode k_Md_word 81 = .ok (.getfield 38, 3) := by decide +kernel
theorem d_Md_word_84 : decode k_Md_word 84 = .ok (.bipush 8, 2) := by decide +kernel
theorem d_Md_word_86 : decode k_Md_word 86 = .ok (.aload_n 0, 1) := by decide +kernel
theorem d_Md_word_87 : decode k_Md_word 87 = .ok (.getfield 84, 3) := by decide +kernel
theorem d_Md_word_90 : decode k_Md_word 90 = .ok (.imul, 1) := by decide +kernel
theorem d_Md_word_91 : decode k_Md_word 91 = .ok (.iconst 5, 1) := by decide +kernel
theorem d_Md_word_92 : decode k_Md_word 92 = .ok (.iadd, 1) := by decide +kernel
theorem d_Md_word_93 : decode k_Md_word 93 = .ok (.iload 6, 2) := by decide +kernel
theorem d_Md_word_95 : decode k_Md_word 95 = .ok (.i2c, 1) := by decide +kernel
theorem d_Md_word_96 : decode k_Md_word 96 = .ok (.castore, 1) := by decide +kernel
theorem d_Md_word_97 : decode k_Md_word 97 = .ok (.aload_n 0, 1) := by decide +kernel
theorem d_Md_word_98 : decode k_Md_word 98 = .ok (.dup, 1) := by decide +kernel
theorem d_Md_word_99 : decode k_Md_word 99 = .ok (.getfield 84, 3) := by decide +kernel
theorem d_Md_word_102 : decode k_Md_word 102 = .ok (.iconst 1, 1) := by decide +kernel
theorem d_Md_word_103 : decode k_Md_word 103 = .ok (.iadd, 1) := by decide +kernel
theorem d_Md_word_104 : decode k_Md_word 104 = .ok (.putfield 84, 3) := by decide +kernel
theorem d_Md_word_107 : decode k_Md_word 107 = .ok (.return_, 1) := by decide +kernel
theorem mi_Md_word : pm_mi pmTs y_Md_word k_Md_word 7 none 6 := ⟨tw_667, tw_105, ⟨by decide, by decide⟩, by decide +kernel⟩
def pm_fl (ad : Nat → Nat) (w : pm_W) (o : Nat) : Nat → List pm_F → List Value
  | _, [] => []
  | k, f :: l => pm_val ad w o k f :: pm_fl ad w o (k + 1) l
def pm_cl (ca : Nat → ClassId) (ad : Nat → Nat) (w : pm_W) : Nat → List pm_E → va_W
  | _, [] => []
  | o, .inl a :: l => (ad o, .inl (ca a.1, pm_arr w o a.2.2 a.2.1)) :: pm_cl ca ad w (o + 1) l
  | o, .inr b :: l => (ad o, .inr (b.1, pm_fl ad w o 0 b.2)) :: pm_cl ca ad w (o + 1) l
theorem pm_fl_eq {ad : Nat → Nat} {w : pm_W} {o : Nat} : ∀ (l : List pm_F) (k : Nat), pm_fl ad w o k l = l.mapIdx (fun j f => pm_val ad w o (k + j) f) := by
  intro l
  induction l with
  | nil => intro k; rfl
  | cons f l ih =>
    intro k
    rw [pm_fl, List.mapIdx_cons, ih]
    have e : (fun (j : Nat) (f : pm_F) => pm_val ad w o (k + 1 + j) f) = fun (j : Nat) (f : pm_F) => pm_val ad w o (k + (j + 1)) f := by
      funext j f
      rw [show k + 1 + j = k + (j + 1) by omega]
    rw [e]
    rfl
theorem pm_cl_eq {ca : Nat → ClassId} {ad : Nat → Nat} {w : pm_W} : ∀ (l : List pm_E) (o : Nat), pm_cl ca ad w o l = l.mapIdx (fun j x => pm_cell ca ad w (o + j) x) := by
  intro l
  induction l with
  | nil => intro o; rfl
  | cons x l ih =>
    intro o
    have e : (fun (j : Nat) (x : pm_E) => pm_cell ca ad w (o + 1 + j) x) = fun (j : Nat) (x : pm_E) => pm_cell ca ad w (o + (j + 1)) x := by
      funext j x
      rw [show o + 1 + j = o + (j + 1) by omega]
    rcases x with a | b
    · rw [pm_cl, List.mapIdx_cons, ih, e]
      rfl
    · rw [pm_cl, List.mapIdx_cons, ih, e, pm_fl_eq]
      simp only [Nat.zero_add]
      rfl
theorem pm_cells_eq (sh : List pm_E) (ca : Nat → ClassId) (ad : Nat → Nat) (w : pm_W) : pm_cells sh ca ad w = pm_cl ca ad w 0 sh := by
  rw [pm_cl_eq]
  simp only [Nat.zero_add]
  rfl
theorem d_Md_init_0 : decode k_Md_init 0 = .ok (.aload_n 0, 1) := by decide +kernel
theorem d_Md_init_1 : decode k_Md_init 1 = .ok (.invokespecial 1, 3) := by decide +kernel
theorem d_Md_init_4 : decode k_Md_init 4 = .ok (.aload_n 0, 1) := by decide +kernel
theorem d_Md_init_5 : decode k_Md_init 5 = .ok (.sipush 206, 3) := by decide +kernel
theorem d_Md_init_8 : decode k_Md_init 8 = .ok (.newarray .int, 2) := by decide +kernel
theorem d_Md_init_10 : decode k_Md_init 10 = .ok (.putfield 7, 3) := by decide +kernel
theorem d_Md_init_13 : decode k_Md_init 13 = .ok (.aload_n 0, 1) := by decide +kernel
theorem d_Md_init_14 : decode k_Md_init 14 = .ok (.sipush 206, 3) := by decide +kernel
theorem d_Md_init_17 : decode k_Md_init 17 = .ok (.newarray .int, 2) := by decide +kernel
theorem d_Md_init_19 : decode k_Md_init 19 = .ok (.putfield 13, 3) := by decide +kernel
theorem d_Md_init_22 : decode k_Md_init 22 = .ok (.aload_n 0, 1) := by decide +kernel
theorem d_Md_init_23 : decode k_Md_init 23 = .ok (.sipush 206, 3) := by decide +kernel
theorem d_Md_init_26 : decode k_Md_init 26 = .ok (.newarray .int, 2) := by decide +kernel
theorem d_Md_init_28 : decode k_Md_init 28 = .ok (.putfield 16, 3) := by decide +kernel
theorem d_Md_init_31 : decode k_Md_init 31 = .ok (.aload_n 0, 1) := by decide +kernel
theorem d_Md_init_32 : decode k_Md_init 32 = .ok (.sipush 206, 3) := by decide +kernel
theorem d_Md_init_35 : decode k_Md_init 35 = .ok (.newarray .int, 2) := by decide +kernel
theorem d_Md_init_37 : decode k_Md_init 37 = .ok (.putfield 19, 3) := by decide +kernel
theorem d_Md_init_40 : decode k_Md_init 40 = .ok (.aload_n 0, 1) := by decide +kernel
theorem d_Md_init_41 : decode k_Md_init 41 = .ok (.sipush 206, 3) := by decide +kernel
theorem d_Md_init_44 : decode k_Md_init 44 = .ok (.newarray .boolean, 2) := by decide +kernel
theorem d_Md_init_46 : decode k_Md_init 46 = .ok (.putfield 22, 3) := by decide +kernel
theorem d_Md_init_49 : decode k_Md_init 49 = .ok (.aload_n 0, 1) := by decide +kernel
theorem d_Md_init_50 : decode k_Md_init 50 = .ok (.bipush 30, 2) := by decide +kernel
theorem d_Md_init_52 : decode k_Md_init 52 = .ok (.newarray .int, 2) := by decide +kernel
theorem d_Md_init_54 : decode k_Md_init 54 = .ok (.putfield 26, 3) := by decide +kernel
theorem d_Md_init_57 : decode k_Md_init 57 = .ok (.aload_n 0, 1) := by decide +kernel
theorem d_Md_init_58 : decode k_Md_init 58 = .ok (.bipush 30, 2) := by decide +kernel
theorem d_Md_init_60 : decode k_Md_init 60 = .ok (.newarray .int, 2) := by decide +kernel
theorem d_Md_init_62 : decode k_Md_init 62 = .ok (.putfield 29, 3) := by decide +kernel
theorem d_Md_init_65 : decode k_Md_init 65 = .ok (.aload_n 0, 1) := by decide +kernel
theorem d_Md_init_66 : decode k_Md_init 66 = .ok (.bipush 30, 2) := by decide +kernel
theorem d_Md_init_68 : decode k_Md_init 68 = .ok (.newarray .int, 2) := by decide +kernel
theorem d_Md_init_70 : decode k_Md_init 70 = .ok (.putfield 32, 3) := by decide +kernel
theorem d_Md_init_73 : decode k_Md_init 73 = .ok (.aload_n 0, 1) := by decide +kernel
theorem d_Md_init_74 : decode k_Md_init 74 = .ok (.bipush 30, 2) := by decide +kernel
theorem d_Md_init_76 : decode k_Md_init 76 = .ok (.newarray .int, 2) := by decide +kernel
theorem d_Md_init_78 : decode k_Md_init 78 = .ok (.putfield 35, 3) := by decide +kernel
theorem d_Md_init_81 : decode k_Md_init 81 = .ok (.aload_n 0, 1) := by decide +kernel
theorem d_Md_init_82 : decode k_Md_init 82 = .ok (.sipush 320, 3) := by decide +kernel
theorem d_Md_init_85 : decode k_Md_init 85 = .ok (.newarray .char, 2) := by decide +kernel
theorem d_Md_init_87 : decode k_Md_init 87 = .ok (.putfield 38, 3) := by decide +kernel
theorem d_Md_init_90 : decode k_Md_init 90 = .ok (.aload_n 0, 1) := by decide +kernel
theorem d_Md_init_91 : decode k_Md_init 91 = .ok (.bipush 40, 2) := by decide +kernel
theorem d_Md_init_93 : decode k_Md_init 93 = .ok (.newarray .int, 2) := by decide +kernel
theorem d_Md_init_95 : decode k_Md_init 95 = .ok (.putfield 42, 3) := by decide +kernel
theorem d_Md_init_98 : decode k_Md_init 98 = .ok (.aload_n 0, 1) := by decide +kernel
theorem d_Md_init_99 : decode k_Md_init 99 = .ok (.ldc 45, 2) := by decide +kernel
theorem d_Md_init_101 : decode k_Md_init 101 = .ok (.putfield 46, 3) := by decide +kernel
theorem d_Md_init_104 : decode k_Md_init 104 = .ok (.aload_n 0, 1) := by decide +kernel
theorem d_Md_init_105 : decode k_Md_init 105 = .ok (.ldc 45, 2) := by decide +kernel
theorem d_Md_init_107 : decode k_Md_init 107 = .ok (.putfield 50, 3) := by decide +kernel
theorem d_Md_init_110 : decode k_Md_init 110 = .ok (.aload_n 0, 1) := by decide +kernel
theorem d_Md_init_111 : decode k_Md_init 111 = .ok (.bipush 120, 2) := by decide +kernel
theorem d_Md_init_113 : decode k_Md_init 113 = .ok (.newarray .char, 2) := by decide +kernel
theorem d_Md_init_115 : decode k_Md_init 115 = .ok (.putfield 53, 3) := by decide +kernel
theorem d_Md_init_118 : decode k_Md_init 118 = .ok (.aload_n 0, 1) := by decide +kernel
theorem d_Md_init_119 : decode k_Md_init 119 = .ok (.sipush 200, 3) := by decide +kernel
theorem d_Md_init_122 : decode k_Md_init 122 = .ok (.newarray .char, 2) := by decide +kernel
theorem d_Md_init_124 : decode k_Md_init 124 = .ok (.putfield 56, 3) := by decide +kernel
theorem d_Md_init_127 : decode k_Md_init 127 = .ok (.aload_n 0, 1) := by decide +kernel
theorem d_Md_init_128 : decode k_Md_init 128 = .ok (.bipush 12, 2) := by decide +kernel
theorem d_Md_init_130 : decode k_Md_init 130 = .ok (.newarray .int, 2) := by decide +kernel
theorem d_Md_init_132 : decode k_Md_init 132 = .ok (.putfield 59, 3) := by decide +kernel
theorem d_Md_init_135 : decode k_Md_init 135 = .ok (.aload_n 0, 1) := by decide +kernel
theorem d_Md_init_136 : decode k_Md_init 136 = .ok (.bipush 12, 2) := by decide +kernel
theorem d_Md_init_138 : decode k_Md_init 138 = .ok (.newarray .int, 2) := by decide +kernel
theorem d_Md_init_140 : decode k_Md_init 140 = .ok (.putfield 62, 3) := by decide +kernel
theorem d_Md_init_143 : decode k_Md_init 143 = .ok (.aload_n 0, 1) := by decide +kernel
theorem d_Md_init_144 : decode k_Md_init 144 = .ok (.bipush 12, 2) := by decide +kernel
theorem d_Md_init_146 : decode k_Md_init 146 = .ok (.newarray .boolean, 2) := by decide +kernel
theorem d_Md_init_148 : decode k_Md_init 148 = .ok (.putfield 65, 3) := by decide +kernel
theorem d_Md_init_151 : decode k_Md_init 151 = .ok (.aload_n 0, 1) := by decide +kernel
theorem d_Md_init_152 : decode k_Md_init 152 = .ok (.bipush 18, 2) := by decide +kernel
theorem d_Md_init_154 : decode k_Md_init 154 = .ok (.newarray .int, 2) := by decide +kernel
theorem d_Md_init_156 : decode k_Md_init 156 = .ok (.putfield 68, 3) := by decide +kernel
theorem d_Md_init_159 : decode k_Md_init 159 = .ok (.aload_n 0, 1) := by decide +kernel
theorem d_Md_init_160 : decode k_Md_init 160 = .ok (.bipush 18, 2) := by decide +kernel
theorem d_Md_init_162 : decode k_Md_init 162 = .ok (.newarray .int, 2) := by decide +kernel
theorem d_Md_init_164 : decode k_Md_init 164 = .ok (.putfield 71, 3) := by decide +kernel
theorem d_Md_init_167 : decode k_Md_init 167 = .ok (.aload_n 0, 1) := by decide +kernel
theorem d_Md_init_168 : decode k_Md_init 168 = .ok (.iload_n 1, 1) := by decide +kernel
theorem d_Md_init_169 : decode k_Md_init 169 = .ok (.bipush 20, 2) := by decide +kernel
theorem d_Md_init_171 : decode k_Md_init 171 = .ok (.if_icmp .ge (8), 3) := by decide +kernel
theorem d_Md_init_174 : decode k_Md_init 174 = .ok (.bipush 20, 2) := by decide +kernel
theorem d_Md_init_176 : decode k_Md_init 176 = .ok (.goto (17), 3) := by decide +kernel
theorem d_Md_init_179 : decode k_Md_init 179 = .ok (.iload_n 1, 1) := by decide +kernel
theorem d_Md_init_180 : decode k_Md_init 180 = .ok (.sipush 400, 3) := by decide +kernel
theorem d_Md_init_183 : decode k_Md_init 183 = .ok (.if_icmp .le (9), 3) := by decide +kernel
theorem d_Md_init_186 : decode k_Md_init 186 = .ok (.sipush 400, 3) := by decide +kernel
theorem d_Md_init_189 : decode k_Md_init 189 = .ok (.goto (4), 3) := by decide +kernel
theorem d_Md_init_192 : decode k_Md_init 192 = .ok (.iload_n 1, 1) := by decide +kernel
theorem d_Md_init_193 : decode k_Md_init 193 = .ok (.putfield 74, 3) := by decide +kernel
theorem d_Md_init_196 : decode k_Md_init 196 = .ok (.iconst 0, 1) := by decide +kernel
theorem d_Md_init_197 : decode k_Md_init 197 = .ok (.istore_n 2, 1) := by decide +kernel
theorem d_Md_init_198 : decode k_Md_init 198 = .ok (.iload_n 2, 1) := by decide +kernel
theorem d_Md_init_199 : decode k_Md_init 199 = .ok (.bipush 40, 2) := by decide +kernel
theorem d_Md_init_201 : decode k_Md_init 201 = .ok (.if_icmp .ge (30), 3) := by decide +kernel
theorem d_Md_init_204 : decode k_Md_init 204 = .ok (.aload_n 0, 1) := by decide +kernel
theorem d_Md_init_205 : decode k_Md_init 205 = .ok (.getfield 42, 3) := by decide +kernel
theorem d_Md_init_208 : decode k_Md_init 208 = .ok (.iload_n 2, 1) := by decide +kernel
theorem d_Md_init_209 : decode k_Md_init 209 = .ok (.iload_n 2, 1) := by decide +kernel
theorem d_Md_init_210 : decode k_Md_init 210 = .ok (.bipush 10, 2) := by decide +kernel
theorem d_Md_init_212 : decode k_Md_init 212 = .ok (.if_icmp .ge (10), 3) := by decide +kernel
theorem d_Md_init_215 : decode k_Md_init 215 = .ok (.ldc 77, 2) := by decide +kernel
theorem d_Md_init_217 : decode k_Md_init 217 = .ok (.iload_n 2, 1) := by decide +kernel
theorem d_Md_init_218 : decode k_Md_init 218 = .ok (.iadd, 1) := by decide +kernel
theorem d_Md_init_219 : decode k_Md_init 219 = .ok (.goto (5), 3) := by decide +kernel
theorem d_Md_init_222 : decode k_Md_init 222 = .ok (.ldc 78, 2) := by decide +kernel
theorem d_Md_init_224 : decode k_Md_init 224 = .ok (.iastore, 1) := by decide +kernel
theorem d_Md_init_225 : decode k_Md_init 225 = .ok (.iinc 2 1, 3) := by decide +kernel
theorem d_Md_init_228 : decode k_Md_init 228 = .ok (.goto (-30), 3) := by decide +kernel
theorem d_Md_init_231 : decode k_Md_init 231 = .ok (.aload_n 0, 1) := by decide +kernel
theorem d_Md_init_232 : decode k_Md_init 232 = .ok (.bipush 43, 2) := by decide +kernel
theorem d_Md_init_234 : decode k_Md_init 234 = .ok (.iconst 0, 1) := by decide +kernel
theorem d_Md_init_235 : decode k_Md_init 235 = .ok (.iconst 0, 1) := by decide +kernel
theorem d_Md_init_236 : decode k_Md_init 236 = .ok (.iconst 0, 1) := by decide +kernel
theorem d_Md_init_237 : decode k_Md_init 237 = .ok (.iconst 0, 1) := by decide +kernel
theorem d_Md_init_238 : decode k_Md_init 238 = .ok (.iconst 0, 1) := by decide +kernel
theorem d_Md_init_239 : decode k_Md_init 239 = .ok (.invokevirtual 79, 3) := by decide +kernel
theorem d_Md_init_242 : decode k_Md_init 242 = .ok (.aload_n 0, 1) := by decide +kernel
theorem d_Md_init_243 : decode k_Md_init 243 = .ok (.bipush 45, 2) := by decide +kernel
theorem d_Md_init_245 : decode k_Md_init 245 = .ok (.iconst 0, 1) := by decide +kernel
theorem d_Md_init_246 : decode k_Md_init 246 = .ok (.iconst 0, 1) := by decide +kernel
theorem d_Md_init_247 : decode k_Md_init 247 = .ok (.iconst 0, 1) := by decide +kernel
theorem d_Md_init_248 : decode k_Md_init 248 = .ok (.iconst 0, 1) := by decide +kernel
theorem d_Md_init_249 : decode k_Md_init 249 = .ok (.iconst 0, 1) := by decide +kernel
theorem d_Md_init_250 : decode k_Md_init 250 = .ok (.invokevirtual 79, 3) := by decide +kernel
theorem d_Md_init_253 : decode k_Md_init 253 = .ok (.aload_n 0, 1) := by decide +kernel
theorem d_Md_init_254 : decode k_Md_init 254 = .ok (.bipush 42, 2) := by decide +kernel
theorem d_Md_init_256 : decode k_Md_init 256 = .ok (.iconst 0, 1) := by decide +kernel
theorem d_Md_init_257 : decode k_Md_init 257 = .ok (.iconst 0, 1) := by decide +kernel
theorem d_Md_init_258 : decode k_Md_init 258 = .ok (.iconst 0, 1) := by decide +kernel
theorem d_Md_init_259 : decode k_Md_init 259 = .ok (.iconst 0, 1) := by decide +kernel
theorem d_Md_init_260 : decode k_Md_init 260 = .ok (.iconst 0, 1) := by decide +kernel
theorem d_Md_init_261 : decode k_Md_init 261 = .ok (.invokevirtual 79, 3) := by decide +kernel
theorem d_Md_init_264 : decode k_Md_init 264 = .ok (.aload_n 0, 1) := by decide +kernel
theorem d_Md_init_265 : decode k_Md_init 265 = .ok (.bipush 60, 2) := by decide +kernel
theorem d_Md_init_267 : decode k_Md_init 267 = .ok (.iconst 0, 1) := by decide +kernel
theorem d_Md_init_268 : decode k_Md_init 268 = .ok (.iconst 0, 1) := by decide +kernel
theorem d_Md_init_269 : decode k_Md_init 269 = .ok (.iconst 0, 1) := by decide +kernel
theorem d_Md_init_270 : decode k_Md_init 270 = .ok (.iconst 0, 1) := by decide +kernel
theorem d_Md_init_271 : decode k_Md_init 271 = .ok (.iconst 0, 1) := by decide +kernel
theorem d_Md_init_272 : decode k_Md_init 272 = .ok (.invokevirtual 79, 3) := by decide +kernel
theorem d_Md_init_275 : decode k_Md_init 275 = .ok (.aload_n 0, 1) := by decide +kernel
theorem d_Md_init_276 : decode k_Md_init 276 = .ok (.bipush 101, 2) := by decide +kernel
theorem d_Md_init_278 : decode k_Md_init 278 = .ok (.bipush 113, 2) := by decide +kernel
theorem d_Md_init_280 : decode k_Md_init 280 = .ok (.bipush 63, 2) := by decide +kernel
theorem d_Md_init_282 : decode k_Md_init 282 = .ok (.iconst 0, 1) := by decide +kernel
theorem d_Md_init_283 : decode k_Md_init 283 = .ok (.iconst 0, 1) := by decide +kernel
theorem d_Md_init_284 : decode k_Md_init 284 = .ok (.iconst 0, 1) := by decide +kernel
theorem d_Md_init_285 : decode k_Md_init 285 = .ok (.invokevirtual 79, 3) := by decide +kernel
theorem d_Md_init_288 : decode k_Md_init 288 = .ok (.aload_n 0, 1) := by decide +kernel
theorem d_Md_init_289 : decode k_Md_init 289 = .ok (.bipush 97, 2) := by decide +kernel
theorem d_Md_init_291 : decode k_Md_init 291 = .ok (.bipush 116, 2) := by decide +kernel
theorem d_Md_init_293 : decode k_Md_init 293 = .ok (.bipush 111, 2) := by decide +kernel
theorem d_Md_init_295 : decode k_Md_init 295 = .ok (.bipush 109, 2) := by decide +kernel
theorem d_Md_init_297 : decode k_Md_init 297 = .ok (.bipush 63, 2) := by decide +kernel
theorem d_Md_init_299 : decode k_Md_init 299 = .ok (.iconst 0, 1) := by decide +kernel
theorem d_Md_init_300 : decode k_Md_init 300 = .ok (.invokevirtual 79, 3) := by decide +kernel
theorem d_Md_init_303 : decode k_Md_init 303 = .ok (.aload_n 0, 1) := by decide +kernel
theorem d_Md_init_304 : decode k_Md_init 304 = .ok (.bipush 99, 2) := by decide +kernel
theorem d_Md_init_306 : decode k_Md_init 306 = .ok (.bipush 111, 2) := by decide +kernel
theorem d_Md_init_308 : decode k_Md_init 308 = .ok (.bipush 110, 2) := by decide +kernel
theorem d_Md_init_310 : decode k_Md_init 310 = .ok (.bipush 115, 2) := by decide +kernel
theorem d_Md_init_312 : decode k_Md_init 312 = .ok (.iconst 0, 1) := by decide +kernel
theorem d_Md_init_313 : decode k_Md_init 313 = .ok (.iconst 0, 1) := by decide +kernel
theorem d_Md_init_314 : decode k_Md_init 314 = .ok (.invokevirtual 79, 3) := by decide +kernel
theorem d_Md_init_317 : decode k_Md_init 317 = .ok (.aload_n 0, 1) := by decide +kernel
theorem d_Md_init_318 : decode k_Md_init 318 = .ok (.bipush 99, 2) := by decide +kernel
theorem d_Md_init_320 : decode k_Md_init 320 = .ok (.bipush 97, 2) := by decide +kernel
theorem d_Md_init_322 : decode k_Md_init 322 = .ok (.bipush 114, 2) := by decide +kernel
theorem d_Md_init_324 : decode k_Md_init 324 = .ok (.iconst 0, 1) := by decide +kernel
theorem d_Md_init_325 : decode k_Md_init 325 = .ok (.iconst 0, 1) := by decide +kernel
theorem d_Md_init_326 : decode k_Md_init 326 = .ok (.iconst 0, 1) := by decide +kernel
theorem d_Md_init_327 : decode k_Md_init 327 = .ok (.invokevirtual 79, 3) := by decide +kernel
theorem d_Md_init_330 : decode k_Md_init 330 = .ok (.aload_n 0, 1) := by decide +kernel
theorem d_Md_init_331 : decode k_Md_init 331 = .ok (.bipush 99, 2) := by decide +kernel
theorem d_Md_init_333 : decode k_Md_init 333 = .ok (.bipush 100, 2) := by decide +kernel
theorem d_Md_init_335 : decode k_Md_init 335 = .ok (.bipush 114, 2) := by decide +kernel
theorem d_Md_init_337 : decode k_Md_init 337 = .ok (.iconst 0, 1) := by decide +kernel
theorem d_Md_init_338 : decode k_Md_init 338 = .ok (.iconst 0, 1) := by decide +kernel
theorem d_Md_init_339 : decode k_Md_init 339 = .ok (.iconst 0, 1) := by decide +kernel
theorem d_Md_init_340 : decode k_Md_init 340 = .ok (.invokevirtual 79, 3) := by decide +kernel
theorem d_Md_init_343 : decode k_Md_init 343 = .ok (.aload_n 0, 1) := by decide +kernel
theorem d_Md_init_344 : decode k_Md_init 344 = .ok (.bipush 108, 2) := by decide +kernel
theorem d_Md_init_346 : decode k_Md_init 346 = .ok (.bipush 105, 2) := by decide +kernel
theorem d_Md_init_348 : decode k_Md_init 348 = .ok (.bipush 115, 2) := by decide +kernel
theorem d_Md_init_350 : decode k_Md_init 350 = .ok (.bipush 116, 2) := by decide +kernel
theorem d_Md_init_352 : decode k_Md_init 352 = .ok (.iconst 0, 1) := by decide +kernel
theorem d_Md_init_353 : decode k_Md_init 353 = .ok (.iconst 0, 1) := by decide +kernel
theorem d_Md_init_354 : decode k_Md_init 354 = .ok (.invokevirtual 79, 3) := by decide +kernel
theorem d_Md_init_357 : decode k_Md_init 357 = .ok (.aload_n 0, 1) := by decide +kernel
theorem d_Md_init_358 : decode k_Md_init 358 = .ok (.bipush 113, 2) := by decide +kernel
theorem d_Md_init_360 : decode k_Md_init 360 = .ok (.bipush 117, 2) := by decide +kernel
theorem d_Md_init_362 : decode k_Md_init 362 = .ok (.bipush 111, 2) := by decide +kernel
theorem d_Md_init_364 : decode k_Md_init 364 = .ok (.bipush 116, 2) := by decide +kernel
theorem d_Md_init_366 : decode k_Md_init 366 = .ok (.bipush 101, 2) := by decide +kernel
theorem d_Md_init_368 : decode k_Md_init 368 = .ok (.iconst 0, 1) := by decide +kernel
theorem d_Md_init_369 : decode k_Md_init 369 = .ok (.invokevirtual 79, 3) := by decide +kernel
theorem d_Md_init_372 : decode k_Md_init 372 = .ok (.aload_n 0, 1) := by decide +kernel
theorem d_Md_init_373 : decode k_Md_init 373 = .ok (.bipush 105, 2) := by decide +kernel
theorem d_Md_init_375 : decode k_Md_init 375 = .ok (.bipush 102, 2) := by decide +kernel
theorem d_Md_init_377 : decode k_Md_init 377 = .ok (.iconst 0, 1) := by decide +kernel
theorem d_Md_init_378 : decode k_Md_init 378 = .ok (.iconst 0, 1) := by decide +kernel
theorem d_Md_init_379 : decode k_Md_init 379 = .ok (.iconst 0, 1) := by decide +kernel
theorem d_Md_init_380 : decode k_Md_init 380 = .ok (.iconst 0, 1) := by decide +kernel
theorem d_Md_init_381 : decode k_Md_init 381 = .ok (.invokevirtual 79, 3) := by decide +kernel
theorem d_Md_init_384 : decode k_Md_init 384 = .ok (.aload_n 0, 1) := by decide +kernel
theorem d_Md_init_385 : decode k_Md_init 385 = .ok (.bipush 108, 2) := by decide +kernel
theorem d_Md_init_387 : decode k_Md_init 387 = .ok (.bipush 97, 2) := by decide +kernel
theorem d_Md_init_389 : decode k_Md_init 389 = .ok (.bipush 109, 2) := by decide +kernel
theorem d_Md_init_391 : decode k_Md_init 391 = .ok (.bipush 98, 2) := by decide +kernel
theorem d_Md_init_393 : decode k_Md_init 393 = .ok (.bipush 100, 2) := by decide +kernel
theorem d_Md_init_395 : decode k_Md_init 395 = .ok (.bipush 97, 2) := by decide +kernel
theorem d_Md_init_397 : decode k_Md_init 397 = .ok (.invokevirtual 79, 3) := by decide +kernel
theorem d_Md_init_400 : decode k_Md_init 400 = .ok (.aload_n 0, 1) := by decide +kernel
theorem d_Md_init_401 : decode k_Md_init 401 = .ok (.bipush 100, 2) := by decide +kernel
theorem d_Md_init_403 : decode k_Md_init 403 = .ok (.bipush 101, 2) := by decide +kernel
theorem d_Md_init_405 : decode k_Md_init 405 = .ok (.bipush 102, 2) := by decide +kernel
theorem d_Md_init_407 : decode k_Md_init 407 = .ok (.bipush 105, 2) := by decide +kernel
theorem d_Md_init_409 : decode k_Md_init 409 = .ok (.bipush 110, 2) := by decide +kernel
theorem d_Md_init_411 : decode k_Md_init 411 = .ok (.bipush 101, 2) := by decide +kernel
theorem d_Md_init_413 : decode k_Md_init 413 = .ok (.invokevirtual 79, 3) := by decide +kernel
theorem d_Md_init_416 : decode k_Md_init 416 = .ok (.aload_n 0, 1) := by decide +kernel
theorem d_Md_init_417 : decode k_Md_init 417 = .ok (.bipush 115, 2) := by decide +kernel
theorem d_Md_init_419 : decode k_Md_init 419 = .ok (.bipush 101, 2) := by decide +kernel
theorem d_Md_init_421 : decode k_Md_init 421 = .ok (.bipush 116, 2) := by decide +kernel
theorem d_Md_init_423 : decode k_Md_init 423 = .ok (.bipush 33, 2) := by decide +kernel
theorem d_Md_init_425 : decode k_Md_init 425 = .ok (.iconst 0, 1) := by decide +kernel
theorem d_Md_init_426 : decode k_Md_init 426 = .ok (.iconst 0, 1) := by decide +kernel
theorem d_Md_init_427 : decode k_Md_init 427 = .ok (.invokevirtual 79, 3) := by decide +kernel
theorem d_Md_init_430 : decode k_Md_init 430 = .ok (.aload_n 0, 1) := by decide +kernel
theorem d_Md_init_431 : decode k_Md_init 431 = .ok (.bipush 116, 2) := by decide +kernel
theorem d_Md_init_433 : decode k_Md_init 433 = .ok (.iconst 0, 1) := by decide +kernel
theorem d_Md_init_434 : decode k_Md_init 434 = .ok (.iconst 0, 1) := by decide +kernel
theorem d_Md_init_435 : decode k_Md_init 435 = .ok (.iconst 0, 1) := by decide +kernel
theorem d_Md_init_436 : decode k_Md_init 436 = .ok (.iconst 0, 1) := by decide +kernel
theorem d_Md_init_437 : decode k_Md_init 437 = .ok (.iconst 0, 1) := by decide +kernel
theorem d_Md_init_438 : decode k_Md_init 438 = .ok (.invokevirtual 79, 3) := by decide +kernel
theorem d_Md_init_441 : decode k_Md_init 441 = .ok (.aload_n 0, 1) := by decide +kernel
theorem d_Md_init_442 : decode k_Md_init 442 = .ok (.getfield 42, 3) := by decide +kernel
theorem d_Md_init_445 : decode k_Md_init 445 = .ok (.bipush 15, 2) := by decide +kernel
theorem d_Md_init_447 : decode k_Md_init 447 = .ok (.ldc 83, 2) := by decide +kernel
theorem d_Md_init_449 : decode k_Md_init 449 = .ok (.iastore, 1) := by decide +kernel
theorem d_Md_init_450 : decode k_Md_init 450 = .ok (.return_, 1) := by decide +kernel
theorem mi_Md_init : pm_mi pmTs y_Md_init k_Md_init 3 none 1 := ⟨tw_660, tw_105, ⟨by decide, by decide⟩, by decide +kernel⟩
abbrev shMx : List pm_E := shM
def f_Md_word (x1 : Int32) (x2 : Int32) (x3 : Int32) (x4 : Int32) (x5 : Int32) (x6 : Int32) (w : pm_W) : Option pm_W :=
  if ((8 : Int32) * (w.1 0 12)) < 0 ∨ 320 ≤ ((8 : Int32) * (w.1 0 12)).toNatClampNeg then none else
  if (((8 : Int32) * (w.1 0 12)) + (1 : Int32)) < 0 ∨ 320 ≤ (((8 : Int32) * (w.1 0 12)) + (1 : Int32)).toNatClampNeg then none else
  if (((8 : Int32) * (w.1 0 12)) + (2 : Int32)) < 0 ∨ 320 ≤ (((8 : Int32) * (w.1 0 12)) + (2 : Int32)).toNatClampNeg then none else
  if (((8 : Int32) * (w.1 0 12)) + (3 : Int32)) < 0 ∨ 320 ≤ (((8 : Int32) * (w.1 0 12)) + (3 : Int32)).toNatClampNeg then none else
  if (((8 : Int32) * (w.1 0 12)) + (4 : Int32)) < 0 ∨ 320 ≤ (((8 : Int32) * (w.1 0 12)) + (4 : Int32)).toNatClampNeg then none else
  if (((8 : Int32) * (w.1 0 12)) + (5 : Int32)) < 0 ∨ 320 ≤ (((8 : Int32) * (w.1 0 12)) + (5 : Int32)).toNatClampNeg then none else
  some (pm_setI (pm_setI (pm_setI (pm_setI (pm_setI (pm_setI (pm_setI w 10 ((8 : Int32) * (w.1 0 12)).toNatClampNeg (vp_nar .char ((x1.toUInt32 % 65536).toInt32))) 10 (((8 : Int32) * (w.1 0 12)) + (1 : Int32)).toNatClampNeg (vp_nar .char ((x2.toUInt32 % 65536).toInt32))) 10 (((8 : Int32) * (w.1 0 12)) + (2 : Int32)).toNatClampNeg (vp_nar .char ((x3.toUInt32 % 65536).toInt32))) 10 (((8 : Int32) * (w.1 0 12)) + (3 : Int32)).toNatClampNeg (vp_nar .char ((x4.toUInt32 % 65536).toInt32))) 10 (((8 : Int32) * (w.1 0 12)) + (4 : Int32)).toNatClampNeg (vp_nar .char ((x5.toUInt32 % 65536).toInt32))) 10 (((8 : Int32) * (w.1 0 12)) + (5 : Int32)).toNatClampNeg (vp_nar .char ((x6.toUInt32 % 65536).toInt32))) 0 12 ((w.1 0 12) + (1 : Int32)))
set_option maxHeartbeats 4000000 in
set_option maxRecDepth 100000 in
theorem t_Md_word {p : Program} {l : Launch} {e : Env} {s : State} {m : MethodId} {args : Array Value} {below : List Frame} {meth : Method} {c : Code} {D : va_G} {ca : Nat → ClassId} {ad : Nat → Nat} {E : (Nat → Prop) → State → Heap → Prop} (K : pm_ok p s m args meth c k_Md_word 7 pmTs R_Md D vwCl (tyl ca) shM ad E none) (w' : pm_W) (x1 : Int32) (x2 : Int32) (x3 : Int32) (x4 : Int32) (x5 : Int32) (x6 : Int32) (w : pm_W) (hf : f_Md_word  x1 x2 x3 x4 x5 x6 w = some w') : pm_wk p l e { frames := 0, cells := 0, slots := 0, locals := 0 } s m args below meth c D vwCl shM ca ad 7 (none, w') 0 [(0, .ref (ad 0)), (1, .int x1), (2, .int x2), (3, .int x3), (4, .int x4), (5, .int x5), (6, .int x6)] [] w := by
  unfold f_Md_word at hf
  refine pm_aload_n K d_Md_word_0 0 rfl rfl ?_
  refine pm_getR K fc_9 (o := 0) rfl 13 rfl (by decide) tw_682 d_Md_word_1 ?_
  refine pm_bipush (v := 8) K d_Md_word_4 (by decide) ?_
  refine pm_aload_n K d_Md_word_6 0 rfl rfl ?_
  refine pm_getI K fc_9 (o := 0) rfl 12 rfl (by decide) tw_681 d_Md_word_7 (v := w.1 0 12) rfl ?_
  refine pm_imul K d_Md_word_10 ?_
  refine pm_iload_n K d_Md_word_11 1 rfl rfl ?_
  refine pm_i2c K d_Md_word_12 rfl ?_
  obtain ⟨q1, hf⟩ := pm_bnd hf
  refine pm_cast K (o := 10) rfl rfl q1 d_Md_word_13 ?_
  refine pm_aload_n K d_Md_word_14 0 rfl rfl ?_
  refine pm_getR K fc_9 (o := 0) rfl 13 rfl (by decide) tw_682 d_Md_word_15 ?_
  refine pm_bipush (v := 8) K d_Md_word_18 (by decide) ?_
  refine pm_aload_n K d_Md_word_20 0 rfl rfl ?_
  refine pm_getI K fc_9 (o := 0) rfl 12 rfl (by decide) tw_681 d_Md_word_21 (v := w.1 0 12) rfl ?_
  refine pm_imul K d_Md_word_24 ?_
  refine pm_iconst (v := 1) K d_Md_word_25 (by decide) ?_
  refine pm_iadd K d_Md_word_26 ?_
  refine pm_iload_n K d_Md_word_27 2 rfl rfl ?_
  refine pm_i2c K d_Md_word_28 rfl ?_
  obtain ⟨q2, hf⟩ := pm_bnd hf
  refine pm_cast K (o := 10) rfl rfl q2 d_Md_word_29 ?_
  refine pm_aload_n K d_Md_word_30 0 rfl rfl ?_
  refine pm_getR K fc_9 (o := 0) rfl 13 rfl (by decide) tw_682 d_Md_word_31 ?_
  refine pm_bipush (v := 8) K d_Md_word_34 (by decide) ?_
  refine pm_aload_n K d_Md_word_36 0 rfl rfl ?_
  refine pm_getI K fc_9 (o := 0) rfl 12 rfl (by decide) tw_681 d_Md_word_37 (v := w.1 0 12) rfl ?_
  refine pm_imul K d_Md_word_40 ?_
  refine pm_iconst (v := 2) K d_Md_word_41 (by decide) ?_
  refine pm_iadd K d_Md_word_42 ?_
  refine pm_iload_n K d_Md_word_43 3 rfl rfl ?_
  refine pm_i2c K d_Md_word_44 rfl ?_
  obtain ⟨q3, hf⟩ := pm_bnd hf
  refine pm_cast K (o := 10) rfl rfl q3 d_Md_word_45 ?_
  refine pm_aload_n K d_Md_word_46 0 rfl rfl ?_
  refine pm_getR K fc_9 (o := 0) rfl 13 rfl (by decide) tw_682 d_Md_word_47 ?_
  refine pm_bipush (v := 8) K d_Md_word_50 (by decide) ?_
  refine pm_aload_n K d_Md_word_52 0 rfl rfl ?_
  refine pm_getI K fc_9 (o := 0) rfl 12 rfl (by decide) tw_681 d_Md_word_53 (v := w.1 0 12) rfl ?_
  refine pm_imul K d_Md_word_56 ?_
  refine pm_iconst (v := 3) K d_Md_word_57 (by decide) ?_
  refine pm_iadd K d_Md_word_58 ?_
  refine pm_iload K d_Md_word_59 4 rfl ?_
  refine pm_i2c K d_Md_word_61 rfl ?_
  obtain ⟨q4, hf⟩ := pm_bnd hf
  refine pm_cast K (o := 10) rfl rfl q4 d_Md_word_62 ?_
  refine pm_aload_n K d_Md_word_63 0 rfl rfl ?_
  refine pm_getR K fc_9 (o := 0) rfl 13 rfl (by decide) tw_682 d_Md_word_64 ?_
  refine pm_bipush (v := 8) K d_Md_word_67 (by decide) ?_
  refine pm_aload_n K d_Md_word_69 0 rfl rfl ?_
  refine pm_getI K fc_9 (o := 0) rfl 12 rfl (by decide) tw_681 d_Md_word_70 (v := w.1 0 12) rfl ?_
  refine pm_imul K d_Md_word_73 ?_
  refine pm_iconst (v := 4) K d_Md_word_74 (by decide) ?_
  refine pm_iadd K d_Md_word_75 ?_
  refine pm_iload K d_Md_word_76 5 rfl ?_
  refine pm_i2c K d_Md_word_78 rfl ?_
  obtain ⟨q5, hf⟩ := pm_bnd hf
  refine pm_cast K (o := 10) rfl rfl q5 d_Md_word_79 ?_
  refine pm_aload_n K d_Md_word_80 0 rfl rfl ?_
  refine pm_getR K fc_9 (o := 0) rfl 13 rfl (by decide) tw_682 d_Md_word_81 ?_
  refine pm_bipush (v := 8) K d_Md_word_84 (by decide) ?_
  refine pm_aload_n K d_Md_word_86 0 rfl rfl ?_
  refine pm_getI K fc_9 (o := 0) rfl 12 rfl (by decide) tw_681 d_Md_word_87 (v := w.1 0 12) rfl ?_
  refine pm_imul K d_Md_word_90 ?_
  refine pm_iconst (v := 5) K d_Md_word_91 (by decide) ?_
  refine pm_iadd K d_Md_word_92 ?_
  refine pm_iload K d_Md_word_93 6 rfl ?_
  refine pm_i2c K d_Md_word_95 rfl ?_
  obtain ⟨q6, hf⟩ := pm_bnd hf
  refine pm_cast K (o := 10) rfl rfl q6 d_Md_word_96 ?_
  refine pm_aload_n K d_Md_word_97 0 rfl rfl ?_
  refine pm_dup K d_Md_word_98 rfl ?_
  refine pm_getI K fc_9 (o := 0) rfl 12 rfl (by decide) tw_681 d_Md_word_99 (v := w.1 0 12) rfl ?_
  refine pm_iconst (v := 1) K d_Md_word_102 (by decide) ?_
  refine pm_iadd K d_Md_word_103 ?_
  refine pm_putI K fc_9 (o := 0) (ty := .int) rfl 12 rfl (by decide) tw_681 rfl rfl rfl rfl d_Md_word_104 ?_
  cases hf
  exact pm_vret K d_Md_word_107
/-- CellLispModel.word(IIIIII)V -/
theorem c_Md_word {l : Launch} {D : va_G} {ca : Nat → ClassId} {ad : Nat → Nat} {E : (Nat → Prop) → State → Heap → Prop} (hEc : pm_Ecl E) (w' : pm_W) (x1 : Int32) (x2 : Int32) (x3 : Int32) (x4 : Int32) (x5 : Int32) (x6 : Int32) (w : pm_W) (hf : f_Md_word  x1 x2 x3 x4 x5 x6 w = some w') : pm_Met l pmTs D vwCl (tyl ca) shM ca ad E y_Md_word k_Md_word 7 none { frames := 0, cells := 0, slots := 0, locals := 0 } [.ref (ad 0), .int x1, .int x2, .int x3, .int x4, .int x5, .int x6] w (none, w') :=
  pm_start pmTs_good hEc (by decide) (Nat.le_of_ble_eq_true rfl) (fun p e s m below meth c K => t_Md_word K w' x1 x2 x3 x4 x5 x6 w hf)

def b_Md_init_198 (rec : Nat → Int32 → pm_W → Option pm_W) (x2 : Int32) (w : pm_W) : Option pm_W :=
  if (40 : Int32) ≤ x2 then
    Option.bind (f_Md_word (43 : Int32) (0 : Int32) (0 : Int32) (0 : Int32) (0 : Int32) (0 : Int32) w) fun o4 =>
    Option.bind (f_Md_word (45 : Int32) (0 : Int32) (0 : Int32) (0 : Int32) (0 : Int32) (0 : Int32) o4) fun o5 =>
    Option.bind (f_Md_word (42 : Int32) (0 : Int32) (0 : Int32) (0 : Int32) (0 : Int32) (0 : Int32) o5) fun o6 =>
    Option.bind (f_Md_word (60 : Int32) (0 : Int32) (0 : Int32) (0 : Int32) (0 : Int32) (0 : Int32) o6) fun o7 =>
    Option.bind (f_Md_word (101 : Int32) (113 : Int32) (63 : Int32) (0 : Int32) (0 : Int32) (0 : Int32) o7) fun o8 =>
    Option.bind (f_Md_word (97 : Int32) (116 : Int32) (111 : Int32) (109 : Int32) (63 : Int32) (0 : Int32) o8) fun o9 =>
    Option.bind (f_Md_word (99 : Int32) (111 : Int32) (110 : Int32) (115 : Int32) (0 : Int32) (0 : Int32) o9) fun o10 =>
    Option.bind (f_Md_word (99 : Int32) (97 : Int32) (114 : Int32) (0 : Int32) (0 : Int32) (0 : Int32) o10) fun o11 =>
    Option.bind (f_Md_word (99 : Int32) (100 : Int32) (114 : Int32) (0 : Int32) (0 : Int32) (0 : Int32) o11) fun o12 =>
    Option.bind (f_Md_word (108 : Int32) (105 : Int32) (115 : Int32) (116 : Int32) (0 : Int32) (0 : Int32) o12) fun o13 =>
    Option.bind (f_Md_word (113 : Int32) (117 : Int32) (111 : Int32) (116 : Int32) (101 : Int32) (0 : Int32) o13) fun o14 =>
    Option.bind (f_Md_word (105 : Int32) (102 : Int32) (0 : Int32) (0 : Int32) (0 : Int32) (0 : Int32) o14) fun o15 =>
    Option.bind (f_Md_word (108 : Int32) (97 : Int32) (109 : Int32) (98 : Int32) (100 : Int32) (97 : Int32) o15) fun o16 =>
    Option.bind (f_Md_word (100 : Int32) (101 : Int32) (102 : Int32) (105 : Int32) (110 : Int32) (101 : Int32) o16) fun o17 =>
    Option.bind (f_Md_word (115 : Int32) (101 : Int32) (116 : Int32) (33 : Int32) (0 : Int32) (0 : Int32) o17) fun o18 =>
    Option.bind (f_Md_word (116 : Int32) (0 : Int32) (0 : Int32) (0 : Int32) (0 : Int32) (0 : Int32) o18) fun o19 =>
    if (15 : Int32) < 0 ∨ 40 ≤ (15 : Int32).toNatClampNeg then none else
    some (pm_setI o19 11 (15 : Int32).toNatClampNeg (536871015 : Int32))
  else
    if (10 : Int32) ≤ x2 then
      if x2 < 0 ∨ 40 ≤ x2.toNatClampNeg then none else
      rec 0 (x2 + (1 : Int32)) (pm_setI w 11 x2.toNatClampNeg (-2147483648 : Int32))
    else
      if x2 < 0 ∨ 40 ≤ x2.toNatClampNeg then none else
      rec 0 (x2 + (1 : Int32)) (pm_setI w 11 x2.toNatClampNeg ((536872000 : Int32) + x2))
def l_Md_init : Nat → Nat → Int32 → pm_W → Option pm_W := pm_it (fun _ _ _ => none) (fun rec k x2 w => b_Md_init_198  rec x2 w)
def f_Md_init (x1 : Int32) (w : pm_W) : Option pm_W :=
  if (20 : Int32) ≤ x1 then
    if x1 ≤ (400 : Int32) then
      (l_Md_init  pm_fuel) 0 (0 : Int32) (pm_setI w 0 1 x1)
    else
      (l_Md_init  pm_fuel) 0 (0 : Int32) (pm_setI w 0 1 (400 : Int32))
  else
    (l_Md_init  pm_fuel) 0 (0 : Int32) (pm_setI w 0 1 (20 : Int32))
set_option maxHeartbeats 4000000 in
set_option maxRecDepth 100000 in
theorem t_Md_init_198 {p : Program} {l : Launch} {e : Env} {s : State} {m : MethodId} {args : Array Value} {below : List Frame} {meth : Method} {c : Code} {D : va_G} {ca : Nat → ClassId} {ad : Nat → Nat} {adK adV : Nat → Nat} {kc ks : Nat} {A : Nat → Prop} (K : pg_ok p { frames := 1, cells := 18, slots := 1902, locals := 26 } s m args meth c k_Md_init 3 pmTs R_Md D vwCl (tyl ca) shM ad (st_E adK adV) none kc ks A) {okad : (Nat → Nat) → Prop} (hok : okad ad) (hin : meth.name = "<init>") (rec : Nat → Int32 → pm_W → Option pm_W) (w' : pm_W) (h198 : ∀ (x2 : Int32) (w : pm_W), rec 0 x2 w = some w' → pg_wk p l e { frames := 1, cells := 18, slots := 1902, locals := 26 } s m args below meth c D vwCl shM ca ad 3 kc ks A (MQ below (pm_Qn D ca vwCl shM okad w' A) args s kc ks A) 198 [(0, .ref (ad 0)), (2, .int x2)] [] w) (x2 : Int32) (w : pm_W) (hf : b_Md_init_198  rec x2 w = some w') : pg_wk p l e { frames := 1, cells := 18, slots := 1902, locals := 26 } s m args below meth c D vwCl shM ca ad 3 kc ks A (MQ below (pm_Qn D ca vwCl shM okad w' A) args s kc ks A) 198 [(0, .ref (ad 0)), (2, .int x2)] [] w := by
  unfold b_Md_init_198 at hf
  refine pg_iload_n K d_Md_init_198 1 rfl rfl ?_
  refine pg_bipush (v := 40) K d_Md_init_199 (by decide) ?_
  refine pg_icmp_ge K d_Md_init_201 231 (by decide) (fun c3 => ?_) (fun c3 => ?_)
  · have hf := pm_ift c3 hf
    refine pg_aload_n K d_Md_init_231 0 rfl rfl ?_
    refine pg_bipush (v := 43) K d_Md_init_232 (by decide) ?_
    refine pg_iconst (v := 0) K d_Md_init_234 (by decide) ?_
    refine pg_iconst (v := 0) K d_Md_init_235 (by decide) ?_
    refine pg_iconst (v := 0) K d_Md_init_236 (by decide) ?_
    refine pg_iconst (v := 0) K d_Md_init_237 (by decide) ?_
    refine pg_iconst (v := 0) K d_Md_init_238 (by decide) ?_
    obtain ⟨o4, z4, hf⟩ := pm_bind hf
    refine pg_callV (As := [.int (43 : Int32), .int (0 : Int32), .int (0 : Int32), .int (0 : Int32), .int (0 : Int32), .int (0 : Int32)]) (rest := []) (o := 0) K (c_Md_word K.2.2.2.2.2.2.2.2.2.2.2.2 o4 (43 : Int32) (0 : Int32) (0 : Int32) (0 : Int32) (0 : Int32) (0 : Int32) w z4) mi_Md_word rfl rfl tw_666 tw_41 tw_665 rfl ⟨rfl, rfl, Nat.le_of_ble_eq_true rfl, Nat.le_of_ble_eq_true rfl⟩ rfl (Nat.le_of_ble_eq_true rfl) d_Md_init_239 ?_
    refine pg_aload_n K d_Md_init_242 0 rfl rfl ?_
    refine pg_bipush (v := 45) K d_Md_init_243 (by decide) ?_
    refine pg_iconst (v := 0) K d_Md_init_245 (by decide) ?_
    refine pg_iconst (v := 0) K d_Md_init_246 (by decide) ?_
    refine pg_iconst (v := 0) K d_Md_init_247 (by decide) ?_
    refine pg_iconst (v := 0) K d_Md_init_248 (by decide) ?_
    refine pg_iconst (v := 0) K d_Md_init_249 (by decide) ?_
    obtain ⟨o5, z5, hf⟩ := pm_bind hf
    refine pg_callV (As := [.int (45 : Int32), .int (0 : Int32), .int (0 : Int32), .int (0 : Int32), .int (0 : Int32), .int (0 : Int32)]) (rest := []) (o := 0) K (c_Md_word K.2.2.2.2.2.2.2.2.2.2.2.2 o5 (45 : Int32) (0 : Int32) (0 : Int32) (0 : Int32) (0 : Int32) (0 : Int32) o4 z5) mi_Md_word rfl rfl tw_666 tw_41 tw_665 rfl ⟨rfl, rfl, Nat.le_of_ble_eq_true rfl, Nat.le_of_ble_eq_true rfl⟩ rfl (Nat.le_of_ble_eq_true rfl) d_Md_init_250 ?_
    refine pg_aload_n K d_Md_init_253 0 rfl rfl ?_
    refine pg_bipush (v := 42) K d_Md_init_254 (by decide) ?_
    refine pg_iconst (v := 0) K d_Md_init_256 (by decide) ?_
    refine pg_iconst (v := 0) K d_Md_init_257 (by decide) ?_
    refine pg_iconst (v := 0) K d_Md_init_258 (by decide) ?_
    refine pg_iconst (v := 0) K d_Md_init_259 (by decide) ?_
    refine pg_iconst (v := 0) K d_Md_init_260 (by decide) ?_
    obtain ⟨o6, z6, hf⟩ := pm_bind hf
    refine pg_callV (As := [.int (42 : Int32), .int (0 : Int32), .int (0 : Int32), .int (0 : Int32), .int (0 : Int32), .int (0 : Int32)]) (rest := []) (o := 0) K (c_Md_word K.2.2.2.2.2.2.2.2.2.2.2.2 o6 (42 : Int32) (0 : Int32) (0 : Int32) (0 : Int32) (0 : Int32) (0 : Int32) o5 z6) mi_Md_word rfl rfl tw_666 tw_41 tw_665 rfl ⟨rfl, rfl, Nat.le_of_ble_eq_true rfl, Nat.le_of_ble_eq_true rfl⟩ rfl (Nat.le_of_ble_eq_true rfl) d_Md_init_261 ?_
    refine pg_aload_n K d_Md_init_264 0 rfl rfl ?_
    refine pg_bipush (v := 60) K d_Md_init_265 (by decide) ?_
    refine pg_iconst (v := 0) K d_Md_init_267 (by decide) ?_
    refine pg_iconst (v := 0) K d_Md_init_268 (by decide) ?_
    refine pg_iconst (v := 0) K d_Md_init_269 (by decide) ?_
    refine pg_iconst (v := 0) K d_Md_init_270 (by decide) ?_
    refine pg_iconst (v := 0) K d_Md_init_271 (by decide) ?_
    obtain ⟨o7, z7, hf⟩ := pm_bind hf
    refine pg_callV (As := [.int (60 : Int32), .int (0 : Int32), .int (0 : Int32), .int (0 : Int32), .int (0 : Int32), .int (0 : Int32)]) (rest := []) (o := 0) K (c_Md_word K.2.2.2.2.2.2.2.2.2.2.2.2 o7 (60 : Int32) (0 : Int32) (0 : Int32) (0 : Int32) (0 : Int32) (0 : Int32) o6 z7) mi_Md_word rfl rfl tw_666 tw_41 tw_665 rfl ⟨rfl, rfl, Nat.le_of_ble_eq_true rfl, Nat.le_of_ble_eq_true rfl⟩ rfl (Nat.le_of_ble_eq_true rfl) d_Md_init_272 ?_
    refine pg_aload_n K d_Md_init_275 0 rfl rfl ?_
    refine pg_bipush (v := 101) K d_Md_init_276 (by decide) ?_
    refine pg_bipush (v := 113) K d_Md_init_278 (by decide) ?_
    refine pg_bipush (v := 63) K d_Md_init_280 (by decide) ?_
    refine pg_iconst (v := 0) K d_Md_init_282 (by decide) ?_
    refine pg_iconst (v := 0) K d_Md_init_283 (by decide) ?_
    refine pg_iconst (v := 0) K d_Md_init_284 (by decide) ?_
    obtain ⟨o8, z8, hf⟩ := pm_bind hf
    refine pg_callV (As := [.int (101 : Int32), .int (113 : Int32), .int (63 : Int32), .int (0 : Int32), .int (0 : Int32), .int (0 : Int32)]) (rest := []) (o := 0) K (c_Md_word K.2.2.2.2.2.2.2.2.2.2.2.2 o8 (101 : Int32) (113 : Int32) (63 : Int32) (0 : Int32) (0 : Int32) (0 : Int32) o7 z8) mi_Md_word rfl rfl tw_666 tw_41 tw_665 rfl ⟨rfl, rfl, Nat.le_of_ble_eq_true rfl, Nat.le_of_ble_eq_true rfl⟩ rfl (Nat.le_of_ble_eq_true rfl) d_Md_init_285 ?_
    refine pg_aload_n K d_Md_init_288 0 rfl rfl ?_
    refine pg_bipush (v := 97) K d_Md_init_289 (by decide) ?_
    refine pg_bipush (v := 116) K d_Md_init_291 (by decide) ?_
    refine pg_bipush (v := 111) K d_Md_init_293 (by decide) ?_
    refine pg_bipush (v := 109) K d_Md_init_295 (by decide) ?_
    refine pg_bipush (v := 63) K d_Md_init_297 (by decide) ?_
    refine pg_iconst (v := 0) K d_Md_init_299 (by decide) ?_
    obtain ⟨o9, z9, hf⟩ := pm_bind hf
    refine pg_callV (As := [.int (97 : Int32), .int (116 : Int32), .int (111 : Int32), .int (109 : Int32), .int (63 : Int32), .int (0 : Int32)]) (rest := []) (o := 0) K (c_Md_word K.2.2.2.2.2.2.2.2.2.2.2.2 o9 (97 : Int32) (116 : Int32) (111 : Int32) (109 : Int32) (63 : Int32) (0 : Int32) o8 z9) mi_Md_word rfl rfl tw_666 tw_41 tw_665 rfl ⟨rfl, rfl, Nat.le_of_ble_eq_true rfl, Nat.le_of_ble_eq_true rfl⟩ rfl (Nat.le_of_ble_eq_true rfl) d_Md_init_300 ?_
    refine pg_aload_n K d_Md_init_303 0 rfl rfl ?_
    refine pg_bipush (v := 99) K d_Md_init_304 (by decide) ?_
    refine pg_bipush (v := 111) K d_Md_init_306 (by decide) ?_
    refine pg_bipush (v := 110) K d_Md_init_308 (by decide) ?_
    refine pg_bipush (v := 115) K d_Md_init_310 (by decide) ?_
    refine pg_iconst (v := 0) K d_Md_init_312 (by decide) ?_
    refine pg_iconst (v := 0) K d_Md_init_313 (by decide) ?_
    obtain ⟨o10, z10, hf⟩ := pm_bind hf
    refine pg_callV (As := [.int (99 : Int32), .int (111 : Int32), .int (110 : Int32), .int (115 : Int32), .int (0 : Int32), .int (0 : Int32)]) (rest := []) (o := 0) K (c_Md_word K.2.2.2.2.2.2.2.2.2.2.2.2 o10 (99 : Int32) (111 : Int32) (110 : Int32) (115 : Int32) (0 : Int32) (0 : Int32) o9 z10) mi_Md_word rfl rfl tw_666 tw_41 tw_665 rfl ⟨rfl, rfl, Nat.le_of_ble_eq_true rfl, Nat.le_of_ble_eq_true rfl⟩ rfl (Nat.le_of_ble_eq_true rfl) d_Md_init_314 ?_
    refine pg_aload_n K d_Md_init_317 0 rfl rfl ?_
    refine pg_bipush (v := 99) K d_Md_init_318 (by decide) ?_
    refine pg_bipush (v := 97) K d_Md_init_320 (by decide) ?_
    refine pg_bipush (v := 114) K d_Md_init_322 (by decide) ?_
    refine pg_iconst (v := 0) K d_Md_init_324 (by decide) ?_
    refine pg_iconst (v := 0) K d_Md_init_325 (by decide) ?_
    refine pg_iconst (v := 0) K d_Md_init_326 (by decide) ?_
    obtain ⟨o11, z11, hf⟩ := pm_bind hf
    refine pg_callV (As := [.int (99 : Int32), .int (97 : Int32), .int (114 : Int32), .int (0 : Int32), .int (0 : Int32), .int (0 : Int32)]) (rest := []) (o := 0) K (c_Md_word K.2.2.2.2.2.2.2.2.2.2.2.2 o11 (99 : Int32) (97 : Int32) (114 : Int32) (0 : Int32) (0 : Int32) (0 : Int32) o10 z11) mi_Md_word rfl rfl tw_666 tw_41 tw_665 rfl ⟨rfl, rfl, Nat.le_of_ble_eq_true rfl, Nat.le_of_ble_eq_true rfl⟩ rfl (Nat.le_of_ble_eq_true rfl) d_Md_init_327 ?_
    refine pg_aload_n K d_Md_init_330 0 rfl rfl ?_
    refine pg_bipush (v := 99) K d_Md_init_331 (by decide) ?_
    refine pg_bipush (v := 100) K d_Md_init_333 (by decide) ?_
    refine pg_bipush (v := 114) K d_Md_init_335 (by decide) ?_
    refine pg_iconst (v := 0) K d_Md_init_337 (by decide) ?_
    refine pg_iconst (v := 0) K d_Md_init_338 (by decide) ?_
    refine pg_iconst (v := 0) K d_Md_init_339 (by decide) ?_
    obtain ⟨o12, z12, hf⟩ := pm_bind hf
    refine pg_callV (As := [.int (99 : Int32), .int (100 : Int32), .int (114 : Int32), .int (0 : Int32), .int (0 : Int32), .int (0 : Int32)]) (rest := []) (o := 0) K (c_Md_word K.2.2.2.2.2.2.2.2.2.2.2.2 o12 (99 : Int32) (100 : Int32) (114 : Int32) (0 : Int32) (0 : Int32) (0 : Int32) o11 z12) mi_Md_word rfl rfl tw_666 tw_41 tw_665 rfl ⟨rfl, rfl, Nat.le_of_ble_eq_true rfl, Nat.le_of_ble_eq_true rfl⟩ rfl (Nat.le_of_ble_eq_true rfl) d_Md_init_340 ?_
    refine pg_aload_n K d_Md_init_343 0 rfl rfl ?_
    refine pg_bipush (v := 108) K d_Md_init_344 (by decide) ?_
    refine pg_bipush (v := 105) K d_Md_init_346 (by decide) ?_
    refine pg_bipush (v := 115) K d_Md_init_348 (by decide) ?_
    refine pg_bipush (v := 116) K d_Md_init_350 (by decide) ?_
    refine pg_iconst (v := 0) K d_Md_init_352 (by decide) ?_
    refine pg_iconst (v := 0) K d_Md_init_353 (by decide) ?_
    obtain ⟨o13, z13, hf⟩ := pm_bind hf
    refine pg_callV (As := [.int (108 : Int32), .int (105 : Int32), .int (115 : Int32), .int (116 : Int32), .int (0 : Int32), .int (0 : Int32)]) (rest := []) (o := 0) K (c_Md_word K.2.2.2.2.2.2.2.2.2.2.2.2 o13 (108 : Int32) (105 : Int32) (115 : Int32) (116 : Int32) (0 : Int32) (0 : Int32) o12 z13) mi_Md_word rfl rfl tw_666 tw_41 tw_665 rfl ⟨rfl, rfl, Nat.le_of_ble_eq_true rfl, Nat.le_of_ble_eq_true rfl⟩ rfl (Nat.le_of_ble_eq_true rfl) d_Md_init_354 ?_
    refine pg_aload_n K d_Md_init_357 0 rfl rfl ?_
    refine pg_bipush (v := 113) K d_Md_init_358 (by decide) ?_
    refine pg_bipush (v := 117) K d_Md_init_360 (by decide) ?_
    refine pg_bipush (v := 111) K d_Md_init_362 (by decide) ?_
    refine pg_bipush (v := 116) K d_Md_init_364 (by decide) ?_
    refine pg_bipush (v := 101) K d_Md_init_366 (by decide) ?_
    refine pg_iconst (v := 0) K d_Md_init_368 (by decide) ?_
    obtain ⟨o14, z14, hf⟩ := pm_bind hf
    refine pg_callV (As := [.int (113 : Int32), .int (117 : Int32), .int (111 : Int32), .int (116 : Int32), .int (101 : Int32), .int (0 : Int32)]) (rest := []) (o := 0) K (c_Md_word K.2.2.2.2.2.2.2.2.2.2.2.2 o14 (113 : Int32) (117 : Int32) (111 : Int32) (116 : Int32) (101 : Int32) (0 : Int32) o13 z14) mi_Md_word rfl rfl tw_666 tw_41 tw_665 rfl ⟨rfl, rfl, Nat.le_of_ble_eq_true rfl, Nat.le_of_ble_eq_true rfl⟩ rfl (Nat.le_of_ble_eq_true rfl) d_Md_init_369 ?_
    refine pg_aload_n K d_Md_init_372 0 rfl rfl ?_
    refine pg_bipush (v := 105) K d_Md_init_373 (by decide) ?_
    refine pg_bipush (v := 102) K d_Md_init_375 (by decide) ?_
    refine pg_iconst (v := 0) K d_Md_init_377 (by decide) ?_
    refine pg_iconst (v := 0) K d_Md_init_378 (by decide) ?_
    refine pg_iconst (v := 0) K d_Md_init_379 (by decide) ?_
    refine pg_iconst (v := 0) K d_Md_init_380 (by decide) ?_
    obtain ⟨o15, z15, hf⟩ := pm_bind hf
    refine pg_callV (As := [.int (105 : Int32), .int (102 : Int32), .int (0 : Int32), .int (0 : Int32), .int (0 : Int32), .int (0 : Int32)]) (rest := []) (o := 0) K (c_Md_word K.2.2.2.2.2.2.2.2.2.2.2.2 o15 (105 : Int32) (102 : Int32) (0 : Int32) (0 : Int32) (0 : Int32) (0 : Int32) o14 z15) mi_Md_word rfl rfl tw_666 tw_41 tw_665 rfl ⟨rfl, rfl, Nat.le_of_ble_eq_true rfl, Nat.le_of_ble_eq_true rfl⟩ rfl (Nat.le_of_ble_eq_true rfl) d_Md_init_381 ?_
    refine pg_aload_n K d_Md_init_384 0 rfl rfl ?_
    refine pg_bipush (v := 108) K d_Md_init_385 (by decide) ?_
    refine pg_bipush (v := 97) K d_Md_init_387 (by decide) ?_
    refine pg_bipush (v := 109) K d_Md_init_389 (by decide) ?_
    refine pg_bipush (v := 98) K d_Md_init_391 (by decide) ?_
    refine pg_bipush (v := 100) K d_Md_init_393 (by decide) ?_
    refine pg_bipush (v := 97) K d_Md_init_395 (by decide) ?_
    obtain ⟨o16, z16, hf⟩ := pm_bind hf
    refine pg_callV (As := [.int (108 : Int32), .int (97 : Int32), .int (109 : Int32), .int (98 : Int32), .int (100 : Int32), .int (97 : Int32)]) (rest := []) (o := 0) K (c_Md_word K.2.2.2.2.2.2.2.2.2.2.2.2 o16 (108 : Int32) (97 : Int32) (109 : Int32) (98 : Int32) (100 : Int32) (97 : Int32) o15 z16) mi_Md_word rfl rfl tw_666 tw_41 tw_665 rfl ⟨rfl, rfl, Nat.le_of_ble_eq_true rfl, Nat.le_of_ble_eq_true rfl⟩ rfl (Nat.le_of_ble_eq_true rfl) d_Md_init_397 ?_
    refine pg_aload_n K d_Md_init_400 0 rfl rfl ?_
    refine pg_bipush (v := 100) K d_Md_init_401 (by decide) ?_
    refine pg_bipush (v := 101) K d_Md_init_403 (by decide) ?_
    refine pg_bipush (v := 102) K d_Md_init_405 (by decide) ?_
    refine pg_bipush (v := 105) K d_Md_init_407 (by decide) ?_
    refine pg_bipush (v := 110) K d_Md_init_409 (by decide) ?_
    refine pg_bipush (v := 101) K d_Md_init_411 (by decide) ?_
    obtain ⟨o17, z17, hf⟩ := pm_bind hf
    refine pg_callV (As := [.int (100 : Int32), .int (101 : Int32), .int (102 : Int32), .int (105 : Int32), .int (110 : Int32), .int (101 : Int32)]) (rest := []) (o := 0) K (c_Md_word K.2.2.2.2.2.2.2.2.2.2.2.2 o17 (100 : Int32) (101 : Int32) (102 : Int32) (105 : Int32) (110 : Int32) (101 : Int32) o16 z17) mi_Md_word rfl rfl tw_666 tw_41 tw_665 rfl ⟨rfl, rfl, Nat.le_of_ble_eq_true rfl, Nat.le_of_ble_eq_true rfl⟩ rfl (Nat.le_of_ble_eq_true rfl) d_Md_init_413 ?_
    refine pg_aload_n K d_Md_init_416 0 rfl rfl ?_
    refine pg_bipush (v := 115) K d_Md_init_417 (by decide) ?_
    refine pg_bipush (v := 101) K d_Md_init_419 (by decide) ?_
    refine pg_bipush (v := 116) K d_Md_init_421 (by decide) ?_
    refine pg_bipush (v := 33) K d_Md_init_423 (by decide) ?_
    refine pg_iconst (v := 0) K d_Md_init_425 (by decide) ?_
    refine pg_iconst (v := 0) K d_Md_init_426 (by decide) ?_
    obtain ⟨o18, z18, hf⟩ := pm_bind hf
    refine pg_callV (As := [.int (115 : Int32), .int (101 : Int32), .int (116 : Int32), .int (33 : Int32), .int (0 : Int32), .int (0 : Int32)]) (rest := []) (o := 0) K (c_Md_word K.2.2.2.2.2.2.2.2.2.2.2.2 o18 (115 : Int32) (101 : Int32) (116 : Int32) (33 : Int32) (0 : Int32) (0 : Int32) o17 z18) mi_Md_word rfl rfl tw_666 tw_41 tw_665 rfl ⟨rfl, rfl, Nat.le_of_ble_eq_true rfl, Nat.le_of_ble_eq_true rfl⟩ rfl (Nat.le_of_ble_eq_true rfl) d_Md_init_427 ?_
    refine pg_aload_n K d_Md_init_430 0 rfl rfl ?_
    refine pg_bipush (v := 116) K d_Md_init_431 (by decide) ?_
    refine pg_iconst (v := 0) K d_Md_init_433 (by decide) ?_
    refine pg_iconst (v := 0) K d_Md_init_434 (by decide) ?_
    refine pg_iconst (v := 0) K d_Md_init_435 (by decide) ?_
    refine pg_iconst (v := 0) K d_Md_init_436 (by decide) ?_
    refine pg_iconst (v := 0) K d_Md_init_437 (by decide) ?_
    obtain ⟨o19, z19, hf⟩ := pm_bind hf
    refine pg_callV (As := [.int (116 : Int32), .int (0 : Int32), .int (0 : Int32), .int (0 : Int32), .int (0 : Int32), .int (0 : Int32)]) (rest := []) (o := 0) K (c_Md_word K.2.2.2.2.2.2.2.2.2.2.2.2 o19 (116 : Int32) (0 : Int32) (0 : Int32) (0 : Int32) (0 : Int32) (0 : Int32) o18 z19) mi_Md_word rfl rfl tw_666 tw_41 tw_665 rfl ⟨rfl, rfl, Nat.le_of_ble_eq_true rfl, Nat.le_of_ble_eq_true rfl⟩ rfl (Nat.le_of_ble_eq_true rfl) d_Md_init_438 ?_
    refine pg_aload_n K d_Md_init_441 0 rfl rfl ?_
    refine pg_getR K fc_9 (o := 0) rfl 14 rfl (by decide) tw_683 d_Md_init_442 ?_
    refine pg_bipush (v := 15) K d_Md_init_445 (by decide) ?_
    refine pg_ldc K tw_668 d_Md_init_447 ?_
    obtain ⟨q20, hf⟩ := pm_bnd hf
    refine pg_iast K (o := 11) rfl rfl q20 d_Md_init_449 ?_
    cases hf
    exact pg_vret K hok d_Md_init_450
  · have hf := pm_iff c3 hf
    refine pg_aload_n K d_Md_init_204 0 rfl rfl ?_
    refine pg_getR K fc_9 (o := 0) rfl 14 rfl (by decide) tw_683 d_Md_init_205 ?_
    refine pg_iload_n K d_Md_init_208 1 rfl rfl ?_
    refine pg_iload_n K d_Md_init_209 1 rfl rfl ?_
    refine pg_bipush (v := 10) K d_Md_init_210 (by decide) ?_
    refine pg_icmp_ge K d_Md_init_212 222 (by decide) (fun c21 => ?_) (fun c21 => ?_)
    · have hf := pm_ift c21 hf
      refine pg_ldc K tw_664 d_Md_init_222 ?_
      obtain ⟨q22, hf⟩ := pm_bnd hf
      refine pg_iast K (o := 11) rfl rfl q22 d_Md_init_224 ?_
      refine pg_iinc (v := x2 + (1 : Int32)) (lv' := [(2, .int (x2 + (1 : Int32))), (0, .ref (ad 0))]) K d_Md_init_225 1 rfl rfl (by decide) rfl ?_
      refine pg_goto K d_Md_init_228 198 (by decide) ?_
      refine pg_sub (lv' := [(0, .ref (ad 0)), (2, .int (x2 + (1 : Int32)))]) [1, 0] rfl ?_
      exact h198 (x2 + (1 : Int32)) (pm_setI w 11 x2.toNatClampNeg (-2147483648 : Int32)) hf
    · have hf := pm_iff c21 hf
      refine pg_ldc K tw_663 d_Md_init_215 ?_
      refine pg_iload_n K d_Md_init_217 1 rfl rfl ?_
      refine pg_iadd K d_Md_init_218 ?_
      refine pg_goto K d_Md_init_219 224 (by decide) ?_
      obtain ⟨q23, hf⟩ := pm_bnd hf
      refine pg_iast K (o := 11) rfl rfl q23 d_Md_init_224 ?_
      refine pg_iinc (v := x2 + (1 : Int32)) (lv' := [(2, .int (x2 + (1 : Int32))), (0, .ref (ad 0))]) K d_Md_init_225 1 rfl rfl (by decide) rfl ?_
      refine pg_goto K d_Md_init_228 198 (by decide) ?_
      refine pg_sub (lv' := [(0, .ref (ad 0)), (2, .int (x2 + (1 : Int32)))]) [1, 0] rfl ?_
      exact h198 (x2 + (1 : Int32)) (pm_setI w 11 x2.toNatClampNeg ((536872000 : Int32) + x2)) hf
set_option maxHeartbeats 4000000 in
set_option maxRecDepth 100000 in
theorem a_Md_init {p : Program} {l : Launch} {e : Env} {s : State} {m : MethodId} {args : Array Value} {below : List Frame} {meth : Method} {c : Code} {D : va_G} {ca : Nat → ClassId} {ad : Nat → Nat} {adK adV : Nat → Nat} {kc ks : Nat} {A : Nat → Prop} (K : pg_ok p { frames := 1, cells := 18, slots := 1902, locals := 26 } s m args meth c k_Md_init 3 pmTs R_Md D vwCl (tyl ca) shM ad (st_E adK adV) none kc ks A) {okad : (Nat → Nat) → Prop} (hok : okad ad) (hin : meth.name = "<init>") (w' : pm_W) : ∀ n : Nat, (∀ (x2 : Int32) (w : pm_W), l_Md_init  n 0 x2 w = some w' → pg_wk p l e { frames := 1, cells := 18, slots := 1902, locals := 26 } s m args below meth c D vwCl shM ca ad 3 kc ks A (MQ below (pm_Qn D ca vwCl shM okad w' A) args s kc ks A) 198 [(0, .ref (ad 0)), (2, .int x2)] [] w) := by
  intro n
  induction n with
  | zero => exact fun _ _ hf => (by cases hf)
  | succ n ih => exact fun x2 w hf => t_Md_init_198 K hok hin (l_Md_init n) w' (ih) x2 w hf
set_option maxHeartbeats 4000000 in
set_option maxRecDepth 100000 in
theorem t_Md_init {p : Program} {l : Launch} {e : Env} {s : State} {m : MethodId} {args : Array Value} {below : List Frame} {meth : Method} {c : Code} {D : va_G} {ca : Nat → ClassId} {ad : Nat → Nat} {adK adV : Nat → Nat} {kc ks : Nat} {A : Nat → Prop} (K : pg_ok p { frames := 1, cells := 18, slots := 1902, locals := 26 } s m args meth c k_Md_init 3 pmTs R_Md D vwCl (tyl ca) shM ad (st_E adK adV) none kc ks A) {okad : (Nat → Nat) → Prop} (hok : okad ad) (hin : meth.name = "<init>") (w' : pm_W) (x1 : Int32) (w : pm_W) (hf : f_Md_init  x1 w = some w') : pg_wk p l e { frames := 1, cells := 18, slots := 1902, locals := 26 } s m args below meth c D vwCl shM ca ad 3 kc ks A (MQ below (pm_Qn D ca vwCl shM okad w' A) args s kc ks A) 167 [(0, .ref (ad 0)), (1, .int x1)] [] w := by
  unfold f_Md_init at hf
  have h198 := (a_Md_init (l := l) (e := e) (below := below) K hok hin w' pm_fuel)
  refine pg_aload_n K d_Md_init_167 0 rfl rfl ?_
  refine pg_iload_n K d_Md_init_168 1 rfl rfl ?_
  refine pg_bipush (v := 20) K d_Md_init_169 (by decide) ?_
  refine pg_icmp_ge K d_Md_init_171 179 (by decide) (fun c1 => ?_) (fun c1 => ?_)
  · have hf := pm_ift c1 hf
    refine pg_iload_n K d_Md_init_179 1 rfl rfl ?_
    refine pg_sipush (v := 400) K d_Md_init_180 (by decide) ?_
    refine pg_icmp_le K d_Md_init_183 192 (by decide) (fun c2 => ?_) (fun c2 => ?_)
    · have hf := pm_ift c2 hf
      refine pg_iload_n K d_Md_init_192 1 rfl rfl ?_
      refine pg_putIF K fc_9 (o := 0) (ty := .int) rfl 1 rfl (by decide) tw_670 rfl hin rfl rfl rfl rfl d_Md_init_193 ?_
      refine pg_iconst (v := 0) K d_Md_init_196 (by decide) ?_
      refine pg_istore_n (lv' := [(2, .int (0 : Int32)), (0, .ref (ad 0)), (1, .int x1)]) K d_Md_init_197 rfl (by decide) rfl ?_
      refine pg_sub (lv' := [(0, .ref (ad 0)), (2, .int (0 : Int32))]) [1, 0] rfl ?_
      exact h198 (0 : Int32) (pm_setI w 0 1 x1) hf
    · have hf := pm_iff c2 hf
      refine pg_sipush (v := 400) K d_Md_init_186 (by decide) ?_
      refine pg_goto K d_Md_init_189 193 (by decide) ?_
      refine pg_putIF K fc_9 (o := 0) (ty := .int) rfl 1 rfl (by decide) tw_670 rfl hin rfl rfl rfl rfl d_Md_init_193 ?_
      refine pg_iconst (v := 0) K d_Md_init_196 (by decide) ?_
      refine pg_istore_n (lv' := [(2, .int (0 : Int32)), (0, .ref (ad 0)), (1, .int x1)]) K d_Md_init_197 rfl (by decide) rfl ?_
      refine pg_sub (lv' := [(0, .ref (ad 0)), (2, .int (0 : Int32))]) [1, 0] rfl ?_
      exact h198 (0 : Int32) (pm_setI w 0 1 (400 : Int32)) hf
  · have hf := pm_iff c1 hf
    refine pg_bipush (v := 20) K d_Md_init_174 (by decide) ?_
    refine pg_goto K d_Md_init_176 193 (by decide) ?_
    refine pg_putIF K fc_9 (o := 0) (ty := .int) rfl 1 rfl (by decide) tw_670 rfl hin rfl rfl rfl rfl d_Md_init_193 ?_
    refine pg_iconst (v := 0) K d_Md_init_196 (by decide) ?_
    refine pg_istore_n (lv' := [(2, .int (0 : Int32)), (0, .ref (ad 0)), (1, .int x1)]) K d_Md_init_197 rfl (by decide) rfl ?_
    refine pg_sub (lv' := [(0, .ref (ad 0)), (2, .int (0 : Int32))]) [1, 0] rfl ?_
    exact h198 (0 : Int32) (pm_setI w 0 1 (20 : Int32)) hf

set_option maxHeartbeats 4000000 in
set_option maxRecDepth 100000 in
theorem c_Md_init {l : Launch} {D : va_G} {ca : Nat → ClassId} {adK adV : Nat → Nat} (h0 : Nat) (x1 : Int32) (w' : pm_W) (hf : f_Md_init x1 (pm_setI (pm_setI pm_0 0 15 536870912) 0 16 536870912) = some w') (sz : Nat) : Met l y_Md_init [Cond.code y_Md_init k_Md_init 3 none] { frames := 1, cells := 18, slots := 1902, locals := 26 } (va_Pc (.ref h0 :: [.int x1]) (pn_P D ca adK adV h0 9 [.int 0, .int 0, .null, .null, .null, .null, .null, .null, .null, .null, .null, .int 0, .int 0, .null, .null, .int 0, .int 0, .int 0, .int 0, .int 0, .int 0, .null, .int 0, .null, .null, .null, .null, .null, .null, .int 0, .int 0] sz)) (pm_Qn D ca vwCl shM (fun ad : Nat → Nat => ∃ q0 q1 q2 q3 q4 q5 q6 q7 q8 q9 q10 q11 q12 q13 q14 q15 q16 q17 : Nat, ad = fun o => [h0, q0, q1, q2, q3, q4, q5, q6, q7, q8, q9, q10, q11, q12, q13, q14, q15, q16, q17].getD o 0) w' (va_A [(h0, .inr (9, [.int 0, .int 0, .null, .null, .null, .null, .null, .null, .null, .null, .null, .int 0, .int 0, .null, .null, .int 0, .int 0, .int 0, .int 0, .int 0, .int 0, .null, .int 0, .null, .null, .null, .null, .null, .null, .int 0, .int 0]))] sz)) 18 1902 (va_A [(h0, .inr (9, [.int 0, .int 0, .null, .null, .null, .null, .null, .null, .null, .null, .null, .int 0, .int 0, .null, .null, .int 0, .int 0, .int 0, .int 0, .int 0, .int 0, .null, .int 0, .null, .null, .null, .null, .null, .null, .int 0, .int 0]))] sz) := by
  refine pn_start (by decide) (Nat.le_of_ble_eq_true rfl) (fun p e s m below meth c hsz hin K => ?_)
  have hX := K.2.2.2.2.2.2.1
  refine pn_aload_n K d_Md_init_0 0 rfl rfl ?_
  refine pn_objInit K tw_661 tw_112 (Nat.le_of_ble_eq_true rfl) (Nat.le_of_ble_eq_true rfl) d_Md_init_1 ?_
  refine pn_aload_n K d_Md_init_4 0 rfl rfl ?_
  refine pn_sipush (v := 206) K d_Md_init_5 (by decide) ?_
  refine pn_newa (ty := .int) (t := 0) (N := 206) (a0 := (206, .inl (fun _ => 0))) K rfl hX.2.1 pn_uI rfl (fun _ => rfl) (by decide) (by decide) (by decide) (Nat.le_of_ble_eq_true rfl) (Nat.le_of_ble_eq_true rfl) d_Md_init_8 (fun q0 => ?_)
  refine pn_putF (ty := .array .int) (ws' := [(h0, .inr (9, [.int 0, .int 0, .ref q0, .null, .null, .null, .null, .null, .null, .null, .null, .int 0, .int 0, .null, .null, .int 0, .int 0, .int 0, .int 0, .int 0, .int 0, .null, .int 0, .null, .null, .null, .null, .null, .null, .int 0, .int 0])), (q0, .inl (ca 0, 206, .inl (fun _ => 0)))]) K fc_9 0 rfl 2 (by decide) tw_671 rfl hin rfl (by decide +kernel) rfl rfl (Nat.le_of_ble_eq_true rfl) d_Md_init_10 rfl ?_
  refine pn_aload_n K d_Md_init_13 0 rfl rfl ?_
  refine pn_sipush (v := 206) K d_Md_init_14 (by decide) ?_
  refine pn_newa (ty := .int) (t := 0) (N := 206) (a0 := (206, .inl (fun _ => 0))) K rfl hX.2.1 pn_uI rfl (fun _ => rfl) (by decide) (by decide) (by decide) (Nat.le_of_ble_eq_true rfl) (Nat.le_of_ble_eq_true rfl) d_Md_init_17 (fun q1 => ?_)
  refine pn_putF (ty := .array .int) (ws' := [(h0, .inr (9, [.int 0, .int 0, .ref q0, .ref q1, .null, .null, .null, .null, .null, .null, .null, .int 0, .int 0, .null, .null, .int 0, .int 0, .int 0, .int 0, .int 0, .int 0, .null, .int 0, .null, .null, .null, .null, .null, .null, .int 0, .int 0])), (q0, .inl (ca 0, 206, .inl (fun _ => 0))), (q1, .inl (ca 0, 206, .inl (fun _ => 0)))]) K fc_9 0 rfl 3 (by decide) tw_672 rfl hin rfl (by decide +kernel) rfl rfl (Nat.le_of_ble_eq_true rfl) d_Md_init_19 rfl ?_
  refine pn_aload_n K d_Md_init_22 0 rfl rfl ?_
  refine pn_sipush (v := 206) K d_Md_init_23 (by decide) ?_
  refine pn_newa (ty := .int) (t := 0) (N := 206) (a0 := (206, .inl (fun _ => 0))) K rfl hX.2.1 pn_uI rfl (fun _ => rfl) (by decide) (by decide) (by decide) (Nat.le_of_ble_eq_true rfl) (Nat.le_of_ble_eq_true rfl) d_Md_init_26 (fun q2 => ?_)
  refine pn_putF (ty := .array .int) (ws' := [(h0, .inr (9, [.int 0, .int 0, .ref q0, .ref q1, .ref q2, .null, .null, .null, .null, .null, .null, .int 0, .int 0, .null, .null, .int 0, .int 0, .int 0, .int 0, .int 0, .int 0, .null, .int 0, .null, .null, .null, .null, .null, .null, .int 0, .int 0])), (q0, .inl (ca 0, 206, .inl (fun _ => 0))), (q1, .inl (ca 0, 206, .inl (fun _ => 0))), (q2, .inl (ca 0, 206, .inl (fun _ => 0)))]) K fc_9 0 rfl 4 (by decide) tw_673 rfl hin rfl (by decide +kernel) rfl rfl (Nat.le_of_ble_eq_true rfl) d_Md_init_28 rfl ?_
  refine pn_aload_n K d_Md_init_31 0 rfl rfl ?_
  refine pn_sipush (v := 206) K d_Md_init_32 (by decide) ?_
  refine pn_newa (ty := .int) (t := 0) (N := 206) (a0 := (206, .inl (fun _ => 0))) K rfl hX.2.1 pn_uI rfl (fun _ => rfl) (by decide) (by decide) (by decide) (Nat.le_of_ble_eq_true rfl) (Nat.le_of_ble_eq_true rfl) d_Md_init_35 (fun q3 => ?_)
  refine pn_putF (ty := .array .int) (ws' := [(h0, .inr (9, [.int 0, .int 0, .ref q0, .ref q1, .ref q2, .ref q3, .null, .null, .null, .null, .null, .int 0, .int 0, .null, .null, .int 0, .int 0, .int 0, .int 0, .int 0, .int 0, .null, .int 0, .null, .null, .null, .null, .null, .null, .int 0, .int 0])), (q0, .inl (ca 0, 206, .inl (fun _ => 0))), (q1, .inl (ca 0, 206, .inl (fun _ => 0))), (q2, .inl (ca 0, 206, .inl (fun _ => 0))), (q3, .inl (ca 0, 206, .inl (fun _ => 0)))]) K fc_9 0 rfl 5 (by decide) tw_674 rfl hin rfl (by decide +kernel) rfl rfl (Nat.le_of_ble_eq_true rfl) d_Md_init_37 rfl ?_
  refine pn_aload_n K d_Md_init_40 0 rfl rfl ?_
  refine pn_sipush (v := 206) K d_Md_init_41 (by decide) ?_
  refine pn_newa (ty := .boolean) (t := 2) (N := 206) (a0 := (206, .inl (fun _ => 0))) K rfl hX.2.2.2.1 pn_uZ rfl (fun _ => rfl) (by decide) (by decide) (by decide) (Nat.le_of_ble_eq_true rfl) (Nat.le_of_ble_eq_true rfl) d_Md_init_44 (fun q4 => ?_)
  refine pn_putF (ty := .array .boolean) (ws' := [(h0, .inr (9, [.int 0, .int 0, .ref q0, .ref q1, .ref q2, .ref q3, .ref q4, .null, .null, .null, .null, .int 0, .int 0, .null, .null, .int 0, .int 0, .int 0, .int 0, .int 0, .int 0, .null, .int 0, .null, .null, .null, .null, .null, .null, .int 0, .int 0])), (q0, .inl (ca 0, 206, .inl (fun _ => 0))), (q1, .inl (ca 0, 206, .inl (fun _ => 0))), (q2, .inl (ca 0, 206, .inl (fun _ => 0))), (q3, .inl (ca 0, 206, .inl (fun _ => 0))), (q4, .inl (ca 2, 206, .inl (fun _ => 0)))]) K fc_9 0 rfl 6 (by decide) tw_675 rfl hin rfl (by decide +kernel) rfl rfl (Nat.le_of_ble_eq_true rfl) d_Md_init_46 rfl ?_
  refine pn_aload_n K d_Md_init_49 0 rfl rfl ?_
  refine pn_bipush (v := 30) K d_Md_init_50 (by decide) ?_
  refine pn_newa (ty := .int) (t := 0) (N := 30) (a0 := (30, .inl (fun _ => 0))) K rfl hX.2.1 pn_uI rfl (fun _ => rfl) (by decide) (by decide) (by decide) (Nat.le_of_ble_eq_true rfl) (Nat.le_of_ble_eq_true rfl) d_Md_init_52 (fun q5 => ?_)
  refine pn_putF (ty := .array .int) (ws' := [(h0, .inr (9, [.int 0, .int 0, .ref q0, .ref q1, .ref q2, .ref q3, .ref q4, .ref q5, .null, .null, .null, .int 0, .int 0, .null, .null, .int 0, .int 0, .int 0, .int 0, .int 0, .int 0, .null, .int 0, .null, .null, .null, .null, .null, .null, .int 0, .int 0])), (q0, .inl (ca 0, 206, .inl (fun _ => 0))), (q1, .inl (ca 0, 206, .inl (fun _ => 0))), (q2, .inl (ca 0, 206, .inl (fun _ => 0))), (q3, .inl (ca 0, 206, .inl (fun _ => 0))), (q4, .inl (ca 2, 206, .inl (fun _ => 0))), (q5, .inl (ca 0, 30, .inl (fun _ => 0)))]) K fc_9 0 rfl 7 (by decide) tw_676 rfl hin rfl (by decide +kernel) rfl rfl (Nat.le_of_ble_eq_true rfl) d_Md_init_54 rfl ?_
  refine pn_aload_n K d_Md_init_57 0 rfl rfl ?_
  refine pn_bipush (v := 30) K d_Md_init_58 (by decide) ?_
  refine pn_newa (ty := .int) (t := 0) (N := 30) (a0 := (30, .inl (fun _ => 0))) K rfl hX.2.1 pn_uI rfl (fun _ => rfl) (by decide) (by decide) (by decide) (Nat.le_of_ble_eq_true rfl) (Nat.le_of_ble_eq_true rfl) d_Md_init_60 (fun q6 => ?_)
  refine pn_putF (ty := .array .int) (ws' := [(h0, .inr (9, [.int 0, .int 0, .ref q0, .ref q1, .ref q2, .ref q3, .ref q4, .ref q5, .ref q6, .null, .null, .int 0, .int 0, .null, .null, .int 0, .int 0, .int 0, .int 0, .int 0, .int 0, .null, .int 0, .null, .null, .null, .null, .null, .null, .int 0, .int 0])), (q0, .inl (ca 0, 206, .inl (fun _ => 0))), (q1, .inl (ca 0, 206, .inl (fun _ => 0))), (q2, .inl (ca 0, 206, .inl (fun _ => 0))), (q3, .inl (ca 0, 206, .inl (fun _ => 0))), (q4, .inl (ca 2, 206, .inl (fun _ => 0))), (q5, .inl (ca 0, 30, .inl (fun _ => 0))), (q6, .inl (ca 0, 30, .inl (fun _ => 0)))]) K fc_9 0 rfl 8 (by decide) tw_677 rfl hin rfl (by decide +kernel) rfl rfl (Nat.le_of_ble_eq_true rfl) d_Md_init_62 rfl ?_
  refine pn_aload_n K d_Md_init_65 0 rfl rfl ?_
  refine pn_bipush (v := 30) K d_Md_init_66 (by decide) ?_
  refine pn_newa (ty := .int) (t := 0) (N := 30) (a0 := (30, .inl (fun _ => 0))) K rfl hX.2.1 pn_uI rfl (fun _ => rfl) (by decide) (by decide) (by decide) (Nat.le_of_ble_eq_true rfl) (Nat.le_of_ble_eq_true rfl) d_Md_init_68 (fun q7 => ?_)
  refine pn_putF (ty := .array .int) (ws' := [(h0, .inr (9, [.int 0, .int 0, .ref q0, .ref q1, .ref q2, .ref q3, .ref q4, .ref q5, .ref q6, .ref q7, .null, .int 0, .int 0, .null, .null, .int 0, .int 0, .int 0, .int 0, .int 0, .int 0, .null, .int 0, .null, .null, .null, .null, .null, .null, .int 0, .int 0])), (q0, .inl (ca 0, 206, .inl (fun _ => 0))), (q1, .inl (ca 0, 206, .inl (fun _ => 0))), (q2, .inl (ca 0, 206, .inl (fun _ => 0))), (q3, .inl (ca 0, 206, .inl (fun _ => 0))), (q4, .inl (ca 2, 206, .inl (fun _ => 0))), (q5, .inl (ca 0, 30, .inl (fun _ => 0))), (q6, .inl (ca 0, 30, .inl (fun _ => 0))), (q7, .inl (ca 0, 30, .inl (fun _ => 0)))]) K fc_9 0 rfl 9 (by decide) tw_678 rfl hin rfl (by decide +kernel) rfl rfl (Nat.le_of_ble_eq_true rfl) d_Md_init_70 rfl ?_
  refine pn_aload_n K d_Md_init_73 0 rfl rfl ?_
  refine pn_bipush (v := 30) K d_Md_init_74 (by decide) ?_
  refine pn_newa (ty := .int) (t := 0) (N := 30) (a0 := (30, .inl (fun _ => 0))) K rfl hX.2.1 pn_uI rfl (fun _ => rfl) (by decide) (by decide) (by decide) (Nat.le_of_ble_eq_true rfl) (Nat.le_of_ble_eq_true rfl) d_Md_init_76 (fun q8 => ?_)
  refine pn_putF (ty := .array .int) (ws' := [(h0, .inr (9, [.int 0, .int 0, .ref q0, .ref q1, .ref q2, .ref q3, .ref q4, .ref q5, .ref q6, .ref q7, .ref q8, .int 0, .int 0, .null, .null, .int 0, .int 0, .int 0, .int 0, .int 0, .int 0, .null, .int 0, .null, .null, .null, .null, .null, .null, .int 0, .int 0])), (q0, .inl (ca 0, 206, .inl (fun _ => 0))), (q1, .inl (ca 0, 206, .inl (fun _ => 0))), (q2, .inl (ca 0, 206, .inl (fun _ => 0))), (q3, .inl (ca 0, 206, .inl (fun _ => 0))), (q4, .inl (ca 2, 206, .inl (fun _ => 0))), (q5, .inl (ca 0, 30, .inl (fun _ => 0))), (q6, .inl (ca 0, 30, .inl (fun _ => 0))), (q7, .inl (ca 0, 30, .inl (fun _ => 0))), (q8, .inl (ca 0, 30, .inl (fun _ => 0)))]) K fc_9 0 rfl 10 (by decide) tw_679 rfl hin rfl (by decide +kernel) rfl rfl (Nat.le_of_ble_eq_true rfl) d_Md_init_78 rfl ?_
  refine pn_aload_n K d_Md_init_81 0 rfl rfl ?_
  refine pn_sipush (v := 320) K d_Md_init_82 (by decide) ?_
  refine pn_newa (ty := .char) (t := 1) (N := 320) (a0 := (320, .inl (fun _ => 0))) K rfl hX.2.2.1 pn_uC rfl (fun _ => rfl) (by decide) (by decide) (by decide) (Nat.le_of_ble_eq_true rfl) (Nat.le_of_ble_eq_true rfl) d_Md_init_85 (fun q9 => ?_)
  refine pn_putF (ty := .array .char) (ws' := [(h0, .inr (9, [.int 0, .int 0, .ref q0, .ref q1, .ref q2, .ref q3, .ref q4, .ref q5, .ref q6, .ref q7, .ref q8, .int 0, .int 0, .ref q9, .null, .int 0, .int 0, .int 0, .int 0, .int 0, .int 0, .null, .int 0, .null, .null, .null, .null, .null, .null, .int 0, .int 0])), (q0, .inl (ca 0, 206, .inl (fun _ => 0))), (q1, .inl (ca 0, 206, .inl (fun _ => 0))), (q2, .inl (ca 0, 206, .inl (fun _ => 0))), (q3, .inl (ca 0, 206, .inl (fun _ => 0))), (q4, .inl (ca 2, 206, .inl (fun _ => 0))), (q5, .inl (ca 0, 30, .inl (fun _ => 0))), (q6, .inl (ca 0, 30, .inl (fun _ => 0))), (q7, .inl (ca 0, 30, .inl (fun _ => 0))), (q8, .inl (ca 0, 30, .inl (fun _ => 0))), (q9, .inl (ca 1, 320, .inl (fun _ => 0)))]) K fc_9 0 rfl 13 (by decide) tw_682 rfl hin rfl (by decide +kernel) rfl rfl (Nat.le_of_ble_eq_true rfl) d_Md_init_87 rfl ?_
  refine pn_aload_n K d_Md_init_90 0 rfl rfl ?_
  refine pn_bipush (v := 40) K d_Md_init_91 (by decide) ?_
  refine pn_newa (ty := .int) (t := 0) (N := 40) (a0 := (40, .inl (fun _ => 0))) K rfl hX.2.1 pn_uI rfl (fun _ => rfl) (by decide) (by decide) (by decide) (Nat.le_of_ble_eq_true rfl) (Nat.le_of_ble_eq_true rfl) d_Md_init_93 (fun q10 => ?_)
  refine pn_putF (ty := .array .int) (ws' := [(h0, .inr (9, [.int 0, .int 0, .ref q0, .ref q1, .ref q2, .ref q3, .ref q4, .ref q5, .ref q6, .ref q7, .ref q8, .int 0, .int 0, .ref q9, .ref q10, .int 0, .int 0, .int 0, .int 0, .int 0, .int 0, .null, .int 0, .null, .null, .null, .null, .null, .null, .int 0, .int 0])), (q0, .inl (ca 0, 206, .inl (fun _ => 0))), (q1, .inl (ca 0, 206, .inl (fun _ => 0))), (q2, .inl (ca 0, 206, .inl (fun _ => 0))), (q3, .inl (ca 0, 206, .inl (fun _ => 0))), (q4, .inl (ca 2, 206, .inl (fun _ => 0))), (q5, .inl (ca 0, 30, .inl (fun _ => 0))), (q6, .inl (ca 0, 30, .inl (fun _ => 0))), (q7, .inl (ca 0, 30, .inl (fun _ => 0))), (q8, .inl (ca 0, 30, .inl (fun _ => 0))), (q9, .inl (ca 1, 320, .inl (fun _ => 0))), (q10, .inl (ca 0, 40, .inl (fun _ => 0)))]) K fc_9 0 rfl 14 (by decide) tw_683 rfl hin rfl (by decide +kernel) rfl rfl (Nat.le_of_ble_eq_true rfl) d_Md_init_95 rfl ?_
  refine pn_aload_n K d_Md_init_98 0 rfl rfl ?_
  refine pn_ldc K tw_662 d_Md_init_99 ?_
  refine pn_put (ty := .int) (ws' := [(h0, .inr (9, [.int 0, .int 0, .ref q0, .ref q1, .ref q2, .ref q3, .ref q4, .ref q5, .ref q6, .ref q7, .ref q8, .int 0, .int 0, .ref q9, .ref q10, .int 536870912, .int 0, .int 0, .int 0, .int 0, .int 0, .null, .int 0, .null, .null, .null, .null, .null, .null, .int 0, .int 0])), (q0, .inl (ca 0, 206, .inl (fun _ => 0))), (q1, .inl (ca 0, 206, .inl (fun _ => 0))), (q2, .inl (ca 0, 206, .inl (fun _ => 0))), (q3, .inl (ca 0, 206, .inl (fun _ => 0))), (q4, .inl (ca 2, 206, .inl (fun _ => 0))), (q5, .inl (ca 0, 30, .inl (fun _ => 0))), (q6, .inl (ca 0, 30, .inl (fun _ => 0))), (q7, .inl (ca 0, 30, .inl (fun _ => 0))), (q8, .inl (ca 0, 30, .inl (fun _ => 0))), (q9, .inl (ca 1, 320, .inl (fun _ => 0))), (q10, .inl (ca 0, 40, .inl (fun _ => 0)))]) K fc_9 0 rfl 15 (by decide) tw_684 rfl (by decide +kernel) rfl rfl (Nat.le_of_ble_eq_true rfl) d_Md_init_101 rfl ?_
  refine pn_aload_n K d_Md_init_104 0 rfl rfl ?_
  refine pn_ldc K tw_662 d_Md_init_105 ?_
  refine pn_put (ty := .int) (ws' := [(h0, .inr (9, [.int 0, .int 0, .ref q0, .ref q1, .ref q2, .ref q3, .ref q4, .ref q5, .ref q6, .ref q7, .ref q8, .int 0, .int 0, .ref q9, .ref q10, .int 536870912, .int 536870912, .int 0, .int 0, .int 0, .int 0, .null, .int 0, .null, .null, .null, .null, .null, .null, .int 0, .int 0])), (q0, .inl (ca 0, 206, .inl (fun _ => 0))), (q1, .inl (ca 0, 206, .inl (fun _ => 0))), (q2, .inl (ca 0, 206, .inl (fun _ => 0))), (q3, .inl (ca 0, 206, .inl (fun _ => 0))), (q4, .inl (ca 2, 206, .inl (fun _ => 0))), (q5, .inl (ca 0, 30, .inl (fun _ => 0))), (q6, .inl (ca 0, 30, .inl (fun _ => 0))), (q7, .inl (ca 0, 30, .inl (fun _ => 0))), (q8, .inl (ca 0, 30, .inl (fun _ => 0))), (q9, .inl (ca 1, 320, .inl (fun _ => 0))), (q10, .inl (ca 0, 40, .inl (fun _ => 0)))]) K fc_9 0 rfl 16 (by decide) tw_685 rfl (by decide +kernel) rfl rfl (Nat.le_of_ble_eq_true rfl) d_Md_init_107 rfl ?_
  refine pn_aload_n K d_Md_init_110 0 rfl rfl ?_
  refine pn_bipush (v := 120) K d_Md_init_111 (by decide) ?_
  refine pn_newa (ty := .char) (t := 1) (N := 120) (a0 := (120, .inl (fun _ => 0))) K rfl hX.2.2.1 pn_uC rfl (fun _ => rfl) (by decide) (by decide) (by decide) (Nat.le_of_ble_eq_true rfl) (Nat.le_of_ble_eq_true rfl) d_Md_init_113 (fun q11 => ?_)
  refine pn_putF (ty := .array .char) (ws' := [(h0, .inr (9, [.int 0, .int 0, .ref q0, .ref q1, .ref q2, .ref q3, .ref q4, .ref q5, .ref q6, .ref q7, .ref q8, .int 0, .int 0, .ref q9, .ref q10, .int 536870912, .int 536870912, .int 0, .int 0, .int 0, .int 0, .ref q11, .int 0, .null, .null, .null, .null, .null, .null, .int 0, .int 0])), (q0, .inl (ca 0, 206, .inl (fun _ => 0))), (q1, .inl (ca 0, 206, .inl (fun _ => 0))), (q2, .inl (ca 0, 206, .inl (fun _ => 0))), (q3, .inl (ca 0, 206, .inl (fun _ => 0))), (q4, .inl (ca 2, 206, .inl (fun _ => 0))), (q5, .inl (ca 0, 30, .inl (fun _ => 0))), (q6, .inl (ca 0, 30, .inl (fun _ => 0))), (q7, .inl (ca 0, 30, .inl (fun _ => 0))), (q8, .inl (ca 0, 30, .inl (fun _ => 0))), (q9, .inl (ca 1, 320, .inl (fun _ => 0))), (q10, .inl (ca 0, 40, .inl (fun _ => 0))), (q11, .inl (ca 1, 120, .inl (fun _ => 0)))]) K fc_9 0 rfl 21 (by decide) tw_690 rfl hin rfl (by decide +kernel) rfl rfl (Nat.le_of_ble_eq_true rfl) d_Md_init_115 rfl ?_
  refine pn_aload_n K d_Md_init_118 0 rfl rfl ?_
  refine pn_sipush (v := 200) K d_Md_init_119 (by decide) ?_
  refine pn_newa (ty := .char) (t := 1) (N := 200) (a0 := (200, .inl (fun _ => 0))) K rfl hX.2.2.1 pn_uC rfl (fun _ => rfl) (by decide) (by decide) (by decide) (Nat.le_of_ble_eq_true rfl) (Nat.le_of_ble_eq_true rfl) d_Md_init_122 (fun q12 => ?_)
  refine pn_putF (ty := .array .char) (ws' := [(h0, .inr (9, [.int 0, .int 0, .ref q0, .ref q1, .ref q2, .ref q3, .ref q4, .ref q5, .ref q6, .ref q7, .ref q8, .int 0, .int 0, .ref q9, .ref q10, .int 536870912, .int 536870912, .int 0, .int 0, .int 0, .int 0, .ref q11, .int 0, .ref q12, .null, .null, .null, .null, .null, .int 0, .int 0])), (q0, .inl (ca 0, 206, .inl (fun _ => 0))), (q1, .inl (ca 0, 206, .inl (fun _ => 0))), (q2, .inl (ca 0, 206, .inl (fun _ => 0))), (q3, .inl (ca 0, 206, .inl (fun _ => 0))), (q4, .inl (ca 2, 206, .inl (fun _ => 0))), (q5, .inl (ca 0, 30, .inl (fun _ => 0))), (q6, .inl (ca 0, 30, .inl (fun _ => 0))), (q7, .inl (ca 0, 30, .inl (fun _ => 0))), (q8, .inl (ca 0, 30, .inl (fun _ => 0))), (q9, .inl (ca 1, 320, .inl (fun _ => 0))), (q10, .inl (ca 0, 40, .inl (fun _ => 0))), (q11, .inl (ca 1, 120, .inl (fun _ => 0))), (q12, .inl (ca 1, 200, .inl (fun _ => 0)))]) K fc_9 0 rfl 23 (by decide) tw_692 rfl hin rfl (by decide +kernel) rfl rfl (Nat.le_of_ble_eq_true rfl) d_Md_init_124 rfl ?_
  refine pn_aload_n K d_Md_init_127 0 rfl rfl ?_
  refine pn_bipush (v := 12) K d_Md_init_128 (by decide) ?_
  refine pn_newa (ty := .int) (t := 0) (N := 12) (a0 := (12, .inl (fun _ => 0))) K rfl hX.2.1 pn_uI rfl (fun _ => rfl) (by decide) (by decide) (by decide) (Nat.le_of_ble_eq_true rfl) (Nat.le_of_ble_eq_true rfl) d_Md_init_130 (fun q13 => ?_)
  refine pn_putF (ty := .array .int) (ws' := [(h0, .inr (9, [.int 0, .int 0, .ref q0, .ref q1, .ref q2, .ref q3, .ref q4, .ref q5, .ref q6, .ref q7, .ref q8, .int 0, .int 0, .ref q9, .ref q10, .int 536870912, .int 536870912, .int 0, .int 0, .int 0, .int 0, .ref q11, .int 0, .ref q12, .ref q13, .null, .null, .null, .null, .int 0, .int 0])), (q0, .inl (ca 0, 206, .inl (fun _ => 0))), (q1, .inl (ca 0, 206, .inl (fun _ => 0))), (q2, .inl (ca 0, 206, .inl (fun _ => 0))), (q3, .inl (ca 0, 206, .inl (fun _ => 0))), (q4, .inl (ca 2, 206, .inl (fun _ => 0))), (q5, .inl (ca 0, 30, .inl (fun _ => 0))), (q6, .inl (ca 0, 30, .inl (fun _ => 0))), (q7, .inl (ca 0, 30, .inl (fun _ => 0))), (q8, .inl (ca 0, 30, .inl (fun _ => 0))), (q9, .inl (ca 1, 320, .inl (fun _ => 0))), (q10, .inl (ca 0, 40, .inl (fun _ => 0))), (q11, .inl (ca 1, 120, .inl (fun _ => 0))), (q12, .inl (ca 1, 200, .inl (fun _ => 0))), (q13, .inl (ca 0, 12, .inl (fun _ => 0)))]) K fc_9 0 rfl 24 (by decide) tw_693 rfl hin rfl (by decide +kernel) rfl rfl (Nat.le_of_ble_eq_true rfl) d_Md_init_132 rfl ?_
  refine pn_aload_n K d_Md_init_135 0 rfl rfl ?_
  refine pn_bipush (v := 12) K d_Md_init_136 (by decide) ?_
  refine pn_newa (ty := .int) (t := 0) (N := 12) (a0 := (12, .inl (fun _ => 0))) K rfl hX.2.1 pn_uI rfl (fun _ => rfl) (by decide) (by decide) (by decide) (Nat.le_of_ble_eq_true rfl) (Nat.le_of_ble_eq_true rfl) d_Md_init_138 (fun q14 => ?_)
  refine pn_putF (ty := .array .int) (ws' := [(h0, .inr (9, [.int 0, .int 0, .ref q0, .ref q1, .ref q2, .ref q3, .ref q4, .ref q5, .ref q6, .ref q7, .ref q8, .int 0, .int 0, .ref q9, .ref q10, .int 536870912, .int 536870912, .int 0, .int 0, .int 0, .int 0, .ref q11, .int 0, .ref q12, .ref q13, .ref q14, .null, .null, .null, .int 0, .int 0])), (q0, .inl (ca 0, 206, .inl (fun _ => 0))), (q1, .inl (ca 0, 206, .inl (fun _ => 0))), (q2, .inl (ca 0, 206, .inl (fun _ => 0))), (q3, .inl (ca 0, 206, .inl (fun _ => 0))), (q4, .inl (ca 2, 206, .inl (fun _ => 0))), (q5, .inl (ca 0, 30, .inl (fun _ => 0))), (q6, .inl (ca 0, 30, .inl (fun _ => 0))), (q7, .inl (ca 0, 30, .inl (fun _ => 0))), (q8, .inl (ca 0, 30, .inl (fun _ => 0))), (q9, .inl (ca 1, 320, .inl (fun _ => 0))), (q10, .inl (ca 0, 40, .inl (fun _ => 0))), (q11, .inl (ca 1, 120, .inl (fun _ => 0))), (q12, .inl (ca 1, 200, .inl (fun _ => 0))), (q13, .inl (ca 0, 12, .inl (fun _ => 0))), (q14, .inl (ca 0, 12, .inl (fun _ => 0)))]) K fc_9 0 rfl 25 (by decide) tw_694 rfl hin rfl (by decide +kernel) rfl rfl (Nat.le_of_ble_eq_true rfl) d_Md_init_140 rfl ?_
  refine pn_aload_n K d_Md_init_143 0 rfl rfl ?_
  refine pn_bipush (v := 12) K d_Md_init_144 (by decide) ?_
  refine pn_newa (ty := .boolean) (t := 2) (N := 12) (a0 := (12, .inl (fun _ => 0))) K rfl hX.2.2.2.1 pn_uZ rfl (fun _ => rfl) (by decide) (by decide) (by decide) (Nat.le_of_ble_eq_true rfl) (Nat.le_of_ble_eq_true rfl) d_Md_init_146 (fun q15 => ?_)
  refine pn_putF (ty := .array .boolean) (ws' := [(h0, .inr (9, [.int 0, .int 0, .ref q0, .ref q1, .ref q2, .ref q3, .ref q4, .ref q5, .ref q6, .ref q7, .ref q8, .int 0, .int 0, .ref q9, .ref q10, .int 536870912, .int 536870912, .int 0, .int 0, .int 0, .int 0, .ref q11, .int 0, .ref q12, .ref q13, .ref q14, .ref q15, .null, .null, .int 0, .int 0])), (q0, .inl (ca 0, 206, .inl (fun _ => 0))), (q1, .inl (ca 0, 206, .inl (fun _ => 0))), (q2, .inl (ca 0, 206, .inl (fun _ => 0))), (q3, .inl (ca 0, 206, .inl (fun _ => 0))), (q4, .inl (ca 2, 206, .inl (fun _ => 0))), (q5, .inl (ca 0, 30, .inl (fun _ => 0))), (q6, .inl (ca 0, 30, .inl (fun _ => 0))), (q7, .inl (ca 0, 30, .inl (fun _ => 0))), (q8, .inl (ca 0, 30, .inl (fun _ => 0))), (q9, .inl (ca 1, 320, .inl (fun _ => 0))), (q10, .inl (ca 0, 40, .inl (fun _ => 0))), (q11, .inl (ca 1, 120, .inl (fun _ => 0))), (q12, .inl (ca 1, 200, .inl (fun _ => 0))), (q13, .inl (ca 0, 12, .inl (fun _ => 0))), (q14, .inl (ca 0, 12, .inl (fun _ => 0))), (q15, .inl (ca 2, 12, .inl (fun _ => 0)))]) K fc_9 0 rfl 26 (by decide) tw_695 rfl hin rfl (by decide +kernel) rfl rfl (Nat.le_of_ble_eq_true rfl) d_Md_init_148 rfl ?_
  refine pn_aload_n K d_Md_init_151 0 rfl rfl ?_
  refine pn_bipush (v := 18) K d_Md_init_152 (by decide) ?_
  refine pn_newa (ty := .int) (t := 0) (N := 18) (a0 := (18, .inl (fun _ => 0))) K rfl hX.2.1 pn_uI rfl (fun _ => rfl) (by decide) (by decide) (by decide) (Nat.le_of_ble_eq_true rfl) (Nat.le_of_ble_eq_true rfl) d_Md_init_154 (fun q16 => ?_)
  refine pn_putF (ty := .array .int) (ws' := [(h0, .inr (9, [.int 0, .int 0, .ref q0, .ref q1, .ref q2, .ref q3, .ref q4, .ref q5, .ref q6, .ref q7, .ref q8, .int 0, .int 0, .ref q9, .ref q10, .int 536870912, .int 536870912, .int 0, .int 0, .int 0, .int 0, .ref q11, .int 0, .ref q12, .ref q13, .ref q14, .ref q15, .ref q16, .null, .int 0, .int 0])), (q0, .inl (ca 0, 206, .inl (fun _ => 0))), (q1, .inl (ca 0, 206, .inl (fun _ => 0))), (q2, .inl (ca 0, 206, .inl (fun _ => 0))), (q3, .inl (ca 0, 206, .inl (fun _ => 0))), (q4, .inl (ca 2, 206, .inl (fun _ => 0))), (q5, .inl (ca 0, 30, .inl (fun _ => 0))), (q6, .inl (ca 0, 30, .inl (fun _ => 0))), (q7, .inl (ca 0, 30, .inl (fun _ => 0))), (q8, .inl (ca 0, 30, .inl (fun _ => 0))), (q9, .inl (ca 1, 320, .inl (fun _ => 0))), (q10, .inl (ca 0, 40, .inl (fun _ => 0))), (q11, .inl (ca 1, 120, .inl (fun _ => 0))), (q12, .inl (ca 1, 200, .inl (fun _ => 0))), (q13, .inl (ca 0, 12, .inl (fun _ => 0))), (q14, .inl (ca 0, 12, .inl (fun _ => 0))), (q15, .inl (ca 2, 12, .inl (fun _ => 0))), (q16, .inl (ca 0, 18, .inl (fun _ => 0)))]) K fc_9 0 rfl 27 (by decide) tw_696 rfl hin rfl (by decide +kernel) rfl rfl (Nat.le_of_ble_eq_true rfl) d_Md_init_156 rfl ?_
  refine pn_aload_n K d_Md_init_159 0 rfl rfl ?_
  refine pn_bipush (v := 18) K d_Md_init_160 (by decide) ?_
  refine pn_newa (ty := .int) (t := 0) (N := 18) (a0 := (18, .inl (fun _ => 0))) K rfl hX.2.1 pn_uI rfl (fun _ => rfl) (by decide) (by decide) (by decide) (Nat.le_of_ble_eq_true rfl) (Nat.le_of_ble_eq_true rfl) d_Md_init_162 (fun q17 => ?_)
  refine pn_putF (ty := .array .int) (ws' := [(h0, .inr (9, [.int 0, .int 0, .ref q0, .ref q1, .ref q2, .ref q3, .ref q4, .ref q5, .ref q6, .ref q7, .ref q8, .int 0, .int 0, .ref q9, .ref q10, .int 536870912, .int 536870912, .int 0, .int 0, .int 0, .int 0, .ref q11, .int 0, .ref q12, .ref q13, .ref q14, .ref q15, .ref q16, .ref q17, .int 0, .int 0])), (q0, .inl (ca 0, 206, .inl (fun _ => 0))), (q1, .inl (ca 0, 206, .inl (fun _ => 0))), (q2, .inl (ca 0, 206, .inl (fun _ => 0))), (q3, .inl (ca 0, 206, .inl (fun _ => 0))), (q4, .inl (ca 2, 206, .inl (fun _ => 0))), (q5, .inl (ca 0, 30, .inl (fun _ => 0))), (q6, .inl (ca 0, 30, .inl (fun _ => 0))), (q7, .inl (ca 0, 30, .inl (fun _ => 0))), (q8, .inl (ca 0, 30, .inl (fun _ => 0))), (q9, .inl (ca 1, 320, .inl (fun _ => 0))), (q10, .inl (ca 0, 40, .inl (fun _ => 0))), (q11, .inl (ca 1, 120, .inl (fun _ => 0))), (q12, .inl (ca 1, 200, .inl (fun _ => 0))), (q13, .inl (ca 0, 12, .inl (fun _ => 0))), (q14, .inl (ca 0, 12, .inl (fun _ => 0))), (q15, .inl (ca 2, 12, .inl (fun _ => 0))), (q16, .inl (ca 0, 18, .inl (fun _ => 0))), (q17, .inl (ca 0, 18, .inl (fun _ => 0)))]) K fc_9 0 rfl 28 (by decide) tw_697 rfl hin rfl (by decide +kernel) rfl rfl (Nat.le_of_ble_eq_true rfl) d_Md_init_164 rfl ?_
  refine pn_sub (lv' := [(0, .ref h0), (1, .int x1)]) [0, 1] rfl ?_
  refine pn_pg (sh := shM) (w := (pm_setI (pm_setI pm_0 0 15 536870912) 0 16 536870912)) (mc := 18) (ms := 1902) (fun o => [h0, q0, q1, q2, q3, q4, q5, q6, q7, q8, q9, q10, q11, q12, q13, q14, q15, q16, q17].getD o 0) (by rw [pm_cells_eq]; rfl) (Nat.le_of_ble_eq_true rfl) (Nat.le_of_ble_eq_true rfl) K.2.2.2.2.2.2.2.2.1 (fun hj hA => ?_)
  exact t_Md_init (ad := (fun o => [h0, q0, q1, q2, q3, q4, q5, q6, q7, q8, q9, q10, q11, q12, q13, q14, q15, q16, q17].getD o 0)) (kc := 18) (ks := 1902) ⟨K.1, K.2.1, K.2.2.1, K.2.2.2.1, K.2.2.2.2.1, K.2.2.2.2.2.1, pmTs_good, K.2.2.2.2.2.2.2.1, ⟨hj, hA, Nat.le_refl _, Nat.le_refl _⟩, K.2.2.2.2.2.2.2.2.2.1, K.2.2.2.2.2.2.2.2.2.2.1, K.2.2.2.2.2.2.2.2.2.2.2, st_cl adK adV⟩ ⟨q0, q1, q2, q3, q4, q5, q6, q7, q8, q9, q10, q11, q12, q13, q14, q15, q16, q17, rfl⟩ hin w'  x1 (pm_setI (pm_setI pm_0 0 15 536870912) 0 16 536870912) hf
