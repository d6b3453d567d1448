theorem pj_3_3 : mj_pool 3 3 = some (8, 0, 0) := by decide +kernel
theorem pj_3_9 : mj_pool 3 9 = some (14, 0, 0) := by decide +kernel
theorem pj_3_17 : mj_pool 3 17 = some (1, 3, 0) := by decide +kernel
theorem pj_3_22 : mj_pool 3 22 = some (1, 3, 1) := by decide +kernel
theorem pj_3_26 : mj_pool 3 26 = some (1, 3, 2) := by decide +kernel
theorem pj_3_29 : mj_pool 3 29 = some (4, 50, 0) := by decide +kernel
theorem pj_3_33 : mj_pool 3 33 = some (4, 7, 0) := by decide +kernel
theorem pj_3_39 : mj_pool 3 39 = some (4, 49, 0) := by decide +kernel
theorem pj_3_43 : mj_pool 3 43 = some (4, 8, 0) := by decide +kernel
theorem pj_5_3 : mj_pool 5 3 = some (8, 0, 0) := by decide +kernel
theorem pj_5_9 : mj_pool 5 9 = some (1, 5, 0) := by decide +kernel
theorem pj_5_15 : mj_pool 5 15 = some (15, 0, 0) := by decide +kernel
theorem pj_5_21 : mj_pool 5 21 = some (1, 5, 1) := by decide +kernel
theorem pj_5_25 : mj_pool 5 25 = some (1, 5, 2) := by decide +kernel
theorem pj_5_28 : mj_pool 5 28 = some (4, 73, 0) := by decide +kernel
theorem pj_5_31 : mj_pool 5 31 = some (1, 5, 4) := by decide +kernel
theorem pj_5_34 : mj_pool 5 34 = some (1, 5, 5) := by decide +kernel
theorem pj_5_37 : mj_pool 5 37 = some (1, 5, 3) := by decide +kernel
theorem pj_5_40 : mj_pool 5 40 = some (4, 74, 0) := by decide +kernel
theorem pj_5_44 : mj_pool 5 44 = some (4, 76, 0) := by decide +kernel
theorem pj_5_47 : mj_pool 5 47 = some (4, 75, 0) := by decide +kernel
theorem pj_5_50 : mj_pool 5 50 = some (4, 77, 0) := by decide +kernel
theorem pj_5_53 : mj_pool 5 53 = some (4, 78, 0) := by decide +kernel
theorem pj_5_56 : mj_pool 5 56 = some (1, 5, 6) := by decide +kernel
theorem pj_5_60 : mj_pool 5 60 = some (1, 5, 7) := by decide +kernel
theorem pj_5_63 : mj_pool 5 63 = some (4, 276, 0) := by decide +kernel
theorem pj_5_68 : mj_pool 5 68 = some (5, 97, 0) := by decide +kernel
theorem pj_5_74 : mj_pool 5 74 = some (4, 277, 0) := by decide +kernel
theorem pj_5_78 : mj_pool 5 78 = some (12, 0, 0) := by decide +kernel
theorem pj_5_80 : mj_pool 5 80 = some (4, 79, 0) := by decide +kernel
theorem pj_5_84 : mj_pool 5 84 = some (12, 1, 0) := by decide +kernel
theorem pj_5_86 : mj_pool 5 86 = some (12, 2, 0) := by decide +kernel
theorem pj_5_88 : mj_pool 5 88 = some (12, 4, 0) := by decide +kernel
theorem pj_5_90 : mj_pool 5 90 = some (12, 3, 0) := by decide +kernel
theorem pj_5_92 : mj_pool 5 92 = some (12, 5, 0) := by decide +kernel
section
variable {sa : Nat → Nat} {d k z n a b : Nat} {Q : mj_Q} {L st : List Value} {μ : mj_M} {K : Nat → Nat × Nat} {FI : Nat → Nat → Int32} {FL : Nat → Nat → Int64} {FR : Nat → Nat → Option Nat} {AI : Nat → Nat → Int32} {AL : Nat → Nat → Int64} {AR : Nat → Nat → Option Nat} {u v cn dp sp u0 u1 u2 u3 u4 u5 u6 : Int32} {w y w0 w1 w2 w3 w4 w5 : Int64} {r : Option Nat} {b0 b1 b2 b3 b4 b5 b6 : Nat} {x0 x1 x2 : Value}
theorem e45_0 : WP sa (EV sa d) 45 Q k z 0 [.ref a, x1] st μ = WP sa (EV sa d) 45 Q k z 1 [.ref a, x1] (.ref a :: st) μ := wp_p (ins := .aload_n 0) (by decide +kernel) rfl rfl
theorem e45_1 : WP sa (EV sa d) 45 Q k z 1 L (.ref a :: st) μ = (st.length ≤ 4 ∧ WP sa (EV sa d) 45 Q k z 4 L st μ) := wp_obj (idx := 3) (by decide +kernel) rfl pj_3_3
theorem e45_4 : WP sa (EV sa d) 45 Q k z 4 [.ref a, x1] st μ = WP sa (EV sa d) 45 Q k z 5 [.ref a, x1] (.ref a :: st) μ := wp_p (ins := .aload_n 0) (by decide +kernel) rfl rfl
theorem e45_5 : WP sa (EV sa d) 45 Q k z 5 [x0, .int u] st μ = WP sa (EV sa d) 45 Q k z 6 [x0, .int u] (.int u :: st) μ := wp_p (ins := .iload_n 1) (by decide +kernel) rfl rfl
theorem e45_6 : WP sa (EV sa d) 45 Q k z 6 L st μ = WP sa (EV sa d) 45 Q k z 7 L (.int 1 :: st) μ := wp_p (ins := .iconst 1) (by decide +kernel) rfl rfl
theorem e45_7 : WP sa (EV sa d) 45 Q k z 7 L (.int v :: .int u :: st) μ = (st.length ≤ 4 ∧ WP sa (EV sa d) 45 Q k z 10 L (.int (if u < v then v else u) :: st) μ) := wp_max (idx := 9) (by decide +kernel) rfl pj_3_9
theorem e45_10 : WP sa (EV sa d) 45 Q k z 10 L st μ = WP sa (EV sa d) 45 Q k z 12 L (.int 37 :: st) μ := wp_p (ins := .bipush 37) (by decide +kernel) rfl rfl
-- left out: 45 12 multianewarray class "[[I"
theorem e45_16 : WP sa (EV sa d) 45 Q k z 16 L (.ref b :: .ref a :: st) (n, K, FI, FL, FR, AI, AL, AR) = (K a = (1, 3) ∧ WP sa (EV sa d) 45 Q k z 19 L st (n, K, FI, FL, mj_u2 FR 192 a (some b), AI, AL, AR)) := wp_putR (idx := 17) (by decide +kernel) rfl pj_3_17 (by decide +kernel) (Or.inr ⟨_, rfl⟩) rfl
theorem e45_19 : WP sa (EV sa d) 45 Q k z 19 L [] μ = Q none μ := wp_rv (by decide +kernel) rfl
theorem e46_0 : WP sa (EV sa d) 46 Q k z 0 [.ref a] st μ = WP sa (EV sa d) 46 Q k z 1 [.ref a] (.ref a :: st) μ := wp_p (ins := .aload_n 0) (by decide +kernel) rfl rfl
theorem e46_1 : WP sa (EV sa d) 46 Q k z 1 L st μ = WP sa (EV sa d) 46 Q k z 2 L (.int 0 :: st) μ := wp_p (ins := .iconst 0) (by decide +kernel) rfl rfl
theorem e46_2 : WP sa (EV sa d) 46 Q k z 2 L (.int u :: .ref a :: st) (n, K, FI, FL, FR, AI, AL, AR) = (K a = (1, 3) ∧ WP sa (EV sa d) 46 Q k z 5 L st (n, K, mj_u2 FI 193 a u, FL, FR, AI, AL, AR)) := wp_putI (idx := 22) (by decide +kernel) rfl pj_3_22 (by decide +kernel) rfl rfl
theorem e46_5 : WP sa (EV sa d) 46 Q k z 5 [.ref a] st μ = WP sa (EV sa d) 46 Q k z 6 [.ref a] (.ref a :: st) μ := wp_p (ins := .aload_n 0) (by decide +kernel) rfl rfl
theorem e46_6 : WP sa (EV sa d) 46 Q k z 6 L st μ = WP sa (EV sa d) 46 Q k z 7 L (.int 0 :: st) μ := wp_p (ins := .iconst 0) (by decide +kernel) rfl rfl
theorem e46_7 : WP sa (EV sa d) 46 Q k z 7 L (.int u :: .ref a :: st) (n, K, FI, FL, FR, AI, AL, AR) = (K a = (1, 3) ∧ WP sa (EV sa d) 46 Q k z 10 L st (n, K, mj_u2 FI 194 a u, FL, FR, AI, AL, AR)) := wp_putI (idx := 26) (by decide +kernel) rfl pj_3_26 (by decide +kernel) rfl rfl
theorem e46_10 : WP sa (EV sa d) 46 Q k z 10 L [] μ = Q none μ := wp_rv (by decide +kernel) rfl
theorem e47_0 : WP sa (EV sa d) 47 Q k z 0 [.ref a, x1] st μ = WP sa (EV sa d) 47 Q k z 1 [.ref a, x1] (.ref a :: st) μ := wp_p (ins := .aload_n 0) (by decide +kernel) rfl rfl
theorem e47_1 : WP sa (EV sa d) 47 Q k z 1 L (.ref a :: st) (n, K, FI, FL, FR, AI, AL, AR) = (K a = (1, 3) ∧ WP sa (EV sa d) 47 Q k z 4 L (.int (FI 194 a) :: st) (n, K, FI, FL, FR, AI, AL, AR)) := wp_getI (idx := 26) (by decide +kernel) rfl pj_3_26 (by decide) (Or.inl rfl) rfl
theorem e47_4 : WP sa (EV sa d) 47 Q k z 4 [.ref a, x1] st μ = WP sa (EV sa d) 47 Q k z 5 [.ref a, x1] (.ref a :: st) μ := wp_p (ins := .aload_n 0) (by decide +kernel) rfl rfl
theorem e47_5 : WP sa (EV sa d) 47 Q k z 5 L (.ref a :: st) (n, K, FI, FL, FR, AI, AL, AR) = (K a = (1, 3) ∧ WP sa (EV sa d) 47 Q k z 8 L (va_rf (FR 192 a) :: st) (n, K, FI, FL, FR, AI, AL, AR)) := wp_getR (idx := 17) (by decide +kernel) rfl pj_3_17 (by decide) (Or.inr ⟨_, rfl⟩) rfl
theorem e47_8 : WP sa (EV sa d) 47 Q k z 8 L (.ref a :: st) (n, K, FI, FL, FR, AI, AL, AR) = (mj_isA (K a).1 ∧ WP sa (EV sa d) 47 Q k z 9 L (.int (Int32.ofNat (K a).2) :: st) (n, K, FI, FL, FR, AI, AL, AR)) := wp_len (by decide +kernel)
theorem e47_9 : WP sa (EV sa d) 47 Q k z 9 L (.int v :: .int u :: st) μ = ((v ≤ u → WP sa (EV sa d) 47 Q k z 25 L st μ) ∧ (¬ v ≤ u → WP sa (EV sa d) 47 Q k z 12 L st μ)) := wp_b (ins := .if_icmp .ge 16) (by decide +kernel) rfl rfl (by decide)
theorem e47_12 : WP sa (EV sa d) 47 Q k z 12 [.ref a, x1] st μ = WP sa (EV sa d) 47 Q k z 13 [.ref a, x1] (.ref a :: st) μ := wp_p (ins := .aload_n 0) (by decide +kernel) rfl rfl
theorem e47_13 : WP sa (EV sa d) 47 Q k z 13 L (.ref a :: st) μ = WP sa (EV sa d) 47 Q k z 14 L (.ref a :: .ref a :: st) μ := wp_p (ins := .dup) (by decide +kernel) rfl rfl
theorem e47_13i : WP sa (EV sa d) 47 Q k z 13 L (.int u :: st) μ = WP sa (EV sa d) 47 Q k z 14 L (.int u :: .int u :: st) μ := wp_p (ins := .dup) (by decide +kernel) rfl rfl
theorem e47_14 : WP sa (EV sa d) 47 Q k z 14 L (.ref a :: st) (n, K, FI, FL, FR, AI, AL, AR) = (K a = (1, 3) ∧ WP sa (EV sa d) 47 Q k z 17 L (.int (FI 194 a) :: st) (n, K, FI, FL, FR, AI, AL, AR)) := wp_getI (idx := 26) (by decide +kernel) rfl pj_3_26 (by decide) (Or.inl rfl) rfl
theorem e47_17 : WP sa (EV sa d) 47 Q k z 17 L st μ = WP sa (EV sa d) 47 Q k z 18 L (.int 1 :: st) μ := wp_p (ins := .iconst 1) (by decide +kernel) rfl rfl
theorem e47_18 : WP sa (EV sa d) 47 Q k z 18 L (.int v :: .int u :: st) μ = WP sa (EV sa d) 47 Q k z 19 L (.int (u + v) :: st) μ := wp_p (ins := .iadd) (by decide +kernel) rfl rfl
theorem e47_19 : WP sa (EV sa d) 47 Q k z 19 L (.int u :: .ref a :: st) (n, K, FI, FL, FR, AI, AL, AR) = (K a = (1, 3) ∧ WP sa (EV sa d) 47 Q k z 22 L st (n, K, mj_u2 FI 194 a u, FL, FR, AI, AL, AR)) := wp_putI (idx := 26) (by decide +kernel) rfl pj_3_26 (by decide +kernel) rfl rfl
theorem e47_22 : WP sa (EV sa d) 47 Q k z 22 L st μ = WP sa (EV sa d) 47 Q k z 53 L st μ := wp_g (off := 31) (by decide +kernel) (by decide)
theorem e47_25 : WP sa (EV sa d) 47 Q k z 25 [.ref a, x1] st μ = WP sa (EV sa d) 47 Q k z 26 [.ref a, x1] (.ref a :: st) μ := wp_p (ins := .aload_n 0) (by decide +kernel) rfl rfl
theorem e47_26 : WP sa (EV sa d) 47 Q k z 26 [.ref a, x1] st μ = WP sa (EV sa d) 47 Q k z 27 [.ref a, x1] (.ref a :: st) μ := wp_p (ins := .aload_n 0) (by decide +kernel) rfl rfl
theorem e47_27 : WP sa (EV sa d) 47 Q k z 27 L (.ref a :: st) (n, K, FI, FL, FR, AI, AL, AR) = (K a = (1, 3) ∧ WP sa (EV sa d) 47 Q k z 30 L (.int (FI 193 a) :: st) (n, K, FI, FL, FR, AI, AL, AR)) := wp_getI (idx := 22) (by decide +kernel) rfl pj_3_22 (by decide) (Or.inl rfl) rfl
theorem e47_30 : WP sa (EV sa d) 47 Q k z 30 L st μ = WP sa (EV sa d) 47 Q k z 31 L (.int 1 :: st) μ := wp_p (ins := .iconst 1) (by decide +kernel) rfl rfl
theorem e47_31 : WP sa (EV sa d) 47 Q k z 31 L (.int v :: .int u :: st) μ = WP sa (EV sa d) 47 Q k z 32 L (.int (u + v) :: st) μ := wp_p (ins := .iadd) (by decide +kernel) rfl rfl
theorem e47_32 : WP sa (EV sa d) 47 Q k z 32 [.ref a, x1] st μ = WP sa (EV sa d) 47 Q k z 33 [.ref a, x1] (.ref a :: st) μ := wp_p (ins := .aload_n 0) (by decide +kernel) rfl rfl
theorem e47_33 : WP sa (EV sa d) 47 Q k z 33 L (.ref a :: st) (n, K, FI, FL, FR, AI, AL, AR) = (K a = (1, 3) ∧ WP sa (EV sa d) 47 Q k z 36 L (va_rf (FR 192 a) :: st) (n, K, FI, FL, FR, AI, AL, AR)) := wp_getR (idx := 17) (by decide +kernel) rfl pj_3_17 (by decide) (Or.inr ⟨_, rfl⟩) rfl
theorem e47_36 : WP sa (EV sa d) 47 Q k z 36 L (.ref a :: st) (n, K, FI, FL, FR, AI, AL, AR) = (mj_isA (K a).1 ∧ WP sa (EV sa d) 47 Q k z 37 L (.int (Int32.ofNat (K a).2) :: st) (n, K, FI, FL, FR, AI, AL, AR)) := wp_len (by decide +kernel)
theorem e47_37 : WP sa (EV sa d) 47 Q k z 37 L (.int v :: .int u :: st) μ = ((v ≤ u → WP sa (EV sa d) 47 Q k z 49 L st μ) ∧ (¬ v ≤ u → WP sa (EV sa d) 47 Q k z 40 L st μ)) := wp_b (ins := .if_icmp .ge 12) (by decide +kernel) rfl rfl (by decide)
theorem e47_40 : WP sa (EV sa d) 47 Q k z 40 [.ref a, x1] st μ = WP sa (EV sa d) 47 Q k z 41 [.ref a, x1] (.ref a :: st) μ := wp_p (ins := .aload_n 0) (by decide +kernel) rfl rfl
theorem e47_41 : WP sa (EV sa d) 47 Q k z 41 L (.ref a :: st) (n, K, FI, FL, FR, AI, AL, AR) = (K a = (1, 3) ∧ WP sa (EV sa d) 47 Q k z 44 L (.int (FI 193 a) :: st) (n, K, FI, FL, FR, AI, AL, AR)) := wp_getI (idx := 22) (by decide +kernel) rfl pj_3_22 (by decide) (Or.inl rfl) rfl
theorem e47_44 : WP sa (EV sa d) 47 Q k z 44 L st μ = WP sa (EV sa d) 47 Q k z 45 L (.int 1 :: st) μ := wp_p (ins := .iconst 1) (by decide +kernel) rfl rfl
theorem e47_45 : WP sa (EV sa d) 47 Q k z 45 L (.int v :: .int u :: st) μ = WP sa (EV sa d) 47 Q k z 46 L (.int (u + v) :: st) μ := wp_p (ins := .iadd) (by decide +kernel) rfl rfl
theorem e47_46 : WP sa (EV sa d) 47 Q k z 46 L st μ = WP sa (EV sa d) 47 Q k z 50 L st μ := wp_g (off := 4) (by decide +kernel) (by decide)
theorem e47_49 : WP sa (EV sa d) 47 Q k z 49 L st μ = WP sa (EV sa d) 47 Q k z 50 L (.int 0 :: st) μ := wp_p (ins := .iconst 0) (by decide +kernel) rfl rfl
theorem e47_50 : WP sa (EV sa d) 47 Q k z 50 L (.int u :: .ref a :: st) (n, K, FI, FL, FR, AI, AL, AR) = (K a = (1, 3) ∧ WP sa (EV sa d) 47 Q k z 53 L st (n, K, mj_u2 FI 193 a u, FL, FR, AI, AL, AR)) := wp_putI (idx := 22) (by decide +kernel) rfl pj_3_22 (by decide +kernel) rfl rfl
theorem e47_53 : WP sa (EV sa d) 47 Q k z 53 [x0, .ref a] st μ = WP sa (EV sa d) 47 Q k z 54 [x0, .ref a] (.ref a :: st) μ := wp_p (ins := .aload_n 1) (by decide +kernel) rfl rfl
theorem e47_54 : WP sa (EV sa d) 47 Q k z 54 [.ref a, x1] st μ = WP sa (EV sa d) 47 Q k z 55 [.ref a, x1] (.ref a :: st) μ := wp_p (ins := .aload_n 0) (by decide +kernel) rfl rfl
theorem e47_55 : WP sa (EV sa d) 47 Q k z 55 L (.ref a :: st) (n, K, FI, FL, FR, AI, AL, AR) = (K a = (1, 3) ∧ WP sa (EV sa d) 47 Q k z 58 L (va_rf (FR 192 a) :: st) (n, K, FI, FL, FR, AI, AL, AR)) := wp_getR (idx := 17) (by decide +kernel) rfl pj_3_17 (by decide) (Or.inr ⟨_, rfl⟩) rfl
theorem e47_58 : WP sa (EV sa d) 47 Q k z 58 [.ref a, x1] st μ = WP sa (EV sa d) 47 Q k z 59 [.ref a, x1] (.ref a :: st) μ := wp_p (ins := .aload_n 0) (by decide +kernel) rfl rfl
theorem e47_59 : WP sa (EV sa d) 47 Q k z 59 [.ref a, x1] st μ = WP sa (EV sa d) 47 Q k z 60 [.ref a, x1] (.ref a :: st) μ := wp_p (ins := .aload_n 0) (by decide +kernel) rfl rfl
theorem e47_60 : WP sa (EV sa d) 47 Q k z 60 L (.ref a :: st) (n, K, FI, FL, FR, AI, AL, AR) = (K a = (1, 3) ∧ WP sa (EV sa d) 47 Q k z 63 L (.int (FI 194 a) :: st) (n, K, FI, FL, FR, AI, AL, AR)) := wp_getI (idx := 26) (by decide +kernel) rfl pj_3_26 (by decide) (Or.inl rfl) rfl
theorem e47_63 : WP sa (EV sa d) 47 Q k z 63 L st μ = WP sa (EV sa d) 47 Q k z 64 L (.int 1 :: st) μ := wp_p (ins := .iconst 1) (by decide +kernel) rfl rfl
theorem e47_64 : WP sa (EV sa d) 47 Q k z 64 L (.int v :: .int u :: st) μ = WP sa (EV sa d) 47 Q k z 65 L (.int (u - v) :: st) μ := wp_p (ins := .isub) (by decide +kernel) rfl rfl
theorem e47_65 : WP sa (EV sa d) 47 Q k z 65 L (.int u0 :: .ref a :: st) μ = (st.length ≤ 4 ∧ EV sa d 50 [.ref a, .int u0] μ (fun v μ => WP sa (EV sa d) 47 Q k z 68 L (v.toList ++ st) μ)) := wp_V (idx := 29) (by decide +kernel) rfl pj_3_29 rfl rfl
theorem e47_68 : WP sa (EV sa d) 47 Q k z 68 L (.int u :: .ref a :: st) (n, K, FI, FL, FR, AI, AL, AR) = (((K a).1 = 5 ∧ vp_in u (K a).2) ∧ WP sa (EV sa d) 47 Q k z 69 L (va_rf (AR a u.toNatClampNeg) :: st) (n, K, FI, FL, FR, AI, AL, AR)) := wp_aal (by decide +kernel)
theorem e47_69 : WP sa (EV sa d) 47 Q k z 69 L (.ref b0 :: .ref a :: st) μ = (st.length ≤ 4 ∧ EV sa d 7 [.ref a, .ref b0] μ (fun v μ => WP sa (EV sa d) 47 Q k z 72 L (v.toList ++ st) μ)) := wp_V (idx := 33) (by decide +kernel) rfl pj_3_33 rfl rfl
theorem e47_72 : WP sa (EV sa d) 47 Q k z 72 L [] μ = Q none μ := wp_rv (by decide +kernel) rfl
theorem e48_0 : WP sa (EV sa d) 48 Q k z 0 [.ref a, x1] st μ = WP sa (EV sa d) 48 Q k z 1 [.ref a, x1] (.ref a :: st) μ := wp_p (ins := .aload_n 0) (by decide +kernel) rfl rfl
theorem e48_1 : WP sa (EV sa d) 48 Q k z 1 [.ref a, x1] st μ = WP sa (EV sa d) 48 Q k z 2 [.ref a, x1] (.ref a :: st) μ := wp_p (ins := .aload_n 0) (by decide +kernel) rfl rfl
theorem e48_2 : WP sa (EV sa d) 48 Q k z 2 L (.ref a :: st) (n, K, FI, FL, FR, AI, AL, AR) = (K a = (1, 3) ∧ WP sa (EV sa d) 48 Q k z 5 L (.int (FI 194 a) :: st) (n, K, FI, FL, FR, AI, AL, AR)) := wp_getI (idx := 26) (by decide +kernel) rfl pj_3_26 (by decide) (Or.inl rfl) rfl
theorem e48_5 : WP sa (EV sa d) 48 Q k z 5 L st μ = WP sa (EV sa d) 48 Q k z 6 L (.int 1 :: st) μ := wp_p (ins := .iconst 1) (by decide +kernel) rfl rfl
theorem e48_6 : WP sa (EV sa d) 48 Q k z 6 L (.int v :: .int u :: st) μ = WP sa (EV sa d) 48 Q k z 7 L (.int (u - v) :: st) μ := wp_p (ins := .isub) (by decide +kernel) rfl rfl
theorem e48_7 : WP sa (EV sa d) 48 Q k z 7 [x0, .ref a] st μ = WP sa (EV sa d) 48 Q k z 8 [x0, .ref a] (.ref a :: st) μ := wp_p (ins := .aload_n 1) (by decide +kernel) rfl rfl
theorem e48_8 : WP sa (EV sa d) 48 Q k z 8 L (.ref b1 :: .int u0 :: .ref a :: st) μ = (st.length ≤ 4 ∧ EV sa d 49 [.ref a, .int u0, .ref b1] μ (fun v μ => WP sa (EV sa d) 48 Q k z 11 L (v.toList ++ st) μ)) := wp_V (idx := 39) (by decide +kernel) rfl pj_3_39 rfl rfl
theorem e48_11 : WP sa (EV sa d) 48 Q k z 11 L (.int u :: st) μ = ((¬ u = 0 → WP sa (EV sa d) 48 Q k z 16 L st μ) ∧ (¬ (¬ u = 0) → WP sa (EV sa d) 48 Q k z 14 L st μ)) := wp_b (ins := .ifCond .ne 5) (by decide +kernel) rfl rfl (by decide)
theorem e48_14 : WP sa (EV sa d) 48 Q k z 14 L st μ = WP sa (EV sa d) 48 Q k z 15 L (.int 0 :: st) μ := wp_p (ins := .iconst 0) (by decide +kernel) rfl rfl
theorem e48_15 : WP sa (EV sa d) 48 Q k z 15 L [.int u] μ = ((u = 0 ∨ u = 1) ∧ Q (some (.int u)) μ) := wp_rz (by decide +kernel) rfl
theorem e48_16 : WP sa (EV sa d) 48 Q k z 16 [.ref a, x1] st μ = WP sa (EV sa d) 48 Q k z 17 [.ref a, x1] (.ref a :: st) μ := wp_p (ins := .aload_n 0) (by decide +kernel) rfl rfl
theorem e48_17 : WP sa (EV sa d) 48 Q k z 17 L (.ref a :: st) μ = WP sa (EV sa d) 48 Q k z 18 L (.ref a :: .ref a :: st) μ := wp_p (ins := .dup) (by decide +kernel) rfl rfl
theorem e48_17i : WP sa (EV sa d) 48 Q k z 17 L (.int u :: st) μ = WP sa (EV sa d) 48 Q k z 18 L (.int u :: .int u :: st) μ := wp_p (ins := .dup) (by decide +kernel) rfl rfl
theorem e48_18 : WP sa (EV sa d) 48 Q k z 18 L (.ref a :: st) (n, K, FI, FL, FR, AI, AL, AR) = (K a = (1, 3) ∧ WP sa (EV sa d) 48 Q k z 21 L (.int (FI 194 a) :: st) (n, K, FI, FL, FR, AI, AL, AR)) := wp_getI (idx := 26) (by decide +kernel) rfl pj_3_26 (by decide) (Or.inl rfl) rfl
theorem e48_21 : WP sa (EV sa d) 48 Q k z 21 L st μ = WP sa (EV sa d) 48 Q k z 22 L (.int 1 :: st) μ := wp_p (ins := .iconst 1) (by decide +kernel) rfl rfl
theorem e48_22 : WP sa (EV sa d) 48 Q k z 22 L (.int v :: .int u :: st) μ = WP sa (EV sa d) 48 Q k z 23 L (.int (u - v) :: st) μ := wp_p (ins := .isub) (by decide +kernel) rfl rfl
theorem e48_23 : WP sa (EV sa d) 48 Q k z 23 L (.int u :: .ref a :: st) (n, K, FI, FL, FR, AI, AL, AR) = (K a = (1, 3) ∧ WP sa (EV sa d) 48 Q k z 26 L st (n, K, mj_u2 FI 194 a u, FL, FR, AI, AL, AR)) := wp_putI (idx := 26) (by decide +kernel) rfl pj_3_26 (by decide +kernel) rfl rfl
theorem e48_26 : WP sa (EV sa d) 48 Q k z 26 L st μ = WP sa (EV sa d) 48 Q k z 27 L (.int 1 :: st) μ := wp_p (ins := .iconst 1) (by decide +kernel) rfl rfl
theorem e48_27 : WP sa (EV sa d) 48 Q k z 27 L [.int u] μ = ((u = 0 ∨ u = 1) ∧ Q (some (.int u)) μ) := wp_rz (by decide +kernel) rfl
theorem e49_0 : WP sa (EV sa d) 49 Q k z 0 [x0, .int u, x2] st μ = WP sa (EV sa d) 49 Q k z 1 [x0, .int u, x2] (.int u :: st) μ := wp_p (ins := .iload_n 1) (by decide +kernel) rfl rfl
theorem e49_1 : WP sa (EV sa d) 49 Q k z 1 L (.int u :: st) μ = ((u < 0 → WP sa (EV sa d) 49 Q k z 12 L st μ) ∧ (¬ u < 0 → WP sa (EV sa d) 49 Q k z 4 L st μ)) := wp_b (ins := .ifCond .lt 11) (by decide +kernel) rfl rfl (by decide)
theorem e49_4 : WP sa (EV sa d) 49 Q k z 4 [x0, .int u, x2] st μ = WP sa (EV sa d) 49 Q k z 5 [x0, .int u, x2] (.int u :: st) μ := wp_p (ins := .iload_n 1) (by decide +kernel) rfl rfl
theorem e49_5 : WP sa (EV sa d) 49 Q k z 5 [.ref a, x1, x2] st μ = WP sa (EV sa d) 49 Q k z 6 [.ref a, x1, x2] (.ref a :: st) μ := wp_p (ins := .aload_n 0) (by decide +kernel) rfl rfl
theorem e49_6 : WP sa (EV sa d) 49 Q k z 6 L (.ref a :: st) (n, K, FI, FL, FR, AI, AL, AR) = (K a = (1, 3) ∧ WP sa (EV sa d) 49 Q k z 9 L (.int (FI 194 a) :: st) (n, K, FI, FL, FR, AI, AL, AR)) := wp_getI (idx := 26) (by decide +kernel) rfl pj_3_26 (by decide) (Or.inl rfl) rfl
theorem e49_9 : WP sa (EV sa d) 49 Q k z 9 L (.int v :: .int u :: st) μ = ((u < v → WP sa (EV sa d) 49 Q k z 14 L st μ) ∧ (¬ u < v → WP sa (EV sa d) 49 Q k z 12 L st μ)) := wp_b (ins := .if_icmp .lt 5) (by decide +kernel) rfl rfl (by decide)
theorem e49_12 : WP sa (EV sa d) 49 Q k z 12 L st μ = WP sa (EV sa d) 49 Q k z 13 L (.int 0 :: st) μ := wp_p (ins := .iconst 0) (by decide +kernel) rfl rfl
theorem e49_13 : WP sa (EV sa d) 49 Q k z 13 L [.int u] μ = ((u = 0 ∨ u = 1) ∧ Q (some (.int u)) μ) := wp_rz (by decide +kernel) rfl
theorem e49_14 : WP sa (EV sa d) 49 Q k z 14 [x0, x1, .ref a] st μ = WP sa (EV sa d) 49 Q k z 15 [x0, x1, .ref a] (.ref a :: st) μ := wp_p (ins := .aload_n 2) (by decide +kernel) rfl rfl
theorem e49_15 : WP sa (EV sa d) 49 Q k z 15 [.ref a, x1, x2] st μ = WP sa (EV sa d) 49 Q k z 16 [.ref a, x1, x2] (.ref a :: st) μ := wp_p (ins := .aload_n 0) (by decide +kernel) rfl rfl
theorem e49_16 : WP sa (EV sa d) 49 Q k z 16 L (.ref a :: st) (n, K, FI, FL, FR, AI, AL, AR) = (K a = (1, 3) ∧ WP sa (EV sa d) 49 Q k z 19 L (va_rf (FR 192 a) :: st) (n, K, FI, FL, FR, AI, AL, AR)) := wp_getR (idx := 17) (by decide +kernel) rfl pj_3_17 (by decide) (Or.inr ⟨_, rfl⟩) rfl
theorem e49_19 : WP sa (EV sa d) 49 Q k z 19 [.ref a, x1, x2] st μ = WP sa (EV sa d) 49 Q k z 20 [.ref a, x1, x2] (.ref a :: st) μ := wp_p (ins := .aload_n 0) (by decide +kernel) rfl rfl
theorem e49_20 : WP sa (EV sa d) 49 Q k z 20 [x0, .int u, x2] st μ = WP sa (EV sa d) 49 Q k z 21 [x0, .int u, x2] (.int u :: st) μ := wp_p (ins := .iload_n 1) (by decide +kernel) rfl rfl
theorem e49_21 : WP sa (EV sa d) 49 Q k z 21 L (.int u0 :: .ref a :: st) μ = (st.length ≤ 4 ∧ EV sa d 50 [.ref a, .int u0] μ (fun v μ => WP sa (EV sa d) 49 Q k z 24 L (v.toList ++ st) μ)) := wp_V (idx := 29) (by decide +kernel) rfl pj_3_29 rfl rfl
theorem e49_24 : WP sa (EV sa d) 49 Q k z 24 L (.int u :: .ref a :: st) (n, K, FI, FL, FR, AI, AL, AR) = (((K a).1 = 5 ∧ vp_in u (K a).2) ∧ WP sa (EV sa d) 49 Q k z 25 L (va_rf (AR a u.toNatClampNeg) :: st) (n, K, FI, FL, FR, AI, AL, AR)) := wp_aal (by decide +kernel)
theorem e49_25 : WP sa (EV sa d) 49 Q k z 25 L (.ref b0 :: .ref a :: st) μ = (st.length ≤ 4 ∧ EV sa d 8 [.ref a, .ref b0] μ (fun v μ => WP sa (EV sa d) 49 Q k z 28 L (v.toList ++ st) μ)) := wp_V (idx := 43) (by decide +kernel) rfl pj_3_43 rfl rfl
theorem e49_28 : WP sa (EV sa d) 49 Q k z 28 L st μ = WP sa (EV sa d) 49 Q k z 29 L (.int 1 :: st) μ := wp_p (ins := .iconst 1) (by decide +kernel) rfl rfl
theorem e49_29 : WP sa (EV sa d) 49 Q k z 29 L [.int u] μ = ((u = 0 ∨ u = 1) ∧ Q (some (.int u)) μ) := wp_rz (by decide +kernel) rfl
theorem e50_0 : WP sa (EV sa d) 50 Q k z 0 [.ref a, x1, x2] st μ = WP sa (EV sa d) 50 Q k z 1 [.ref a, x1, x2] (.ref a :: st) μ := wp_p (ins := .aload_n 0) (by decide +kernel) rfl rfl
theorem e50_1 : WP sa (EV sa d) 50 Q k z 1 L (.ref a :: st) (n, K, FI, FL, FR, AI, AL, AR) = (K a = (1, 3) ∧ WP sa (EV sa d) 50 Q k z 4 L (.int (FI 193 a) :: st) (n, K, FI, FL, FR, AI, AL, AR)) := wp_getI (idx := 22) (by decide +kernel) rfl pj_3_22 (by decide) (Or.inl rfl) rfl
theorem e50_4 : WP sa (EV sa d) 50 Q k z 4 [x0, .int u, x2] st μ = WP sa (EV sa d) 50 Q k z 5 [x0, .int u, x2] (.int u :: st) μ := wp_p (ins := .iload_n 1) (by decide +kernel) rfl rfl
theorem e50_5 : WP sa (EV sa d) 50 Q k z 5 L (.int v :: .int u :: st) μ = WP sa (EV sa d) 50 Q k z 6 L (.int (u + v) :: st) μ := wp_p (ins := .iadd) (by decide +kernel) rfl rfl
theorem e50_6 : WP sa (EV sa d) 50 Q k z 6 [x0, x1, x2] (.int u :: st) μ = WP sa (EV sa d) 50 Q k z 7 [x0, mj_kl x1, .int u] st μ := wp_p (ins := .istore_n 2) (by decide +kernel) rfl rfl
theorem e50_7 : WP sa (EV sa d) 50 Q k z 7 [x0, x1, .int u] st μ = WP sa (EV sa d) 50 Q k z 8 [x0, x1, .int u] (.int u :: st) μ := wp_p (ins := .iload_n 2) (by decide +kernel) rfl rfl
theorem e50_8 : WP sa (EV sa d) 50 Q k z 8 [.ref a, x1, x2] st μ = WP sa (EV sa d) 50 Q k z 9 [.ref a, x1, x2] (.ref a :: st) μ := wp_p (ins := .aload_n 0) (by decide +kernel) rfl rfl
theorem e50_9 : WP sa (EV sa d) 50 Q k z 9 L (.ref a :: st) (n, K, FI, FL, FR, AI, AL, AR) = (K a = (1, 3) ∧ WP sa (EV sa d) 50 Q k z 12 L (va_rf (FR 192 a) :: st) (n, K, FI, FL, FR, AI, AL, AR)) := wp_getR (idx := 17) (by decide +kernel) rfl pj_3_17 (by decide) (Or.inr ⟨_, rfl⟩) rfl
theorem e50_12 : WP sa (EV sa d) 50 Q k z 12 L (.ref a :: st) (n, K, FI, FL, FR, AI, AL, AR) = (mj_isA (K a).1 ∧ WP sa (EV sa d) 50 Q k z 13 L (.int (Int32.ofNat (K a).2) :: st) (n, K, FI, FL, FR, AI, AL, AR)) := wp_len (by decide +kernel)
theorem e50_13 : WP sa (EV sa d) 50 Q k z 13 L (.int v :: .int u :: st) μ = ((v ≤ u → WP sa (EV sa d) 50 Q k z 20 L st μ) ∧ (¬ v ≤ u → WP sa (EV sa d) 50 Q k z 16 L st μ)) := wp_b (ins := .if_icmp .ge 7) (by decide +kernel) rfl rfl (by decide)
theorem e50_16 : WP sa (EV sa d) 50 Q k z 16 [x0, x1, .int u] st μ = WP sa (EV sa d) 50 Q k z 17 [x0, x1, .int u] (.int u :: st) μ := wp_p (ins := .iload_n 2) (by decide +kernel) rfl rfl
theorem e50_17 : WP sa (EV sa d) 50 Q k z 17 L st μ = WP sa (EV sa d) 50 Q k z 27 L st μ := wp_g (off := 10) (by decide +kernel) (by decide)
theorem e50_20 : WP sa (EV sa d) 50 Q k z 20 [x0, x1, .int u] st μ = WP sa (EV sa d) 50 Q k z 21 [x0, x1, .int u] (.int u :: st) μ := wp_p (ins := .iload_n 2) (by decide +kernel) rfl rfl
theorem e50_21 : WP sa (EV sa d) 50 Q k z 21 [.ref a, x1, x2] st μ = WP sa (EV sa d) 50 Q k z 22 [.ref a, x1, x2] (.ref a :: st) μ := wp_p (ins := .aload_n 0) (by decide +kernel) rfl rfl
theorem e50_22 : WP sa (EV sa d) 50 Q k z 22 L (.ref a :: st) (n, K, FI, FL, FR, AI, AL, AR) = (K a = (1, 3) ∧ WP sa (EV sa d) 50 Q k z 25 L (va_rf (FR 192 a) :: st) (n, K, FI, FL, FR, AI, AL, AR)) := wp_getR (idx := 17) (by decide +kernel) rfl pj_3_17 (by decide) (Or.inr ⟨_, rfl⟩) rfl
theorem e50_25 : WP sa (EV sa d) 50 Q k z 25 L (.ref a :: st) (n, K, FI, FL, FR, AI, AL, AR) = (mj_isA (K a).1 ∧ WP sa (EV sa d) 50 Q k z 26 L (.int (Int32.ofNat (K a).2) :: st) (n, K, FI, FL, FR, AI, AL, AR)) := wp_len (by decide +kernel)
theorem e50_26 : WP sa (EV sa d) 50 Q k z 26 L (.int v :: .int u :: st) μ = WP sa (EV sa d) 50 Q k z 27 L (.int (u - v) :: st) μ := wp_p (ins := .isub) (by decide +kernel) rfl rfl
theorem e50_27 : WP sa (EV sa d) 50 Q k z 27 L [.int u] μ = Q (some (.int u)) μ := wp_ri (by decide +kernel) rfl
theorem e71_0 : WP sa (EV sa d) 71 Q k z 0 [.ref a] st μ = WP sa (EV sa d) 71 Q k z 1 [.ref a] (.ref a :: st) μ := wp_p (ins := .aload_n 0) (by decide +kernel) rfl rfl
theorem e71_1 : WP sa (EV sa d) 71 Q k z 1 L (.ref a :: st) μ = (st.length ≤ 4 ∧ WP sa (EV sa d) 71 Q k z 4 L st μ) := wp_obj (idx := 3) (by decide +kernel) rfl pj_5_3
theorem e71_4 : WP sa (EV sa d) 71 Q k z 4 [.ref a] st μ = WP sa (EV sa d) 71 Q k z 5 [.ref a] (.ref a :: st) μ := wp_p (ins := .aload_n 0) (by decide +kernel) rfl rfl
theorem e71_5 : WP sa (EV sa d) 71 Q k z 5 L st μ = WP sa (EV sa d) 71 Q k z 6 L (.int 0 :: st) μ := wp_p (ins := .iconst 0) (by decide +kernel) rfl rfl
theorem e71_6 : WP sa (EV sa d) 71 Q k z 6 L (.int u :: st) (n, K, FI, FL, FR, AI, AL, AR) = ((¬ u < 0 ∧ u.toNatClampNeg ≤ 10000) ∧ k + 1 ≤ (mj_al 71).1 ∧ z + u.toNatClampNeg ≤ (mj_al 71).2 ∧ WP sa (EV sa d) 71 Q (k + 1) (z + u.toNatClampNeg) 8 L (.ref n :: st) (n + 1, mj_uk K n (3, u.toNatClampNeg), FI, FL, FR, mj_za (fun _ => 0) AI n, AL, AR)) := wp_a (i := 71) (pc := 6) (len := 2) (ins := .newarray .byte) (by decide +kernel) rfl rfl rfl rfl rfl rfl
theorem e71_8 : WP sa (EV sa d) 71 Q k z 8 L (.ref b :: .ref a :: st) (n, K, FI, FL, FR, AI, AL, AR) = (K a = (1, 5) ∧ WP sa (EV sa d) 71 Q k z 11 L st (n, K, FI, FL, mj_u2 FR 320 a (some b), AI, AL, AR)) := wp_putR (idx := 9) (by decide +kernel) rfl pj_5_9 (by decide +kernel) (Or.inr ⟨_, rfl⟩) rfl
theorem e71_11 : WP sa (EV sa d) 71 Q k z 11 L [] μ = Q none μ := wp_rv (by decide +kernel) rfl
theorem e72_0 : WP sa (EV sa d) 72 Q k z 0 [.ref a, x1, x2] st μ = WP sa (EV sa d) 72 Q k z 1 [.ref a, x1, x2] (.ref a :: st) μ := wp_p (ins := .aload_n 0) (by decide +kernel) rfl rfl
theorem e72_1 : WP sa (EV sa d) 72 Q k z 1 [x0, .ref a, x2] st μ = WP sa (EV sa d) 72 Q k z 2 [x0, .ref a, x2] (.ref a :: st) μ := wp_p (ins := .aload_n 1) (by decide +kernel) rfl rfl
theorem e72_2 : WP sa (EV sa d) 72 Q k z 2 L (.ref b :: .ref a :: st) (n, K, FI, FL, FR, AI, AL, AR) = (K a = (1, 5) ∧ WP sa (EV sa d) 72 Q k z 5 L st (n, K, FI, FL, mj_u2 FR 320 a (some b), AI, AL, AR)) := wp_putR (idx := 9) (by decide +kernel) rfl pj_5_9 (by decide +kernel) (Or.inr ⟨_, rfl⟩) rfl
theorem e72_5 : WP sa (EV sa d) 72 Q k z 5 [.ref a, x1, x2] st μ = WP sa (EV sa d) 72 Q k z 6 [.ref a, x1, x2] (.ref a :: st) μ := wp_p (ins := .aload_n 0) (by decide +kernel) rfl rfl
theorem e72_6 : WP sa (EV sa d) 72 Q k z 6 [x0, x1, .int u] st μ = WP sa (EV sa d) 72 Q k z 7 [x0, x1, .int u] (.int u :: st) μ := wp_p (ins := .iload_n 2) (by decide +kernel) rfl rfl
theorem e72_7 : WP sa (EV sa d) 72 Q k z 7 [x0, .ref a, x2] st μ = WP sa (EV sa d) 72 Q k z 8 [x0, .ref a, x2] (.ref a :: st) μ := wp_p (ins := .aload_n 1) (by decide +kernel) rfl rfl
theorem e72_8 : WP sa (EV sa d) 72 Q k z 8 L (.ref a :: st) (n, K, FI, FL, FR, AI, AL, AR) = (mj_isA (K a).1 ∧ WP sa (EV sa d) 72 Q k z 9 L (.int (Int32.ofNat (K a).2) :: st) (n, K, FI, FL, FR, AI, AL, AR)) := wp_len (by decide +kernel)
theorem e72_9 : WP sa (EV sa d) 72 Q k z 9 L (.int v :: .int u :: st) μ = (st.length ≤ 4 ∧ WP sa (EV sa d) 72 Q k z 12 L (.int (if v < u then v else u) :: st) μ) := wp_min (idx := 15) (by decide +kernel) rfl pj_5_15
theorem e72_12 : WP sa (EV sa d) 72 Q k z 12 L (.int u :: .ref a :: st) (n, K, FI, FL, FR, AI, AL, AR) = (K a = (1, 5) ∧ WP sa (EV sa d) 72 Q k z 15 L st (n, K, mj_u2 FI 321 a u, FL, FR, AI, AL, AR)) := wp_putI (idx := 21) (by decide +kernel) rfl pj_5_21 (by decide +kernel) rfl rfl
theorem e72_15 : WP sa (EV sa d) 72 Q k z 15 [.ref a, x1, x2] st μ = WP sa (EV sa d) 72 Q k z 16 [.ref a, x1, x2] (.ref a :: st) μ := wp_p (ins := .aload_n 0) (by decide +kernel) rfl rfl
theorem e72_16 : WP sa (EV sa d) 72 Q k z 16 L st μ = WP sa (EV sa d) 72 Q k z 17 L (.int 0 :: st) μ := wp_p (ins := .iconst 0) (by decide +kernel) rfl rfl
theorem e72_17 : WP sa (EV sa d) 72 Q k z 17 L (.int u :: .ref a :: st) (n, K, FI, FL, FR, AI, AL, AR) = (K a = (1, 5) ∧ WP sa (EV sa d) 72 Q k z 20 L st (n, K, mj_u2 FI 322 a u, FL, FR, AI, AL, AR)) := wp_putI (idx := 25) (by decide +kernel) rfl pj_5_25 (by decide +kernel) rfl rfl
theorem e72_20 : WP sa (EV sa d) 72 Q k z 20 [.ref a, x1, x2] st μ = WP sa (EV sa d) 72 Q k z 21 [.ref a, x1, x2] (.ref a :: st) μ := wp_p (ins := .aload_n 0) (by decide +kernel) rfl rfl
theorem e72_21 : WP sa (EV sa d) 72 Q k z 21 L (.ref a :: st) μ = (st.length ≤ 4 ∧ EV sa d 73 [.ref a] μ (fun v μ => WP sa (EV sa d) 72 Q k z 24 L (v.toList ++ st) μ)) := wp_V (idx := 28) (by decide +kernel) rfl pj_5_28 rfl rfl
theorem e72_24 : WP sa (EV sa d) 72 Q k z 24 L [] μ = Q none μ := wp_rv (by decide +kernel) rfl
theorem e73_0 : WP sa (EV sa d) 73 Q k z 0 [.ref a] st μ = WP sa (EV sa d) 73 Q k z 1 [.ref a] (.ref a :: st) μ := wp_p (ins := .aload_n 0) (by decide +kernel) rfl rfl
theorem e73_1 : WP sa (EV sa d) 73 Q k z 1 L (.ref a :: st) (n, K, FI, FL, FR, AI, AL, AR) = (K a = (1, 5) ∧ WP sa (EV sa d) 73 Q k z 4 L (.int (FI 322 a) :: st) (n, K, FI, FL, FR, AI, AL, AR)) := wp_getI (idx := 25) (by decide +kernel) rfl pj_5_25 (by decide) (Or.inl rfl) rfl
theorem e73_4 : WP sa (EV sa d) 73 Q k z 4 [.ref a] st μ = WP sa (EV sa d) 73 Q k z 5 [.ref a] (.ref a :: st) μ := wp_p (ins := .aload_n 0) (by decide +kernel) rfl rfl
theorem e73_5 : WP sa (EV sa d) 73 Q k z 5 L (.ref a :: st) (n, K, FI, FL, FR, AI, AL, AR) = (K a = (1, 5) ∧ WP sa (EV sa d) 73 Q k z 8 L (.int (FI 321 a) :: st) (n, K, FI, FL, FR, AI, AL, AR)) := wp_getI (idx := 21) (by decide +kernel) rfl pj_5_21 (by decide) (Or.inl rfl) rfl
theorem e73_8 : WP sa (EV sa d) 73 Q k z 8 L (.int v :: .int u :: st) μ = ((v ≤ u → WP sa (EV sa d) 73 Q k z 38 L st μ) ∧ (¬ v ≤ u → WP sa (EV sa d) 73 Q k z 11 L st μ)) := wp_b (ins := .if_icmp .ge 30) (by decide +kernel) rfl rfl (by decide)
theorem e73_11 : WP sa (EV sa d) 73 Q k z 11 [.ref a] st μ = WP sa (EV sa d) 73 Q k z 12 [.ref a] (.ref a :: st) μ := wp_p (ins := .aload_n 0) (by decide +kernel) rfl rfl
theorem e73_12 : WP sa (EV sa d) 73 Q k z 12 L (.ref a :: st) (n, K, FI, FL, FR, AI, AL, AR) = (K a = (1, 5) ∧ WP sa (EV sa d) 73 Q k z 15 L (va_rf (FR 320 a) :: st) (n, K, FI, FL, FR, AI, AL, AR)) := wp_getR (idx := 9) (by decide +kernel) rfl pj_5_9 (by decide) (Or.inr ⟨_, rfl⟩) rfl
theorem e73_15 : WP sa (EV sa d) 73 Q k z 15 [.ref a] st μ = WP sa (EV sa d) 73 Q k z 16 [.ref a] (.ref a :: st) μ := wp_p (ins := .aload_n 0) (by decide +kernel) rfl rfl
theorem e73_16 : WP sa (EV sa d) 73 Q k z 16 L (.ref a :: st) (n, K, FI, FL, FR, AI, AL, AR) = (K a = (1, 5) ∧ WP sa (EV sa d) 73 Q k z 19 L (.int (FI 322 a) :: st) (n, K, FI, FL, FR, AI, AL, AR)) := wp_getI (idx := 25) (by decide +kernel) rfl pj_5_25 (by decide) (Or.inl rfl) rfl
theorem e73_19 : WP sa (EV sa d) 73 Q k z 19 L (.int u :: .ref a :: st) (n, K, FI, FL, FR, AI, AL, AR) = (((K a).1 = 3 ∧ vp_in u (K a).2) ∧ WP sa (EV sa d) 73 Q k z 20 L (.int (AI a u.toNatClampNeg) :: st) (n, K, FI, FL, FR, AI, AL, AR)) := wp_bal (by decide +kernel)
theorem e73_20 : WP sa (EV sa d) 73 Q k z 20 L st μ = WP sa (EV sa d) 73 Q k z 22 L (.int 32 :: st) μ := wp_p (ins := .bipush 32) (by decide +kernel) rfl rfl
theorem e73_22 : WP sa (EV sa d) 73 Q k z 22 L (.int v :: .int u :: st) μ = ((¬ u = v → WP sa (EV sa d) 73 Q k z 38 L st μ) ∧ (¬ (¬ u = v) → WP sa (EV sa d) 73 Q k z 25 L st μ)) := wp_b (ins := .if_icmp .ne 16) (by decide +kernel) rfl rfl (by decide)
theorem e73_25 : WP sa (EV sa d) 73 Q k z 25 [.ref a] st μ = WP sa (EV sa d) 73 Q k z 26 [.ref a] (.ref a :: st) μ := wp_p (ins := .aload_n 0) (by decide +kernel) rfl rfl
theorem e73_26 : WP sa (EV sa d) 73 Q k z 26 L (.ref a :: st) μ = WP sa (EV sa d) 73 Q k z 27 L (.ref a :: .ref a :: st) μ := wp_p (ins := .dup) (by decide +kernel) rfl rfl
theorem e73_26i : WP sa (EV sa d) 73 Q k z 26 L (.int u :: st) μ = WP sa (EV sa d) 73 Q k z 27 L (.int u :: .int u :: st) μ := wp_p (ins := .dup) (by decide +kernel) rfl rfl
theorem e73_27 : WP sa (EV sa d) 73 Q k z 27 L (.ref a :: st) (n, K, FI, FL, FR, AI, AL, AR) = (K a = (1, 5) ∧ WP sa (EV sa d) 73 Q k z 30 L (.int (FI 322 a) :: st) (n, K, FI, FL, FR, AI, AL, AR)) := wp_getI (idx := 25) (by decide +kernel) rfl pj_5_25 (by decide) (Or.inl rfl) rfl
theorem e73_30 : WP sa (EV sa d) 73 Q k z 30 L st μ = WP sa (EV sa d) 73 Q k z 31 L (.int 1 :: st) μ := wp_p (ins := .iconst 1) (by decide +kernel) rfl rfl
theorem e73_31 : WP sa (EV sa d) 73 Q k z 31 L (.int v :: .int u :: st) μ = WP sa (EV sa d) 73 Q k z 32 L (.int (u + v) :: st) μ := wp_p (ins := .iadd) (by decide +kernel) rfl rfl
theorem e73_32 : WP sa (EV sa d) 73 Q k z 32 L (.int u :: .ref a :: st) (n, K, FI, FL, FR, AI, AL, AR) = (K a = (1, 5) ∧ WP sa (EV sa d) 73 Q k z 35 L st (n, K, mj_u2 FI 322 a u, FL, FR, AI, AL, AR)) := wp_putI (idx := 25) (by decide +kernel) rfl pj_5_25 (by decide +kernel) rfl rfl
theorem e73_35 : WP sa (EV sa d) 73 Q k z 35 L st μ = WP sa (EV sa d) 73 Q k z 0 L st μ := wp_g (off := (-35)) (by decide +kernel) (by decide)
theorem e73_38 : WP sa (EV sa d) 73 Q k z 38 [.ref a] st μ = WP sa (EV sa d) 73 Q k z 39 [.ref a] (.ref a :: st) μ := wp_p (ins := .aload_n 0) (by decide +kernel) rfl rfl
theorem e73_39 : WP sa (EV sa d) 73 Q k z 39 [.ref a] st μ = WP sa (EV sa d) 73 Q k z 40 [.ref a] (.ref a :: st) μ := wp_p (ins := .aload_n 0) (by decide +kernel) rfl rfl
theorem e73_40 : WP sa (EV sa d) 73 Q k z 40 L (.ref a :: st) (n, K, FI, FL, FR, AI, AL, AR) = (K a = (1, 5) ∧ WP sa (EV sa d) 73 Q k z 43 L (.int (FI 322 a) :: st) (n, K, FI, FL, FR, AI, AL, AR)) := wp_getI (idx := 25) (by decide +kernel) rfl pj_5_25 (by decide) (Or.inl rfl) rfl
theorem e73_43 : WP sa (EV sa d) 73 Q k z 43 L (.int u :: .ref a :: st) (n, K, FI, FL, FR, AI, AL, AR) = (K a = (1, 5) ∧ WP sa (EV sa d) 73 Q k z 46 L st (n, K, mj_u2 FI 324 a u, FL, FR, AI, AL, AR)) := wp_putI (idx := 31) (by decide +kernel) rfl pj_5_31 (by decide +kernel) rfl rfl
theorem e73_46 : WP sa (EV sa d) 73 Q k z 46 [.ref a] st μ = WP sa (EV sa d) 73 Q k z 47 [.ref a] (.ref a :: st) μ := wp_p (ins := .aload_n 0) (by decide +kernel) rfl rfl
theorem e73_47 : WP sa (EV sa d) 73 Q k z 47 L st μ = WP sa (EV sa d) 73 Q k z 48 L (.int 0 :: st) μ := wp_p (ins := .iconst 0) (by decide +kernel) rfl rfl
theorem e73_48 : WP sa (EV sa d) 73 Q k z 48 L (.int u :: .ref a :: st) (n, K, FI, FL, FR, AI, AL, AR) = (K a = (1, 5) ∧ WP sa (EV sa d) 73 Q k z 51 L st (n, K, mj_u2 FI 325 a u, FL, FR, AI, AL, AR)) := wp_putI (idx := 34) (by decide +kernel) rfl pj_5_34 (by decide +kernel) rfl rfl
theorem e73_51 : WP sa (EV sa d) 73 Q k z 51 [.ref a] st μ = WP sa (EV sa d) 73 Q k z 52 [.ref a] (.ref a :: st) μ := wp_p (ins := .aload_n 0) (by decide +kernel) rfl rfl
theorem e73_52 : WP sa (EV sa d) 73 Q k z 52 L (.ref a :: st) (n, K, FI, FL, FR, AI, AL, AR) = (K a = (1, 5) ∧ WP sa (EV sa d) 73 Q k z 55 L (.int (FI 322 a) :: st) (n, K, FI, FL, FR, AI, AL, AR)) := wp_getI (idx := 25) (by decide +kernel) rfl pj_5_25 (by decide) (Or.inl rfl) rfl
theorem e73_55 : WP sa (EV sa d) 73 Q k z 55 [.ref a] st μ = WP sa (EV sa d) 73 Q k z 56 [.ref a] (.ref a :: st) μ := wp_p (ins := .aload_n 0) (by decide +kernel) rfl rfl
theorem e73_56 : WP sa (EV sa d) 73 Q k z 56 L (.ref a :: st) (n, K, FI, FL, FR, AI, AL, AR) = (K a = (1, 5) ∧ WP sa (EV sa d) 73 Q k z 59 L (.int (FI 321 a) :: st) (n, K, FI, FL, FR, AI, AL, AR)) := wp_getI (idx := 21) (by decide +kernel) rfl pj_5_21 (by decide) (Or.inl rfl) rfl
theorem e73_59 : WP sa (EV sa d) 73 Q k z 59 L (.int v :: .int u :: st) μ = ((u < v → WP sa (EV sa d) 73 Q k z 70 L st μ) ∧ (¬ u < v → WP sa (EV sa d) 73 Q k z 62 L st μ)) := wp_b (ins := .if_icmp .lt 11) (by decide +kernel) rfl rfl (by decide)
theorem e73_62 : WP sa (EV sa d) 73 Q k z 62 [.ref a] st μ = WP sa (EV sa d) 73 Q k z 63 [.ref a] (.ref a :: st) μ := wp_p (ins := .aload_n 0) (by decide +kernel) rfl rfl
theorem e73_63 : WP sa (EV sa d) 73 Q k z 63 L st μ = WP sa (EV sa d) 73 Q k z 64 L (.int 0 :: st) μ := wp_p (ins := .iconst 0) (by decide +kernel) rfl rfl
theorem e73_64 : WP sa (EV sa d) 73 Q k z 64 L (.int u :: .ref a :: st) (n, K, FI, FL, FR, AI, AL, AR) = (K a = (1, 5) ∧ WP sa (EV sa d) 73 Q k z 67 L st (n, K, mj_u2 FI 323 a u, FL, FR, AI, AL, AR)) := wp_putI (idx := 37) (by decide +kernel) rfl pj_5_37 (by decide +kernel) rfl rfl
theorem e73_67 : WP sa (EV sa d) 73 Q k z 67 L st μ = WP sa (EV sa d) 73 Q k z 110 L st μ := wp_g (off := 43) (by decide +kernel) (by decide)
theorem e73_70 : WP sa (EV sa d) 73 Q k z 70 [.ref a] st μ = WP sa (EV sa d) 73 Q k z 71 [.ref a] (.ref a :: st) μ := wp_p (ins := .aload_n 0) (by decide +kernel) rfl rfl
theorem e73_71 : WP sa (EV sa d) 73 Q k z 71 [.ref a] st μ = WP sa (EV sa d) 73 Q k z 72 [.ref a] (.ref a :: st) μ := wp_p (ins := .aload_n 0) (by decide +kernel) rfl rfl
theorem e73_72 : WP sa (EV sa d) 73 Q k z 72 L (.ref a :: st) (n, K, FI, FL, FR, AI, AL, AR) = (K a = (1, 5) ∧ WP sa (EV sa d) 73 Q k z 75 L (.int (FI 322 a) :: st) (n, K, FI, FL, FR, AI, AL, AR)) := wp_getI (idx := 25) (by decide +kernel) rfl pj_5_25 (by decide) (Or.inl rfl) rfl
theorem e73_75 : WP sa (EV sa d) 73 Q k z 75 L (.int u0 :: .ref a :: st) μ = (st.length ≤ 4 ∧ EV sa d 74 [.ref a, .int u0] μ (fun v μ => WP sa (EV sa d) 73 Q k z 78 L (v.toList ++ st) μ)) := wp_V (idx := 40) (by decide +kernel) rfl pj_5_40 rfl rfl
theorem e73_78 : WP sa (EV sa d) 73 Q k z 78 L (.int u :: st) μ = ((u = 0 → WP sa (EV sa d) 73 Q k z 88 L st μ) ∧ (¬ u = 0 → WP sa (EV sa d) 73 Q k z 81 L st μ)) := wp_b (ins := .ifCond .eq 10) (by decide +kernel) rfl rfl (by decide)
theorem e73_81 : WP sa (EV sa d) 73 Q k z 81 [.ref a] st μ = WP sa (EV sa d) 73 Q k z 82 [.ref a] (.ref a :: st) μ := wp_p (ins := .aload_n 0) (by decide +kernel) rfl rfl
theorem e73_82 : WP sa (EV sa d) 73 Q k z 82 L (.ref a :: st) μ = (st.length ≤ 4 ∧ EV sa d 76 [.ref a] μ (fun v μ => WP sa (EV sa d) 73 Q k z 85 L (v.toList ++ st) μ)) := wp_V (idx := 44) (by decide +kernel) rfl pj_5_44 rfl rfl
theorem e73_85 : WP sa (EV sa d) 73 Q k z 85 L st μ = WP sa (EV sa d) 73 Q k z 110 L st μ := wp_g (off := 25) (by decide +kernel) (by decide)
theorem e73_88 : WP sa (EV sa d) 73 Q k z 88 [.ref a] st μ = WP sa (EV sa d) 73 Q k z 89 [.ref a] (.ref a :: st) μ := wp_p (ins := .aload_n 0) (by decide +kernel) rfl rfl
theorem e73_89 : WP sa (EV sa d) 73 Q k z 89 [.ref a] st μ = WP sa (EV sa d) 73 Q k z 90 [.ref a] (.ref a :: st) μ := wp_p (ins := .aload_n 0) (by decide +kernel) rfl rfl
theorem e73_90 : WP sa (EV sa d) 73 Q k z 90 L (.ref a :: st) (n, K, FI, FL, FR, AI, AL, AR) = (K a = (1, 5) ∧ WP sa (EV sa d) 73 Q k z 93 L (.int (FI 322 a) :: st) (n, K, FI, FL, FR, AI, AL, AR)) := wp_getI (idx := 25) (by decide +kernel) rfl pj_5_25 (by decide) (Or.inl rfl) rfl
theorem e73_93 : WP sa (EV sa d) 73 Q k z 93 L (.int u0 :: .ref a :: st) μ = (st.length ≤ 4 ∧ EV sa d 75 [.ref a, .int u0] μ (fun v μ => WP sa (EV sa d) 73 Q k z 96 L (v.toList ++ st) μ)) := wp_V (idx := 47) (by decide +kernel) rfl pj_5_47 rfl rfl
theorem e73_96 : WP sa (EV sa d) 73 Q k z 96 L (.int u :: st) μ = ((u = 0 → WP sa (EV sa d) 73 Q k z 106 L st μ) ∧ (¬ u = 0 → WP sa (EV sa d) 73 Q k z 99 L st μ)) := wp_b (ins := .ifCond .eq 10) (by decide +kernel) rfl rfl (by decide)
theorem e73_99 : WP sa (EV sa d) 73 Q k z 99 [.ref a] st μ = WP sa (EV sa d) 73 Q k z 100 [.ref a] (.ref a :: st) μ := wp_p (ins := .aload_n 0) (by decide +kernel) rfl rfl
theorem e73_100 : WP sa (EV sa d) 73 Q k z 100 L (.ref a :: st) μ = (st.length ≤ 4 ∧ EV sa d 77 [.ref a] μ (fun v μ => WP sa (EV sa d) 73 Q k z 103 L (v.toList ++ st) μ)) := wp_V (idx := 50) (by decide +kernel) rfl pj_5_50 rfl rfl
theorem e73_103 : WP sa (EV sa d) 73 Q k z 103 L st μ = WP sa (EV sa d) 73 Q k z 110 L st μ := wp_g (off := 7) (by decide +kernel) (by decide)
theorem e73_106 : WP sa (EV sa d) 73 Q k z 106 [.ref a] st μ = WP sa (EV sa d) 73 Q k z 107 [.ref a] (.ref a :: st) μ := wp_p (ins := .aload_n 0) (by decide +kernel) rfl rfl
theorem e73_107 : WP sa (EV sa d) 73 Q k z 107 L (.ref a :: st) μ = (st.length ≤ 4 ∧ EV sa d 78 [.ref a] μ (fun v μ => WP sa (EV sa d) 73 Q k z 110 L (v.toList ++ st) μ)) := wp_V (idx := 53) (by decide +kernel) rfl pj_5_53 rfl rfl
theorem e73_110 : WP sa (EV sa d) 73 Q k z 110 L [] μ = Q none μ := wp_rv (by decide +kernel) rfl
theorem e74_0 : WP sa (EV sa d) 74 Q k z 0 [.ref a, x1] st μ = WP sa (EV sa d) 74 Q k z 1 [.ref a, x1] (.ref a :: st) μ := wp_p (ins := .aload_n 0) (by decide +kernel) rfl rfl
theorem e74_1 : WP sa (EV sa d) 74 Q k z 1 L (.ref a :: st) (n, K, FI, FL, FR, AI, AL, AR) = (K a = (1, 5) ∧ WP sa (EV sa d) 74 Q k z 4 L (va_rf (FR 320 a) :: st) (n, K, FI, FL, FR, AI, AL, AR)) := wp_getR (idx := 9) (by decide +kernel) rfl pj_5_9 (by decide) (Or.inr ⟨_, rfl⟩) rfl
theorem e74_4 : WP sa (EV sa d) 74 Q k z 4 [x0, .int u] st μ = WP sa (EV sa d) 74 Q k z 5 [x0, .int u] (.int u :: st) μ := wp_p (ins := .iload_n 1) (by decide +kernel) rfl rfl
theorem e74_5 : WP sa (EV sa d) 74 Q k z 5 L (.int u :: .ref a :: st) (n, K, FI, FL, FR, AI, AL, AR) = (((K a).1 = 3 ∧ vp_in u (K a).2) ∧ WP sa (EV sa d) 74 Q k z 6 L (.int (AI a u.toNatClampNeg) :: st) (n, K, FI, FL, FR, AI, AL, AR)) := wp_bal (by decide +kernel)
theorem e74_6 : WP sa (EV sa d) 74 Q k z 6 L st μ = WP sa (EV sa d) 74 Q k z 8 L (.int 97 :: st) μ := wp_p (ins := .bipush 97) (by decide +kernel) rfl rfl
theorem e74_8 : WP sa (EV sa d) 74 Q k z 8 L (.int v :: .int u :: st) μ = ((u < v → WP sa (EV sa d) 74 Q k z 26 L st μ) ∧ (¬ u < v → WP sa (EV sa d) 74 Q k z 11 L st μ)) := wp_b (ins := .if_icmp .lt 18) (by decide +kernel) rfl rfl (by decide)
theorem e74_11 : WP sa (EV sa d) 74 Q k z 11 [.ref a, x1] st μ = WP sa (EV sa d) 74 Q k z 12 [.ref a, x1] (.ref a :: st) μ := wp_p (ins := .aload_n 0) (by decide +kernel) rfl rfl
theorem e74_12 : WP sa (EV sa d) 74 Q k z 12 L (.ref a :: st) (n, K, FI, FL, FR, AI, AL, AR) = (K a = (1, 5) ∧ WP sa (EV sa d) 74 Q k z 15 L (va_rf (FR 320 a) :: st) (n, K, FI, FL, FR, AI, AL, AR)) := wp_getR (idx := 9) (by decide +kernel) rfl pj_5_9 (by decide) (Or.inr ⟨_, rfl⟩) rfl
theorem e74_15 : WP sa (EV sa d) 74 Q k z 15 [x0, .int u] st μ = WP sa (EV sa d) 74 Q k z 16 [x0, .int u] (.int u :: st) μ := wp_p (ins := .iload_n 1) (by decide +kernel) rfl rfl
theorem e74_16 : WP sa (EV sa d) 74 Q k z 16 L (.int u :: .ref a :: st) (n, K, FI, FL, FR, AI, AL, AR) = (((K a).1 = 3 ∧ vp_in u (K a).2) ∧ WP sa (EV sa d) 74 Q k z 17 L (.int (AI a u.toNatClampNeg) :: st) (n, K, FI, FL, FR, AI, AL, AR)) := wp_bal (by decide +kernel)
theorem e74_17 : WP sa (EV sa d) 74 Q k z 17 L st μ = WP sa (EV sa d) 74 Q k z 19 L (.int 122 :: st) μ := wp_p (ins := .bipush 122) (by decide +kernel) rfl rfl
theorem e74_19 : WP sa (EV sa d) 74 Q k z 19 L (.int v :: .int u :: st) μ = ((v < u → WP sa (EV sa d) 74 Q k z 26 L st μ) ∧ (¬ v < u → WP sa (EV sa d) 74 Q k z 22 L st μ)) := wp_b (ins := .if_icmp .gt 7) (by decide +kernel) rfl rfl (by decide)
theorem e74_22 : WP sa (EV sa d) 74 Q k z 22 L st μ = WP sa (EV sa d) 74 Q k z 23 L (.int 1 :: st) μ := wp_p (ins := .iconst 1) (by decide +kernel) rfl rfl
theorem e74_23 : WP sa (EV sa d) 74 Q k z 23 L st μ = WP sa (EV sa d) 74 Q k z 27 L st μ := wp_g (off := 4) (by decide +kernel) (by decide)
theorem e74_26 : WP sa (EV sa d) 74 Q k z 26 L st μ = WP sa (EV sa d) 74 Q k z 27 L (.int 0 :: st) μ := wp_p (ins := .iconst 0) (by decide +kernel) rfl rfl
theorem e74_27 : WP sa (EV sa d) 74 Q k z 27 L [.int u] μ = ((u = 0 ∨ u = 1) ∧ Q (some (.int u)) μ) := wp_rz (by decide +kernel) rfl
theorem e75_0 : WP sa (EV sa d) 75 Q k z 0 [.ref a, x1] st μ = WP sa (EV sa d) 75 Q k z 1 [.ref a, x1] (.ref a :: st) μ := wp_p (ins := .aload_n 0) (by decide +kernel) rfl rfl
theorem e75_1 : WP sa (EV sa d) 75 Q k z 1 L (.ref a :: st) (n, K, FI, FL, FR, AI, AL, AR) = (K a = (1, 5) ∧ WP sa (EV sa d) 75 Q k z 4 L (va_rf (FR 320 a) :: st) (n, K, FI, FL, FR, AI, AL, AR)) := wp_getR (idx := 9) (by decide +kernel) rfl pj_5_9 (by decide) (Or.inr ⟨_, rfl⟩) rfl
theorem e75_4 : WP sa (EV sa d) 75 Q k z 4 [x0, .int u] st μ = WP sa (EV sa d) 75 Q k z 5 [x0, .int u] (.int u :: st) μ := wp_p (ins := .iload_n 1) (by decide +kernel) rfl rfl
theorem e75_5 : WP sa (EV sa d) 75 Q k z 5 L (.int u :: .ref a :: st) (n, K, FI, FL, FR, AI, AL, AR) = (((K a).1 = 3 ∧ vp_in u (K a).2) ∧ WP sa (EV sa d) 75 Q k z 6 L (.int (AI a u.toNatClampNeg) :: st) (n, K, FI, FL, FR, AI, AL, AR)) := wp_bal (by decide +kernel)
theorem e75_6 : WP sa (EV sa d) 75 Q k z 6 L st μ = WP sa (EV sa d) 75 Q k z 8 L (.int 48 :: st) μ := wp_p (ins := .bipush 48) (by decide +kernel) rfl rfl
theorem e75_8 : WP sa (EV sa d) 75 Q k z 8 L (.int v :: .int u :: st) μ = ((u < v → WP sa (EV sa d) 75 Q k z 26 L st μ) ∧ (¬ u < v → WP sa (EV sa d) 75 Q k z 11 L st μ)) := wp_b (ins := .if_icmp .lt 18) (by decide +kernel) rfl rfl (by decide)
theorem e75_11 : WP sa (EV sa d) 75 Q k z 11 [.ref a, x1] st μ = WP sa (EV sa d) 75 Q k z 12 [.ref a, x1] (.ref a :: st) μ := wp_p (ins := .aload_n 0) (by decide +kernel) rfl rfl
theorem e75_12 : WP sa (EV sa d) 75 Q k z 12 L (.ref a :: st) (n, K, FI, FL, FR, AI, AL, AR) = (K a = (1, 5) ∧ WP sa (EV sa d) 75 Q k z 15 L (va_rf (FR 320 a) :: st) (n, K, FI, FL, FR, AI, AL, AR)) := wp_getR (idx := 9) (by decide +kernel) rfl pj_5_9 (by decide) (Or.inr ⟨_, rfl⟩) rfl
theorem e75_15 : WP sa (EV sa d) 75 Q k z 15 [x0, .int u] st μ = WP sa (EV sa d) 75 Q k z 16 [x0, .int u] (.int u :: st) μ := wp_p (ins := .iload_n 1) (by decide +kernel) rfl rfl
theorem e75_16 : WP sa (EV sa d) 75 Q k z 16 L (.int u :: .ref a :: st) (n, K, FI, FL, FR, AI, AL, AR) = (((K a).1 = 3 ∧ vp_in u (K a).2) ∧ WP sa (EV sa d) 75 Q k z 17 L (.int (AI a u.toNatClampNeg) :: st) (n, K, FI, FL, FR, AI, AL, AR)) := wp_bal (by decide +kernel)
theorem e75_17 : WP sa (EV sa d) 75 Q k z 17 L st μ = WP sa (EV sa d) 75 Q k z 19 L (.int 57 :: st) μ := wp_p (ins := .bipush 57) (by decide +kernel) rfl rfl
theorem e75_19 : WP sa (EV sa d) 75 Q k z 19 L (.int v :: .int u :: st) μ = ((v < u → WP sa (EV sa d) 75 Q k z 26 L st μ) ∧ (¬ v < u → WP sa (EV sa d) 75 Q k z 22 L st μ)) := wp_b (ins := .if_icmp .gt 7) (by decide +kernel) rfl rfl (by decide)
theorem e75_22 : WP sa (EV sa d) 75 Q k z 22 L st μ = WP sa (EV sa d) 75 Q k z 23 L (.int 1 :: st) μ := wp_p (ins := .iconst 1) (by decide +kernel) rfl rfl
theorem e75_23 : WP sa (EV sa d) 75 Q k z 23 L st μ = WP sa (EV sa d) 75 Q k z 27 L st μ := wp_g (off := 4) (by decide +kernel) (by decide)
theorem e75_26 : WP sa (EV sa d) 75 Q k z 26 L st μ = WP sa (EV sa d) 75 Q k z 27 L (.int 0 :: st) μ := wp_p (ins := .iconst 0) (by decide +kernel) rfl rfl
theorem e75_27 : WP sa (EV sa d) 75 Q k z 27 L [.int u] μ = ((u = 0 ∨ u = 1) ∧ Q (some (.int u)) μ) := wp_rz (by decide +kernel) rfl
theorem e76_0 : WP sa (EV sa d) 76 Q k z 0 [.ref a] st μ = WP sa (EV sa d) 76 Q k z 1 [.ref a] (.ref a :: st) μ := wp_p (ins := .aload_n 0) (by decide +kernel) rfl rfl
theorem e76_1 : WP sa (EV sa d) 76 Q k z 1 L st μ = WP sa (EV sa d) 76 Q k z 2 L (.long 0 :: st) μ := wp_p (ins := .lconst 0) (by decide +kernel) rfl rfl
theorem e76_2 : WP sa (EV sa d) 76 Q k z 2 L (.long w :: .ref a :: st) (n, K, FI, FL, FR, AI, AL, AR) = (K a = (1, 5) ∧ WP sa (EV sa d) 76 Q k z 5 L st (n, K, FI, mj_u2 FL 326 a w, FR, AI, AL, AR)) := wp_putL (idx := 56) (by decide +kernel) rfl pj_5_56 (by decide +kernel) rfl rfl
theorem e76_5 : WP sa (EV sa d) 76 Q k z 5 [.ref a] st μ = WP sa (EV sa d) 76 Q k z 6 [.ref a] (.ref a :: st) μ := wp_p (ins := .aload_n 0) (by decide +kernel) rfl rfl
theorem e76_6 : WP sa (EV sa d) 76 Q k z 6 L (.ref a :: st) (n, K, FI, FL, FR, AI, AL, AR) = (K a = (1, 5) ∧ WP sa (EV sa d) 76 Q k z 9 L (.int (FI 322 a) :: st) (n, K, FI, FL, FR, AI, AL, AR)) := wp_getI (idx := 25) (by decide +kernel) rfl pj_5_25 (by decide) (Or.inl rfl) rfl
theorem e76_9 : WP sa (EV sa d) 76 Q k z 9 [.ref a] st μ = WP sa (EV sa d) 76 Q k z 10 [.ref a] (.ref a :: st) μ := wp_p (ins := .aload_n 0) (by decide +kernel) rfl rfl
theorem e76_10 : WP sa (EV sa d) 76 Q k z 10 L (.ref a :: st) (n, K, FI, FL, FR, AI, AL, AR) = (K a = (1, 5) ∧ WP sa (EV sa d) 76 Q k z 13 L (.int (FI 321 a) :: st) (n, K, FI, FL, FR, AI, AL, AR)) := wp_getI (idx := 21) (by decide +kernel) rfl pj_5_21 (by decide) (Or.inl rfl) rfl
theorem e76_13 : WP sa (EV sa d) 76 Q k z 13 L (.int v :: .int u :: st) μ = ((v ≤ u → WP sa (EV sa d) 76 Q k z 90 L st μ) ∧ (¬ v ≤ u → WP sa (EV sa d) 76 Q k z 16 L st μ)) := wp_b (ins := .if_icmp .ge 77) (by decide +kernel) rfl rfl (by decide)
theorem e76_16 : WP sa (EV sa d) 76 Q k z 16 [.ref a] st μ = WP sa (EV sa d) 76 Q k z 17 [.ref a] (.ref a :: st) μ := wp_p (ins := .aload_n 0) (by decide +kernel) rfl rfl
theorem e76_17 : WP sa (EV sa d) 76 Q k z 17 [.ref a] st μ = WP sa (EV sa d) 76 Q k z 18 [.ref a] (.ref a :: st) μ := wp_p (ins := .aload_n 0) (by decide +kernel) rfl rfl
theorem e76_18 : WP sa (EV sa d) 76 Q k z 18 L (.ref a :: st) (n, K, FI, FL, FR, AI, AL, AR) = (K a = (1, 5) ∧ WP sa (EV sa d) 76 Q k z 21 L (.int (FI 322 a) :: st) (n, K, FI, FL, FR, AI, AL, AR)) := wp_getI (idx := 25) (by decide +kernel) rfl pj_5_25 (by decide) (Or.inl rfl) rfl
theorem e76_21 : WP sa (EV sa d) 76 Q k z 21 L (.int u0 :: .ref a :: st) μ = (st.length ≤ 4 ∧ EV sa d 74 [.ref a, .int u0] μ (fun v μ => WP sa (EV sa d) 76 Q k z 24 L (v.toList ++ st) μ)) := wp_V (idx := 40) (by decide +kernel) rfl pj_5_40 rfl rfl
theorem e76_24 : WP sa (EV sa d) 76 Q k z 24 L (.int u :: st) μ = ((u = 0 → WP sa (EV sa d) 76 Q k z 90 L st μ) ∧ (¬ u = 0 → WP sa (EV sa d) 76 Q k z 27 L st μ)) := wp_b (ins := .ifCond .eq 66) (by decide +kernel) rfl rfl (by decide)
theorem e76_27 : WP sa (EV sa d) 76 Q k z 27 [.ref a] st μ = WP sa (EV sa d) 76 Q k z 28 [.ref a] (.ref a :: st) μ := wp_p (ins := .aload_n 0) (by decide +kernel) rfl rfl
theorem e76_28 : WP sa (EV sa d) 76 Q k z 28 L (.ref a :: st) (n, K, FI, FL, FR, AI, AL, AR) = (K a = (1, 5) ∧ WP sa (EV sa d) 76 Q k z 31 L (.int (FI 325 a) :: st) (n, K, FI, FL, FR, AI, AL, AR)) := wp_getI (idx := 34) (by decide +kernel) rfl pj_5_34 (by decide) (Or.inl rfl) rfl
theorem e76_31 : WP sa (EV sa d) 76 Q k z 31 L st μ = WP sa (EV sa d) 76 Q k z 33 L (.int 8 :: st) μ := wp_p (ins := .bipush 8) (by decide +kernel) rfl rfl
theorem e76_33 : WP sa (EV sa d) 76 Q k z 33 L (.int v :: .int u :: st) μ = ((v ≤ u → WP sa (EV sa d) 76 Q k z 67 L st μ) ∧ (¬ v ≤ u → WP sa (EV sa d) 76 Q k z 36 L st μ)) := wp_b (ins := .if_icmp .ge 34) (by decide +kernel) rfl rfl (by decide)
theorem e76_36 : WP sa (EV sa d) 76 Q k z 36 [.ref a] st μ = WP sa (EV sa d) 76 Q k z 37 [.ref a] (.ref a :: st) μ := wp_p (ins := .aload_n 0) (by decide +kernel) rfl rfl
theorem e76_37 : WP sa (EV sa d) 76 Q k z 37 L (.ref a :: st) μ = WP sa (EV sa d) 76 Q k z 38 L (.ref a :: .ref a :: st) μ := wp_p (ins := .dup) (by decide +kernel) rfl rfl
theorem e76_37i : WP sa (EV sa d) 76 Q k z 37 L (.int u :: st) μ = WP sa (EV sa d) 76 Q k z 38 L (.int u :: .int u :: st) μ := wp_p (ins := .dup) (by decide +kernel) rfl rfl
theorem e76_38 : WP sa (EV sa d) 76 Q k z 38 L (.ref a :: st) (n, K, FI, FL, FR, AI, AL, AR) = (K a = (1, 5) ∧ WP sa (EV sa d) 76 Q k z 41 L (.long (FL 326 a) :: st) (n, K, FI, FL, FR, AI, AL, AR)) := wp_getL (idx := 56) (by decide +kernel) rfl pj_5_56 (by decide) rfl rfl
theorem e76_41 : WP sa (EV sa d) 76 Q k z 41 [.ref a] st μ = WP sa (EV sa d) 76 Q k z 42 [.ref a] (.ref a :: st) μ := wp_p (ins := .aload_n 0) (by decide +kernel) rfl rfl
theorem e76_42 : WP sa (EV sa d) 76 Q k z 42 L (.ref a :: st) (n, K, FI, FL, FR, AI, AL, AR) = (K a = (1, 5) ∧ WP sa (EV sa d) 76 Q k z 45 L (va_rf (FR 320 a) :: st) (n, K, FI, FL, FR, AI, AL, AR)) := wp_getR (idx := 9) (by decide +kernel) rfl pj_5_9 (by decide) (Or.inr ⟨_, rfl⟩) rfl
theorem e76_45 : WP sa (EV sa d) 76 Q k z 45 [.ref a] st μ = WP sa (EV sa d) 76 Q k z 46 [.ref a] (.ref a :: st) μ := wp_p (ins := .aload_n 0) (by decide +kernel) rfl rfl
theorem e76_46 : WP sa (EV sa d) 76 Q k z 46 L (.ref a :: st) (n, K, FI, FL, FR, AI, AL, AR) = (K a = (1, 5) ∧ WP sa (EV sa d) 76 Q k z 49 L (.int (FI 322 a) :: st) (n, K, FI, FL, FR, AI, AL, AR)) := wp_getI (idx := 25) (by decide +kernel) rfl pj_5_25 (by decide) (Or.inl rfl) rfl
theorem e76_49 : WP sa (EV sa d) 76 Q k z 49 L (.int u :: .ref a :: st) (n, K, FI, FL, FR, AI, AL, AR) = (((K a).1 = 3 ∧ vp_in u (K a).2) ∧ WP sa (EV sa d) 76 Q k z 50 L (.int (AI a u.toNatClampNeg) :: st) (n, K, FI, FL, FR, AI, AL, AR)) := wp_bal (by decide +kernel)
theorem e76_50 : WP sa (EV sa d) 76 Q k z 50 L st μ = WP sa (EV sa d) 76 Q k z 52 L (.int 97 :: st) μ := wp_p (ins := .bipush 97) (by decide +kernel) rfl rfl
theorem e76_52 : WP sa (EV sa d) 76 Q k z 52 L (.int v :: .int u :: st) μ = WP sa (EV sa d) 76 Q k z 53 L (.int (u - v) :: st) μ := wp_p (ins := .isub) (by decide +kernel) rfl rfl
theorem e76_53 : WP sa (EV sa d) 76 Q k z 53 L st μ = WP sa (EV sa d) 76 Q k z 54 L (.int 1 :: st) μ := wp_p (ins := .iconst 1) (by decide +kernel) rfl rfl
theorem e76_54 : WP sa (EV sa d) 76 Q k z 54 L (.int v :: .int u :: st) μ = WP sa (EV sa d) 76 Q k z 55 L (.int (u + v) :: st) μ := wp_p (ins := .iadd) (by decide +kernel) rfl rfl
theorem e76_55 : WP sa (EV sa d) 76 Q k z 55 L (.int u :: st) μ = WP sa (EV sa d) 76 Q k z 56 L (.long u.toInt64 :: st) μ := wp_p (ins := .i2l) (by decide +kernel) rfl rfl
theorem e76_56 : WP sa (EV sa d) 76 Q k z 56 L st μ = WP sa (EV sa d) 76 Q k z 57 L (.int 5 :: st) μ := wp_p (ins := .iconst 5) (by decide +kernel) rfl rfl
theorem e76_57 : WP sa (EV sa d) 76 Q k z 57 [.ref a] st μ = WP sa (EV sa d) 76 Q k z 58 [.ref a] (.ref a :: st) μ := wp_p (ins := .aload_n 0) (by decide +kernel) rfl rfl
theorem e76_58 : WP sa (EV sa d) 76 Q k z 58 L (.ref a :: st) (n, K, FI, FL, FR, AI, AL, AR) = (K a = (1, 5) ∧ WP sa (EV sa d) 76 Q k z 61 L (.int (FI 325 a) :: st) (n, K, FI, FL, FR, AI, AL, AR)) := wp_getI (idx := 34) (by decide +kernel) rfl pj_5_34 (by decide) (Or.inl rfl) rfl
theorem e76_61 : WP sa (EV sa d) 76 Q k z 61 L (.int v :: .int u :: st) μ = WP sa (EV sa d) 76 Q k z 62 L (.int (u * v) :: st) μ := wp_p (ins := .imul) (by decide +kernel) rfl rfl
theorem e76_62 : WP sa (EV sa d) 76 Q k z 62 L (.int v :: .long w :: st) μ = WP sa (EV sa d) 76 Q k z 63 L (.long (w <<< (v.toInt64 &&& 63)) :: st) μ := wp_p (ins := .lshl) (by decide +kernel) rfl rfl
theorem e76_63 : WP sa (EV sa d) 76 Q k z 63 L (.long y :: .long w :: st) μ = WP sa (EV sa d) 76 Q k z 64 L (.long (w ||| y) :: st) μ := wp_p (ins := .lor) (by decide +kernel) rfl rfl
theorem e76_64 : WP sa (EV sa d) 76 Q k z 64 L (.long w :: .ref a :: st) (n, K, FI, FL, FR, AI, AL, AR) = (K a = (1, 5) ∧ WP sa (EV sa d) 76 Q k z 67 L st (n, K, FI, mj_u2 FL 326 a w, FR, AI, AL, AR)) := wp_putL (idx := 56) (by decide +kernel) rfl pj_5_56 (by decide +kernel) rfl rfl
theorem e76_67 : WP sa (EV sa d) 76 Q k z 67 [.ref a] st μ = WP sa (EV sa d) 76 Q k z 68 [.ref a] (.ref a :: st) μ := wp_p (ins := .aload_n 0) (by decide +kernel) rfl rfl
theorem e76_68 : WP sa (EV sa d) 76 Q k z 68 L (.ref a :: st) μ = WP sa (EV sa d) 76 Q k z 69 L (.ref a :: .ref a :: st) μ := wp_p (ins := .dup) (by decide +kernel) rfl rfl
theorem e76_68i : WP sa (EV sa d) 76 Q k z 68 L (.int u :: st) μ = WP sa (EV sa d) 76 Q k z 69 L (.int u :: .int u :: st) μ := wp_p (ins := .dup) (by decide +kernel) rfl rfl
theorem e76_69 : WP sa (EV sa d) 76 Q k z 69 L (.ref a :: st) (n, K, FI, FL, FR, AI, AL, AR) = (K a = (1, 5) ∧ WP sa (EV sa d) 76 Q k z 72 L (.int (FI 325 a) :: st) (n, K, FI, FL, FR, AI, AL, AR)) := wp_getI (idx := 34) (by decide +kernel) rfl pj_5_34 (by decide) (Or.inl rfl) rfl
theorem e76_72 : WP sa (EV sa d) 76 Q k z 72 L st μ = WP sa (EV sa d) 76 Q k z 73 L (.int 1 :: st) μ := wp_p (ins := .iconst 1) (by decide +kernel) rfl rfl
theorem e76_73 : WP sa (EV sa d) 76 Q k z 73 L (.int v :: .int u :: st) μ = WP sa (EV sa d) 76 Q k z 74 L (.int (u + v) :: st) μ := wp_p (ins := .iadd) (by decide +kernel) rfl rfl
theorem e76_74 : WP sa (EV sa d) 76 Q k z 74 L (.int u :: .ref a :: st) (n, K, FI, FL, FR, AI, AL, AR) = (K a = (1, 5) ∧ WP sa (EV sa d) 76 Q k z 77 L st (n, K, mj_u2 FI 325 a u, FL, FR, AI, AL, AR)) := wp_putI (idx := 34) (by decide +kernel) rfl pj_5_34 (by decide +kernel) rfl rfl
theorem e76_77 : WP sa (EV sa d) 76 Q k z 77 [.ref a] st μ = WP sa (EV sa d) 76 Q k z 78 [.ref a] (.ref a :: st) μ := wp_p (ins := .aload_n 0) (by decide +kernel) rfl rfl
theorem e76_78 : WP sa (EV sa d) 76 Q k z 78 L (.ref a :: st) μ = WP sa (EV sa d) 76 Q k z 79 L (.ref a :: .ref a :: st) μ := wp_p (ins := .dup) (by decide +kernel) rfl rfl
theorem e76_78i : WP sa (EV sa d) 76 Q k z 78 L (.int u :: st) μ = WP sa (EV sa d) 76 Q k z 79 L (.int u :: .int u :: st) μ := wp_p (ins := .dup) (by decide +kernel) rfl rfl
theorem e76_79 : WP sa (EV sa d) 76 Q k z 79 L (.ref a :: st) (n, K, FI, FL, FR, AI, AL, AR) = (K a = (1, 5) ∧ WP sa (EV sa d) 76 Q k z 82 L (.int (FI 322 a) :: st) (n, K, FI, FL, FR, AI, AL, AR)) := wp_getI (idx := 25) (by decide +kernel) rfl pj_5_25 (by decide) (Or.inl rfl) rfl
theorem e76_82 : WP sa (EV sa d) 76 Q k z 82 L st μ = WP sa (EV sa d) 76 Q k z 83 L (.int 1 :: st) μ := wp_p (ins := .iconst 1) (by decide +kernel) rfl rfl
theorem e76_83 : WP sa (EV sa d) 76 Q k z 83 L (.int v :: .int u :: st) μ = WP sa (EV sa d) 76 Q k z 84 L (.int (u + v) :: st) μ := wp_p (ins := .iadd) (by decide +kernel) rfl rfl
theorem e76_84 : WP sa (EV sa d) 76 Q k z 84 L (.int u :: .ref a :: st) (n, K, FI, FL, FR, AI, AL, AR) = (K a = (1, 5) ∧ WP sa (EV sa d) 76 Q k z 87 L st (n, K, mj_u2 FI 322 a u, FL, FR, AI, AL, AR)) := wp_putI (idx := 25) (by decide +kernel) rfl pj_5_25 (by decide +kernel) rfl rfl
theorem e76_87 : WP sa (EV sa d) 76 Q k z 87 L st μ = WP sa (EV sa d) 76 Q k z 5 L st μ := wp_g (off := (-82)) (by decide +kernel) (by decide)
theorem e76_90 : WP sa (EV sa d) 76 Q k z 90 [.ref a] st μ = WP sa (EV sa d) 76 Q k z 91 [.ref a] (.ref a :: st) μ := wp_p (ins := .aload_n 0) (by decide +kernel) rfl rfl
theorem e76_91 : WP sa (EV sa d) 76 Q k z 91 [.ref a] st μ = WP sa (EV sa d) 76 Q k z 92 [.ref a] (.ref a :: st) μ := wp_p (ins := .aload_n 0) (by decide +kernel) rfl rfl
theorem e76_92 : WP sa (EV sa d) 76 Q k z 92 L (.ref a :: st) (n, K, FI, FL, FR, AI, AL, AR) = (K a = (1, 5) ∧ WP sa (EV sa d) 76 Q k z 95 L (.int (FI 325 a) :: st) (n, K, FI, FL, FR, AI, AL, AR)) := wp_getI (idx := 34) (by decide +kernel) rfl pj_5_34 (by decide) (Or.inl rfl) rfl
theorem e76_95 : WP sa (EV sa d) 76 Q k z 95 L st μ = WP sa (EV sa d) 76 Q k z 97 L (.int 8 :: st) μ := wp_p (ins := .bipush 8) (by decide +kernel) rfl rfl
theorem e76_97 : WP sa (EV sa d) 76 Q k z 97 L (.int v :: .int u :: st) μ = ((v < u → WP sa (EV sa d) 76 Q k z 104 L st μ) ∧ (¬ v < u → WP sa (EV sa d) 76 Q k z 100 L st μ)) := wp_b (ins := .if_icmp .gt 7) (by decide +kernel) rfl rfl (by decide)
theorem e76_100 : WP sa (EV sa d) 76 Q k z 100 L st μ = WP sa (EV sa d) 76 Q k z 101 L (.int 1 :: st) μ := wp_p (ins := .iconst 1) (by decide +kernel) rfl rfl
theorem e76_101 : WP sa (EV sa d) 76 Q k z 101 L st μ = WP sa (EV sa d) 76 Q k z 105 L st μ := wp_g (off := 4) (by decide +kernel) (by decide)
theorem e76_104 : WP sa (EV sa d) 76 Q k z 104 L st μ = WP sa (EV sa d) 76 Q k z 105 L (.int 5 :: st) μ := wp_p (ins := .iconst 5) (by decide +kernel) rfl rfl
theorem e76_105 : WP sa (EV sa d) 76 Q k z 105 L (.int u :: .ref a :: st) (n, K, FI, FL, FR, AI, AL, AR) = (K a = (1, 5) ∧ WP sa (EV sa d) 76 Q k z 108 L st (n, K, mj_u2 FI 323 a u, FL, FR, AI, AL, AR)) := wp_putI (idx := 37) (by decide +kernel) rfl pj_5_37 (by decide +kernel) rfl rfl
theorem e76_108 : WP sa (EV sa d) 76 Q k z 108 L [] μ = Q none μ := wp_rv (by decide +kernel) rfl
theorem e77_0 : WP sa (EV sa d) 77 Q k z 0 [.ref a] st μ = WP sa (EV sa d) 77 Q k z 1 [.ref a] (.ref a :: st) μ := wp_p (ins := .aload_n 0) (by decide +kernel) rfl rfl
theorem e77_1 : WP sa (EV sa d) 77 Q k z 1 L st μ = WP sa (EV sa d) 77 Q k z 2 L (.int 0 :: st) μ := wp_p (ins := .iconst 0) (by decide +kernel) rfl rfl
theorem e77_2 : WP sa (EV sa d) 77 Q k z 2 L (.int u :: .ref a :: st) (n, K, FI, FL, FR, AI, AL, AR) = (K a = (1, 5) ∧ WP sa (EV sa d) 77 Q k z 5 L st (n, K, mj_u2 FI 327 a u, FL, FR, AI, AL, AR)) := wp_putI (idx := 60) (by decide +kernel) rfl pj_5_60 (by decide +kernel) rfl rfl
theorem e77_5 : WP sa (EV sa d) 77 Q k z 5 [.ref a] st μ = WP sa (EV sa d) 77 Q k z 6 [.ref a] (.ref a :: st) μ := wp_p (ins := .aload_n 0) (by decide +kernel) rfl rfl
theorem e77_6 : WP sa (EV sa d) 77 Q k z 6 L (.ref a :: st) (n, K, FI, FL, FR, AI, AL, AR) = (K a = (1, 5) ∧ WP sa (EV sa d) 77 Q k z 9 L (.int (FI 322 a) :: st) (n, K, FI, FL, FR, AI, AL, AR)) := wp_getI (idx := 25) (by decide +kernel) rfl pj_5_25 (by decide) (Or.inl rfl) rfl
theorem e77_9 : WP sa (EV sa d) 77 Q k z 9 [.ref a] st μ = WP sa (EV sa d) 77 Q k z 10 [.ref a] (.ref a :: st) μ := wp_p (ins := .aload_n 0) (by decide +kernel) rfl rfl
theorem e77_10 : WP sa (EV sa d) 77 Q k z 10 L (.ref a :: st) (n, K, FI, FL, FR, AI, AL, AR) = (K a = (1, 5) ∧ WP sa (EV sa d) 77 Q k z 13 L (.int (FI 321 a) :: st) (n, K, FI, FL, FR, AI, AL, AR)) := wp_getI (idx := 21) (by decide +kernel) rfl pj_5_21 (by decide) (Or.inl rfl) rfl
theorem e77_13 : WP sa (EV sa d) 77 Q k z 13 L (.int v :: .int u :: st) μ = ((v ≤ u → WP sa (EV sa d) 77 Q k z 82 L st μ) ∧ (¬ v ≤ u → WP sa (EV sa d) 77 Q k z 16 L st μ)) := wp_b (ins := .if_icmp .ge 69) (by decide +kernel) rfl rfl (by decide)
theorem e77_16 : WP sa (EV sa d) 77 Q k z 16 [.ref a] st μ = WP sa (EV sa d) 77 Q k z 17 [.ref a] (.ref a :: st) μ := wp_p (ins := .aload_n 0) (by decide +kernel) rfl rfl
theorem e77_17 : WP sa (EV sa d) 77 Q k z 17 [.ref a] st μ = WP sa (EV sa d) 77 Q k z 18 [.ref a] (.ref a :: st) μ := wp_p (ins := .aload_n 0) (by decide +kernel) rfl rfl
theorem e77_18 : WP sa (EV sa d) 77 Q k z 18 L (.ref a :: st) (n, K, FI, FL, FR, AI, AL, AR) = (K a = (1, 5) ∧ WP sa (EV sa d) 77 Q k z 21 L (.int (FI 322 a) :: st) (n, K, FI, FL, FR, AI, AL, AR)) := wp_getI (idx := 25) (by decide +kernel) rfl pj_5_25 (by decide) (Or.inl rfl) rfl
theorem e77_21 : WP sa (EV sa d) 77 Q k z 21 L (.int u0 :: .ref a :: st) μ = (st.length ≤ 4 ∧ EV sa d 75 [.ref a, .int u0] μ (fun v μ => WP sa (EV sa d) 77 Q k z 24 L (v.toList ++ st) μ)) := wp_V (idx := 47) (by decide +kernel) rfl pj_5_47 rfl rfl
theorem e77_24 : WP sa (EV sa d) 77 Q k z 24 L (.int u :: st) μ = ((u = 0 → WP sa (EV sa d) 77 Q k z 82 L st μ) ∧ (¬ u = 0 → WP sa (EV sa d) 77 Q k z 27 L st μ)) := wp_b (ins := .ifCond .eq 58) (by decide +kernel) rfl rfl (by decide)
theorem e77_27 : WP sa (EV sa d) 77 Q k z 27 [.ref a] st μ = WP sa (EV sa d) 77 Q k z 28 [.ref a] (.ref a :: st) μ := wp_p (ins := .aload_n 0) (by decide +kernel) rfl rfl
theorem e77_28 : WP sa (EV sa d) 77 Q k z 28 L (.ref a :: st) (n, K, FI, FL, FR, AI, AL, AR) = (K a = (1, 5) ∧ WP sa (EV sa d) 77 Q k z 31 L (.int (FI 325 a) :: st) (n, K, FI, FL, FR, AI, AL, AR)) := wp_getI (idx := 34) (by decide +kernel) rfl pj_5_34 (by decide) (Or.inl rfl) rfl
theorem e77_31 : WP sa (EV sa d) 77 Q k z 31 L st μ = WP sa (EV sa d) 77 Q k z 32 L (.int 3 :: st) μ := wp_p (ins := .iconst 3) (by decide +kernel) rfl rfl
theorem e77_32 : WP sa (EV sa d) 77 Q k z 32 L (.int v :: .int u :: st) μ = ((v ≤ u → WP sa (EV sa d) 77 Q k z 59 L st μ) ∧ (¬ v ≤ u → WP sa (EV sa d) 77 Q k z 35 L st μ)) := wp_b (ins := .if_icmp .ge 27) (by decide +kernel) rfl rfl (by decide)
theorem e77_35 : WP sa (EV sa d) 77 Q k z 35 [.ref a] st μ = WP sa (EV sa d) 77 Q k z 36 [.ref a] (.ref a :: st) μ := wp_p (ins := .aload_n 0) (by decide +kernel) rfl rfl
theorem e77_36 : WP sa (EV sa d) 77 Q k z 36 [.ref a] st μ = WP sa (EV sa d) 77 Q k z 37 [.ref a] (.ref a :: st) μ := wp_p (ins := .aload_n 0) (by decide +kernel) rfl rfl
theorem e77_37 : WP sa (EV sa d) 77 Q k z 37 L (.ref a :: st) (n, K, FI, FL, FR, AI, AL, AR) = (K a = (1, 5) ∧ WP sa (EV sa d) 77 Q k z 40 L (.int (FI 327 a) :: st) (n, K, FI, FL, FR, AI, AL, AR)) := wp_getI (idx := 60) (by decide +kernel) rfl pj_5_60 (by decide) (Or.inl rfl) rfl
theorem e77_40 : WP sa (EV sa d) 77 Q k z 40 L st μ = WP sa (EV sa d) 77 Q k z 42 L (.int 10 :: st) μ := wp_p (ins := .bipush 10) (by decide +kernel) rfl rfl
theorem e77_42 : WP sa (EV sa d) 77 Q k z 42 L (.int v :: .int u :: st) μ = WP sa (EV sa d) 77 Q k z 43 L (.int (u * v) :: st) μ := wp_p (ins := .imul) (by decide +kernel) rfl rfl
theorem e77_43 : WP sa (EV sa d) 77 Q k z 43 [.ref a] st μ = WP sa (EV sa d) 77 Q k z 44 [.ref a] (.ref a :: st) μ := wp_p (ins := .aload_n 0) (by decide +kernel) rfl rfl
theorem e77_44 : WP sa (EV sa d) 77 Q k z 44 L (.ref a :: st) (n, K, FI, FL, FR, AI, AL, AR) = (K a = (1, 5) ∧ WP sa (EV sa d) 77 Q k z 47 L (va_rf (FR 320 a) :: st) (n, K, FI, FL, FR, AI, AL, AR)) := wp_getR (idx := 9) (by decide +kernel) rfl pj_5_9 (by decide) (Or.inr ⟨_, rfl⟩) rfl
theorem e77_47 : WP sa (EV sa d) 77 Q k z 47 [.ref a] st μ = WP sa (EV sa d) 77 Q k z 48 [.ref a] (.ref a :: st) μ := wp_p (ins := .aload_n 0) (by decide +kernel) rfl rfl
theorem e77_48 : WP sa (EV sa d) 77 Q k z 48 L (.ref a :: st) (n, K, FI, FL, FR, AI, AL, AR) = (K a = (1, 5) ∧ WP sa (EV sa d) 77 Q k z 51 L (.int (FI 322 a) :: st) (n, K, FI, FL, FR, AI, AL, AR)) := wp_getI (idx := 25) (by decide +kernel) rfl pj_5_25 (by decide) (Or.inl rfl) rfl
theorem e77_51 : WP sa (EV sa d) 77 Q k z 51 L (.int u :: .ref a :: st) (n, K, FI, FL, FR, AI, AL, AR) = (((K a).1 = 3 ∧ vp_in u (K a).2) ∧ WP sa (EV sa d) 77 Q k z 52 L (.int (AI a u.toNatClampNeg) :: st) (n, K, FI, FL, FR, AI, AL, AR)) := wp_bal (by decide +kernel)
theorem e77_52 : WP sa (EV sa d) 77 Q k z 52 L (.int v :: .int u :: st) μ = WP sa (EV sa d) 77 Q k z 53 L (.int (u + v) :: st) μ := wp_p (ins := .iadd) (by decide +kernel) rfl rfl
theorem e77_53 : WP sa (EV sa d) 77 Q k z 53 L st μ = WP sa (EV sa d) 77 Q k z 55 L (.int 48 :: st) μ := wp_p (ins := .bipush 48) (by decide +kernel) rfl rfl
theorem e77_55 : WP sa (EV sa d) 77 Q k z 55 L (.int v :: .int u :: st) μ = WP sa (EV sa d) 77 Q k z 56 L (.int (u - v) :: st) μ := wp_p (ins := .isub) (by decide +kernel) rfl rfl
theorem e77_56 : WP sa (EV sa d) 77 Q k z 56 L (.int u :: .ref a :: st) (n, K, FI, FL, FR, AI, AL, AR) = (K a = (1, 5) ∧ WP sa (EV sa d) 77 Q k z 59 L st (n, K, mj_u2 FI 327 a u, FL, FR, AI, AL, AR)) := wp_putI (idx := 60) (by decide +kernel) rfl pj_5_60 (by decide +kernel) rfl rfl
theorem e77_59 : WP sa (EV sa d) 77 Q k z 59 [.ref a] st μ = WP sa (EV sa d) 77 Q k z 60 [.ref a] (.ref a :: st) μ := wp_p (ins := .aload_n 0) (by decide +kernel) rfl rfl
theorem e77_60 : WP sa (EV sa d) 77 Q k z 60 L (.ref a :: st) μ = WP sa (EV sa d) 77 Q k z 61 L (.ref a :: .ref a :: st) μ := wp_p (ins := .dup) (by decide +kernel) rfl rfl
theorem e77_60i : WP sa (EV sa d) 77 Q k z 60 L (.int u :: st) μ = WP sa (EV sa d) 77 Q k z 61 L (.int u :: .int u :: st) μ := wp_p (ins := .dup) (by decide +kernel) rfl rfl
theorem e77_61 : WP sa (EV sa d) 77 Q k z 61 L (.ref a :: st) (n, K, FI, FL, FR, AI, AL, AR) = (K a = (1, 5) ∧ WP sa (EV sa d) 77 Q k z 64 L (.int (FI 325 a) :: st) (n, K, FI, FL, FR, AI, AL, AR)) := wp_getI (idx := 34) (by decide +kernel) rfl pj_5_34 (by decide) (Or.inl rfl) rfl
theorem e77_64 : WP sa (EV sa d) 77 Q k z 64 L st μ = WP sa (EV sa d) 77 Q k z 65 L (.int 1 :: st) μ := wp_p (ins := .iconst 1) (by decide +kernel) rfl rfl
theorem e77_65 : WP sa (EV sa d) 77 Q k z 65 L (.int v :: .int u :: st) μ = WP sa (EV sa d) 77 Q k z 66 L (.int (u + v) :: st) μ := wp_p (ins := .iadd) (by decide +kernel) rfl rfl
theorem e77_66 : WP sa (EV sa d) 77 Q k z 66 L (.int u :: .ref a :: st) (n, K, FI, FL, FR, AI, AL, AR) = (K a = (1, 5) ∧ WP sa (EV sa d) 77 Q k z 69 L st (n, K, mj_u2 FI 325 a u, FL, FR, AI, AL, AR)) := wp_putI (idx := 34) (by decide +kernel) rfl pj_5_34 (by decide +kernel) rfl rfl
theorem e77_69 : WP sa (EV sa d) 77 Q k z 69 [.ref a] st μ = WP sa (EV sa d) 77 Q k z 70 [.ref a] (.ref a :: st) μ := wp_p (ins := .aload_n 0) (by decide +kernel) rfl rfl
theorem e77_70 : WP sa (EV sa d) 77 Q k z 70 L (.ref a :: st) μ = WP sa (EV sa d) 77 Q k z 71 L (.ref a :: .ref a :: st) μ := wp_p (ins := .dup) (by decide +kernel) rfl rfl
theorem e77_70i : WP sa (EV sa d) 77 Q k z 70 L (.int u :: st) μ = WP sa (EV sa d) 77 Q k z 71 L (.int u :: .int u :: st) μ := wp_p (ins := .dup) (by decide +kernel) rfl rfl
theorem e77_71 : WP sa (EV sa d) 77 Q k z 71 L (.ref a :: st) (n, K, FI, FL, FR, AI, AL, AR) = (K a = (1, 5) ∧ WP sa (EV sa d) 77 Q k z 74 L (.int (FI 322 a) :: st) (n, K, FI, FL, FR, AI, AL, AR)) := wp_getI (idx := 25) (by decide +kernel) rfl pj_5_25 (by decide) (Or.inl rfl) rfl
theorem e77_74 : WP sa (EV sa d) 77 Q k z 74 L st μ = WP sa (EV sa d) 77 Q k z 75 L (.int 1 :: st) μ := wp_p (ins := .iconst 1) (by decide +kernel) rfl rfl
theorem e77_75 : WP sa (EV sa d) 77 Q k z 75 L (.int v :: .int u :: st) μ = WP sa (EV sa d) 77 Q k z 76 L (.int (u + v) :: st) μ := wp_p (ins := .iadd) (by decide +kernel) rfl rfl
theorem e77_76 : WP sa (EV sa d) 77 Q k z 76 L (.int u :: .ref a :: st) (n, K, FI, FL, FR, AI, AL, AR) = (K a = (1, 5) ∧ WP sa (EV sa d) 77 Q k z 79 L st (n, K, mj_u2 FI 322 a u, FL, FR, AI, AL, AR)) := wp_putI (idx := 25) (by decide +kernel) rfl pj_5_25 (by decide +kernel) rfl rfl
theorem e77_79 : WP sa (EV sa d) 77 Q k z 79 L st μ = WP sa (EV sa d) 77 Q k z 5 L st μ := wp_g (off := (-74)) (by decide +kernel) (by decide)
theorem e77_82 : WP sa (EV sa d) 77 Q k z 82 [.ref a] st μ = WP sa (EV sa d) 77 Q k z 83 [.ref a] (.ref a :: st) μ := wp_p (ins := .aload_n 0) (by decide +kernel) rfl rfl
theorem e77_83 : WP sa (EV sa d) 77 Q k z 83 [.ref a] st μ = WP sa (EV sa d) 77 Q k z 84 [.ref a] (.ref a :: st) μ := wp_p (ins := .aload_n 0) (by decide +kernel) rfl rfl
theorem e77_84 : WP sa (EV sa d) 77 Q k z 84 L (.ref a :: st) (n, K, FI, FL, FR, AI, AL, AR) = (K a = (1, 5) ∧ WP sa (EV sa d) 77 Q k z 87 L (.int (FI 325 a) :: st) (n, K, FI, FL, FR, AI, AL, AR)) := wp_getI (idx := 34) (by decide +kernel) rfl pj_5_34 (by decide) (Or.inl rfl) rfl
theorem e77_87 : WP sa (EV sa d) 77 Q k z 87 L st μ = WP sa (EV sa d) 77 Q k z 88 L (.int 3 :: st) μ := wp_p (ins := .iconst 3) (by decide +kernel) rfl rfl
theorem e77_88 : WP sa (EV sa d) 77 Q k z 88 L (.int v :: .int u :: st) μ = ((v < u → WP sa (EV sa d) 77 Q k z 95 L st μ) ∧ (¬ v < u → WP sa (EV sa d) 77 Q k z 91 L st μ)) := wp_b (ins := .if_icmp .gt 7) (by decide +kernel) rfl rfl (by decide)
theorem e77_91 : WP sa (EV sa d) 77 Q k z 91 L st μ = WP sa (EV sa d) 77 Q k z 92 L (.int 2 :: st) μ := wp_p (ins := .iconst 2) (by decide +kernel) rfl rfl
theorem e77_92 : WP sa (EV sa d) 77 Q k z 92 L st μ = WP sa (EV sa d) 77 Q k z 96 L st μ := wp_g (off := 4) (by decide +kernel) (by decide)
theorem e77_95 : WP sa (EV sa d) 77 Q k z 95 L st μ = WP sa (EV sa d) 77 Q k z 96 L (.int 5 :: st) μ := wp_p (ins := .iconst 5) (by decide +kernel) rfl rfl
theorem e77_96 : WP sa (EV sa d) 77 Q k z 96 L (.int u :: .ref a :: st) (n, K, FI, FL, FR, AI, AL, AR) = (K a = (1, 5) ∧ WP sa (EV sa d) 77 Q k z 99 L st (n, K, mj_u2 FI 323 a u, FL, FR, AI, AL, AR)) := wp_putI (idx := 37) (by decide +kernel) rfl pj_5_37 (by decide +kernel) rfl rfl
theorem e77_99 : WP sa (EV sa d) 77 Q k z 99 L [] μ = Q none μ := wp_rv (by decide +kernel) rfl
theorem e78_0 : WP sa (EV sa d) 78 Q k z 0 [.ref a] st μ = WP sa (EV sa d) 78 Q k z 1 [.ref a] (.ref a :: st) μ := wp_p (ins := .aload_n 0) (by decide +kernel) rfl rfl
theorem e78_1 : WP sa (EV sa d) 78 Q k z 1 [.ref a] st μ = WP sa (EV sa d) 78 Q k z 2 [.ref a] (.ref a :: st) μ := wp_p (ins := .aload_n 0) (by decide +kernel) rfl rfl
theorem e78_2 : WP sa (EV sa d) 78 Q k z 2 L (.ref a :: st) (n, K, FI, FL, FR, AI, AL, AR) = (K a = (1, 5) ∧ WP sa (EV sa d) 78 Q k z 5 L (va_rf (FR 320 a) :: st) (n, K, FI, FL, FR, AI, AL, AR)) := wp_getR (idx := 9) (by decide +kernel) rfl pj_5_9 (by decide) (Or.inr ⟨_, rfl⟩) rfl
theorem e78_5 : WP sa (EV sa d) 78 Q k z 5 [.ref a] st μ = WP sa (EV sa d) 78 Q k z 6 [.ref a] (.ref a :: st) μ := wp_p (ins := .aload_n 0) (by decide +kernel) rfl rfl
theorem e78_6 : WP sa (EV sa d) 78 Q k z 6 L (.ref a :: st) (n, K, FI, FL, FR, AI, AL, AR) = (K a = (1, 5) ∧ WP sa (EV sa d) 78 Q k z 9 L (.int (FI 322 a) :: st) (n, K, FI, FL, FR, AI, AL, AR)) := wp_getI (idx := 25) (by decide +kernel) rfl pj_5_25 (by decide) (Or.inl rfl) rfl
theorem e78_9 : WP sa (EV sa d) 78 Q k z 9 L (.int u :: .ref a :: st) (n, K, FI, FL, FR, AI, AL, AR) = (((K a).1 = 3 ∧ vp_in u (K a).2) ∧ WP sa (EV sa d) 78 Q k z 10 L (.int (AI a u.toNatClampNeg) :: st) (n, K, FI, FL, FR, AI, AL, AR)) := wp_bal (by decide +kernel)
theorem e78_10 : WP sa (EV sa d) 78 Q k z 10 L st μ = WP sa (EV sa d) 78 Q k z 12 L (.int 59 :: st) μ := wp_p (ins := .bipush 59) (by decide +kernel) rfl rfl
theorem e78_12 : WP sa (EV sa d) 78 Q k z 12 L (.int v :: .int u :: st) μ = ((¬ u = v → WP sa (EV sa d) 78 Q k z 19 L st μ) ∧ (¬ (¬ u = v) → WP sa (EV sa d) 78 Q k z 15 L st μ)) := wp_b (ins := .if_icmp .ne 7) (by decide +kernel) rfl rfl (by decide)
theorem e78_15 : WP sa (EV sa d) 78 Q k z 15 L st μ = WP sa (EV sa d) 78 Q k z 16 L (.int 3 :: st) μ := wp_p (ins := .iconst 3) (by decide +kernel) rfl rfl
theorem e78_16 : WP sa (EV sa d) 78 Q k z 16 L st μ = WP sa (EV sa d) 78 Q k z 38 L st μ := wp_g (off := 22) (by decide +kernel) (by decide)
theorem e78_19 : WP sa (EV sa d) 78 Q k z 19 [.ref a] st μ = WP sa (EV sa d) 78 Q k z 20 [.ref a] (.ref a :: st) μ := wp_p (ins := .aload_n 0) (by decide +kernel) rfl rfl
theorem e78_20 : WP sa (EV sa d) 78 Q k z 20 L (.ref a :: st) (n, K, FI, FL, FR, AI, AL, AR) = (K a = (1, 5) ∧ WP sa (EV sa d) 78 Q k z 23 L (va_rf (FR 320 a) :: st) (n, K, FI, FL, FR, AI, AL, AR)) := wp_getR (idx := 9) (by decide +kernel) rfl pj_5_9 (by decide) (Or.inr ⟨_, rfl⟩) rfl
theorem e78_23 : WP sa (EV sa d) 78 Q k z 23 [.ref a] st μ = WP sa (EV sa d) 78 Q k z 24 [.ref a] (.ref a :: st) μ := wp_p (ins := .aload_n 0) (by decide +kernel) rfl rfl
theorem e78_24 : WP sa (EV sa d) 78 Q k z 24 L (.ref a :: st) (n, K, FI, FL, FR, AI, AL, AR) = (K a = (1, 5) ∧ WP sa (EV sa d) 78 Q k z 27 L (.int (FI 322 a) :: st) (n, K, FI, FL, FR, AI, AL, AR)) := wp_getI (idx := 25) (by decide +kernel) rfl pj_5_25 (by decide) (Or.inl rfl) rfl
theorem e78_27 : WP sa (EV sa d) 78 Q k z 27 L (.int u :: .ref a :: st) (n, K, FI, FL, FR, AI, AL, AR) = (((K a).1 = 3 ∧ vp_in u (K a).2) ∧ WP sa (EV sa d) 78 Q k z 28 L (.int (AI a u.toNatClampNeg) :: st) (n, K, FI, FL, FR, AI, AL, AR)) := wp_bal (by decide +kernel)
theorem e78_28 : WP sa (EV sa d) 78 Q k z 28 L st μ = WP sa (EV sa d) 78 Q k z 30 L (.int 44 :: st) μ := wp_p (ins := .bipush 44) (by decide +kernel) rfl rfl
theorem e78_30 : WP sa (EV sa d) 78 Q k z 30 L (.int v :: .int u :: st) μ = ((¬ u = v → WP sa (EV sa d) 78 Q k z 37 L st μ) ∧ (¬ (¬ u = v) → WP sa (EV sa d) 78 Q k z 33 L st μ)) := wp_b (ins := .if_icmp .ne 7) (by decide +kernel) rfl rfl (by decide)
theorem e78_33 : WP sa (EV sa d) 78 Q k z 33 L st μ = WP sa (EV sa d) 78 Q k z 34 L (.int 4 :: st) μ := wp_p (ins := .iconst 4) (by decide +kernel) rfl rfl
theorem e78_34 : WP sa (EV sa d) 78 Q k z 34 L st μ = WP sa (EV sa d) 78 Q k z 38 L st μ := wp_g (off := 4) (by decide +kernel) (by decide)
theorem e78_37 : WP sa (EV sa d) 78 Q k z 37 L st μ = WP sa (EV sa d) 78 Q k z 38 L (.int 5 :: st) μ := wp_p (ins := .iconst 5) (by decide +kernel) rfl rfl
theorem e78_38 : WP sa (EV sa d) 78 Q k z 38 L (.int u :: .ref a :: st) (n, K, FI, FL, FR, AI, AL, AR) = (K a = (1, 5) ∧ WP sa (EV sa d) 78 Q k z 41 L st (n, K, mj_u2 FI 323 a u, FL, FR, AI, AL, AR)) := wp_putI (idx := 37) (by decide +kernel) rfl pj_5_37 (by decide +kernel) rfl rfl
theorem e78_41 : WP sa (EV sa d) 78 Q k z 41 [.ref a] st μ = WP sa (EV sa d) 78 Q k z 42 [.ref a] (.ref a :: st) μ := wp_p (ins := .aload_n 0) (by decide +kernel) rfl rfl
theorem e78_42 : WP sa (EV sa d) 78 Q k z 42 L (.ref a :: st) μ = WP sa (EV sa d) 78 Q k z 43 L (.ref a :: .ref a :: st) μ := wp_p (ins := .dup) (by decide +kernel) rfl rfl
theorem e78_42i : WP sa (EV sa d) 78 Q k z 42 L (.int u :: st) μ = WP sa (EV sa d) 78 Q k z 43 L (.int u :: .int u :: st) μ := wp_p (ins := .dup) (by decide +kernel) rfl rfl
theorem e78_43 : WP sa (EV sa d) 78 Q k z 43 L (.ref a :: st) (n, K, FI, FL, FR, AI, AL, AR) = (K a = (1, 5) ∧ WP sa (EV sa d) 78 Q k z 46 L (.int (FI 322 a) :: st) (n, K, FI, FL, FR, AI, AL, AR)) := wp_getI (idx := 25) (by decide +kernel) rfl pj_5_25 (by decide) (Or.inl rfl) rfl
theorem e78_46 : WP sa (EV sa d) 78 Q k z 46 L st μ = WP sa (EV sa d) 78 Q k z 47 L (.int 1 :: st) μ := wp_p (ins := .iconst 1) (by decide +kernel) rfl rfl
theorem e78_47 : WP sa (EV sa d) 78 Q k z 47 L (.int v :: .int u :: st) μ = WP sa (EV sa d) 78 Q k z 48 L (.int (u + v) :: st) μ := wp_p (ins := .iadd) (by decide +kernel) rfl rfl
theorem e78_48 : WP sa (EV sa d) 78 Q k z 48 L (.int u :: .ref a :: st) (n, K, FI, FL, FR, AI, AL, AR) = (K a = (1, 5) ∧ WP sa (EV sa d) 78 Q k z 51 L st (n, K, mj_u2 FI 322 a u, FL, FR, AI, AL, AR)) := wp_putI (idx := 25) (by decide +kernel) rfl pj_5_25 (by decide +kernel) rfl rfl
theorem e78_51 : WP sa (EV sa d) 78 Q k z 51 L [] μ = Q none μ := wp_rv (by decide +kernel) rfl
theorem e79_0 : WP sa (EV sa d) 79 Q k z 0 [.ref a, x1, x2] st μ = WP sa (EV sa d) 79 Q k z 1 [.ref a, x1, x2] (.ref a :: st) μ := wp_p (ins := .aload_n 0) (by decide +kernel) rfl rfl
theorem e79_1 : WP sa (EV sa d) 79 Q k z 1 L (.ref a :: st) (n, K, FI, FL, FR, AI, AL, AR) = (K a = (1, 5) ∧ WP sa (EV sa d) 79 Q k z 4 L (.int (FI 323 a) :: st) (n, K, FI, FL, FR, AI, AL, AR)) := wp_getI (idx := 37) (by decide +kernel) rfl pj_5_37 (by decide) (Or.inl rfl) rfl
theorem e79_4 : WP sa (EV sa d) 79 Q k z 4 L st μ = WP sa (EV sa d) 79 Q k z 5 L (.int 1 :: st) μ := wp_p (ins := .iconst 1) (by decide +kernel) rfl rfl
theorem e79_5 : WP sa (EV sa d) 79 Q k z 5 L (.int v :: .int u :: st) μ = ((¬ u = v → WP sa (EV sa d) 79 Q k z 19 L st μ) ∧ (¬ (¬ u = v) → WP sa (EV sa d) 79 Q k z 8 L st μ)) := wp_b (ins := .if_icmp .ne 14) (by decide +kernel) rfl rfl (by decide)
theorem e79_8 : WP sa (EV sa d) 79 Q k z 8 [.ref a, x1, x2] st μ = WP sa (EV sa d) 79 Q k z 9 [.ref a, x1, x2] (.ref a :: st) μ := wp_p (ins := .aload_n 0) (by decide +kernel) rfl rfl
theorem e79_9 : WP sa (EV sa d) 79 Q k z 9 L (.ref a :: st) (n, K, FI, FL, FR, AI, AL, AR) = (K a = (1, 5) ∧ WP sa (EV sa d) 79 Q k z 12 L (.int (FI 325 a) :: st) (n, K, FI, FL, FR, AI, AL, AR)) := wp_getI (idx := 34) (by decide +kernel) rfl pj_5_34 (by decide) (Or.inl rfl) rfl
theorem e79_12 : WP sa (EV sa d) 79 Q k z 12 [x0, .ref a, x2] st μ = WP sa (EV sa d) 79 Q k z 13 [x0, .ref a, x2] (.ref a :: st) μ := wp_p (ins := .aload_n 1) (by decide +kernel) rfl rfl
theorem e79_13 : WP sa (EV sa d) 79 Q k z 13 L (.ref a :: st) μ = (st.length ≤ 4 ∧ EV sa d 276 [.ref a] μ (fun v μ => WP sa (EV sa d) 79 Q k z 16 L (v.toList ++ st) μ)) := wp_V (idx := 63) (by decide +kernel) rfl pj_5_63 rfl rfl
theorem e79_16 : WP sa (EV sa d) 79 Q k z 16 L (.int v :: .int u :: st) μ = ((u = v → WP sa (EV sa d) 79 Q k z 21 L st μ) ∧ (¬ u = v → WP sa (EV sa d) 79 Q k z 19 L st μ)) := wp_b (ins := .if_icmp .eq 5) (by decide +kernel) rfl rfl (by decide)
theorem e79_19 : WP sa (EV sa d) 79 Q k z 19 L st μ = WP sa (EV sa d) 79 Q k z 20 L (.int 0 :: st) μ := wp_p (ins := .iconst 0) (by decide +kernel) rfl rfl
theorem e79_20 : WP sa (EV sa d) 79 Q k z 20 L [.int u] μ = ((u = 0 ∨ u = 1) ∧ Q (some (.int u)) μ) := wp_rz (by decide +kernel) rfl
theorem e79_21 : WP sa (EV sa d) 79 Q k z 21 L st μ = WP sa (EV sa d) 79 Q k z 22 L (.int 0 :: st) μ := wp_p (ins := .iconst 0) (by decide +kernel) rfl rfl
theorem e79_22 : WP sa (EV sa d) 79 Q k z 22 [x0, x1, x2] (.int u :: st) μ = WP sa (EV sa d) 79 Q k z 23 [x0, mj_kl x1, .int u] st μ := wp_p (ins := .istore_n 2) (by decide +kernel) rfl rfl
theorem e79_23 : WP sa (EV sa d) 79 Q k z 23 [x0, x1, .int u] st μ = WP sa (EV sa d) 79 Q k z 24 [x0, x1, .int u] (.int u :: st) μ := wp_p (ins := .iload_n 2) (by decide +kernel) rfl rfl
theorem e79_24 : WP sa (EV sa d) 79 Q k z 24 [x0, .ref a, x2] st μ = WP sa (EV sa d) 79 Q k z 25 [x0, .ref a, x2] (.ref a :: st) μ := wp_p (ins := .aload_n 1) (by decide +kernel) rfl rfl
theorem e79_25 : WP sa (EV sa d) 79 Q k z 25 L (.ref a :: st) μ = (st.length ≤ 4 ∧ EV sa d 276 [.ref a] μ (fun v μ => WP sa (EV sa d) 79 Q k z 28 L (v.toList ++ st) μ)) := wp_V (idx := 63) (by decide +kernel) rfl pj_5_63 rfl rfl
theorem e79_28 : WP sa (EV sa d) 79 Q k z 28 L (.int v :: .int u :: st) μ = ((v ≤ u → WP sa (EV sa d) 79 Q k z 60 L st μ) ∧ (¬ v ≤ u → WP sa (EV sa d) 79 Q k z 31 L st μ)) := wp_b (ins := .if_icmp .ge 32) (by decide +kernel) rfl rfl (by decide)
theorem e79_31 : WP sa (EV sa d) 79 Q k z 31 [.ref a, x1, x2] st μ = WP sa (EV sa d) 79 Q k z 32 [.ref a, x1, x2] (.ref a :: st) μ := wp_p (ins := .aload_n 0) (by decide +kernel) rfl rfl
theorem e79_32 : WP sa (EV sa d) 79 Q k z 32 L (.ref a :: st) (n, K, FI, FL, FR, AI, AL, AR) = (K a = (1, 5) ∧ WP sa (EV sa d) 79 Q k z 35 L (.long (FL 326 a) :: st) (n, K, FI, FL, FR, AI, AL, AR)) := wp_getL (idx := 56) (by decide +kernel) rfl pj_5_56 (by decide) rfl rfl
theorem e79_35 : WP sa (EV sa d) 79 Q k z 35 [x0, x1, .int u] st μ = WP sa (EV sa d) 79 Q k z 36 [x0, x1, .int u] (.int u :: st) μ := wp_p (ins := .iload_n 2) (by decide +kernel) rfl rfl
theorem e79_36 : WP sa (EV sa d) 79 Q k z 36 L (.int u1 :: .long w0 :: st) μ = (st.length ≤ 4 ∧ EV sa d 97 [.long w0, .int u1] μ (fun v μ => WP sa (EV sa d) 79 Q k z 39 L (v.toList ++ st) μ)) := wp_S (idx := 68) (by decide +kernel) rfl pj_5_68 rfl rfl
theorem e79_39 : WP sa (EV sa d) 79 Q k z 39 [x0, .ref a, x2] st μ = WP sa (EV sa d) 79 Q k z 40 [x0, .ref a, x2] (.ref a :: st) μ := wp_p (ins := .aload_n 1) (by decide +kernel) rfl rfl
theorem e79_40 : WP sa (EV sa d) 79 Q k z 40 [x0, x1, .int u] st μ = WP sa (EV sa d) 79 Q k z 41 [x0, x1, .int u] (.int u :: st) μ := wp_p (ins := .iload_n 2) (by decide +kernel) rfl rfl
theorem e79_41 : WP sa (EV sa d) 79 Q k z 41 L (.int u0 :: .ref a :: st) μ = (st.length ≤ 4 ∧ EV sa d 277 [.ref a, .int u0] μ (fun v μ => WP sa (EV sa d) 79 Q k z 44 L (v.toList ++ st) μ)) := wp_V (idx := 74) (by decide +kernel) rfl pj_5_74 rfl rfl
theorem e79_44 : WP sa (EV sa d) 79 Q k z 44 L st μ = WP sa (EV sa d) 79 Q k z 46 L (.int 97 :: st) μ := wp_p (ins := .bipush 97) (by decide +kernel) rfl rfl
theorem e79_46 : WP sa (EV sa d) 79 Q k z 46 L (.int v :: .int u :: st) μ = WP sa (EV sa d) 79 Q k z 47 L (.int (u - v) :: st) μ := wp_p (ins := .isub) (by decide +kernel) rfl rfl
theorem e79_47 : WP sa (EV sa d) 79 Q k z 47 L st μ = WP sa (EV sa d) 79 Q k z 48 L (.int 1 :: st) μ := wp_p (ins := .iconst 1) (by decide +kernel) rfl rfl
theorem e79_48 : WP sa (EV sa d) 79 Q k z 48 L (.int v :: .int u :: st) μ = WP sa (EV sa d) 79 Q k z 49 L (.int (u + v) :: st) μ := wp_p (ins := .iadd) (by decide +kernel) rfl rfl
theorem e79_49 : WP sa (EV sa d) 79 Q k z 49 L (.int v :: .int u :: st) μ = ((u = v → WP sa (EV sa d) 79 Q k z 54 L st μ) ∧ (¬ u = v → WP sa (EV sa d) 79 Q k z 52 L st μ)) := wp_b (ins := .if_icmp .eq 5) (by decide +kernel) rfl rfl (by decide)
theorem e79_52 : WP sa (EV sa d) 79 Q k z 52 L st μ = WP sa (EV sa d) 79 Q k z 53 L (.int 0 :: st) μ := wp_p (ins := .iconst 0) (by decide +kernel) rfl rfl
theorem e79_53 : WP sa (EV sa d) 79 Q k z 53 L [.int u] μ = ((u = 0 ∨ u = 1) ∧ Q (some (.int u)) μ) := wp_rz (by decide +kernel) rfl
theorem e79_54 : WP sa (EV sa d) 79 Q k z 54 [x0, x1, .int u] st μ = WP sa (EV sa d) 79 Q k z 57 [x0, mj_kl x1, .int (u + 1)] st μ := wp_p (ins := .iinc 2 1) (by decide +kernel) rfl rfl
theorem e79_57 : WP sa (EV sa d) 79 Q k z 57 L st μ = WP sa (EV sa d) 79 Q k z 23 L st μ := wp_g (off := (-34)) (by decide +kernel) (by decide)
theorem e79_60 : WP sa (EV sa d) 79 Q k z 60 L st μ = WP sa (EV sa d) 79 Q k z 61 L (.int 1 :: st) μ := wp_p (ins := .iconst 1) (by decide +kernel) rfl rfl
theorem e79_61 : WP sa (EV sa d) 79 Q k z 61 L [.int u] μ = ((u = 0 ∨ u = 1) ∧ Q (some (.int u)) μ) := wp_rz (by decide +kernel) rfl
theorem e80_0 : WP sa (EV sa d) 80 Q k z 0 [.ref a] st μ = WP sa (EV sa d) 80 Q k z 1 [.ref a] (.ref a :: st) μ := wp_p (ins := .aload_n 0) (by decide +kernel) rfl rfl
theorem e80_1 : WP sa (EV sa d) 80 Q k z 1 L (.ref a :: st) (n, K, FI, FL, FR, AI, AL, AR) = (K a = (1, 5) ∧ WP sa (EV sa d) 80 Q k z 4 L (.int (FI 323 a) :: st) (n, K, FI, FL, FR, AI, AL, AR)) := wp_getI (idx := 37) (by decide +kernel) rfl pj_5_37 (by decide) (Or.inl rfl) rfl
theorem e80_4 : WP sa (EV sa d) 80 Q k z 4 L st μ = WP sa (EV sa d) 80 Q k z 5 L (.int 1 :: st) μ := wp_p (ins := .iconst 1) (by decide +kernel) rfl rfl
theorem e80_5 : WP sa (EV sa d) 80 Q k z 5 L (.int v :: .int u :: st) μ = ((¬ u = v → WP sa (EV sa d) 80 Q k z 66 L st μ) ∧ (¬ (¬ u = v) → WP sa (EV sa d) 80 Q k z 8 L st μ)) := wp_b (ins := .if_icmp .ne 61) (by decide +kernel) rfl rfl (by decide)
theorem e80_8 : WP sa (EV sa d) 80 Q k z 8 [.ref a] st μ = WP sa (EV sa d) 80 Q k z 9 [.ref a] (.ref a :: st) μ := wp_p (ins := .aload_n 0) (by decide +kernel) rfl rfl
theorem e80_9 : WP sa (EV sa d) 80 Q k z 9 L st μ = WP sa (EV sa d) 80 Q k z 11 L (.ref (sa 0) :: st) μ := wp_cS (idx := 78) (by decide +kernel) rfl pj_5_78
theorem e80_11 : WP sa (EV sa d) 80 Q k z 11 L (.ref b0 :: .ref a :: st) μ = (st.length ≤ 4 ∧ EV sa d 79 [.ref a, .ref b0] μ (fun v μ => WP sa (EV sa d) 80 Q k z 14 L (v.toList ++ st) μ)) := wp_V (idx := 80) (by decide +kernel) rfl pj_5_80 rfl rfl
theorem e80_14 : WP sa (EV sa d) 80 Q k z 14 L (.int u :: st) μ = ((¬ u = 0 → WP sa (EV sa d) 80 Q k z 66 L st μ) ∧ (¬ (¬ u = 0) → WP sa (EV sa d) 80 Q k z 17 L st μ)) := wp_b (ins := .ifCond .ne 52) (by decide +kernel) rfl rfl (by decide)
theorem e80_17 : WP sa (EV sa d) 80 Q k z 17 [.ref a] st μ = WP sa (EV sa d) 80 Q k z 18 [.ref a] (.ref a :: st) μ := wp_p (ins := .aload_n 0) (by decide +kernel) rfl rfl
theorem e80_18 : WP sa (EV sa d) 80 Q k z 18 L st μ = WP sa (EV sa d) 80 Q k z 20 L (.ref (sa 1) :: st) μ := wp_cS (idx := 84) (by decide +kernel) rfl pj_5_84
theorem e80_20 : WP sa (EV sa d) 80 Q k z 20 L (.ref b0 :: .ref a :: st) μ = (st.length ≤ 4 ∧ EV sa d 79 [.ref a, .ref b0] μ (fun v μ => WP sa (EV sa d) 80 Q k z 23 L (v.toList ++ st) μ)) := wp_V (idx := 80) (by decide +kernel) rfl pj_5_80 rfl rfl
theorem e80_23 : WP sa (EV sa d) 80 Q k z 23 L (.int u :: st) μ = ((¬ u = 0 → WP sa (EV sa d) 80 Q k z 66 L st μ) ∧ (¬ (¬ u = 0) → WP sa (EV sa d) 80 Q k z 26 L st μ)) := wp_b (ins := .ifCond .ne 43) (by decide +kernel) rfl rfl (by decide)
theorem e80_26 : WP sa (EV sa d) 80 Q k z 26 [.ref a] st μ = WP sa (EV sa d) 80 Q k z 27 [.ref a] (.ref a :: st) μ := wp_p (ins := .aload_n 0) (by decide +kernel) rfl rfl
theorem e80_27 : WP sa (EV sa d) 80 Q k z 27 L st μ = WP sa (EV sa d) 80 Q k z 29 L (.ref (sa 2) :: st) μ := wp_cS (idx := 86) (by decide +kernel) rfl pj_5_86
theorem e80_29 : WP sa (EV sa d) 80 Q k z 29 L (.ref b0 :: .ref a :: st) μ = (st.length ≤ 4 ∧ EV sa d 79 [.ref a, .ref b0] μ (fun v μ => WP sa (EV sa d) 80 Q k z 32 L (v.toList ++ st) μ)) := wp_V (idx := 80) (by decide +kernel) rfl pj_5_80 rfl rfl
theorem e80_32 : WP sa (EV sa d) 80 Q k z 32 L (.int u :: st) μ = ((¬ u = 0 → WP sa (EV sa d) 80 Q k z 66 L st μ) ∧ (¬ (¬ u = 0) → WP sa (EV sa d) 80 Q k z 35 L st μ)) := wp_b (ins := .ifCond .ne 34) (by decide +kernel) rfl rfl (by decide)
theorem e80_35 : WP sa (EV sa d) 80 Q k z 35 [.ref a] st μ = WP sa (EV sa d) 80 Q k z 36 [.ref a] (.ref a :: st) μ := wp_p (ins := .aload_n 0) (by decide +kernel) rfl rfl
theorem e80_36 : WP sa (EV sa d) 80 Q k z 36 L st μ = WP sa (EV sa d) 80 Q k z 38 L (.ref (sa 4) :: st) μ := wp_cS (idx := 88) (by decide +kernel) rfl pj_5_88
theorem e80_38 : WP sa (EV sa d) 80 Q k z 38 L (.ref b0 :: .ref a :: st) μ = (st.length ≤ 4 ∧ EV sa d 79 [.ref a, .ref b0] μ (fun v μ => WP sa (EV sa d) 80 Q k z 41 L (v.toList ++ st) μ)) := wp_V (idx := 80) (by decide +kernel) rfl pj_5_80 rfl rfl
theorem e80_41 : WP sa (EV sa d) 80 Q k z 41 L (.int u :: st) μ = ((¬ u = 0 → WP sa (EV sa d) 80 Q k z 66 L st μ) ∧ (¬ (¬ u = 0) → WP sa (EV sa d) 80 Q k z 44 L st μ)) := wp_b (ins := .ifCond .ne 25) (by decide +kernel) rfl rfl (by decide)
theorem e80_44 : WP sa (EV sa d) 80 Q k z 44 [.ref a] st μ = WP sa (EV sa d) 80 Q k z 45 [.ref a] (.ref a :: st) μ := wp_p (ins := .aload_n 0) (by decide +kernel) rfl rfl
theorem e80_45 : WP sa (EV sa d) 80 Q k z 45 L st μ = WP sa (EV sa d) 80 Q k z 47 L (.ref (sa 3) :: st) μ := wp_cS (idx := 90) (by decide +kernel) rfl pj_5_90
theorem e80_47 : WP sa (EV sa d) 80 Q k z 47 L (.ref b0 :: .ref a :: st) μ = (st.length ≤ 4 ∧ EV sa d 79 [.ref a, .ref b0] μ (fun v μ => WP sa (EV sa d) 80 Q k z 50 L (v.toList ++ st) μ)) := wp_V (idx := 80) (by decide +kernel) rfl pj_5_80 rfl rfl
theorem e80_50 : WP sa (EV sa d) 80 Q k z 50 L (.int u :: st) μ = ((¬ u = 0 → WP sa (EV sa d) 80 Q k z 66 L st μ) ∧ (¬ (¬ u = 0) → WP sa (EV sa d) 80 Q k z 53 L st μ)) := wp_b (ins := .ifCond .ne 16) (by decide +kernel) rfl rfl (by decide)
theorem e80_53 : WP sa (EV sa d) 80 Q k z 53 [.ref a] st μ = WP sa (EV sa d) 80 Q k z 54 [.ref a] (.ref a :: st) μ := wp_p (ins := .aload_n 0) (by decide +kernel) rfl rfl
theorem e80_54 : WP sa (EV sa d) 80 Q k z 54 L st μ = WP sa (EV sa d) 80 Q k z 56 L (.ref (sa 5) :: st) μ := wp_cS (idx := 92) (by decide +kernel) rfl pj_5_92
theorem e80_56 : WP sa (EV sa d) 80 Q k z 56 L (.ref b0 :: .ref a :: st) μ = (st.length ≤ 4 ∧ EV sa d 79 [.ref a, .ref b0] μ (fun v μ => WP sa (EV sa d) 80 Q k z 59 L (v.toList ++ st) μ)) := wp_V (idx := 80) (by decide +kernel) rfl pj_5_80 rfl rfl
theorem e80_59 : WP sa (EV sa d) 80 Q k z 59 L (.int u :: st) μ = ((¬ u = 0 → WP sa (EV sa d) 80 Q k z 66 L st μ) ∧ (¬ (¬ u = 0) → WP sa (EV sa d) 80 Q k z 62 L st μ)) := wp_b (ins := .ifCond .ne 7) (by decide +kernel) rfl rfl (by decide)
theorem e80_62 : WP sa (EV sa d) 80 Q k z 62 L st μ = WP sa (EV sa d) 80 Q k z 63 L (.int 1 :: st) μ := wp_p (ins := .iconst 1) (by decide +kernel) rfl rfl
theorem e80_63 : WP sa (EV sa d) 80 Q k z 63 L st μ = WP sa (EV sa d) 80 Q k z 67 L st μ := wp_g (off := 4) (by decide +kernel) (by decide)
theorem e80_66 : WP sa (EV sa d) 80 Q k z 66 L st μ = WP sa (EV sa d) 80 Q k z 67 L (.int 0 :: st) μ := wp_p (ins := .iconst 0) (by decide +kernel) rfl rfl
theorem e80_67 : WP sa (EV sa d) 80 Q k z 67 L [.int u] μ = ((u = 0 ∨ u = 1) ∧ Q (some (.int u)) μ) := wp_rz (by decide +kernel) rfl
end
