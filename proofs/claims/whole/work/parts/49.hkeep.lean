section
variable {sa : Nat → Nat} {d n t h m : Nat} {Q : mj_Q} {K : Nat → Nat × Nat} {FI : Nat → Nat → Int32} {FL : Nat → Nat → Int64} {FR : Nat → Nat → Option Nat} {AI : Nat → Nat → Int32} {AL : Nat → Nat → Int64} {AR : Nat → Nat → Option Nat} {w : Wl} {hs : Nat → Hg}
theorem c_takeOut (hC : HC K FR FI AI AL h t w hs m) {g : Nat} (hg : g < m) (hQ : ∀ FI' AI' : Nat → Nat → Int32, HC K FR FI' AI' AL h t w (dropH hs g) (m - 1) → FIx FI FI' h [1, 3, 12] → AIx AI AI' (h + 15) (h + 19) → Q none (n, K, FI', FL, FR, AI', AL, AR)) : EV sa (d + 3) 5 [.ref h, .int (nI g)] (n, K, FI, FL, FR, AI, AL, AR) Q := by
  obtain ⟨hH, hT, ht, hw, hTR, hR, hL, sep⟩ := id hC
  obtain ⟨k0, ⟨f4, k15⟩, ⟨f5, k16⟩, ⟨f6, k17⟩, ⟨f7, k18⟩, -⟩ := id hH
  obtain ⟨r1, r2, r3, r4, r5⟩ := hR
  generalize hA : (fun (i : Nat) (q j : Nat) => if (h + 15 ≤ q ∧ q ≤ h + 18) ∧ g ≤ j ∧ j < i then AI q (j + 1) else AI q j) = A
  have hA' : ∀ i q j, A i q j = if (h + 15 ≤ q ∧ q ≤ h + 18) ∧ g ≤ j ∧ j < i then AI q (j + 1) else AI q j := fun i q j => by rw [← hA]
  have hA0 : A g = AI := by funext q j; rw [hA', if_neg (by omega)]
  have hAo : ∀ i q, (q < h + 15 ∨ h + 18 < q) → A i q = AI q := fun i q hq => by funext j; rw [hA', if_neg (by omega)]
  have loop : ∀ rr i, g ≤ i → i + rr + 1 = m → WP sa (EV sa (d + 2)) 5 Q 0 0 6 [.ref h, .int (nI g), .int (nI i)] [] (n, K, FI, FL, FR, A i, AL, AR) := by
    intro rr
    induction rr with
    | zero =>
      intro i hgi hi
      have hi' : i + 1 = m := by omega
      rw [e5_6]
      simp only [e5_0, e5_1, e5_2, e5_5, e5_7, e5_8, e5_9, e5_10, e5_13, e5_16, e5_17, e5_20, e5_21, e5_22, e5_25, e5_26, e5_27, e5_28, e5_29, e5_30, e5_31, e5_34, e5_35, e5_36, e5_39, e5_40, e5_41, e5_42, e5_43, e5_44, e5_45, e5_48, e5_49, e5_50, e5_53, e5_54, e5_55, e5_56, e5_57, e5_58, e5_59, e5_62, e5_63, e5_64, e5_67, e5_68, e5_69, e5_70, e5_71, e5_72, e5_75, e5_78, e5_79, e5_80, e5_83, e5_84, e5_85, e5_88, k0, r1, nI_1, true_and]
      refine ⟨fun _ => ⟨by simp, ?_⟩, fun q => absurd (nI_le (by omega) (by omega)) q⟩
      have em : nI m - 1 = nI (m - 1) := by
        obtain ⟨m', rfl⟩ : ∃ m', m = m' + 1 := ⟨m - 1, by omega⟩
        rw [nI_pred]; rfl
      rw [em]
      have hkd : ∀ b, b < wNB w → A i (t + 1) b = nI (wK w b) ∧ wK w b ≤ 3 := fun b hb => by
        rw [hAo i (t + 1) (by omega)]
        exact ⟨(hTR.2.1 b hb).1, (hw.2.2.2.2.2.2.1 b hb).1⟩
      refine c_cutTo (w := w) (hs := dropH hs g) (m := m) hH hT ht hw.2.2.2.1 hkd sep ⟨mj_u2_s, by omega, ?_, fun k hk => ?_⟩ r1 r2 (by omega) fun FI' AI' a1 a2 a3 a4 => ?_
      · rw [mj_u2_1 (by decide)]; exact r3
      · unfold dropH
        by_cases q : k < g
        · rw [if_pos q]
          obtain ⟨g1, g2, g3, g4, g5, -⟩ := r5 k (by omega)
          refine ⟨g1, ?_, ?_, ?_, ?_⟩
          · rw [hA', if_neg (by omega)]; exact g2
          · rw [hA', if_neg (by omega)]; exact g3
          · rw [hA', if_neg (by omega)]; exact g4
          · rw [hA', if_neg (by omega)]; exact g5
        · rw [if_neg q]
          obtain ⟨g1, g2, g3, g4, g5, -⟩ := r5 (k + 1) (by omega)
          refine ⟨g1, ?_, ?_, ?_, ?_⟩
          · rw [hA', if_pos (by omega)]; exact g2
          · rw [hA', if_pos (by omega)]; exact g3
          · rw [hA', if_pos (by omega)]; exact g4
          · rw [hA', if_pos (by omega)]; exact g5
      · simp only [tl_none, e5_0, e5_1, e5_2, e5_5, e5_7, e5_8, e5_9, e5_10, e5_13, e5_16, e5_17, e5_20, e5_21, e5_22, e5_25, e5_26, e5_27, e5_28, e5_29, e5_30, e5_31, e5_34, e5_35, e5_36, e5_39, e5_40, e5_41, e5_42, e5_43, e5_44, e5_45, e5_48, e5_49, e5_50, e5_53, e5_54, e5_55, e5_56, e5_57, e5_58, e5_59, e5_62, e5_63, e5_64, e5_67, e5_68, e5_69, e5_70, e5_71, e5_72, e5_75, e5_78, e5_79, e5_80, e5_83, e5_84, e5_85, e5_88]
        have ax : AIx AI AI' (h + 15) (h + 19) := fun q hq => by rw [a4 q (by omega), hAo i q (by omega)]
        exact hQ FI' AI' (hC.upd a1 a2 a3 (ax.wide (by omega) (by omega))) a3 ax
    | succ rr ih =>
      intro i hgi hi
      have hin : vp_in (nI i) 30 := vp_in_nI (by omega) (by decide)
      have hcl : (nI i).toNatClampNeg = i := nI_clamp (by omega)
      have hin1 : vp_in (nI (i + 1)) 30 := vp_in_nI (by omega) (by decide)
      have hcl1 : (nI (i + 1)).toNatClampNeg = i + 1 := nI_clamp (by omega)
      have z1 : ∀ q, A i q (i + 1) = AI q (i + 1) := fun q => by rw [hA', if_neg (by omega)]
      have u1 : ∀ (B : Nat → Nat → Int32) (a b : Nat) (x : Int32), a ≠ b → mj_u2 B a i x b (i + 1) = B b (i + 1) := fun B a b x hab => mj_u2_1 (fun e => hab e.symm)
      have eA : mj_u2 (mj_u2 (mj_u2 (mj_u2 (A i) (h + 15) i (AI (h + 15) (i + 1))) (h + 16) i (AI (h + 16) (i + 1))) (h + 17) i (AI (h + 17) (i + 1))) (h + 18) i (AI (h + 18) (i + 1)) = A (i + 1) := by
        funext q j
        simp only [mj_u2, hA']
        by_cases hj : j = i
        · subst hj
          simp only [and_true]
          by_cases q18 : q = h + 18
          · subst q18; rw [if_pos rfl, if_pos (by omega)]
          · rw [if_neg q18]
            by_cases q17 : q = h + 17
            · subst q17; rw [if_pos rfl, if_pos (by omega)]
            · rw [if_neg q17]
              by_cases q16 : q = h + 16
              · subst q16; rw [if_pos rfl, if_pos (by omega)]
              · rw [if_neg q16]
                by_cases q15 : q = h + 15
                · subst q15; rw [if_pos rfl, if_pos (by omega)]
                · rw [if_neg q15, if_neg (by omega), if_neg (by omega)]
        · simp only [hj, and_false, if_false]
          have : (g ≤ j ∧ j < i + 1) ↔ (g ≤ j ∧ j < i) := by omega
          simp only [this]
      rw [e5_6]
      simp only [e5_0, e5_1, e5_2, e5_5, e5_7, e5_8, e5_9, e5_10, e5_13, e5_16, e5_17, e5_20, e5_21, e5_22, e5_25, e5_26, e5_27, e5_28, e5_29, e5_30, e5_31, e5_34, e5_35, e5_36, e5_39, e5_40, e5_41, e5_42, e5_43, e5_44, e5_45, e5_48, e5_49, e5_50, e5_53, e5_54, e5_55, e5_56, e5_57, e5_58, e5_59, e5_62, e5_63, e5_64, e5_67, e5_68, e5_69, e5_70, e5_71, e5_72, e5_75, e5_78, e5_79, e5_80, e5_83, e5_84, e5_85, e5_88, k0, r1, f4, f5, f6, f7, k15, k16, k17, k18, rf_some, hin, hcl, hin1, hcl1, nI_1, true_and, true_or, mj_kl, z1, u1 _ (h + 15) (h + 16) _ (by omega), u1 _ (h + 16) (h + 17) _ (by omega), u1 _ (h + 15) (h + 17) _ (by omega), u1 _ (h + 17) (h + 18) _ (by omega), u1 _ (h + 16) (h + 18) _ (by omega), u1 _ (h + 15) (h + 18) _ (by omega), eA]
      exact ⟨fun q => absurd q (nI_ge (by omega) (by omega)), fun _ => ih (i + 1) (by omega) (by omega)⟩
  refine n5 k0 ?_
  simp only [e5_0, e5_1, e5_2, e5_5, e5_7, e5_8, e5_9, e5_10, e5_13, e5_16, e5_17, e5_20, e5_21, e5_22, e5_25, e5_26, e5_27, e5_28, e5_29, e5_30, e5_31, e5_34, e5_35, e5_36, e5_39, e5_40, e5_41, e5_42, e5_43, e5_44, e5_45, e5_48, e5_49, e5_50, e5_53, e5_54, e5_55, e5_56, e5_57, e5_58, e5_59, e5_62, e5_63, e5_64, e5_67, e5_68, e5_69, e5_70, e5_71, e5_72, e5_75, e5_78, e5_79, e5_80, e5_83, e5_84, e5_85, e5_88, mj_kl, mj_u]
  refine ⟨by simp, ?_⟩
  have := loop (m - 1 - g) g (Nat.le_refl _) (by omega)
  rw [hA0] at this
  have e0 : (if nI g < 0 then (0 : Int32) else nI g) = nI g := if_neg (nI_pos (by omega))
  rw [e0]
  exact this
/-- sheets and pay -/
def SP (AI : Nat → Nat → Int32) (h : Nat) (sh pd : Nat → Int32) : Prop := ∀ r, r < 3 → AI (h + 20) r = sh r ∧ AI (h + 21) r = pd r
/-- a state that is kept in an array -/
def KeptR (A : Nat → Int32) (w : Wl) (hs : Nat → Hg) (m : Nat) (sh pd : Nat → Int32) : Prop := A 0 = nI m ∧ m ≤ 30 ∧ (∀ r, r < 3 → A (1 + r) = sh r ∧ A (4 + r) = pd r) ∧ ∀ k, k < m → gOK w (hs k) ∧ ∃ j, j < 5 ∧ gR (hs k) = nI j - 2 ∧ A (7 + k) = nI ((32 * gB (hs k) + (wW w * gY (hs k) + gX (hs k))) * 5 + j)
def byOK (r : Int32) : Prop := ∃ j, j < 5 ∧ r = nI j - 2
theorem c_writeTo (hH : HungS K FR h) (hR : HungR FI AI h w hs m) {sh pd : Nat → Int32} (hS : SP AI h sh pd) (hby : ∀ k, k < m → byOK (gR (hs k))) {a : Nat} (ha : K a = (2, 37)) (hsep : a < h + 15 ∨ h + 22 < a) (hQ : ∀ AI' : Nat → Nat → Int32, KeptR (AI' a) w hs m sh pd → AIx AI AI' a a → Q none (n, K, FI, FL, FR, AI', AL, AR)) : EV sa (d + 1) 7 [.ref h, .ref a] (n, K, FI, FL, FR, AI, AL, AR) Q := by
  obtain ⟨k0, ⟨f4, k15⟩, ⟨f5, k16⟩, ⟨f6, k17⟩, -, -, ⟨f9, k20⟩, ⟨f10, k21⟩, -⟩ := id hH
  obtain ⟨r1, r2, r3, r4, r5⟩ := hR
  have hs7 : (7 : Int32) = nI 7 := rfl
  have loop : ∀ rr i, i + rr = m → ∀ B : Nat → Nat → Int32, AIx AI B a a → B a 0 = nI m → (∀ r, r < 3 → B a (1 + r) = sh r ∧ B a (4 + r) = pd r) → (∀ k, k < i → ∃ j, j < 5 ∧ gR (hs k) = nI j - 2 ∧ B a (7 + k) = nI ((32 * gB (hs k) + (wW w * gY (hs k) + gX (hs k))) * 5 + j)) → ∀ x3 : Value, WP sa (EV sa d) 7 Q 0 0 31 [.ref h, .ref a, .int (nI i), x3] [] (n, K, FI, FL, FR, B, AL, AR) := by
    intro rr
    induction rr with
    | zero =>
      intro i hi B h1 h2 h3 h4 x3
      have hi' : i = m := by omega
      subst hi'
      rw [e7_31]
      simp only [e7_0, e7_1, e7_2, e7_3, e7_6, e7_7, e7_8, e7_11, e7_12, e7_13, e7_14, e7_15, e7_18, e7_19, e7_22, e7_23, e7_24, e7_25, e7_26, e7_29, e7_30, e7_32, e7_33, e7_36, e7_39, e7_40, e7_43, e7_44, e7_45, e7_47, e7_48, e7_49, e7_52, e7_53, e7_54, e7_55, e7_56, e7_57, e7_59, e7_60, e7_61, e7_62, e7_63, e7_64, e7_65, e7_68, e7_69, e7_70, e7_71, e7_73, e7_74, e7_75, e7_78, e7_81, k0, r1, true_and]
      exact ⟨fun _ => hQ B ⟨h2, r2, h3, fun k hk => ⟨(r5 k hk).1, h4 k hk⟩⟩ h1, fun q => absurd (nI_le (Nat.le_refl _) (by omega)) q⟩
    | succ rr ih =>
      intro i hi B h1 h2 h3 h4 x3
      have hin : vp_in (nI i) 30 := vp_in_nI (by omega) (by decide)
      have hcl : (nI i).toNatClampNeg = i := nI_clamp (by omega)
      have hin7 : vp_in (nI (7 + i)) 37 := vp_in_nI (by omega) (by decide)
      have hcl7 : (nI (7 + i)).toNatClampNeg = 7 + i := nI_clamp (by omega)
      obtain ⟨g1, g2, g3, g4, -⟩ := r5 i (by omega)
      obtain ⟨j, hj, ej⟩ := hby i (by omega)
      have b15 : B (h + 15) = AI (h + 15) := h1 _ (by omega)
      have b16 : B (h + 16) = AI (h + 16) := h1 _ (by omega)
      have b17 : B (h + 17) = AI (h + 17) := h1 _ (by omega)
      have ev : (nI (gB (hs i)) * 32 + nI (wW w * gY (hs i) + gX (hs i))) * 5 + gR (hs i) - -2 = nI ((32 * gB (hs i) + (wW w * gY (hs i) + gX (hs i))) * 5 + j) := by
        rw [ej, show (32 : Int32) = nI 32 from rfl, show (5 : Int32) = nI 5 from rfl, pk_mul, nI_add, pk_mul, Nat.mul_comm (gB (hs i)) 32, ← nI_add]
        generalize nI ((32 * gB (hs i) + (wW w * gY (hs i) + gX (hs i))) * 5) = X
        generalize nI j = Y
        rw [show (-2 : Int32) = -(2 : Int32) from rfl, Int32.sub_neg, Int32.sub_eq_add_neg, ← Int32.add_assoc, Int32.add_assoc _ (-2) 2, show (-2 : Int32) + 2 = 0 from rfl, Int32.add_zero]
      rw [e7_31]
      simp only [e7_0, e7_1, e7_2, e7_3, e7_6, e7_7, e7_8, e7_11, e7_12, e7_13, e7_14, e7_15, e7_18, e7_19, e7_22, e7_23, e7_24, e7_25, e7_26, e7_29, e7_30, e7_32, e7_33, e7_36, e7_39, e7_40, e7_43, e7_44, e7_45, e7_47, e7_48, e7_49, e7_52, e7_53, e7_54, e7_55, e7_56, e7_57, e7_59, e7_60, e7_61, e7_62, e7_63, e7_64, e7_65, e7_68, e7_69, e7_70, e7_71, e7_73, e7_74, e7_75, e7_78, e7_81, k0, r1, f4, f5, f6, k15, k16, k17, ha, rf_some, hin, hcl, b15, b16, b17, g2, g3, g4, hs7, nI_add, hin7, hcl7, nI_1, true_and, true_or, mj_kl, ev]
      refine ⟨fun q => absurd q (nI_ge (by omega) (by omega)), fun _ => ih (i + 1) (by omega) _ ?_ ?_ ?_ ?_ _⟩
      · intro q hq
        funext z
        rw [mj_u2_1 (by omega), h1 q hq]
      · rw [mj_u2_2 (by omega)]; exact h2
      · intro r hr
        rw [mj_u2_2 (by omega), mj_u2_2 (by omega)]; exact h3 r hr
      · intro k hk
        by_cases e : k = i
        · subst e
          exact ⟨j, hj, ej, mj_u2_s⟩
        · rw [mj_u2_2 (by omega)]; exact h4 k (by omega)
  refine n7 k0 ?_
  have in0 : vp_in (0 : Int32) 37 := vp_in_nI (n := 0) (by decide) (by decide)
  simp only [e7_0, e7_1, e7_2, e7_3, e7_6, e7_7, e7_8, e7_11, e7_12, e7_13, e7_14, e7_15, e7_18, e7_19, e7_22, e7_23, e7_24, e7_25, e7_26, e7_29, e7_30, e7_32, e7_33, e7_36, e7_39, e7_40, e7_43, e7_44, e7_45, e7_47, e7_48, e7_49, e7_52, e7_53, e7_54, e7_55, e7_56, e7_57, e7_59, e7_60, e7_61, e7_62, e7_63, e7_64, e7_65, e7_68, e7_69, e7_70, e7_71, e7_73, e7_74, e7_75, e7_78, e7_81, k0, r1, f9, f10, k20, k21, ha, rf_some, in0, cl0, cl1, cl3, cl4, ng0, ng1, ng3, ng4, not_false_eq_true, true_and, true_or, and_true, Nat.zero_add, Nat.le_refl, Nat.reduceAdd, Nat.reduceLeDiff, List.length_nil, mj_kl, mj_u, Nat.zero_le]
  have ne20 : ¬ h + 20 = a := by omega
  have ne21 : ¬ h + 21 = a := by omega
  generalize hB : mj_cp (mj_cp (mj_u2 AI a 0 (nI m)) (h + 20) a 0 1 3) (h + 21) a 0 4 3 = B
  have hBa : ∀ q, q ≠ a → B q = AI q := fun q hq => by
    rw [← hB]
    funext z
    simp only [mj_cp, if_neg hq]
    exact mj_u2_1 hq
  have hBv : ∀ z, B a z = if 4 ≤ z ∧ z < 7 then AI (h + 21) (z - 4) else if 1 ≤ z ∧ z < 4 then AI (h + 20) (z - 1) else if z = 0 then nI m else AI a z := fun z => by
    rw [← hB]
    simp only [mj_cp, if_true, va_cpy, if_neg ne20, if_neg ne21, mj_u2]
    by_cases q1 : 4 ≤ z ∧ z < 7
    · rw [if_pos (by omega), if_pos q1, if_neg (by omega), Nat.zero_add]
    · rw [if_neg (by omega), if_neg q1]
      by_cases q2 : 1 ≤ z ∧ z < 4
      · rw [if_pos (by omega), if_pos q2, if_neg (by omega), Nat.zero_add]
      · rw [if_neg (by omega), if_neg q2]
        simp
  have := loop m 0 (by omega) B (fun q hq => hBa q (by omega)) (by rw [hBv, if_neg (by omega), if_neg (by omega), if_pos rfl]) (fun r hr => by
    rw [hBv, if_neg (by omega), if_pos (by omega), hBv, if_pos (by omega), show 1 + r - 1 = r by omega, show 4 + r - 4 = r by omega]
    exact hS r hr) (fun k hk => by omega) mj_u
  simpa [nI_0, mj_u] using this
end
