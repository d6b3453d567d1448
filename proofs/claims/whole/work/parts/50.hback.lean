section
variable {sa : Nat → Nat} {d n t h m : Nat} {Q : mj_Q} {K : Nat → Nat × Nat} {FI : Nat → Nat → Int32} {FL : Nat → Nat → Int64} {FR : Nat → Nat → Option Nat} {AI : Nat → Nat → Int32} {AL : Nat → Nat → Int64} {AR : Nat → Nat → Option Nat} {w : Wl} {hs : Nat → Hg}
theorem c_readFrom (hH : HungS K FR h) (hT : ToldS K FR t) (ht : FR 0 h = some t) (hw : wOK w) (hTR : ToldR FI AI AL t w) (hF : FI 2 h = nI (wF w)) (sep : t + 13 < h + 15 ∨ h + 22 < t) {a : Nat} {sh pd : Nat → Int32} (ha : K a = (2, 37)) (hsep : a < h + 15 ∨ h + 22 < a) (hK : KeptR (AI a) w hs m sh pd) (hQ : ∀ FI' AI' : Nat → Nat → Int32, HC K FR FI' AI' AL h t w hs m → SP AI' h sh pd → FIx FI FI' h [1, 3, 12] → AIx AI AI' (h + 15) (h + 21) → Q none (n, K, FI', FL, FR, AI', AL, AR)) : EV sa (d + 2) 8 [.ref h, .ref a] (n, K, FI, FL, FR, AI, AL, AR) Q := by
  obtain ⟨k0, ⟨f4, k15⟩, ⟨f5, k16⟩, ⟨f6, k17⟩, ⟨f7, k18⟩, -, ⟨f9, k20⟩, ⟨f10, k21⟩, -⟩ := id hH
  obtain ⟨q1, q2, q3, q4⟩ := hK
  have hs7 : (7 : Int32) = nI 7 := rfl
  have hs5 : (5 : Int32) = nI 5 := rfl
  have hs32 : (32 : Int32) = nI 32 := rfl
  have kt := hT.1
  have hn4 := hw.2.2.2.1
  generalize hF1 : mj_u2 FI 1 h (nI m) = F1
  have F11 : F1 1 h = nI m := by rw [← hF1]; exact mj_u2_s
  have F1x : FIx FI F1 h [1] := fun f q hq => by
    rw [← hF1]
    refine if_neg fun z => ?_
    obtain ⟨rfl, rfl⟩ := z
    simp at hq
  have loop : ∀ rr i, i + rr = m → ∀ B : Nat → Nat → Int32, AIx AI B (h + 15) (h + 21) → SP B h sh pd → (∀ k, k < i → B (h + 15) k = nI (gB (hs k)) ∧ B (h + 16) k = nI (wW w * gY (hs k) + gX (hs k)) ∧ B (h + 17) k = gR (hs k) ∧ Mk (B (h + 18) k) (covg w (hs k))) → ∀ x3 : Value, WP sa (EV sa (d + 1)) 8 Q 0 0 40 [.ref h, .ref a, .int (nI i), x3] [] (n, K, F1, FL, FR, B, AL, AR) := by
    intro rr
    induction rr with
    | zero =>
      intro i hi B h1 h2 h3 x3
      have hi' : i = m := by omega
      subst hi'
      rw [e8_40]
      simp only [e8_0, e8_1, e8_2, e8_3, e8_4, e8_5, e8_7, e8_10, e8_13, e8_16, e8_17, e8_18, e8_19, e8_22, e8_23, e8_24, e8_27, e8_28, e8_29, e8_30, e8_33, e8_34, e8_35, e8_38, e8_39, e8_41, e8_42, e8_45, e8_48, e8_49, e8_51, e8_52, e8_53, e8_54, e8_55, e8_56, e8_57, e8_58, e8_61, e8_62, e8_63, e8_65, e8_66, e8_67, e8_68, e8_69, e8_70, e8_72, e8_73, e8_74, e8_75, e8_78, e8_79, e8_80, e8_82, e8_83, e8_84, e8_85, e8_88, e8_89, e8_90, e8_92, e8_93, e8_94, e8_95, e8_98, e8_99, e8_100, e8_103, e8_104, e8_107, e8_108, e8_109, e8_110, e8_113, e8_114, e8_115, e8_118, e8_119, e8_122, e8_125, e8_126, e8_129, k0, F11, true_and]
      refine ⟨fun _ => ⟨by simp, ?_⟩, fun q => absurd (nI_le (Nat.le_refl _) (by omega)) q⟩
      refine c_look (w := w) (hs := hs) (m := i) hH hT ht hn4 (fun b hb => ?_) sep ⟨F11, q2, ?_, fun k hk => ?_⟩ fun FI' AI' a1 a2 a3 a4 => ?_
      · rw [h1 (t + 1) (by omega)]
        exact ⟨(hTR.2.1 b hb).1, (hw.2.2.2.2.2.2.1 b hb).1⟩
      · rw [F1x 2 h (by simp)]; exact hF
      · obtain ⟨g1, g2, g3, g4⟩ := h3 k hk
        exact ⟨(q4 k hk).1, g1, g2, g3, g4⟩
      · simp only [tl_none, e8_0, e8_1, e8_2, e8_3, e8_4, e8_5, e8_7, e8_10, e8_13, e8_16, e8_17, e8_18, e8_19, e8_22, e8_23, e8_24, e8_27, e8_28, e8_29, e8_30, e8_33, e8_34, e8_35, e8_38, e8_39, e8_41, e8_42, e8_45, e8_48, e8_49, e8_51, e8_52, e8_53, e8_54, e8_55, e8_56, e8_57, e8_58, e8_61, e8_62, e8_63, e8_65, e8_66, e8_67, e8_68, e8_69, e8_70, e8_72, e8_73, e8_74, e8_75, e8_78, e8_79, e8_80, e8_82, e8_83, e8_84, e8_85, e8_88, e8_89, e8_90, e8_92, e8_93, e8_94, e8_95, e8_98, e8_99, e8_100, e8_103, e8_104, e8_107, e8_108, e8_109, e8_110, e8_113, e8_114, e8_115, e8_118, e8_119, e8_122, e8_125, e8_126, e8_129]
        have ax : AIx AI AI' (h + 15) (h + 21) := fun q hq => by rw [a4 q (by omega), h1 q hq]
        have fx : FIx FI FI' h [1, 3, 12] := (F1x.trans a3).sub (by simp)
        refine hQ FI' AI' ?_ ?_ fx ax
        · exact ⟨hH, hT, ht, hw, ToldR.frame (lo := h + 15) (hi := h + 21) hTR fx (hH.ne hT) ax (fun q _ _ => rfl) (by omega), a1, Or.inl a2, sep⟩
        · intro r hr
          rw [a4 (h + 20) (by omega), a4 (h + 21) (by omega)]
          exact h2 r hr
    | succ rr ih =>
      intro i hi B h1 h2 h3 x3
      have hin : vp_in (nI i) 30 := vp_in_nI (by omega) (by decide)
      have hcl : (nI i).toNatClampNeg = i := nI_clamp (by omega)
      have hin7 : vp_in (nI (7 + i)) 37 := vp_in_nI (by omega) (by decide)
      have hcl7 : (nI (7 + i)).toNatClampNeg = 7 + i := nI_clamp (by omega)
      obtain ⟨go, j, hj, ej, ek⟩ := q4 i (by omega)
      obtain ⟨c1, c2⟩ := corner_lt hw go
      have hgb : gB (hs i) < wNB w := go.1
      generalize hcn : wW w * gY (hs i) + gX (hs i) = cn at *
      have Ba : B a = AI a := h1 a (by omega)
      have d1 : nI ((32 * gB (hs i) + cn) * 5 + j) / nI 5 = nI (32 * gB (hs i) + cn) := by
        rw [pk_div (by omega) (by omega) (by omega)]
        congr 1
        omega
      have d2 : nI ((32 * gB (hs i) + cn) * 5 + j) - nI (32 * gB (hs i) + cn) * nI 5 + -2 = gR (hs i) := by
        have e := pk_rem (a := (32 * gB (hs i) + cn) * 5 + j) (d := 5) (by omega) (by omega) (by omega)
        rw [d1] at e
        rw [e, ej, show ((32 * gB (hs i) + cn) * 5 + j) % 5 = j by omega, Int32.sub_eq_add_neg]
      have d3 : nI (32 * gB (hs i) + cn) / nI 32 = nI (gB (hs i)) := by
        rw [pk_div (by omega) (by omega) (by omega)]
        congr 1
        omega
      have d4 : nI (32 * gB (hs i) + cn) - nI (gB (hs i)) * nI 32 = nI cn := by
        have e := pk_rem (a := 32 * gB (hs i) + cn) (d := 32) (by omega) (by omega) (by omega)
        rw [d3] at e
        rw [e]
        congr 1
        omega
      have n5 : ¬ nI 5 = 0 := by decide
      have n32 : ¬ nI 32 = 0 := by decide
      have hbin : vp_in (nI (gB (hs i))) 4 := vp_in_nI (by omega) (by decide)
      have hbcl : (nI (gB (hs i))).toNatClampNeg = gB (hs i) := nI_clamp (by omega)
      have u7 : ∀ (X : Nat → Nat → Int32) (q z : Nat) (x : Int32), h + 15 ≤ q → q ≤ h + 21 → mj_u2 X q z x a = X a := fun X q z x z1 z2 => by funext y; exact mj_u2_1 (by omega)
      rw [e8_40]
      simp only [e8_0, e8_1, e8_2, e8_3, e8_4, e8_5, e8_7, e8_10, e8_13, e8_16, e8_17, e8_18, e8_19, e8_22, e8_23, e8_24, e8_27, e8_28, e8_29, e8_30, e8_33, e8_34, e8_35, e8_38, e8_39, e8_41, e8_42, e8_45, e8_48, e8_49, e8_51, e8_52, e8_53, e8_54, e8_55, e8_56, e8_57, e8_58, e8_61, e8_62, e8_63, e8_65, e8_66, e8_67, e8_68, e8_69, e8_70, e8_72, e8_73, e8_74, e8_75, e8_78, e8_79, e8_80, e8_82, e8_83, e8_84, e8_85, e8_88, e8_89, e8_90, e8_92, e8_93, e8_94, e8_95, e8_98, e8_99, e8_100, e8_103, e8_104, e8_107, e8_108, e8_109, e8_110, e8_113, e8_114, e8_115, e8_118, e8_119, e8_122, e8_125, e8_126, e8_129, k0, F11, f4, f5, f6, f7, k15, k16, k17, k18, ha, ht, rf_some, hin, hcl, Ba, hs7, hs5, hs32, nI_add, hin7, hcl7, ek, d1, n5, n32, not_false_eq_true, true_and, true_or, mj_kl, u7 _ (h + 17) _ _ (by omega) (by omega)]
      simp only [d2, d3, d4]
      refine ⟨fun q => absurd q (nI_ge (by omega) (by omega)), fun _ => ?_⟩
      have e15 : mj_u2 (mj_u2 (mj_u2 B (h + 17) i (gR (hs i))) (h + 15) i (nI (gB (hs i)))) (h + 16) i (nI cn) (h + 15) i = nI (gB (hs i)) := by rw [mj_u2_1 (by omega), mj_u2_s]
      have e16 : mj_u2 (mj_u2 (mj_u2 B (h + 17) i (gR (hs i))) (h + 15) i (nI (gB (hs i)))) (h + 16) i (nI cn) (h + 16) i = nI cn := mj_u2_s
      simp only [e15, e16]
      refine ⟨by simp, c_cellsOf hT hbin ?_⟩
      have et : mj_u2 (mj_u2 (mj_u2 B (h + 17) i (gR (hs i))) (h + 15) i (nI (gB (hs i)))) (h + 16) i (nI cn) (t + 5) (gB (hs i)) = AI (t + 5) (gB (hs i)) := by
        rw [mj_u2_1 (by omega), mj_u2_1 (by omega), mj_u2_1 (by omega), h1 (t + 5) (by omega)]
      rw [hbcl, et]
      have hMk := Mk.cells hw go (hTR.2.1 _ hgb).2.2.2.2.1
      rw [hcn] at hMk
      simp only [tl_some, e8_0, e8_1, e8_2, e8_3, e8_4, e8_5, e8_7, e8_10, e8_13, e8_16, e8_17, e8_18, e8_19, e8_22, e8_23, e8_24, e8_27, e8_28, e8_29, e8_30, e8_33, e8_34, e8_35, e8_38, e8_39, e8_41, e8_42, e8_45, e8_48, e8_49, e8_51, e8_52, e8_53, e8_54, e8_55, e8_56, e8_57, e8_58, e8_61, e8_62, e8_63, e8_65, e8_66, e8_67, e8_68, e8_69, e8_70, e8_72, e8_73, e8_74, e8_75, e8_78, e8_79, e8_80, e8_82, e8_83, e8_84, e8_85, e8_88, e8_89, e8_90, e8_92, e8_93, e8_94, e8_95, e8_98, e8_99, e8_100, e8_103, e8_104, e8_107, e8_108, e8_109, e8_110, e8_113, e8_114, e8_115, e8_118, e8_119, e8_122, e8_125, e8_126, e8_129, k18, hin, hcl, true_and, nI_1, mj_kl]
      generalize AI (t + 5) (gB (hs i)) <<< (nI cn &&& 31) = own at *
      refine ih (i + 1) (by omega) _ ?_ ?_ ?_ _
      · intro q hq
        funext z
        rw [mj_u2_1 (by omega), mj_u2_1 (by omega), mj_u2_1 (by omega), mj_u2_1 (by omega), h1 q hq]
      · intro r hr
        rw [mj_u2_1 (by omega), mj_u2_1 (by omega), mj_u2_1 (by omega), mj_u2_1 (by omega), mj_u2_1 (by omega), mj_u2_1 (by omega), mj_u2_1 (by omega), mj_u2_1 (by omega)]
        exact h2 r hr
      · intro k hk
        by_cases e : k = i
        · subst e
          refine ⟨?_, ?_, ?_, ?_⟩
          · rw [mj_u2_1 (by omega)]; exact e15
          · rw [mj_u2_1 (by omega), hcn]; exact e16
          · rw [mj_u2_1 (by omega), mj_u2_1 (by omega), mj_u2_1 (by omega), mj_u2_s]
          · rw [mj_u2_s]; exact hMk
        · rw [mj_u2_2 e, mj_u2_2 e, mj_u2_2 e, mj_u2_2 e, mj_u2_2 e, mj_u2_2 e, mj_u2_2 e, mj_u2_2 e, mj_u2_2 e, mj_u2_2 e, mj_u2_2 e, mj_u2_2 e, mj_u2_2 e, mj_u2_2 e, mj_u2_2 e, mj_u2_2 e]
          exact h3 k (by omega)
  refine n8 k0 ?_
  have in0 : vp_in (0 : Int32) 37 := vp_in_nI (n := 0) (by decide) (by decide)
  have e1 : (if (30 : Int32) < nI m then (30 : Int32) else nI m) = nI m := if_neg (nI_nlt (a := 30) q2 (by omega))
  have e2 : (if (0 : Int32) < nI m then nI m else 0) = nI m := by
    split
    · rfl
    · next z =>
      have : m = 0 := by
        rcases Nat.eq_zero_or_pos m with y | y
        · exact y
        · exact absurd (nI_lt (a := 0) y (by omega)) z
      rw [this]; rfl
  simp only [e8_0, e8_1, e8_2, e8_3, e8_4, e8_5, e8_7, e8_10, e8_13, e8_16, e8_17, e8_18, e8_19, e8_22, e8_23, e8_24, e8_27, e8_28, e8_29, e8_30, e8_33, e8_34, e8_35, e8_38, e8_39, e8_41, e8_42, e8_45, e8_48, e8_49, e8_51, e8_52, e8_53, e8_54, e8_55, e8_56, e8_57, e8_58, e8_61, e8_62, e8_63, e8_65, e8_66, e8_67, e8_68, e8_69, e8_70, e8_72, e8_73, e8_74, e8_75, e8_78, e8_79, e8_80, e8_82, e8_83, e8_84, e8_85, e8_88, e8_89, e8_90, e8_92, e8_93, e8_94, e8_95, e8_98, e8_99, e8_100, e8_103, e8_104, e8_107, e8_108, e8_109, e8_110, e8_113, e8_114, e8_115, e8_118, e8_119, e8_122, e8_125, e8_126, e8_129, k0, ha, f9, f10, k20, k21, rf_some, in0, q1, e1, e2, cl0, cl1, cl3, cl4, ng0, ng1, ng3, ng4, not_false_eq_true, true_and, true_or, and_true, Nat.zero_add, Nat.le_refl, Nat.reduceAdd, Nat.reduceLeDiff, List.length_nil, List.length_cons, mj_kl, mj_u, Nat.zero_le, hF1]
  generalize hB : mj_cp (mj_cp AI a (h + 20) 1 0 3) a (h + 21) 4 0 3 = B
  have na : ¬ a = h + 20 := by omega
  have hBo : ∀ q, q ≠ h + 20 → q ≠ h + 21 → B q = AI q := fun q z1 z2 => by
    rw [← hB]
    simp only [mj_cp, if_neg z1, if_neg z2]
  have b20 : ∀ r, r < 3 → B (h + 20) r = AI a (1 + r) := fun r hr => by
    rw [← hB]
    simp only [mj_cp, if_neg (show ¬ h + 20 = h + 21 by omega), if_true, va_cpy]
    rw [if_pos (by omega), Nat.sub_zero]
  have b21 : ∀ r, r < 3 → B (h + 21) r = AI a (4 + r) := fun r hr => by
    rw [← hB]
    simp only [mj_cp, if_true, va_cpy, if_neg na]
    rw [if_pos (by omega), Nat.sub_zero]
  have := loop m 0 (by omega) B (fun q hq => hBo q (by omega) (by omega)) (fun r hr => by rw [b20 r hr, b21 r hr]; exact q3 r hr) (fun k hk => by omega) mj_u
  simpa [nI_0, mj_u] using this
end
