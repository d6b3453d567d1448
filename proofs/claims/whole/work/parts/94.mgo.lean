section
variable {sa : Nat → Nat} {d n t h m : Nat} {Q : mj_Q} {K : Nat → Nat × Nat} {FI : Nat → Nat → Int32} {FL : Nat → Nat → Int64} {FR : Nat → Nat → Option Nat} {AI : Nat → Nat → Int32} {AL : Nat → Nat → Int64} {AR : Nat → Nat → Option Nat} {w : Wl} {hs : Nat → Hg}
variable {a u q : Nat}
theorem c_makesWord (hV : MV K FR FI AI AL q a u w hs m) {b x y : Nat} (ho : onW w b x y) (hQ : ∀ (AI' : Nat → Nat → Int32) (AL' : Nat → Nat → Int64), MV K FR FI AI' AL' q a u w hs m → MX q u AI AI' AL AL' → Q (some (.int (bI (makes w hs m b x y)))) (n, K, FI, FL, FR, AI', AL', AR)) : EV sa (d + 4) 174 [.ref q, .ref a, .ref u, .int (nI b), .int (nI x), .int (nI y)] (n, K, FI, FL, FR, AI, AL, AR) Q := by
  obtain ⟨hD, hS, hw, hM, hH, hR, s1, s2⟩ := id hV
  obtain ⟨k0, -, ⟨f1, k2⟩⟩ := id hD
  obtain ⟨ka, -⟩ := id hS
  have w6 := hM.1.2.2.2.2.2.1
  obtain ⟨r1, r2, r3⟩ := id hR
  have hn6 := hw.2.2.2.2.2.1
  refine n174 k0 ?_
  simp only [e174_0, e174_1, e174_4, e174_6, e174_9, e174_10, e174_11, e174_12, e174_13, e174_14, e174_17, e174_18, e174_22, e174_23, e174_26, e174_29, e174_30, e174_33, e174_35, e174_36, e174_37, e174_38, e174_40, e174_43, e174_44, e174_47, e174_50, e174_51, e174_52, e174_53, e174_55, e174_57, e174_59, e174_62, e174_63, e174_64, e174_65, e174_68, e174_69, e174_71, e174_72, e174_76, e174_77, e174_80, e174_83, e174_85, e174_88, e174_89, e174_90, e174_91, e174_93, e174_96, e174_97, e174_100, e174_102, e174_103, e174_106, e174_107, e174_110, e174_111, e174_113, e174_116, e174_119, e174_120, e174_123, e174_125]
  refine ⟨by simp, c_many hH ?_⟩
  rw [r1]
  simp only [tl_some, e174_0, e174_1, e174_4, e174_6, e174_9, e174_10, e174_11, e174_12, e174_13, e174_14, e174_17, e174_18, e174_22, e174_23, e174_26, e174_29, e174_30, e174_33, e174_35, e174_36, e174_37, e174_38, e174_40, e174_43, e174_44, e174_47, e174_50, e174_51, e174_52, e174_53, e174_55, e174_57, e174_59, e174_62, e174_63, e174_64, e174_65, e174_68, e174_69, e174_71, e174_72, e174_76, e174_77, e174_80, e174_83, e174_85, e174_88, e174_89, e174_90, e174_91, e174_93, e174_96, e174_97, e174_100, e174_102, e174_103, e174_106, e174_107, e174_110, e174_111, e174_113, e174_116, e174_119, e174_120, e174_123, e174_125, show (30 : Int32) = nI 30 from rfl, nI_eq (show m < 2 ^ 31 by omega) (show 30 < 2 ^ 31 by decide), true_or, true_and]
  refine ⟨fun z => ⟨by simp, ?_⟩, fun z => ?_⟩
  · have hm : m < 30 := by omega
    refine c_looks hD hH (by omega) hR fun A0 t0 x0 => ?_
    have l1 : ∀ rr k, k + rr = wNW w → ∀ A : Nat → Nat → Int32, (∀ z, z ≠ q + 1 → z ≠ q + 2 → A z = AI z) → TopR A q w hs m → (∀ j, j < k → A (q + 2) j = nI (reads w hs m j)) → ∀ x7 : Value, WP sa (EV sa (d + 3)) 174 Q 0 0 20 [.ref q, .ref a, .ref u, .int (nI b), .int (nI x), .int (nI y), .int (nI k), x7] [] (n, K, FI, FL, FR, A, AL, AR) := by
      intro rr
      induction rr with
      | zero =>
        intro k hk A a1 a2 a3 x7
        have hk' : k = wNW w := by omega
        subst hk'
        have hR1 : MH A AL u w hs m := hR.fr (a1 _ (by omega) (by omega)) rfl
        have hM1 : MW FI A a w := hM.fr (fun _ => rfl) (fun j z1 z2 => a1 _ (by omega) (by omega))
        rw [e174_20]
        simp only [e174_0, e174_1, e174_4, e174_6, e174_9, e174_10, e174_11, e174_12, e174_13, e174_14, e174_17, e174_18, e174_22, e174_23, e174_26, e174_29, e174_30, e174_33, e174_35, e174_36, e174_37, e174_38, e174_40, e174_43, e174_44, e174_47, e174_50, e174_51, e174_52, e174_53, e174_55, e174_57, e174_59, e174_62, e174_63, e174_64, e174_65, e174_68, e174_69, e174_71, e174_72, e174_76, e174_77, e174_80, e174_83, e174_85, e174_88, e174_89, e174_90, e174_91, e174_93, e174_96, e174_97, e174_100, e174_102, e174_103, e174_106, e174_107, e174_110, e174_111, e174_113, e174_116, e174_119, e174_120, e174_123, e174_125, ka, w6, true_and]
        refine ⟨fun _ => ⟨by simp, ?_⟩, fun z => absurd (nI_le (Nat.le_refl _) (by omega)) z⟩
        refine c_adds hS hw hM1 hH (Or.inl s2) hR1 hm ho fun A2 L2 b1 b2 b3 b4 => ?_
        simp only [tl_none, e174_0, e174_1, e174_4, e174_6, e174_9, e174_10, e174_11, e174_12, e174_13, e174_14, e174_17, e174_18, e174_22, e174_23, e174_26, e174_29, e174_30, e174_33, e174_35, e174_36, e174_37, e174_38, e174_40, e174_43, e174_44, e174_47, e174_50, e174_51, e174_52, e174_53, e174_55, e174_57, e174_59, e174_62, e174_63, e174_64, e174_65, e174_68, e174_69, e174_71, e174_72, e174_76, e174_77, e174_80, e174_83, e174_85, e174_88, e174_89, e174_90, e174_91, e174_93, e174_96, e174_97, e174_100, e174_102, e174_103, e174_106, e174_107, e174_110, e174_111, e174_113, e174_116, e174_119, e174_120, e174_123, e174_125]
        refine ⟨by simp, c_looks hD hH (by omega) b1 fun A3 t3 x3 => ?_⟩
        have a3o : ∀ z, z ≠ q + 1 → z ≠ q + 2 → z ≠ u + 1 → A3 z = AI z := fun z z1 z2 z3 => by rw [x3 z (by omega), b3 z (by omega), a1 z z1 z2]
        have a3f : ∀ j, j < wNW w → A3 (q + 2) j = nI (reads w hs m j) := fun j hj => by rw [x3 _ (by omega), b3 _ (by omega), a3 j hj]
        have hR3 : MH A3 L2 u w (puth hs m (b, x, y, -2)) (m + 1) := b1.fr (x3 _ (by omega)) rfl
        have hV3 : MV K FR FI A3 L2 q a u w (puth hs m (b, x, y, -2)) (m + 1) := ⟨hD, hS, hw, hM.fr (fun _ => rfl) (fun j z1 z2 => a3o _ (by omega) (by omega) (by omega)), hH, hR3, s1, s2⟩
        have fin : ∀ (bb : Bool), bb = makes w hs m b x y → ∀ x7 : Value, WP sa (EV sa (d + 3)) 174 Q 0 0 119 [.ref q, .ref a, .ref u, .int (nI b), .int (nI x), .int (nI y), .int (bI bb), x7] [] (n, K, FI, FL, FR, A3, L2, AR) := by
          intro bb hb x7
          subst hb
          simp only [e174_0, e174_1, e174_4, e174_6, e174_9, e174_10, e174_11, e174_12, e174_13, e174_14, e174_17, e174_18, e174_22, e174_23, e174_26, e174_29, e174_30, e174_33, e174_35, e174_36, e174_37, e174_38, e174_40, e174_43, e174_44, e174_47, e174_50, e174_51, e174_52, e174_53, e174_55, e174_57, e174_59, e174_62, e174_63, e174_64, e174_65, e174_68, e174_69, e174_71, e174_72, e174_76, e174_77, e174_80, e174_83, e174_85, e174_88, e174_89, e174_90, e174_91, e174_93, e174_96, e174_97, e174_100, e174_102, e174_103, e174_106, e174_107, e174_110, e174_111, e174_113, e174_116, e174_119, e174_120, e174_123, e174_125]
          refine ⟨by simp, c_takesOff hH ?_⟩
          rw [hR3.1, nI_pred]
          simp only [tl_none, e174_0, e174_1, e174_4, e174_6, e174_9, e174_10, e174_11, e174_12, e174_13, e174_14, e174_17, e174_18, e174_22, e174_23, e174_26, e174_29, e174_30, e174_33, e174_35, e174_36, e174_37, e174_38, e174_40, e174_43, e174_44, e174_47, e174_50, e174_51, e174_52, e174_53, e174_55, e174_57, e174_59, e174_62, e174_63, e174_64, e174_65, e174_68, e174_69, e174_71, e174_72, e174_76, e174_77, e174_80, e174_83, e174_85, e174_88, e174_89, e174_90, e174_91, e174_93, e174_96, e174_97, e174_100, e174_102, e174_103, e174_106, e174_107, e174_110, e174_111, e174_113, e174_116, e174_119, e174_120, e174_123, e174_125]
          have hX : MX q u AI (mj_u2 A3 (u + 1) 0 (nI m)) AL L2 := ⟨fun z z1 z2 z3 => by funext j; rw [mj_u2_1 z3, a3o z z1 z2 z3], fun j hj => by rw [mj_u2_2 (by omega), x3 _ (by omega), b2 j hj, a1 _ (by omega) (by omega)], fun z hz => b4 z (by omega)⟩
          refine ⟨bI_01 _, hQ _ _ (hV.of hX (hR3.cut.congr fun k hk => puth_lt hk)) hX⟩
        have l2 : ∀ rr k, k + rr = wNW w → WP sa (EV sa (d + 3)) 174 Q 0 0 74 [.ref q, .ref a, .ref u, .int (nI b), .int (nI x), .int (nI y), .int (bI (ex (fun v => decide (reads w hs m v < reads w (puth hs m (b, x, y, -2)) (m + 1) v)) k)), .int (nI k)] [] (n, K, FI, FL, FR, A3, L2, AR) := by
          intro rr
          induction rr with
          | zero =>
            intro k hk
            have hk' : k = wNW w := by omega
            subst hk'
            rw [e174_74]
            simp only [e174_76, e174_77, e174_80, ka, w6, true_and]
            refine ⟨fun _ => fin _ ?_ _, fun z => absurd (nI_le (Nat.le_refl _) (by omega)) z⟩
            unfold makes
            rw [decide_eq_true (show m ≠ 30 by omega), Bool.true_and]
          | succ rr ih =>
            intro k hk
            have nx := ih (k + 1) (by omega)
            have kin : vp_in (nI k) 6 := vp_in_nI (by omega) (by decide)
            have kcl : (nI k).toNatClampNeg = k := nI_clamp (by omega)
            have hl1 : reads w hs m k ≤ 32 := Nat.le_trans (ct_le _ _) (Nat.mul_le_mul hw.1.2 hw.2.1.2)
            have hl2 : reads w (puth hs m (b, x, y, -2)) (m + 1) k ≤ 32 := Nat.le_trans (ct_le _ _) (Nat.mul_le_mul hw.1.2 hw.2.1.2)
            rw [e174_74]
            simp only [e174_0, e174_1, e174_4, e174_6, e174_9, e174_10, e174_11, e174_12, e174_13, e174_14, e174_17, e174_18, e174_22, e174_23, e174_26, e174_29, e174_30, e174_33, e174_35, e174_36, e174_37, e174_38, e174_40, e174_43, e174_44, e174_47, e174_50, e174_51, e174_52, e174_53, e174_55, e174_57, e174_59, e174_62, e174_63, e174_64, e174_65, e174_68, e174_69, e174_71, e174_72, e174_76, e174_77, e174_80, e174_83, e174_85, e174_88, e174_89, e174_90, e174_91, e174_93, e174_96, e174_97, e174_100, e174_102, e174_103, e174_106, e174_107, e174_110, e174_111, e174_113, e174_116, e174_120, e174_123, e174_125, ka, w6, bI_eq0, true_and]
            refine ⟨fun z => absurd z (nI_ge (by omega) (by omega)), fun _ => ⟨fun z => ?_, fun z => ⟨by simp, c_readsNow hV3 (fun c hc => t3 c hc) (by omega) ?_⟩⟩⟩
            · have z' : ex (fun v => decide (reads w hs m v < reads w (puth hs m (b, x, y, -2)) (m + 1) v)) k = true := by simpa using z
              simp only [nI_1, mj_kl]
              simpa [ex, z', bI, mj_kl] using nx
            · have z' : ex (fun v => decide (reads w hs m v < reads w (puth hs m (b, x, y, -2)) (m + 1) v)) k = false := by simpa using z
              simp only [tl_some, e174_0, e174_1, e174_4, e174_6, e174_9, e174_10, e174_11, e174_12, e174_13, e174_14, e174_17, e174_18, e174_22, e174_23, e174_26, e174_29, e174_30, e174_33, e174_35, e174_36, e174_37, e174_38, e174_40, e174_43, e174_44, e174_47, e174_50, e174_51, e174_52, e174_53, e174_55, e174_57, e174_59, e174_62, e174_63, e174_64, e174_65, e174_68, e174_69, e174_71, e174_72, e174_76, e174_77, e174_80, e174_83, e174_85, e174_88, e174_89, e174_90, e174_91, e174_93, e174_96, e174_97, e174_100, e174_102, e174_103, e174_106, e174_107, e174_110, e174_111, e174_113, e174_116, e174_120, e174_123, e174_125, k0, f1, k2, rf_some, kin, kcl, a3f k (by omega), nI_1, mj_kl, nI_leI (show reads w (puth hs m (b, x, y, -2)) (m + 1) k < 2 ^ 31 by omega) (show reads w hs m k < 2 ^ 31 by omega), true_and, true_or]
              refine ⟨fun y1 => ?_, fun y1 => ?_⟩
              · have e : ¬ reads w hs m k < reads w (puth hs m (b, x, y, -2)) (m + 1) k := by omega
                simpa [ex, z', e, bI, mj_kl] using nx
              · have e : reads w hs m k < reads w (puth hs m (b, x, y, -2)) (m + 1) k := by omega
                simpa [ex, z', e, bI, mj_kl] using nx
        have := l2 (wNW w) 0 (by omega)
        simpa [ex, bI, nI_0, mj_u, mj_kl] using this
      | succ rr ih =>
        intro k hk A a1 a2 a3 x7
        have kin : vp_in (nI k) 6 := vp_in_nI (by omega) (by decide)
        have kcl : (nI k).toNatClampNeg = k := nI_clamp (by omega)
        have hX : MX q u AI A AL AL := ⟨fun z z1 z2 _ => a1 z z1 z2, fun j _ => by rw [a1 _ (by omega) (by omega)], fun _ _ => rfl⟩
        have hVA := hV.of hX (hR.fr (a1 _ (by omega) (by omega)) rfl)
        rw [e174_20]
        simp only [e174_0, e174_1, e174_4, e174_6, e174_9, e174_10, e174_11, e174_12, e174_13, e174_14, e174_17, e174_18, e174_22, e174_23, e174_26, e174_29, e174_30, e174_33, e174_35, e174_36, e174_37, e174_38, e174_40, e174_43, e174_44, e174_47, e174_51, e174_52, e174_53, e174_55, e174_57, e174_59, e174_62, e174_63, e174_64, e174_65, e174_68, e174_69, e174_71, e174_72, e174_76, e174_77, e174_80, e174_83, e174_85, e174_88, e174_89, e174_90, e174_91, e174_93, e174_96, e174_97, e174_100, e174_102, e174_103, e174_106, e174_107, e174_110, e174_111, e174_113, e174_116, e174_119, e174_120, e174_123, e174_125, ka, k0, f1, rf_some, w6, true_and]
        refine ⟨fun z => absurd z (nI_ge (by omega) (by omega)), fun _ => ⟨by simp, c_readsNow hVA a2 (by omega) ?_⟩⟩
        simp only [tl_some, e174_0, e174_1, e174_4, e174_6, e174_9, e174_10, e174_11, e174_12, e174_13, e174_14, e174_17, e174_18, e174_22, e174_23, e174_26, e174_29, e174_30, e174_33, e174_35, e174_36, e174_37, e174_38, e174_40, e174_43, e174_44, e174_47, e174_51, e174_52, e174_53, e174_55, e174_57, e174_59, e174_62, e174_63, e174_64, e174_65, e174_68, e174_69, e174_71, e174_72, e174_76, e174_77, e174_80, e174_83, e174_85, e174_88, e174_89, e174_90, e174_91, e174_93, e174_96, e174_97, e174_100, e174_102, e174_103, e174_106, e174_107, e174_110, e174_111, e174_113, e174_116, e174_119, e174_120, e174_123, e174_125, k2, kin, kcl, nI_1, mj_kl, true_and]
        refine ih (k + 1) (by omega) _ (fun z z1 z2 => ?_) (fun c hc => ?_) (fun j hj => ?_) _
        · funext j
          rw [mj_u2_1 z2, a1 z z1 z2]
        · rw [mj_u2_1 (by omega)]
          exact a2 c hc
        · by_cases e : j = k
          · subst e; exact mj_u2_s
          · rw [mj_u2_2 e]; exact a3 j (by omega)
    simp only [tl_none, e174_0, e174_1, e174_4, e174_6, e174_9, e174_10, e174_11, e174_12, e174_13, e174_14, e174_17, e174_18, e174_22, e174_23, e174_26, e174_29, e174_30, e174_33, e174_35, e174_36, e174_37, e174_38, e174_40, e174_43, e174_44, e174_47, e174_50, e174_51, e174_52, e174_53, e174_55, e174_57, e174_59, e174_62, e174_63, e174_64, e174_65, e174_68, e174_69, e174_71, e174_72, e174_76, e174_77, e174_80, e174_83, e174_85, e174_88, e174_89, e174_90, e174_91, e174_93, e174_96, e174_97, e174_100, e174_102, e174_103, e174_106, e174_107, e174_110, e174_111, e174_113, e174_116, e174_119, e174_120, e174_123, e174_125]
    have := l1 (wNW w) 0 (by omega) A0 (fun z z1 _ => x0 z (by omega)) t0 (fun j hj => by omega) mj_u
    simpa [nI_0, mj_u, mj_kl] using this
  · have z' : m = 30 := by omega
    have e : makes w hs m b x y = false := by unfold makes; rw [decide_eq_false (fun q => q z'), Bool.false_and]
    have := hQ AI AL hV MX.rfl'
    rw [e] at this
    exact this
theorem c_mliesOn (hV : MV K FR FI AI AL q a u w hs m) {b x y : Nat} {hang : Bool} (ho : onW w b x y) (hQ : ∀ (AI' : Nat → Nat → Int32), MV K FR FI AI' AL q a u w hs m → MX q u AI AI' AL AL → Q (some (.int (nI (lies w hs m b x y hang)))) (n, K, FI, FL, FR, AI', AL, AR)) : EV sa (d + 3) 175 [.ref q, .ref a, .ref u, .int (nI b), .int (nI x), .int (nI y), .int (bI hang)] (n, K, FI, FL, FR, AI, AL, AR) Q := by
  obtain ⟨hD, hS, hw, hM, hH, hR, s1, s2⟩ := id hV
  obtain ⟨k0, -⟩ := id hD
  obtain ⟨ku, -, ⟨g1, ku2⟩⟩ := id hH
  have r2 := hR.2.1
  refine n175 k0 ?_
  simp only [e175_0, e175_1, e175_2, e175_4, e175_6, e175_9, e175_11, e175_13, e175_16, e175_17, e175_18, e175_19, e175_22, e175_23, e175_25, e175_26, e175_30, e175_31, e175_34, e175_37, e175_39, e175_41, e175_44, e175_45, e175_48, e175_50, e175_51, e175_54, e175_55, e175_57, e175_60, e175_62, e175_63, e175_64, e175_65, e175_68, e175_69, e175_72, e175_73, e175_74, e175_76, e175_79, e175_82, e175_84]
  refine ⟨by simp, c_mcells hS hw hM ho fun v hv => ?_⟩
  simp only [tl_some, e175_0, e175_1, e175_2, e175_4, e175_6, e175_9, e175_11, e175_13, e175_16, e175_17, e175_18, e175_19, e175_22, e175_23, e175_25, e175_26, e175_30, e175_31, e175_34, e175_37, e175_39, e175_41, e175_44, e175_45, e175_48, e175_50, e175_51, e175_54, e175_55, e175_57, e175_60, e175_62, e175_63, e175_64, e175_65, e175_68, e175_69, e175_72, e175_73, e175_74, e175_76, e175_79, e175_82, e175_84, mj_kl, bI_eq0]
  have loop : ∀ A : Nat → Nat → Int32, (∀ z, z ≠ q + 1 → A z = AI z) → (hang = false → TopR A q w hs m) → ∀ rr k, k + rr = m → WP sa (EV sa (d + 2)) 175 Q 0 0 28 [.ref q, .ref a, .ref u, .int (nI b), .int (nI x), .int (nI y), .int (bI hang), .long v, mj_u, .int (nI (ct (fun k => ex (fun c => cov w b x y c && (if hang then covg w (hs k) c else tp w hs m c == some k)) 32) k)), .int (nI k)] [] (n, K, FI, FL, FR, A, AL, AR) := by
    intro A a1 a2 rr
    have hR1 : MH A AL u w hs m := hR.fr (a1 _ (by omega)) rfl
    induction rr with
    | zero =>
      intro k hk
      have hk' : k = m := by omega
      subst hk'
      rw [e175_28]
      simp only [e175_0, e175_1, e175_2, e175_4, e175_6, e175_9, e175_11, e175_13, e175_16, e175_17, e175_18, e175_19, e175_22, e175_23, e175_25, e175_26, e175_30, e175_31, e175_34, e175_37, e175_39, e175_41, e175_44, e175_45, e175_48, e175_50, e175_51, e175_54, e175_55, e175_57, e175_60, e175_62, e175_63, e175_64, e175_65, e175_68, e175_69, e175_72, e175_73, e175_74, e175_76, e175_79, e175_82, e175_84]
      refine ⟨by simp, c_many hH ?_⟩
      rw [hR1.1]
      simp only [tl_some, e175_0, e175_1, e175_2, e175_4, e175_6, e175_9, e175_11, e175_13, e175_16, e175_17, e175_18, e175_19, e175_22, e175_23, e175_25, e175_26, e175_30, e175_31, e175_34, e175_37, e175_39, e175_41, e175_44, e175_45, e175_48, e175_50, e175_51, e175_54, e175_55, e175_57, e175_60, e175_62, e175_63, e175_64, e175_65, e175_68, e175_69, e175_72, e175_73, e175_74, e175_76, e175_79, e175_82, e175_84]
      have hX : MX q u AI A AL AL := ⟨fun z z1 _ _ => a1 z z1, fun j _ => by rw [a1 _ (by omega)], fun _ _ => rfl⟩
      exact ⟨fun _ => hQ A (hV.of hX hR1) hX, fun z => absurd (nI_le (Nat.le_refl _) (by omega)) z⟩
    | succ rr ih =>
      intro k hk
      have nx := ih (k + 1) (by omega)
      rw [ct_top] at nx
      have kin : vp_in (nI k) 30 := vp_in_nI (by omega) (by decide)
      have kcl : (nI k).toNatClampNeg = k := nI_clamp (by omega)
      rw [e175_28]
      simp only [e175_0, e175_1, e175_2, e175_4, e175_6, e175_9, e175_11, e175_13, e175_16, e175_17, e175_18, e175_19, e175_22, e175_23, e175_25, e175_26, e175_30, e175_31, e175_34, e175_37, e175_39, e175_41, e175_44, e175_45, e175_48, e175_50, e175_51, e175_54, e175_55, e175_57, e175_60, e175_62, e175_63, e175_64, e175_65, e175_68, e175_69, e175_72, e175_73, e175_74, e175_76, e175_79, e175_82, e175_84]
      refine ⟨by simp, c_many hH ?_⟩
      rw [hR1.1]
      simp only [tl_some, e175_0, e175_1, e175_2, e175_4, e175_6, e175_9, e175_11, e175_13, e175_16, e175_17, e175_18, e175_19, e175_22, e175_23, e175_25, e175_26, e175_30, e175_31, e175_34, e175_37, e175_39, e175_41, e175_44, e175_45, e175_48, e175_50, e175_51, e175_54, e175_55, e175_57, e175_60, e175_62, e175_63, e175_64, e175_65, e175_68, e175_69, e175_72, e175_73, e175_74, e175_76, e175_79, e175_82, e175_84, bI_eq0, ku, g1, ku2, rf_some, kin, kcl, nI_1, mj_kl, lg_cmp_0, true_and]
      refine ⟨fun z => absurd z (nI_ge (by omega) (by omega)), fun _ => ⟨fun z => ⟨by simp, ?_⟩, fun z => ?_⟩⟩
      · refine c_mseenOf hD (a2 z) r2 (by omega) fun v2 hv2 => ?_
        have e0 := (hv2.and hv).eq0
        simp only [tl_some, e175_0, e175_1, e175_2, e175_4, e175_6, e175_9, e175_11, e175_13, e175_16, e175_17, e175_18, e175_19, e175_22, e175_23, e175_25, e175_26, e175_30, e175_31, e175_34, e175_37, e175_39, e175_41, e175_44, e175_45, e175_48, e175_50, e175_51, e175_54, e175_55, e175_57, e175_60, e175_62, e175_63, e175_64, e175_65, e175_68, e175_69, e175_72, e175_73, e175_74, e175_76, e175_79, e175_82, e175_84, nI_1, mj_kl, lg_cmp_0, e0]
        have ee : ex (fun c => (tp w hs m c == some k) && cov w b x y c) 32 = ex (fun c => cov w b x y c && (if hang then covg w (hs k) c else tp w hs m c == some k)) 32 := ex_congr fun c _ => by rw [z, Bool.and_comm]; simp
        rw [ee]
        refine ⟨fun y1 => ?_, fun y1 => ?_⟩
        · simpa [y1, mj_u, mj_kl] using nx
        · have y2 : ex (fun c => cov w b x y c && (if hang then covg w (hs k) c else tp w hs m c == some k)) 32 = true := by simpa using y1
          simpa [y2, mj_u, mj_kl] using nx
      · have z' : hang = true := by simpa using z
        have e0 := ((hR1.2.2 k (by omega)).2.2.2.2.2.and hv).eq0
        rw [e0]
        have ee : ex (fun c => covg w (hs k) c && cov w b x y c) 32 = ex (fun c => cov w b x y c && (if hang then covg w (hs k) c else tp w hs m c == some k)) 32 := ex_congr fun c _ => by rw [z', Bool.and_comm]; simp
        rw [ee]
        refine ⟨fun y1 => ?_, fun y1 => ?_⟩
        · simpa [y1, mj_u, mj_kl] using nx
        · have y2 : ex (fun c => cov w b x y c && (if hang then covg w (hs k) c else tp w hs m c == some k)) 32 = true := by simpa using y1
          simpa [y2, mj_u, mj_kl] using nx
  refine ⟨fun z => ?_, fun z => ⟨by simp, ?_⟩⟩
  · have := loop AI (fun _ _ => rfl) (fun e => by rw [e] at z; simp at z) m 0 (by omega)
    simpa [nI_0, ct, mj_u, mj_kl] using this
  · refine c_looks hD hH (by omega) hR fun A t x' => ?_
    simp only [tl_none, e175_0, e175_1, e175_2, e175_4, e175_6, e175_9, e175_11, e175_13, e175_16, e175_17, e175_18, e175_19, e175_22, e175_23, e175_25, e175_26, e175_30, e175_31, e175_34, e175_37, e175_39, e175_41, e175_44, e175_45, e175_48, e175_50, e175_51, e175_54, e175_55, e175_57, e175_60, e175_62, e175_63, e175_64, e175_65, e175_68, e175_69, e175_72, e175_73, e175_74, e175_76, e175_79, e175_82, e175_84, mj_kl]
    have := loop A (fun z hz => x' z (by omega)) (fun _ => t) m 0 (by omega)
    simpa [nI_0, ct, mj_u, mj_kl] using this
theorem c_mcouldGo (hV : MV K FR FI AI AL q a u w hs m) {b x y k : Nat} {hang : Bool} (ho : onW w b x y) (hk : k < 100) (hQ : ∀ (AI' : Nat → Nat → Int32) (AL' : Nat → Nat → Int64), MV K FR FI AI' AL' q a u w hs m → MX q u AI AI' AL AL' → Q (some (.int (bI (could w hs m b x y k hang)))) (n, K, FI, FL, FR, AI', AL', AR)) : EV sa (d + 5) 176 [.ref q, .ref a, .ref u, .int (nI b), .int (nI x), .int (nI y), .int (nI k), .int (bI hang)] (n, K, FI, FL, FR, AI, AL, AR) Q := by
  obtain ⟨hD, hS, hw, hM, hH, hR, s1, s2⟩ := id hV
  obtain ⟨k0, -⟩ := id hD
  obtain ⟨ka, ⟨g1, ka1⟩, -⟩ := id hS
  obtain ⟨ku, ⟨h0, ku1⟩, -⟩ := id hH
  obtain ⟨r1, r2, r3⟩ := id hR
  have hn4 := hw.2.2.2.1
  have bin : vp_in (nI b) 4 := vp_in_nI (by have := ho.1; omega) (by decide)
  have bcl : (nI b).toNatClampNeg = b := nI_clamp (by have := ho.1; omega)
  have hkb := (hM.2.1 b ho.1).1
  have hk3 := (hw.2.2.2.2.2.2.1 b ho.1).1
  have no : could w hs m b x y k hang = false → Q (some (.int 0)) (n, K, FI, FL, FR, AI, AL, AR) := fun e => by
    have := hQ AI AL hV MX.rfl'
    rw [e] at this
    exact this
  refine n176 k0 ?_
  simp only [e176_0, e176_1, e176_4, e176_6, e176_9, e176_10, e176_11, e176_12, e176_16, e176_17, e176_20, e176_23, e176_24, e176_27, e176_28, e176_31, e176_32, e176_34, e176_35, e176_36, e176_37, e176_38, e176_41, e176_42, e176_43, e176_46, e176_49, e176_50, e176_51, e176_52, e176_53, e176_55, e176_57, e176_59, e176_62, e176_64, e176_67, e176_68, e176_71, e176_72, e176_73, e176_74, e176_77, e176_78, e176_79, e176_80, e176_81, e176_83, e176_85, e176_88, e176_91, e176_92, e176_95, e176_96]
  refine ⟨by simp, c_many hH ?_⟩
  rw [r1]
  simp only [tl_some, e176_0, e176_1, e176_4, e176_6, e176_9, e176_10, e176_11, e176_12, e176_16, e176_17, e176_20, e176_23, e176_24, e176_27, e176_28, e176_31, e176_32, e176_34, e176_35, e176_36, e176_37, e176_38, e176_41, e176_42, e176_43, e176_46, e176_49, e176_50, e176_51, e176_52, e176_53, e176_55, e176_57, e176_59, e176_62, e176_64, e176_67, e176_68, e176_71, e176_72, e176_73, e176_74, e176_77, e176_78, e176_79, e176_80, e176_81, e176_83, e176_85, e176_88, e176_91, e176_92, e176_95, e176_96, show (30 : Int32) = nI 30 from rfl, nI_eq (show m < 2 ^ 31 by omega) (show 30 < 2 ^ 31 by decide), true_or, true_and]
  refine ⟨fun hm => ?_, fun z => no (by unfold could; rw [decide_eq_false (fun q => z q)]; simp)⟩
  have loop : ∀ rr i, i + rr = m → (∀ j, j < i → wK w (gB (hs j)) ≠ 3) → WP sa (EV sa (d + 4)) 176 Q 0 0 14 [.ref q, .ref a, .ref u, .int (nI b), .int (nI x), .int (nI y), .int (nI k), .int (bI hang), .int (nI i)] [] (n, K, FI, FL, FR, AI, AL, AR) := by
    intro rr
    induction rr with
    | zero =>
      intro i hi hj
      have hi' : i = m := by omega
      subst hi'
      have hl : lastHangs w hs i = false := by
        unfold lastHangs
        rw [ex_false]
        intro j hj'
        simpa using hj j hj'
      rw [e176_14]
      simp only [e176_0, e176_1, e176_4, e176_6, e176_9, e176_10, e176_11, e176_12, e176_16, e176_17, e176_20, e176_23, e176_24, e176_27, e176_28, e176_31, e176_32, e176_34, e176_35, e176_36, e176_37, e176_38, e176_41, e176_42, e176_43, e176_46, e176_49, e176_50, e176_51, e176_52, e176_53, e176_55, e176_57, e176_59, e176_62, e176_64, e176_67, e176_68, e176_71, e176_72, e176_73, e176_74, e176_77, e176_78, e176_79, e176_80, e176_81, e176_83, e176_85, e176_88, e176_91, e176_92, e176_95, e176_96]
      refine ⟨by simp, c_many hH ?_⟩
      rw [r1]
      simp only [tl_some, e176_0, e176_1, e176_4, e176_6, e176_9, e176_10, e176_11, e176_12, e176_16, e176_17, e176_20, e176_23, e176_24, e176_27, e176_28, e176_31, e176_32, e176_34, e176_35, e176_36, e176_37, e176_38, e176_41, e176_42, e176_43, e176_46, e176_49, e176_50, e176_51, e176_52, e176_53, e176_55, e176_57, e176_59, e176_62, e176_64, e176_67, e176_68, e176_71, e176_72, e176_73, e176_74, e176_77, e176_78, e176_79, e176_80, e176_81, e176_83, e176_85, e176_88, e176_91, e176_92, e176_95, e176_96]
      refine ⟨fun _ => ⟨by simp, ?_⟩, fun z => absurd (nI_le (Nat.le_refl _) (by omega)) z⟩
      refine c_mliesOn hV ho fun A hVA hXA => ?_
      have hlc : lies w hs i b x y hang ≤ i := ct_le _ _
      have yes : lies w hs i b x y hang = k → ∀ bb, (wK w b != 2 || makes w hs i b x y) = bb → could w hs i b x y k hang = bb := fun e1 bb e2 => by
        unfold could
        rw [decide_eq_true hm, hl, e1, e2]
        simp
      have kA := (hVA.2.2.2.1.2.1 b ho.1).1
      simp only [tl_some, e176_0, e176_1, e176_4, e176_6, e176_9, e176_10, e176_11, e176_12, e176_16, e176_17, e176_20, e176_23, e176_24, e176_27, e176_28, e176_31, e176_32, e176_34, e176_35, e176_36, e176_37, e176_38, e176_41, e176_42, e176_43, e176_46, e176_49, e176_50, e176_51, e176_52, e176_53, e176_55, e176_57, e176_59, e176_62, e176_64, e176_67, e176_68, e176_71, e176_72, e176_73, e176_74, e176_77, e176_78, e176_79, e176_80, e176_81, e176_83, e176_85, e176_88, e176_91, e176_92, e176_95, e176_96, ka, g1, ka1, rf_some, bin, bcl, kA, show (2 : Int32) = nI 2 from rfl, nI_eq (show lies w hs i b x y hang < 2 ^ 31 by omega) (show k < 2 ^ 31 by omega), nI_eq (show wK w b < 2 ^ 31 by omega) (show 2 < 2 ^ 31 by decide), true_and, true_or, or_true]
      refine ⟨fun z => ?_, fun z => ⟨fun z2 => ?_, fun z2 => ⟨by simp, ?_⟩⟩⟩
      · have e : could w hs i b x y k hang = false := by
          unfold could
          have : (lies w hs i b x y hang == k) = false := by simpa using z
          rw [this]; simp
        have := hQ A AL hVA hXA
        rw [e] at this
        exact this
      · have := hQ A AL hVA hXA
        rw [yes (by omega) true (by simp [z2])] at this
        exact this
      · have z2' : wK w b = 2 := by omega
        refine c_makesWord hVA ho fun A2 L2 hV2 hX2 => ?_
        have := hQ A2 L2 hV2 (hXA.trans hX2)
        rw [yes (by omega) (makes w hs i b x y) (by simp [z2'])] at this
        simp only [tl_some, e176_0, e176_1, e176_4, e176_6, e176_9, e176_10, e176_11, e176_12, e176_16, e176_17, e176_20, e176_23, e176_24, e176_27, e176_28, e176_31, e176_32, e176_34, e176_35, e176_36, e176_37, e176_38, e176_41, e176_42, e176_43, e176_46, e176_49, e176_50, e176_51, e176_52, e176_53, e176_55, e176_57, e176_59, e176_62, e176_64, e176_67, e176_68, e176_71, e176_72, e176_73, e176_74, e176_77, e176_78, e176_79, e176_80, e176_81, e176_83, e176_85, e176_88, e176_91, e176_92, e176_95, e176_96, bI_eq0, true_or, or_true, true_and]
        refine ⟨fun z3 => ?_, fun z3 => ?_⟩
        · rw [z3] at this; exact this
        · rw [show makes w hs i b x y = true by simpa using z3] at this; exact this
    | succ rr ih =>
      intro i hi hj
      obtain ⟨g, e1, -⟩ := r3 i (by omega)
      have i1 : vp_in (nI (1 + i)) 127 := vp_in_nI (by omega) (by decide)
      have c1 : (nI (1 + i)).toNatClampNeg = 1 + i := nI_clamp (by omega)
      have hgb := g.1
      have ib : vp_in (nI (gB (hs i))) 4 := vp_in_nI (by omega) (by decide)
      have cb : (nI (gB (hs i))).toNatClampNeg = gB (hs i) := nI_clamp (by omega)
      have hki := (hM.2.1 _ hgb).1
      have hki3 := (hw.2.2.2.2.2.2.1 _ hgb).1
      rw [e176_14]
      simp only [e176_0, e176_1, e176_4, e176_6, e176_9, e176_10, e176_11, e176_12, e176_16, e176_17, e176_20, e176_23, e176_24, e176_27, e176_28, e176_31, e176_32, e176_34, e176_35, e176_36, e176_37, e176_38, e176_41, e176_42, e176_43, e176_46, e176_50, e176_51, e176_52, e176_53, e176_55, e176_57, e176_59, e176_62, e176_64, e176_67, e176_68, e176_71, e176_72, e176_73, e176_74, e176_77, e176_78, e176_79, e176_80, e176_81, e176_83, e176_85, e176_88, e176_91, e176_92, e176_95, e176_96]
      refine ⟨by simp, c_many hH ?_⟩
      rw [r1]
      simp only [tl_some, e176_0, e176_1, e176_4, e176_6, e176_9, e176_10, e176_11, e176_12, e176_16, e176_17, e176_20, e176_23, e176_24, e176_27, e176_28, e176_31, e176_32, e176_34, e176_35, e176_36, e176_37, e176_38, e176_41, e176_42, e176_43, e176_46, e176_50, e176_51, e176_52, e176_53, e176_55, e176_57, e176_59, e176_62, e176_64, e176_67, e176_68, e176_71, e176_72, e176_73, e176_74, e176_77, e176_78, e176_79, e176_80, e176_81, e176_83, e176_85, e176_88, e176_91, e176_92, e176_95, e176_96, ka, g1, ka1, ku, h0, ku1, rf_some, show (1 : Int32) = nI 1 from rfl, nI_add, i1, c1, e1, ib, cb, hki, show (3 : Int32) = nI 3 from rfl, nI_eq (show wK w (gB (hs i)) < 2 ^ 31 by omega) (show 3 < 2 ^ 31 by decide), true_and, true_or, mj_kl]
      refine ⟨fun z => absurd z (nI_ge (by omega) (by omega)), fun _ => ⟨fun z => ?_, fun z => ?_⟩⟩
      · refine ih (i + 1) (by omega) fun j h => ?_
        by_cases e : j = i
        · subst e; exact z
        · exact hj j (by omega)
      · refine no ?_
        have hl : lastHangs w hs m = true := by
          unfold lastHangs
          rw [ex_true]
          exact ⟨i, by omega, by simpa using z⟩
        unfold could
        rw [hl]; simp
  have := loop m 0 (by omega) (fun j h => by omega)
  simpa [nI_0, mj_u, mj_kl] using this
theorem c_mmayGo (hV : MV K FR FI AI AL q a u w hs m) {b x y : Nat} (ho : onW w b x y) (hQ : ∀ (AI' : Nat → Nat → Int32) (AL' : Nat → Nat → Int64), MV K FR FI AI' AL' q a u w hs m → MX q u AI AI' AL AL' → Q (some (.int (bI (may w hs m b x y)))) (n, K, FI, FL, FR, AI', AL', AR)) : EV sa (d + 6) 177 [.ref q, .ref a, .ref u, .int (nI b), .int (nI x), .int (nI y)] (n, K, FI, FL, FR, AI, AL, AR) Q := by
  obtain ⟨hD, hS, hw, hM, hH, hR, s1, s2⟩ := id hV
  obtain ⟨k0, -⟩ := id hD
  obtain ⟨ka, ⟨g1, ka1⟩, -⟩ := id hS
  have hn4 := hw.2.2.2.1
  have bin : vp_in (nI b) 4 := vp_in_nI (by have := ho.1; omega) (by decide)
  have bcl : (nI b).toNatClampNeg = b := nI_clamp (by have := ho.1; omega)
  have hkb := (hM.2.1 b ho.1).1
  have hk3 := (hw.2.2.2.2.2.2.1 b ho.1).1
  obtain ⟨-, -, w3, -, -, -, -, w8⟩ := hM.1
  have hL4 := hw.2.2.1
  refine n177 k0 ?_
  simp only [e177_0, e177_1, e177_2, e177_3, e177_4, e177_6, e177_8, e177_9, e177_12, e177_13, e177_16, e177_17, e177_18, e177_19, e177_22, e177_23, e177_26, e177_27, e177_28, e177_29, e177_32, e177_35, ka, g1, ka1, rf_some, bin, bcl, hkb, w3, w8, show (1 : Int32) = nI 1 from rfl, show (0 : Int32) = nI 0 from rfl, nI_add, nI_eq (show wK w b < 2 ^ 31 by omega) (show 1 < 2 ^ 31 by decide), true_and, true_or]
  have fin : ∀ k, k = wL w + (if wK w b = 1 then 1 else 0) → EV sa (d + 5) 176 [.ref q, .ref a, .ref u, .int (nI b), .int (nI x), .int (nI y), .int (nI k), .int (bI (wB w))] (n, K, FI, FL, FR, AI, AL, AR) (fun v μ' => WP sa (EV sa (d + 5)) 177 Q 0 0 35 [.ref q, .ref a, .ref u, .int (nI b), .int (nI x), .int (nI y)] (v.toList ++ []) μ') := by
    rintro k rfl
    refine c_mcouldGo hV ho (by split <;> omega) fun A L h1 h2 => ?_
    simp only [tl_some, e177_0, e177_1, e177_2, e177_3, e177_4, e177_6, e177_8, e177_9, e177_12, e177_13, e177_16, e177_17, e177_18, e177_19, e177_22, e177_23, e177_26, e177_27, e177_28, e177_29, e177_32, e177_35]
    exact ⟨bI_01 _, hQ A L h1 h2⟩
  refine ⟨fun z => ⟨by simp, fin (wL w + 0) (by rw [if_neg z])⟩, fun z => ⟨by simp, fin (wL w + 1) (by rw [if_pos (by omega)])⟩⟩
end
