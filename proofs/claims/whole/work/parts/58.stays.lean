section
variable {sa : Nat → Nat} {d n t h m : Nat} {Q : mj_Q} {K : Nat → Nat × Nat} {FI : Nat → Nat → Int32} {FL : Nat → Nat → Int64} {FR : Nat → Nat → Option Nat} {AI : Nat → Nat → Int32} {AL : Nat → Nat → Int64} {AR : Nat → Nat → Option Nat} {w : Wl} {hs : Nat → Hg}
variable {q o : Nat}
theorem c_staysSeen (hS : RowS K FR q) (hO : HC K FR FI AI AL o t w hs m) (sep : q + 23 < o ∨ o + 22 < q) (sep2 : t + 13 < q ∨ q + 23 < t) {b c : Nat} (hm : mayAt w hs m b c = true) (hb : b < wNB w) (hc : c < 32) (hQ : ∀ (FI' AI' : Nat → Nat → Int32) (AL' : Nat → Nat → Int64), HC K (mj_u2 FR 0 (q + 1) (some t)) FI' AI' AL' o t w hs m → Fr q (q + 23) FI FI' AI AI' AL AL' → Q (some (.int (nI (stayN w hs m b c)))) (n, K, FI', FL, mj_u2 FR 0 (q + 1) (some t), AI', AL', AR)) : EV sa (d + 5) 37 [.ref q, .ref o, .int (nI b), .int (nI c)] (n, K, FI, FL, FR, AI, AL, AR) Q := by
  have hS' := hS.told (a := q + 1) (v := some t)
  have k0 := hS.1
  have f0 := hS'.2.1
  have hw := hO.2.2.2.1
  have hn4 := hw.2.2.2.1
  have h30 := hO.2.2.2.2.2.1.2.1
  have ho : onW w b (c % wW w) (c / wW w) ∧ m ≠ 30 := by
    have := mvp_on (w := w) (hs := hs) (m := m) (i := 32 * b + c) (by omega) (by unfold mvp; rwa [show (32 * b + c) / 32 = b by omega, show (32 * b + c) % 32 = c by omega])
    rwa [show (32 * b + c) / 32 = b by omega, show (32 * b + c) % 32 = c by omega] at this
  have hbin : vp_in (nI b) 4 := vp_in_nI (by omega) (by decide)
  have hbcl : (nI b).toNatClampNeg = b := nI_clamp (by omega)
  refine n37 hS.1 ?_
  simp only [e37_0, e37_1, e37_4, e37_5, e37_8, e37_9, e37_12, e37_13, e37_14, e37_16, e37_19, e37_20, e37_23, e37_26, e37_27, e37_28, e37_31, e37_33, e37_35, e37_38, e37_40, e37_41, e37_45, e37_46, e37_49, e37_52, e37_53, e37_56, e37_58, e37_61, e37_63, e37_66, e37_69, e37_72, e37_74, e37_75, e37_78, e37_81, e37_83, e37_86, e37_88, e37_91, e37_94, e37_95, e37_96, e37_97, e37_99, e37_101, e37_103, e37_106, e37_109, e37_111, e37_114, e37_117, e37_119, k0, hS.2.1, rf_some, true_and]
  refine ⟨by simp, C_hangAs hS.2.2 hO (by omega) (by omega) fun F1 A1 b1 b2 b3 b4 => ?_⟩
  have fr1 : Fr q (q + 23) FI F1 AI A1 AL AL := fun a ha => ⟨fun f => b3 f a (Or.inl (by omega)), b4 a (by omega), rfl⟩
  simp only [tl_none, e37_0, e37_1, e37_4, e37_5, e37_8, e37_9, e37_12, e37_13, e37_14, e37_16, e37_19, e37_20, e37_23, e37_26, e37_27, e37_28, e37_31, e37_33, e37_35, e37_38, e37_40, e37_41, e37_45, e37_46, e37_49, e37_52, e37_53, e37_56, e37_58, e37_61, e37_63, e37_66, e37_69, e37_72, e37_74, e37_75, e37_78, e37_81, e37_83, e37_86, e37_88, e37_91, e37_94, e37_95, e37_96, e37_97, e37_99, e37_101, e37_103, e37_106, e37_109, e37_111, e37_114, e37_117, e37_119, k0, f0, rf_some, true_and]
  refine ⟨by simp, ?_⟩
  have pt := C_put (sa := sa) (d := d + 2) (n := n) (FL := FL) (AR := AR) (Q := fun v μ => WP sa (EV sa (d + 4)) 37 Q 0 0 19 [.ref q, .ref o, .int (nI b), .int (nI c), mj_u, mj_u, mj_u, mj_u] (v.toList ++ []) μ) b1 (by omega) (r := -2) ho.1
  rw [Nat.div_add_mod] at pt
  unfold stayN at hQ
  generalize hh1 : puth hs m (b, c % wW w, c / wW w, -2) = hs1 at *
  have main : ∀ FI' AI' : Nat → Nat → Int32, HC K (mj_u2 FR 0 (q + 1) (some t)) FI' AI' AL (q + 1) t w hs1 (m + 1) → FIx F1 FI' (q + 1) [1, 3, 12] → AIx A1 AI' (q + 1 + 15) (q + 1 + 19) → WP sa (EV sa (d + 4)) 37 Q 0 0 19 [.ref q, .ref o, .int (nI b), .int (nI c), mj_u, mj_u, mj_u, mj_u] [] (n, K, FI', FL, mj_u2 FR 0 (q + 1) (some t), AI', AL, AR) := by
    intro F2 A2 g1 g2 g3
    have tx2 : TX F1 F2 A1 A2 AL AL (q + 1) := g2.toTX g3
    obtain ⟨gH, gT, gt, -, gTR, -⟩ := id g1
    have hMk : Mk (A2 (t + 5) b <<< (nI c &&& 31)) (cov w b (c % wW w) (c / wW w)) := by
      have := Mk.cells hw ho.1 (gTR.2.1 b hb).2.2.2.2.1
      rwa [Nat.div_add_mod] at this
    simp only [e37_0, e37_1, e37_4, e37_5, e37_8, e37_9, e37_12, e37_13, e37_14, e37_16, e37_19, e37_20, e37_23, e37_26, e37_27, e37_28, e37_31, e37_33, e37_35, e37_38, e37_40, e37_41, e37_45, e37_46, e37_49, e37_52, e37_53, e37_56, e37_58, e37_61, e37_63, e37_66, e37_69, e37_72, e37_74, e37_75, e37_78, e37_81, e37_83, e37_86, e37_88, e37_91, e37_94, e37_95, e37_96, e37_97, e37_99, e37_101, e37_103, e37_106, e37_109, e37_111, e37_114, e37_117, e37_119, k0, f0, rf_some, true_and, gH.1, gt]
    refine ⟨by simp, c_cellsOf gT hbin ?_⟩
    rw [hbcl]
    generalize A2 (t + 5) b <<< (nI c &&& 31) = own at *
    simp only [tl_some, e37_0, e37_1, e37_4, e37_5, e37_8, e37_9, e37_12, e37_13, e37_14, e37_16, e37_19, e37_20, e37_23, e37_26, e37_27, e37_28, e37_31, e37_33, e37_35, e37_38, e37_40, e37_41, e37_45, e37_46, e37_49, e37_52, e37_53, e37_56, e37_58, e37_61, e37_63, e37_66, e37_69, e37_72, e37_74, e37_75, e37_78, e37_81, e37_83, e37_86, e37_88, e37_91, e37_94, e37_95, e37_96, e37_97, e37_99, e37_101, e37_103, e37_106, e37_109, e37_111, e37_114, e37_117, e37_119, mj_kl]
    refine ⟨by simp, c_bitCount ?_⟩
    rw [Mk_ct hMk]
    generalize hp0 : mvp w hs1 (m + 1) = p at *
    have hp : ∀ i, mayAt w hs1 (m + 1) (i / 32) (i % 32) = p i := fun i => by rw [← hp0]; rfl
    generalize hg : (fun i => if p i then ct (fun z => cov w b (c % wW w) (c / wW w) z && !cov w (i / 32) (i % 32 % wW w) (i % 32 / wW w) z) 32 else 32) = g at hQ
    have hg' : ∀ i, g i = if p i then ct (fun z => cov w b (c % wW w) (c / wW w) z && !cov w (i / 32) (i % 32 % wW w) (i % 32 / wW w) z) 32 else 32 := fun i => by rw [← hg]
    have hT32 := ct_le (cov w b (c % wW w) (c / wW w)) 32
    generalize hT : ct (cov w b (c % wW w) (c / wW w)) 32 = T at *
    have loop : ∀ rr i, i + rr = 32 * wNB w → ∀ (F3 A3 : Nat → Nat → Int32) (L3 : Nat → Nat → Int64), HC K (mj_u2 FR 0 (q + 1) (some t)) F3 A3 L3 (q + 1) t w hs1 (m + 1) → TX F1 F3 A1 A3 AL L3 (q + 1) → ∀ x7 : Value, WP sa (EV sa (d + 4)) 37 Q 0 0 43 [.ref q, .ref o, .int (nI b), .int (nI c), .int own, .int (nI (mnm g T i)), .int (nI i), x7] [] (n, K, F3, FL, mj_u2 FR 0 (q + 1) (some t), A3, L3, AR) := by
      intro rr
      induction rr with
      | zero =>
        intro i hi F3 A3 L3 h1 h2 x7
        have hi' : i = 32 * wNB w := by omega
        subst hi'
        rw [e37_43]
        simp only [e37_0, e37_1, e37_4, e37_5, e37_8, e37_9, e37_12, e37_13, e37_14, e37_16, e37_19, e37_20, e37_23, e37_26, e37_27, e37_28, e37_31, e37_33, e37_35, e37_38, e37_40, e37_41, e37_45, e37_46, e37_49, e37_52, e37_53, e37_56, e37_58, e37_61, e37_63, e37_66, e37_69, e37_72, e37_74, e37_75, e37_78, e37_81, e37_83, e37_86, e37_88, e37_91, e37_94, e37_95, e37_96, e37_97, e37_99, e37_101, e37_103, e37_106, e37_109, e37_111, e37_114, e37_117, e37_119]
        refine ⟨by simp, c_moves hS' h1 ?_⟩
        simp only [tl_some, e37_0, e37_1, e37_4, e37_5, e37_8, e37_9, e37_12, e37_13, e37_14, e37_16, e37_19, e37_20, e37_23, e37_26, e37_27, e37_28, e37_31, e37_33, e37_35, e37_38, e37_40, e37_41, e37_45, e37_46, e37_49, e37_52, e37_53, e37_56, e37_58, e37_61, e37_63, e37_66, e37_69, e37_72, e37_74, e37_75, e37_78, e37_81, e37_83, e37_86, e37_88, e37_91, e37_94, e37_95, e37_96, e37_97, e37_99, e37_101, e37_103, e37_106, e37_109, e37_111, e37_114, e37_117, e37_119]
        exact ⟨fun _ => hQ F3 A3 L3 (b2.fr h2.toFr (by omega) (by omega)) (fr1.trans (h2.toFr.wide (by omega) (by omega))), fun z => absurd (nI_le (Nat.le_refl _) (by omega)) z⟩
      | succ rr ih =>
        intro i hi F3 A3 L3 h1 h2 x7
        have hmi : mnm g T (i + 1) = min (mnm g T i) (g i) := rfl
        have lt := mnm_le_top g T i
        have ibin : vp_in (nI (i / 32)) 4 := vp_in_nI (by omega) (by decide)
        have ibcl : (nI (i / 32)).toNatClampNeg = i / 32 := nI_clamp (by omega)
        rw [e37_43]
        simp only [e37_0, e37_1, e37_4, e37_5, e37_8, e37_9, e37_12, e37_13, e37_14, e37_16, e37_19, e37_20, e37_23, e37_26, e37_27, e37_28, e37_31, e37_33, e37_35, e37_38, e37_40, e37_41, e37_45, e37_46, e37_49, e37_52, e37_53, e37_56, e37_58, e37_61, e37_63, e37_66, e37_69, e37_72, e37_74, e37_75, e37_78, e37_81, e37_83, e37_86, e37_88, e37_91, e37_94, e37_95, e37_96, e37_97, e37_99, e37_101, e37_103, e37_106, e37_109, e37_111, e37_114, e37_117, e37_119]
        refine ⟨by simp, c_moves hS' h1 ?_⟩
        simp only [tl_some, e37_0, e37_1, e37_4, e37_5, e37_8, e37_9, e37_12, e37_13, e37_14, e37_16, e37_19, e37_20, e37_23, e37_26, e37_27, e37_28, e37_31, e37_33, e37_35, e37_38, e37_40, e37_41, e37_45, e37_46, e37_49, e37_52, e37_53, e37_56, e37_58, e37_61, e37_63, e37_66, e37_69, e37_72, e37_74, e37_75, e37_78, e37_81, e37_83, e37_86, e37_88, e37_91, e37_94, e37_95, e37_96, e37_97, e37_99, e37_101, e37_103, e37_106, e37_109, e37_111, e37_114, e37_117, e37_119, k0, f0, rf_some, true_and]
        refine ⟨fun z => absurd z (nI_ge (by omega) (by omega)), fun _ => ⟨by simp, c_billOf (by omega) ?_⟩⟩
        simp only [tl_some, e37_0, e37_1, e37_4, e37_5, e37_8, e37_9, e37_12, e37_13, e37_14, e37_16, e37_19, e37_20, e37_23, e37_26, e37_27, e37_28, e37_31, e37_33, e37_35, e37_38, e37_40, e37_41, e37_45, e37_46, e37_49, e37_52, e37_53, e37_56, e37_58, e37_61, e37_63, e37_66, e37_69, e37_72, e37_74, e37_75, e37_78, e37_81, e37_83, e37_86, e37_88, e37_91, e37_94, e37_95, e37_96, e37_97, e37_99, e37_101, e37_103, e37_106, e37_109, e37_111, e37_114, e37_117, e37_119]
        refine ⟨by simp, c_cornerOf (by omega) ?_⟩
        simp only [tl_some, e37_0, e37_1, e37_4, e37_5, e37_8, e37_9, e37_12, e37_13, e37_14, e37_16, e37_19, e37_20, e37_23, e37_26, e37_27, e37_28, e37_31, e37_33, e37_35, e37_38, e37_40, e37_41, e37_45, e37_46, e37_49, e37_52, e37_53, e37_56, e37_58, e37_61, e37_63, e37_66, e37_69, e37_72, e37_74, e37_75, e37_78, e37_81, e37_83, e37_86, e37_88, e37_91, e37_94, e37_95, e37_96, e37_97, e37_99, e37_101, e37_103, e37_106, e37_109, e37_111, e37_114, e37_117, e37_119]
        refine ⟨by simp, c_mayGo h1 (by omega) (by omega) fun F4 L4 a1 a2 => ?_⟩
        rw [hp i]
        have tx : TX F3 F4 A3 A3 L3 L4 (q + 1) := a2.toTX
        obtain ⟨aH, aT, at', -, aTR, -⟩ := id a1
        simp only [tl_some, e37_0, e37_1, e37_4, e37_5, e37_8, e37_9, e37_12, e37_13, e37_14, e37_16, e37_19, e37_20, e37_23, e37_26, e37_27, e37_28, e37_31, e37_33, e37_35, e37_38, e37_40, e37_41, e37_45, e37_46, e37_49, e37_52, e37_53, e37_56, e37_58, e37_61, e37_63, e37_66, e37_69, e37_72, e37_74, e37_75, e37_78, e37_81, e37_83, e37_86, e37_88, e37_91, e37_94, e37_95, e37_96, e37_97, e37_99, e37_101, e37_103, e37_106, e37_109, e37_111, e37_114, e37_117, e37_119, bI_eq0, nI_1, mj_kl, k0, f0, rf_some, true_and, aH.1, at']
        refine ⟨fun y => ?_, fun y => ⟨by simp, c_billOf (by omega) ?_⟩⟩
        · have gi : g i = 32 := by rw [hg', y]; rfl
          have := ih (i + 1) (by omega) F4 A3 L4 a1 (h2.trans tx) x7
          rw [hmi, gi, Nat.min_eq_left (by omega)] at this
          exact this
        · have y' : p i = true := by simpa using y
          have gi : g i = ct (fun z => cov w b (c % wW w) (c / wW w) z && !cov w (i / 32) (i % 32 % wW w) (i % 32 / wW w) z) 32 := by rw [hg', if_pos y']
          have oi := (mvp_on (w := w) (hs := hs1) (m := m + 1) (i := i) (by omega) (by rw [hp0]; exact y')).1
          have hMi : Mk (A3 (t + 5) (i / 32) <<< (nI (i % 32) &&& 31)) (cov w (i / 32) (i % 32 % wW w) (i % 32 / wW w)) := by
            have := Mk.cells hw oi (aTR.2.1 (i / 32) (by omega)).2.2.2.2.1
            rwa [Nat.div_add_mod] at this
          simp only [tl_some, e37_0, e37_1, e37_4, e37_5, e37_8, e37_9, e37_12, e37_13, e37_14, e37_16, e37_19, e37_20, e37_23, e37_26, e37_27, e37_28, e37_31, e37_33, e37_35, e37_38, e37_40, e37_41, e37_45, e37_46, e37_49, e37_52, e37_53, e37_56, e37_58, e37_61, e37_63, e37_66, e37_69, e37_72, e37_74, e37_75, e37_78, e37_81, e37_83, e37_86, e37_88, e37_91, e37_94, e37_95, e37_96, e37_97, e37_99, e37_101, e37_103, e37_106, e37_109, e37_111, e37_114, e37_117, e37_119]
          refine ⟨by simp, c_cornerOf (by omega) ?_⟩
          simp only [tl_some, e37_0, e37_1, e37_4, e37_5, e37_8, e37_9, e37_12, e37_13, e37_14, e37_16, e37_19, e37_20, e37_23, e37_26, e37_27, e37_28, e37_31, e37_33, e37_35, e37_38, e37_40, e37_41, e37_45, e37_46, e37_49, e37_52, e37_53, e37_56, e37_58, e37_61, e37_63, e37_66, e37_69, e37_72, e37_74, e37_75, e37_78, e37_81, e37_83, e37_86, e37_88, e37_91, e37_94, e37_95, e37_96, e37_97, e37_99, e37_101, e37_103, e37_106, e37_109, e37_111, e37_114, e37_117, e37_119]
          refine ⟨by simp, c_cellsOf aT ibin ?_⟩
          rw [ibcl]
          simp only [tl_some, e37_0, e37_1, e37_4, e37_5, e37_8, e37_9, e37_12, e37_13, e37_14, e37_16, e37_19, e37_20, e37_23, e37_26, e37_27, e37_28, e37_31, e37_33, e37_35, e37_38, e37_40, e37_41, e37_45, e37_46, e37_49, e37_52, e37_53, e37_56, e37_58, e37_61, e37_63, e37_66, e37_69, e37_72, e37_74, e37_75, e37_78, e37_81, e37_83, e37_86, e37_88, e37_91, e37_94, e37_95, e37_96, e37_97, e37_99, e37_101, e37_103, e37_106, e37_109, e37_111, e37_114, e37_117, e37_119, mj_kl]
          refine ⟨by simp, c_bitCount ?_⟩
          rw [Mk_ct (hMk.and hMi.not), ← gi]
          have gl : g i ≤ 32 := by rw [gi]; exact ct_le _ _
          have em : (if nI (g i) < nI (mnm g T i) then nI (g i) else nI (mnm g T i)) = nI (mnm g T (i + 1)) := by
            by_cases z : g i < mnm g T i
            · rw [if_pos (nI_lt z (by omega)), hmi]; congr 1; omega
            · rw [if_neg (nI_nlt (by omega) (by omega)), hmi]; congr 1; omega
          simp only [tl_some, e37_0, e37_1, e37_4, e37_5, e37_8, e37_9, e37_12, e37_13, e37_14, e37_16, e37_19, e37_20, e37_23, e37_26, e37_27, e37_28, e37_31, e37_33, e37_35, e37_38, e37_40, e37_41, e37_45, e37_46, e37_49, e37_52, e37_53, e37_56, e37_58, e37_61, e37_63, e37_66, e37_69, e37_72, e37_74, e37_75, e37_78, e37_81, e37_83, e37_86, e37_88, e37_91, e37_94, e37_95, e37_96, e37_97, e37_99, e37_101, e37_103, e37_106, e37_109, e37_111, e37_114, e37_117, e37_119, mj_kl, em, nI_1, List.length_nil, Nat.zero_le, true_and]
          exact ih (i + 1) (by omega) F4 A3 L4 a1 (h2.trans tx) _
    have := loop (32 * wNB w) 0 (by omega) F2 A2 AL g1 tx2 mj_u
    simp only [tl_some, e37_0, e37_1, e37_4, e37_5, e37_8, e37_9, e37_12, e37_13, e37_14, e37_16, e37_19, e37_20, e37_23, e37_26, e37_27, e37_28, e37_31, e37_33, e37_35, e37_38, e37_40, e37_41, e37_45, e37_46, e37_49, e37_52, e37_53, e37_56, e37_58, e37_61, e37_63, e37_66, e37_69, e37_72, e37_74, e37_75, e37_78, e37_81, e37_83, e37_86, e37_88, e37_91, e37_94, e37_95, e37_96, e37_97, e37_99, e37_101, e37_103, e37_106, e37_109, e37_111, e37_114, e37_117, e37_119, mj_kl]
    simpa [mnm, nI_0, mj_u, mj_kl] using this
  have pt' := pt fun FI' AI' a1 a2 a3 => by
    simp only [tl_none]
    exact main FI' AI' a1 a2 a3
  simp only [e37_19] at pt'
  exact pt'
theorem u2_same {FR : Nat → Nat → Option Nat} {k a : Nat} {v : Option Nat} (h : FR k a = v) : mj_u2 FR k a v = FR := by
  funext f b
  simp only [mj_u2]
  split
  · next z => obtain ⟨rfl, rfl⟩ := z; exact h.symm
  · rfl
end
