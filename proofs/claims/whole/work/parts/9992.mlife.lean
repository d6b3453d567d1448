section
variable {sa : Nat → Nat} {d n t h m : Nat} {Q : mj_Q} {K : Nat → Nat × Nat} {FI : Nat → Nat → Int32} {FL : Nat → Nat → Int64} {FR : Nat → Nat → Option Nat} {AI : Nat → Nat → Int32} {AL : Nat → Nat → Int64} {AR : Nat → Nat → Option Nat} {w : Wl} {hs : Nat → Hg}
variable {a u q : Nat} {P : PG}
theorem c_m_close (hV : InvM q P (n, K, FI, FL, FR, AI, AL, AR)) {r D : Int32} (hQ : ∀ μ', InvM q (rs P (sp_close P r D)) μ' → FrM q (n, K, FI, FL, FR, AI, AL, AR) μ' → Q (some (.int (rv (sp_close P r D)))) μ') : EV sa (d + 17) 262 [.ref q, .int r, .int D] (n, K, FI, FL, FR, AI, AL, AR) Q := by
  have hI0 : MInv q P n K FR FI AI AL := hV
  have k0 := hI0.1.1
  refine n262 k0 ?_
  simp only [e262_0, e262_1, e262_2, e262_5, e262_6, e262_7, e262_10, e262_13, e262_14, e262_15, e262_18, e262_19, e262_20, e262_21, e262_22, e262_25, e262_28, e262_29, e262_30, e262_33, e262_34, e262_35, e262_36, e262_39, e262_40, e262_42, e262_45, e262_46, e262_49, e262_52, e262_53, e262_54, e262_55, e262_56, e262_57, e262_60, e262_63, e262_65, e262_66, e262_67, e262_68, e262_71, e262_72, e262_75, e262_76, e262_79, e262_82, e262_84, e262_85, e262_86, e262_87, e262_88, e262_91, e262_93, e262_94, e262_97, e262_100, e262_101, e262_102, e262_103, e262_105, e262_108, e262_109, e262_110, e262_113, e262_116, e262_119, e262_120, e262_121, e262_124, k0, true_and]
  have hI := hI0.th (v := 0)
  have hF : FrM q (n, K, FI, FL, FR, AI, AL, AR) (n, K, mj_u2 FI 640 q 0, FL, FR, AI, AL, AR) := FrM.f
  generalize mj_u2 FI 640 q 0 = F at hI hF ⊢
  refine ⟨by simp, c_misRival hI ?_⟩
  simp only [tl_some, e262_0, e262_1, e262_2, e262_5, e262_6, e262_7, e262_10, e262_13, e262_14, e262_15, e262_18, e262_19, e262_20, e262_21, e262_22, e262_25, e262_28, e262_29, e262_30, e262_33, e262_34, e262_35, e262_36, e262_39, e262_40, e262_42, e262_45, e262_46, e262_49, e262_52, e262_53, e262_54, e262_55, e262_56, e262_57, e262_60, e262_63, e262_65, e262_66, e262_67, e262_68, e262_71, e262_72, e262_75, e262_76, e262_79, e262_82, e262_84, e262_85, e262_86, e262_87, e262_88, e262_91, e262_93, e262_94, e262_97, e262_100, e262_101, e262_102, e262_103, e262_105, e262_108, e262_109, e262_110, e262_113, e262_116, e262_119, e262_120, e262_121, e262_124, bI_eq0]
  refine ⟨fun z => ⟨by simp, c_min ?_⟩, fun z => ⟨by simp, c_mrefused k0 ?_⟩⟩
  · have hr1 := ts_nf z
    obtain ⟨s, es, er, hr, hr3, p1, p2, p3, p4⟩ := misR hI hr1
    obtain ⟨-, -, -, hWW⟩ := id hI
    rw [es] at hWW
    obtain ⟨a, hO, ha1, ha2, hSP, hE, -⟩ := hWW
    obtain ⟨j, hj20, ej⟩ := hE.2.2.2 r.toNatClampNeg hr3
    have esh : shN P r = j := by unfold shN; rw [p4, ej, nI_clamp (by omega)]
    have esp : sp_close P r D = (match rowsR P D (min (dN D) j) with
      | some k => .inl k
      | none => .inr (shrt P r (min (dN D) j))) := by
      unfold sp_close
      rw [if_pos hr1, esh]
      cases rowsR P D (min (dN D) j) <;> rfl
    have eR : rowsR P D (min (dN D) j) = (if D < 1 ∨ 4 < D then some 2 else if NRw s.1 (min (dN D) j) s.2.1.1 s.2.1.2.1 ≤ 20000 then none else some 3) := by unfold rowsR; rw [es, p1, p2, p3]; rfl
    generalize hrr : r.toNatClampNeg = R at *
    subst er
    have hr2 : nI R ≠ -2 := fun e => by
      have : nI R < 0 := by rw [e]; decide
      exact absurd this (nI_pos (by omega))
    have dd : dN D ≤ 4 := dN_4
    simp only [tl_some, e262_0, e262_1, e262_2, e262_5, e262_6, e262_7, e262_10, e262_13, e262_14, e262_15, e262_18, e262_19, e262_20, e262_21, e262_22, e262_25, e262_28, e262_29, e262_30, e262_33, e262_34, e262_35, e262_36, e262_39, e262_40, e262_42, e262_45, e262_46, e262_49, e262_52, e262_53, e262_54, e262_55, e262_56, e262_57, e262_60, e262_63, e262_65, e262_66, e262_67, e262_68, e262_71, e262_72, e262_75, e262_76, e262_79, e262_82, e262_84, e262_85, e262_86, e262_87, e262_88, e262_91, e262_93, e262_94, e262_97, e262_100, e262_101, e262_102, e262_103, e262_105, e262_108, e262_109, e262_110, e262_113, e262_116, e262_119, e262_120, e262_121, e262_124, bI_eq0, k0, true_and]
    refine ⟨fun z2 => ?_, fun z2 => ⟨by simp, c_mrefused k0 ?_⟩⟩
    · have z' := ts_nf z2
      rw [decide_eq_true_eq] at z'
      have hD : ¬ (D < 1 ∨ 4 < D) := fun y => y.elim (fun y => absurd z'.1 (Int32.not_le.mpr y)) (fun y => absurd z'.2 (Int32.not_le.mpr y))
      rw [if_neg hD] at eR
      have eD := dN_ok hD
      obtain ⟨ku, ⟨g0, ku1⟩, -⟩ := hO.1.2.2.2.2.1
      have in0 : vp_in (0 : Int32) 127 := vp_in_nI (n := 0) (by decide) (by decide)
      have i1 : vp_in (nI (121 + R)) 127 := vp_in_nI (by omega) (by decide)
      have c1 : (nI (121 + R)).toNatClampNeg = 121 + R := nI_clamp (by omega)
      have s1 : AI (a + 13 + 1) (121 + R) = nI j := by rw [(hSP R hr3).1]; exact ej
      simp only [e262_0, e262_1, e262_2, e262_5, e262_6, e262_7, e262_10, e262_13, e262_14, e262_15, e262_18, e262_19, e262_20, e262_21, e262_22, e262_25, e262_28, e262_29, e262_30, e262_33, e262_34, e262_35, e262_36, e262_39, e262_40, e262_42, e262_45, e262_46, e262_49, e262_52, e262_53, e262_54, e262_55, e262_56, e262_57, e262_60, e262_63, e262_65, e262_66, e262_67, e262_68, e262_71, e262_72, e262_75, e262_76, e262_79, e262_82, e262_84, e262_85, e262_86, e262_87, e262_88, e262_91, e262_93, e262_94, e262_97, e262_100, e262_101, e262_102, e262_103, e262_105, e262_108, e262_109, e262_110, e262_113, e262_116, e262_119, e262_120, e262_121, e262_124, hO.2.2, rf_some]
      refine ⟨by simp, c_many hO.1.2.2.2.2.1 ?_⟩
      rw [hO.mh.1]
      generalize hG : mj_u2 (mj_u2 F 668 q 0) 671 q (-2) = G
      have hX : MQx q (a + 13) F G AI AI AL AL := by rw [← hG]; exact (MQx.fi (by decide)).trans (MQx.fi (by decide))
      have G8 : G 668 q = nI 0 := by rw [← hG, mj_u2_1 (by decide), mj_u2_s]; rfl
      have G1 : G 671 q = oI none (-2) := by rw [← hG, mj_u2_s]; rfl
      have fin : ∀ k, k = min (dN D) j → EV sa (d + 16) 261 [.ref q, .int (nI R), .int (nI k), .int (nI 0)] (n, K, G, FL, FR, AI, AL, AR) (fun v μ' => WP sa (EV sa (d + 16)) 262 Q 0 0 91 [.ref q, .int (nI R), .int D, .int (nI s.2.1.2.1), mj_u] (v.toList ++ []) μ') := by
        intro k hk
        have go := fun QQ => c_goesFor (sa := sa) (d := d + (6 - k)) (n := n) (FL := FL) (AR := AR) (Q := QQ) hr2 k (len := 0) (c := 0) (ls := none) (hO.ofQ hX hO.mh) G8 (by omega) G1 (fun l hl => by cases hl) (by omega)
        rw [show d + (6 - k) + k + 10 = d + 16 by omega] at go
        refine go _ fun F2 A2 L2 bb g1 g2 g3 g4 => ?_
        obtain ⟨o1, o2⟩ := g1.same0
        have hX2 := (hX.trans g2).trans (o2.toMQ (FI := F2))
        have hI2 := hI.qq es hO.2.1 hX2 o1.mh
        have hF2 := hF.trans (hX2.frm (n := n) (K := K) (FL := FL) (FR := FR) (AR := AR) ha1)
        simp only [Nat.zero_add] at g3 g4
        rw [← hk] at eR esp
        simp only [tl_some, e262_0, e262_1, e262_2, e262_5, e262_6, e262_7, e262_10, e262_13, e262_14, e262_15, e262_18, e262_19, e262_20, e262_21, e262_22, e262_25, e262_28, e262_29, e262_30, e262_33, e262_34, e262_35, e262_36, e262_39, e262_40, e262_42, e262_45, e262_46, e262_49, e262_52, e262_53, e262_54, e262_55, e262_56, e262_57, e262_60, e262_63, e262_65, e262_66, e262_67, e262_68, e262_71, e262_72, e262_75, e262_76, e262_79, e262_82, e262_84, e262_85, e262_86, e262_87, e262_88, e262_91, e262_93, e262_94, e262_97, e262_100, e262_101, e262_102, e262_103, e262_105, e262_108, e262_109, e262_110, e262_113, e262_116, e262_119, e262_120, e262_121, e262_124, k0, g1.2.2, rf_some, ku, g0, ku1, in0, cl0, bI_eq0, mj_kl, true_and]
        refine ⟨fun y => ⟨by simp, c_mrefused k0 ?_⟩, fun y => ⟨by simp, ?_⟩⟩
        · have hn : ¬ NRw s.1 k s.2.1.1 s.2.1.2.1 ≤ 20000 := fun e => by rw [g3.mpr e] at y; cases y
          rw [if_neg hn] at eR
          simp only [tl_some, e262_0, e262_1, e262_2, e262_5, e262_6, e262_7, e262_10, e262_13, e262_14, e262_15, e262_18, e262_19, e262_20, e262_21, e262_22, e262_25, e262_28, e262_29, e262_30, e262_33, e262_34, e262_35, e262_36, e262_39, e262_40, e262_42, e262_45, e262_46, e262_49, e262_52, e262_53, e262_54, e262_55, e262_56, e262_57, e262_60, e262_63, e262_65, e262_66, e262_67, e262_68, e262_71, e262_72, e262_75, e262_76, e262_79, e262_82, e262_84, e262_85, e262_86, e262_87, e262_88, e262_91, e262_93, e262_94, e262_97, e262_100, e262_101, e262_102, e262_103, e262_105, e262_108, e262_109, e262_110, e262_113, e262_116, e262_119, e262_120, e262_121, e262_124]
          exact mrefQ hI2 hF2 hQ (k := 3) (by decide) (by rw [esp, eR])
        · have y2 := ts_nf y
          rw [if_pos (g3.mp y2)] at eR
          have r3 := (g4 y2).2
          have ev : F2 671 q = shrt P (nI R) k := by
            rw [r3]
            unfold shrt updL
            rw [p1, p2, p3]
            by_cases y3 : SRw s.1 (goalOf s.1 (nI R)) (nI R) k s.2.1.1 s.2.1.2.1 ≤ k
            · rw [if_pos y3, if_pos y3]
              simp only [minO, Nat.zero_add, oI]
            · rw [if_neg y3, if_neg y3]
              rfl
          rw [ev]
          refine c_mgood k0 ?_
          simp only [tl_some, e262_0, e262_1, e262_2, e262_5, e262_6, e262_7, e262_10, e262_13, e262_14, e262_15, e262_18, e262_19, e262_20, e262_21, e262_22, e262_25, e262_28, e262_29, e262_30, e262_33, e262_34, e262_35, e262_36, e262_39, e262_40, e262_42, e262_45, e262_46, e262_49, e262_52, e262_53, e262_54, e262_55, e262_56, e262_57, e262_60, e262_63, e262_65, e262_66, e262_67, e262_68, e262_71, e262_72, e262_75, e262_76, e262_79, e262_82, e262_84, e262_85, e262_86, e262_87, e262_88, e262_91, e262_93, e262_94, e262_97, e262_100, e262_101, e262_102, e262_103, e262_105, e262_108, e262_109, e262_110, e262_113, e262_116, e262_119, e262_120, e262_121, e262_124]
          exact mansQ hI2 hF2 hQ (by rw [esp, eR])
      simp only [tl_some, e262_0, e262_1, e262_2, e262_5, e262_6, e262_7, e262_10, e262_13, e262_14, e262_15, e262_18, e262_19, e262_20, e262_21, e262_22, e262_25, e262_28, e262_29, e262_30, e262_33, e262_34, e262_35, e262_36, e262_39, e262_40, e262_42, e262_45, e262_46, e262_49, e262_52, e262_53, e262_54, e262_55, e262_56, e262_57, e262_60, e262_63, e262_65, e262_66, e262_67, e262_68, e262_71, e262_72, e262_75, e262_76, e262_79, e262_82, e262_84, e262_85, e262_86, e262_87, e262_88, e262_91, e262_93, e262_94, e262_97, e262_100, e262_101, e262_102, e262_103, e262_105, e262_108, e262_109, e262_110, e262_113, e262_116, e262_119, e262_120, e262_121, e262_124, k0, hO.2.2, rf_some, ku, g0, ku1, show (121 : Int32) = nI 121 from rfl, nI_add, i1, c1, s1, mj_kl, true_and, true_or]
      rw [eD]
      simp only [nI_leI (show j < 2 ^ 31 by omega) (show dN D < 2 ^ 31 by omega)]
      rw [← eD]
      refine ⟨fun y => ⟨by simp, fin _ (by omega)⟩, fun y => ⟨by simp, ?_⟩⟩
      have := fin (dN D) (by omega)
      rw [← eD] at this
      exact this
    · have hD : D < 1 ∨ 4 < D := by
        by_cases y1 : D < 1
        · exact Or.inl y1
        · refine Or.inr (Int32.not_le.mp fun y2 => z2 ?_)
          simp [Int32.not_lt.mp y1, y2]
      rw [if_pos hD] at eR
      simp only [tl_some, e262_0, e262_1, e262_2, e262_5, e262_6, e262_7, e262_10, e262_13, e262_14, e262_15, e262_18, e262_19, e262_20, e262_21, e262_22, e262_25, e262_28, e262_29, e262_30, e262_33, e262_34, e262_35, e262_36, e262_39, e262_40, e262_42, e262_45, e262_46, e262_49, e262_52, e262_53, e262_54, e262_55, e262_56, e262_57, e262_60, e262_63, e262_65, e262_66, e262_67, e262_68, e262_71, e262_72, e262_75, e262_76, e262_79, e262_82, e262_84, e262_85, e262_86, e262_87, e262_88, e262_91, e262_93, e262_94, e262_97, e262_100, e262_101, e262_102, e262_103, e262_105, e262_108, e262_109, e262_110, e262_113, e262_116, e262_119, e262_120, e262_121, e262_124]
      exact mrefQ hI hF hQ (k := 2) (by decide) (by rw [esp, eR])
  · simp only [tl_some, e262_0, e262_1, e262_2, e262_5, e262_6, e262_7, e262_10, e262_13, e262_14, e262_15, e262_18, e262_19, e262_20, e262_21, e262_22, e262_25, e262_28, e262_29, e262_30, e262_33, e262_34, e262_35, e262_36, e262_39, e262_40, e262_42, e262_45, e262_46, e262_49, e262_52, e262_53, e262_54, e262_55, e262_56, e262_57, e262_60, e262_63, e262_65, e262_66, e262_67, e262_68, e262_71, e262_72, e262_75, e262_76, e262_79, e262_82, e262_84, e262_85, e262_86, e262_87, e262_88, e262_91, e262_93, e262_94, e262_97, e262_100, e262_101, e262_102, e262_103, e262_105, e262_108, e262_109, e262_110, e262_113, e262_116, e262_119, e262_120, e262_121, e262_124]
    exact mrefQ hI hF hQ (k := 1) (by decide) (by unfold sp_close; rw [if_neg (by simpa using z)])
theorem couldAt_30 {w : Wl} {hs : Nat → Hg} {m b c k : Nat} {hang : Bool} (h : couldAt w hs m b c k hang = true) : m ≠ 30 ∧ onAt w b c = true := by
  unfold couldAt at h
  obtain ⟨h1, h2⟩ := Bool.and_eq_true_iff.mp h
  refine ⟨fun e => ?_, h1⟩
  subst e
  simp [could] at h2
theorem c_firstPlace (hO : MO K FR FI AI AL q a w hs m) {b k : Nat} {hang : Bool} (hb : b < wNB w) (hk : k < 100) (hQ : ∀ (AI' : Nat → Nat → Int32) (AL' : Nat → Nat → Int64), MO K FR FI AI' AL' q a w hs m → MX q (a + 13) AI AI' AL AL' → Q (some (.int (oI (fnd (fun c => couldAt w hs m b c k hang) (wW w * wH w)) (-1)))) (n, K, FI, FL, FR, AI', AL', AR)) : EV sa (d + 6) 263 [.ref q, .int (nI b), .int (nI k), .int (bI hang)] (n, K, FI, FL, FR, AI, AL, AR) Q := by
  have k0 := hO.k
  have h32 := hO.c32
  have hW := hO.ok.1
  have nW : ¬ nI (wW w) = 0 := nI_ne0 (by omega) (by omega)
  have loop : ∀ rr c, c + rr = wW w * wH w → fnd (fun c => couldAt w hs m b c k hang) c = none → ∀ (A : Nat → Nat → Int32) (L : Nat → Nat → Int64), MO K FR FI A L q a w hs m → MX q (a + 13) AI A AL L → WP sa (EV sa (d + 5)) 263 Q 0 0 3 [.ref q, .int (nI b), .int (nI k), .int (bI hang), .int (nI c)] [] (n, K, FI, FL, FR, A, L, AR) := by
    intro rr
    induction rr with
    | zero =>
      intro c hc hf A L hA hX
      have hc' : c = wW w * wH w := by omega
      subst hc'
      rw [e263_3]
      simp only [e263_0, e263_1, e263_5, e263_6, e263_9, e263_12, e263_13, e263_14, e263_16, e263_19, e263_22, e263_23, e263_24, e263_27, e263_28, e263_31, e263_32, e263_34, e263_35, e263_38, e263_41, e263_42, e263_44, e263_45, e263_48, e263_51, e263_52, e263_53, e263_54, e263_57, e263_60, e263_62, e263_63, e263_66, e263_69, e263_70]
      refine ⟨by simp, c_mOcells hA ?_⟩
      simp only [tl_some, e263_0, e263_1, e263_5, e263_6, e263_9, e263_12, e263_13, e263_14, e263_16, e263_19, e263_22, e263_23, e263_24, e263_27, e263_28, e263_31, e263_32, e263_34, e263_35, e263_38, e263_41, e263_42, e263_44, e263_45, e263_48, e263_51, e263_52, e263_53, e263_54, e263_57, e263_60, e263_62, e263_63, e263_66, e263_69, e263_70]
      have := hQ A L hA hX
      rw [hf] at this
      exact ⟨fun _ => this, fun z => absurd (nI_le (Nat.le_refl _) (by omega)) z⟩
    | succ rr ih =>
      intro c hc hf A L hA hX
      have w1 := hA.1.2.2.2.1.1.1
      rw [e263_3]
      simp only [e263_0, e263_1, e263_5, e263_6, e263_9, e263_12, e263_13, e263_14, e263_16, e263_19, e263_22, e263_23, e263_24, e263_27, e263_28, e263_31, e263_32, e263_34, e263_35, e263_38, e263_41, e263_42, e263_44, e263_45, e263_48, e263_51, e263_52, e263_53, e263_54, e263_57, e263_60, e263_62, e263_63, e263_66, e263_69, e263_70]
      refine ⟨by simp, c_mOcells hA ?_⟩
      simp only [tl_some, e263_0, e263_1, e263_5, e263_6, e263_9, e263_12, e263_13, e263_14, e263_16, e263_19, e263_22, e263_23, e263_24, e263_27, e263_28, e263_31, e263_32, e263_34, e263_35, e263_38, e263_41, e263_42, e263_44, e263_45, e263_48, e263_51, e263_52, e263_53, e263_54, e263_57, e263_60, e263_62, e263_63, e263_66, e263_69, e263_70]
      refine ⟨fun z => absurd z (nI_ge (by omega) (by omega)), fun _ => ⟨by simp, c_misOnAt hA hb (by omega) ?_⟩⟩
      simp only [tl_some, e263_0, e263_1, e263_5, e263_6, e263_9, e263_12, e263_13, e263_14, e263_16, e263_19, e263_22, e263_23, e263_24, e263_27, e263_28, e263_31, e263_32, e263_34, e263_35, e263_38, e263_41, e263_42, e263_44, e263_45, e263_48, e263_51, e263_52, e263_53, e263_54, e263_57, e263_60, e263_62, e263_63, e263_66, e263_69, e263_70, bI_eq0, nI_1, mj_kl, k0, hA.2.1, hA.2.2, rf_some, hA.1.2.1.1, w1, nW, pk_div (show c < 2 ^ 31 by omega) (show 0 < wW w by omega) (show wW w < 2 ^ 31 by omega), rem_m1, rem_m2, not_false_eq_true, true_and]
      refine ⟨fun z => ih (c + 1) (by omega) (fnd_no hf (couldAt_no z)) A L hA hX, fun z => ⟨by simp, ?_⟩⟩
      have ec : couldAt w hs m b c k hang = could w hs m b (c % wW w) (c / wW w) k hang := by unfold couldAt; rw [ts_nf z, Bool.true_and]
      refine c_mcouldGo hA.1 (onAt_on hb (ts_nf z)) hk fun A2 L2 g1 g2 => ?_
      rw [← ec]
      simp only [tl_some, e263_0, e263_1, e263_5, e263_6, e263_9, e263_12, e263_13, e263_14, e263_16, e263_19, e263_22, e263_23, e263_24, e263_27, e263_28, e263_31, e263_32, e263_34, e263_35, e263_38, e263_41, e263_42, e263_44, e263_45, e263_48, e263_51, e263_52, e263_53, e263_54, e263_57, e263_60, e263_62, e263_63, e263_66, e263_69, e263_70, bI_eq0, nI_1, mj_kl]
      refine ⟨fun y => ih (c + 1) (by omega) (fnd_no hf y) A2 L2 (hA.ofX g1) (hX.trans g2), fun y => ?_⟩
      have := hQ A2 L2 (hA.ofX g1) (hX.trans g2)
      rw [fnd_yes hf (ts_nf y) (by omega)] at this
      exact this
  refine n263 k0 ?_
  simp only [e263_0, e263_1, e263_5, e263_6, e263_9, e263_12, e263_13, e263_14, e263_16, e263_19, e263_22, e263_23, e263_24, e263_27, e263_28, e263_31, e263_32, e263_34, e263_35, e263_38, e263_41, e263_42, e263_44, e263_45, e263_48, e263_51, e263_52, e263_53, e263_54, e263_57, e263_60, e263_62, e263_63, e263_66, e263_69, e263_70, mj_kl]
  have := loop (wW w * wH w) 0 (by omega) rfl AI AL hO MX.rfl'
  simpa [nI_0, mj_u, mj_kl] using this
theorem lifeB_le30 {w : Wl} {k : Nat} {hang : Bool} : ∀ {b : Nat} {s : (Nat → Hg) × Nat}, s.2 ≤ 30 → (lifeB w k hang b s).2 ≤ 30
  | 0, s, h => h
  | b + 1, s, h => by
    have ih := lifeB_le30 (w := w) (k := k) (hang := hang) (b := b) h
    simp only [lifeB]
    split
    · next c hc =>
      have := (couldAt_30 (fnd_some hc).2.1).1
      show (lifeB w k hang b s).2 + 1 ≤ 30
      omega
    · exact ih
theorem lifeB_ext {w : Wl} {k : Nat} {hang : Bool} : ∀ {b : Nat} {s : (Nat → Hg) × Nat} {j : Nat}, j < s.2 → (lifeB w k hang b s).1 j = s.1 j
  | 0, s, j, _ => rfl
  | b + 1, s, j, h => by
    have hle := lifeB_le (w := w) (k := k) (hang := hang) (b := b) (s := s)
    simp only [lifeB]
    split
    · show puth (lifeB w k hang b s).1 (lifeB w k hang b s).2 _ j = s.1 j
      rw [puth_lt (by omega)]
      exact lifeB_ext h
    · exact lifeB_ext h
/-- once nothing is pasted in a pass, nothing more comes -/
theorem lifeN_more {w : Wl} {k : Nat} {hang : Bool} : ∀ (f g : Nat) {s : (Nat → Hg) × Nat}, s.2 ≤ 30 → 31 ≤ f + s.2 → 31 ≤ g + s.2 → (lifeN w k hang f s).2 = (lifeN w k hang g s).2
  | 0, g, s, h, h1, _ => by omega
  | f + 1, 0, s, h, _, h2 => by omega
  | f + 1, g + 1, s, h, h1, h2 => by
    simp only [lifeN]
    split
    · next y => exact lifeN_more f g (lifeB_le30 h) (by omega) (by omega)
    · rfl
theorem MO.cut0 {m' : Nat} {hs' : Nat → Hg} (hO : MO K FR FI AI AL q a w hs' m') (hm : m ≤ m') (e : ∀ k, k < m → hs' k = hs k) : MO K FR FI (mj_u2 AI (a + 13 + 1) 0 (nI m)) AL q a w hs m ∧ MX q (a + 13) AI (mj_u2 AI (a + 13 + 1) 0 (nI m)) AL AL := by
  have hX : MX q (a + 13) AI (mj_u2 AI (a + 13 + 1) 0 (nI m)) AL AL := ⟨fun z _ _ z3 => by funext j; exact mj_u2_1 z3, fun j hj => mj_u2_2 (by omega), fun _ _ => rfl⟩
  obtain ⟨r1, r2, r3⟩ := hO.mh
  refine ⟨hO.ofX (hO.1.of hX ⟨mj_u2_s, by omega, fun k hk => ?_⟩), hX⟩
  rw [mj_u2_2 (by omega), mj_u2_2 (by omega), mj_u2_2 (by omega), mj_u2_2 (by omega), ← e k hk]
  exact r3 k (by omega)
theorem c_m_life (hV : InvM q P (n, K, FI, FL, FR, AI, AL, AR)) {k : Int32} {hang : Bool} (hQ : ∀ μ', InvM q (rs P (sp_life P k hang)) μ' → FrM q (n, K, FI, FL, FR, AI, AL, AR) μ' → Q (some (.int (rv (sp_life P k hang)))) μ') : EV sa (d + 7) 264 [.ref q, .int k, .int (bI hang)] (n, K, FI, FL, FR, AI, AL, AR) Q := by
  have hI0 : MInv q P n K FR FI AI AL := hV
  have k0 := hI0.1.1
  refine n264 k0 ?_
  simp only [e264_0, e264_1, e264_2, e264_5, e264_6, k0, true_and]
  have hI := hI0.th (v := 0)
  have hF : FrM q (n, K, FI, FL, FR, AI, AL, AR) (n, K, mj_u2 FI 640 q 0, FL, FR, AI, AL, AR) := FrM.f
  generalize mj_u2 FI 640 q 0 = F at hI hF ⊢
  cases es : gW P with
  | none =>
    simp only [hI.no es, e264_0, e264_1, e264_2, e264_5, e264_6, e264_9, e264_12, e264_13, e264_14, e264_17, e264_18, e264_19, e264_20, e264_21, e264_24, e264_27, e264_28, e264_29, e264_32, e264_33, e264_34, e264_37, e264_40, e264_41, e264_42, e264_46, e264_49, e264_50, e264_52, e264_53, e264_57, e264_58, e264_61, e264_64, e264_67, e264_68, e264_70, e264_71, e264_72, e264_75, e264_77, e264_79, e264_80, e264_83, e264_86, e264_87, e264_89, e264_91, e264_94, e264_97, e264_100, e264_103, e264_106, e264_107, e264_110, e264_113, e264_114, e264_115, e264_117, e264_118, e264_121, e264_124, e264_125, e264_126, e264_127, e264_128, e264_130, e264_133, e264_9r]
    refine ⟨fun z => absurd trivial z, fun _ => ⟨by simp, c_mrefused k0 ?_⟩⟩
    simp only [tl_some, e264_0, e264_1, e264_2, e264_5, e264_6, e264_9, e264_12, e264_13, e264_14, e264_17, e264_18, e264_19, e264_20, e264_21, e264_24, e264_27, e264_28, e264_29, e264_32, e264_33, e264_34, e264_37, e264_40, e264_41, e264_42, e264_46, e264_49, e264_50, e264_52, e264_53, e264_57, e264_58, e264_61, e264_64, e264_67, e264_68, e264_70, e264_71, e264_72, e264_75, e264_77, e264_79, e264_80, e264_83, e264_86, e264_87, e264_89, e264_91, e264_94, e264_97, e264_100, e264_103, e264_106, e264_107, e264_110, e264_113, e264_114, e264_115, e264_117, e264_118, e264_121, e264_124, e264_125, e264_126, e264_127, e264_128, e264_130, e264_133, e264_9r]
    exact mrefQ hI hF hQ (k := 1) (by decide) (by unfold sp_life; rw [es]; rfl)
  | some s =>
    obtain ⟨a, hO, ha1, ha2⟩ := hI.mo es
    obtain ⟨p1, p2, p3, p4⟩ := pWs es
    have hn4 := hO.ok.2.2.2.1
    have h30 := hO.mh.2.1
    obtain ⟨ku, ⟨g0, ku1⟩, -⟩ := hO.1.2.2.2.2.1
    have in0 : vp_in (0 : Int32) 127 := vp_in_nI (n := 0) (by decide) (by decide)
    have esp : sp_life P k hang = (if 0 ≤ k ∧ k ≤ 5 then .inr (nI ((lifeN s.1 k.toNatClampNeg hang 31 (s.2.1.1, s.2.1.2.1)).2 - s.2.1.2.1)) else .inl 2) := by unfold sp_life; rw [es, p1, p2, p3]; rfl
    simp only [hO.2.1, rf_some, e264_0, e264_1, e264_2, e264_5, e264_6, e264_9, e264_12, e264_13, e264_14, e264_17, e264_18, e264_19, e264_20, e264_21, e264_24, e264_27, e264_28, e264_29, e264_32, e264_33, e264_34, e264_37, e264_40, e264_41, e264_42, e264_46, e264_49, e264_50, e264_52, e264_53, e264_57, e264_58, e264_61, e264_64, e264_67, e264_68, e264_70, e264_71, e264_72, e264_75, e264_77, e264_79, e264_80, e264_83, e264_86, e264_87, e264_89, e264_91, e264_94, e264_97, e264_100, e264_103, e264_106, e264_107, e264_110, e264_113, e264_114, e264_115, e264_117, e264_118, e264_121, e264_124, e264_125, e264_126, e264_127, e264_128, e264_130, e264_133, e264_9r]
    refine ⟨by simp, c_min ?_⟩
    simp only [tl_some, e264_0, e264_1, e264_2, e264_5, e264_6, e264_9, e264_12, e264_13, e264_14, e264_17, e264_18, e264_19, e264_20, e264_21, e264_24, e264_27, e264_28, e264_29, e264_32, e264_33, e264_34, e264_37, e264_40, e264_41, e264_42, e264_46, e264_49, e264_50, e264_52, e264_53, e264_57, e264_58, e264_61, e264_64, e264_67, e264_68, e264_70, e264_71, e264_72, e264_75, e264_77, e264_79, e264_80, e264_83, e264_86, e264_87, e264_89, e264_91, e264_94, e264_97, e264_100, e264_103, e264_106, e264_107, e264_110, e264_113, e264_114, e264_115, e264_117, e264_118, e264_121, e264_124, e264_125, e264_126, e264_127, e264_128, e264_130, e264_133, e264_9r, bI_eq0, k0, hO.2.2, rf_some, true_and]
    refine ⟨fun z => ⟨by simp, c_many hO.1.2.2.2.2.1 ?_⟩, fun z => ⟨by simp, c_mrefused k0 ?_⟩⟩
    · have z' := ts_nf z
      rw [decide_eq_true_eq] at z'
      rw [if_pos z'] at esp
      obtain ⟨ek, hk5⟩ := rng_of (b := k) (N := 6) (by decide) ⟨z'.1, by
        obtain ⟨j, hj, rfl⟩ := nI_of (Int32.not_lt.mpr z'.1)
        exact nI_lt (by have := (nI_leI (b := 5) hj (by decide)).mp z'.2; omega) (by decide)⟩
      generalize hkk : k.toNatClampNeg = k' at *
      subst ek
      generalize hs0 : (s.2.1.1, s.2.1.2.1) = S0 at esp
      have S2 : S0.2 = s.2.1.2.1 := by rw [← hs0]
      have S1 : S0.1 = s.2.1.1 := by rw [← hs0]
      rw [hO.mh.1]
      -- the end
      have fin : ∀ (S : (Nat → Hg) × Nat) (A : Nat → Nat → Int32) (L : Nat → Nat → Int64), MO K FR F A L q a s.1 S.1 S.2 → MX q (a + 13) AI A AL L → s.2.1.2.1 ≤ S.2 → (∀ j, j < s.2.1.2.1 → S.1 j = s.2.1.1 j) → S.2 = (lifeN s.1 k' hang 31 S0).2 → ∀ x4 x5 x6 : Value, WP sa (EV sa (d + 6)) 264 Q 0 0 106 [.ref q, .int (nI k'), .int (bI hang), .int (nI s.2.1.2.1), x4, x5, x6] [] (n, K, F, FL, FR, A, L, AR) := by
        intro S A L hA hX hle hext hS x4 x5 x6
        obtain ⟨o1, o2⟩ := hA.cut0 (hs := s.2.1.1) (m := s.2.1.2.1) hle hext
        have hX2 := (hX.trans o2).toMQ (FI := F)
        simp only [e264_0, e264_1, e264_2, e264_5, e264_6, e264_9, e264_12, e264_13, e264_14, e264_17, e264_18, e264_19, e264_20, e264_21, e264_24, e264_27, e264_28, e264_29, e264_32, e264_33, e264_34, e264_37, e264_40, e264_41, e264_42, e264_46, e264_49, e264_50, e264_52, e264_53, e264_57, e264_58, e264_61, e264_64, e264_67, e264_68, e264_70, e264_71, e264_72, e264_75, e264_77, e264_79, e264_80, e264_83, e264_86, e264_87, e264_89, e264_91, e264_94, e264_97, e264_100, e264_103, e264_106, e264_107, e264_110, e264_113, e264_114, e264_115, e264_117, e264_118, e264_121, e264_124, e264_125, e264_126, e264_127, e264_128, e264_130, e264_133, e264_9r, k0, hA.2.2, rf_some, true_and]
        refine ⟨by simp, c_many hA.1.2.2.2.2.1 ?_⟩
        rw [hA.mh.1]
        simp only [tl_some, e264_0, e264_1, e264_2, e264_5, e264_6, e264_9, e264_12, e264_13, e264_14, e264_17, e264_18, e264_19, e264_20, e264_21, e264_24, e264_27, e264_28, e264_29, e264_32, e264_33, e264_34, e264_37, e264_40, e264_41, e264_42, e264_46, e264_49, e264_50, e264_52, e264_53, e264_57, e264_58, e264_61, e264_64, e264_67, e264_68, e264_70, e264_71, e264_72, e264_75, e264_77, e264_79, e264_80, e264_83, e264_86, e264_87, e264_89, e264_91, e264_94, e264_97, e264_100, e264_103, e264_106, e264_107, e264_110, e264_113, e264_114, e264_115, e264_117, e264_118, e264_121, e264_124, e264_125, e264_126, e264_127, e264_128, e264_130, e264_133, e264_9r, k0, hA.2.2, rf_some, ku, g0, ku1, in0, cl0, pk_sub hle, mj_kl, true_and]
        refine ⟨by simp, c_mgood k0 ?_⟩
        simp only [tl_some, e264_0, e264_1, e264_2, e264_5, e264_6, e264_9, e264_12, e264_13, e264_14, e264_17, e264_18, e264_19, e264_20, e264_21, e264_24, e264_27, e264_28, e264_29, e264_32, e264_33, e264_34, e264_37, e264_40, e264_41, e264_42, e264_46, e264_49, e264_50, e264_52, e264_53, e264_57, e264_58, e264_61, e264_64, e264_67, e264_68, e264_70, e264_71, e264_72, e264_75, e264_77, e264_79, e264_80, e264_83, e264_86, e264_87, e264_89, e264_91, e264_94, e264_97, e264_100, e264_103, e264_106, e264_107, e264_110, e264_113, e264_114, e264_115, e264_117, e264_118, e264_121, e264_124, e264_125, e264_126, e264_127, e264_128, e264_130, e264_133, e264_9r]
        exact mansQ (hI.qq es hO.2.1 hX2 o1.mh) (hF.trans (hX2.frm ha1)) hQ (by rw [esp, ← hS])
      have pass : ∀ (S : (Nat → Hg) × Nat), S.2 ≤ 30 → ∀ (nxt : ∀ (A : Nat → Nat → Int32) (L : Nat → Nat → Int64), MO K FR F A L q a s.1 (lifeB s.1 k' hang (wNB s.1) S).1 (lifeB s.1 k' hang (wNB s.1) S).2 → MX q (a + 13) AI A AL L → ∀ x5 x6 : Value, WP sa (EV sa (d + 6)) 264 Q 0 0 44 [.ref q, .int (nI k'), .int (bI hang), .int (nI s.2.1.2.1), .int (nI ((lifeB s.1 k' hang (wNB s.1) S).2 - S.2)), x5, x6] [] (n, K, F, FL, FR, A, L, AR)), ∀ rr b, b + rr = wNB s.1 → ∀ (A : Nat → Nat → Int32) (L : Nat → Nat → Int64), MO K FR F A L q a s.1 (lifeB s.1 k' hang b S).1 (lifeB s.1 k' hang b S).2 → MX q (a + 13) AI A AL L → ∀ x6 : Value, WP sa (EV sa (d + 6)) 264 Q 0 0 55 [.ref q, .int (nI k'), .int (bI hang), .int (nI s.2.1.2.1), .int (nI ((lifeB s.1 k' hang b S).2 - S.2)), .int (nI b), x6] [] (n, K, F, FL, FR, A, L, AR) := by
        intro S hS30 nxt rr
        induction rr with
        | zero =>
          intro b hb A L hA hX x6
          have hb' : b = wNB s.1 := by omega
          subst hb'
          have w4 := hA.1.2.2.2.1.1.2.2.2.1
          rw [e264_55]
          simp only [e264_57, e264_58, e264_61, e264_64, e264_103, k0, hA.2.1, rf_some, hA.1.2.1.1, w4, true_and]
          exact ⟨fun _ => nxt A L hA hX _ _, fun z => absurd (nI_le (Nat.le_refl _) (by omega)) z⟩
        | succ rr ih =>
          intro b hb A L hA hX x6
          have w4 := hA.1.2.2.2.1.1.2.2.2.1
          have nx := ih (b + 1) (by omega)
          have hbl := lifeB_le (w := s.1) (k := k') (hang := hang) (b := b) (s := S)
          have hb30 := lifeB_le30 (w := s.1) (k := k') (hang := hang) (b := b) hS30
          rw [e264_55]
          simp only [e264_0, e264_1, e264_2, e264_5, e264_6, e264_9, e264_12, e264_13, e264_14, e264_17, e264_18, e264_19, e264_20, e264_21, e264_24, e264_27, e264_28, e264_29, e264_32, e264_33, e264_34, e264_37, e264_40, e264_41, e264_42, e264_46, e264_49, e264_50, e264_52, e264_53, e264_57, e264_58, e264_61, e264_64, e264_67, e264_68, e264_70, e264_71, e264_72, e264_75, e264_77, e264_79, e264_80, e264_83, e264_86, e264_87, e264_89, e264_91, e264_94, e264_97, e264_100, e264_106, e264_107, e264_110, e264_113, e264_114, e264_115, e264_117, e264_118, e264_121, e264_124, e264_125, e264_126, e264_127, e264_128, e264_130, e264_133, e264_9r, k0, hA.2.1, rf_some, hA.1.2.1.1, w4, true_and]
          refine ⟨fun z => absurd z (nI_ge (by omega) (by omega)), fun _ => ⟨by simp, c_firstPlace hA (show b < wNB s.1 by omega) (show k' < 100 by omega) fun A2 L2 g1 g2 => ?_⟩⟩
          simp only [tl_some, e264_0, e264_1, e264_2, e264_5, e264_6, e264_9, e264_12, e264_13, e264_14, e264_17, e264_18, e264_19, e264_20, e264_21, e264_24, e264_27, e264_28, e264_29, e264_32, e264_33, e264_34, e264_37, e264_40, e264_41, e264_42, e264_46, e264_49, e264_50, e264_52, e264_53, e264_57, e264_58, e264_61, e264_64, e264_67, e264_68, e264_70, e264_71, e264_72, e264_75, e264_77, e264_79, e264_80, e264_83, e264_86, e264_87, e264_89, e264_91, e264_94, e264_97, e264_100, e264_106, e264_107, e264_110, e264_113, e264_114, e264_115, e264_117, e264_118, e264_121, e264_124, e264_125, e264_126, e264_127, e264_128, e264_130, e264_133, e264_9r, nI_1, mj_kl]
          simp only [lifeB] at nx
          cases e : fnd (fun c => couldAt s.1 (lifeB s.1 k' hang b S).1 (lifeB s.1 k' hang b S).2 b c k' hang) (wW s.1 * wH s.1) with
          | none =>
            rw [e] at nx
            simp only [oI]
            exact ⟨fun z => absurd trivial z, fun _ => nx A2 L2 g1 (hX.trans g2) _⟩
          | some c =>
            rw [e] at nx
            obtain ⟨f1, f2, -⟩ := fnd_some e
            have h32 := hA.c32
            obtain ⟨q1, q2⟩ := couldAt_30 f2
            simp only [oI]
            have nneg : ¬ nI c = -1 := fun e2 => by
              have h3 : nI c < 0 := by rw [e2]; decide
              exact absurd h3 (nI_pos (by omega))
            refine ⟨fun _ => ⟨by simp, ?_⟩, fun z => absurd nneg z⟩
            have w1 := g1.1.2.2.2.1.1.1
            have hW := g1.ok.1
            have nW : ¬ nI (wW s.1) = 0 := nI_ne0 (by omega) (by omega)
            refine n247 g1.k ?_
            simp only [e247_0, e247_1, e247_4, e247_5, e247_8, e247_9, e247_10, e247_11, e247_14, e247_17, e247_18, e247_19, e247_20, e247_23, e247_26, e247_27, e247_29, e247_32, g1.k, g1.2.1, g1.2.2, rf_some, g1.1.2.1.1, w1, nW, pk_div (show c < 2 ^ 31 by omega) (show 0 < wW s.1 by omega) (show wW s.1 < 2 ^ 31 by omega), rem_m1, rem_m2, not_false_eq_true, true_and]
            refine ⟨by simp, c_adds g1.1.2.1 g1.ok g1.1.2.2.2.1 g1.1.2.2.2.2.1 (Or.inl (by omega)) g1.mh (by omega) (onAt_on (show b < wNB s.1 by omega) q2) fun A3 L3 m1 m2 m3 m4 => ?_⟩
            have hX3 : MX q (a + 13) A2 A3 L2 L3 := ⟨fun z _ _ z3 => m3 z (by omega), m2, fun z hz => m4 z (by omega)⟩
            simp only [tl_none, e247_0, e247_1, e247_4, e247_5, e247_8, e247_9, e247_10, e247_11, e247_14, e247_17, e247_18, e247_19, e247_20, e247_23, e247_26, e247_27, e247_29, e247_32]
            have := nx A3 L3 (g1.ofX (g1.1.of hX3 m1)) ((hX.trans g2).trans hX3) (.int (nI c))
            rw [show (lifeB s.1 k' hang b S).2 + 1 - S.2 = (lifeB s.1 k' hang b S).2 - S.2 + 1 by omega] at this
            exact this
      -- the passes
      have loop : ∀ g (S : (Nat → Hg) × Nat), 31 ≤ g + S.2 → S.2 ≤ 30 → s.2.1.2.1 ≤ S.2 → (∀ j, j < s.2.1.2.1 → S.1 j = s.2.1.1 j) → (lifeN s.1 k' hang 31 S0).2 = (lifeN s.1 k' hang g S).2 → ∀ r, 0 < r → r < 1000 → ∀ (A : Nat → Nat → Int32) (L : Nat → Nat → Int64), MO K FR F A L q a s.1 S.1 S.2 → MX q (a + 13) AI A AL L → ∀ x5 x6 : Value, WP sa (EV sa (d + 6)) 264 Q 0 0 44 [.ref q, .int (nI k'), .int (bI hang), .int (nI s.2.1.2.1), .int (nI r), x5, x6] [] (n, K, F, FL, FR, A, L, AR) := by
        intro g
        induction g with
        | zero => intro S h1 h2; omega
        | succ g IH =>
          intro S h1 h2 h3 h4 h5 r hr hr2 A L hA hX x5 x6
          have hbl := lifeB_le (w := s.1) (k := k') (hang := hang) (b := wNB s.1) (s := S)
          have hb30 := lifeB_le30 (w := s.1) (k := k') (hang := hang) (b := wNB s.1) h2
          have hext : ∀ j, j < s.2.1.2.1 → (lifeB s.1 k' hang (wNB s.1) S).1 j = s.2.1.1 j := fun j hj => by rw [lifeB_ext (by omega)]; exact h4 j hj
          simp only [lifeN] at h5
          rw [e264_44]
          simp only [e264_0, e264_1, e264_2, e264_5, e264_6, e264_9, e264_12, e264_13, e264_14, e264_17, e264_18, e264_19, e264_20, e264_21, e264_24, e264_27, e264_28, e264_29, e264_32, e264_33, e264_34, e264_37, e264_40, e264_41, e264_42, e264_46, e264_49, e264_50, e264_52, e264_53, e264_57, e264_58, e264_61, e264_64, e264_67, e264_68, e264_70, e264_71, e264_72, e264_75, e264_77, e264_79, e264_80, e264_83, e264_86, e264_87, e264_89, e264_91, e264_94, e264_97, e264_100, e264_103, e264_107, e264_110, e264_113, e264_114, e264_115, e264_117, e264_118, e264_121, e264_124, e264_125, e264_126, e264_127, e264_128, e264_130, e264_133, e264_9r, mj_kl]
          refine ⟨fun z => absurd z (nI_nle hr (by omega)), fun _ => ?_⟩
          have go := pass S h2 (fun A2 L2 g1 g2 y5 y6 => by
            by_cases y : S.2 < (lifeB s.1 k' hang (wNB s.1) S).2
            · rw [if_pos y] at h5
              exact IH _ (by omega) hb30 (by omega) hext h5 _ (by omega) (by omega) A2 L2 g1 g2 y5 y6
            · rw [if_neg y] at h5
              rw [e264_44, show (lifeB s.1 k' hang (wNB s.1) S).2 - S.2 = 0 by omega]
              simp only [e264_46]
              exact ⟨fun _ => fin _ A2 L2 g1 g2 (by omega) hext h5.symm _ _ _, fun z => absurd (by decide) z⟩) (wNB s.1) 0 (by omega) A L hA hX x6
          simp only [lifeB, Nat.sub_self] at go
          simpa [nI_0, mj_kl] using go
      simp only [tl_some, e264_0, e264_1, e264_2, e264_5, e264_6, e264_9, e264_12, e264_13, e264_14, e264_17, e264_18, e264_19, e264_20, e264_21, e264_24, e264_27, e264_28, e264_29, e264_32, e264_33, e264_34, e264_37, e264_40, e264_41, e264_42, e264_46, e264_49, e264_50, e264_52, e264_53, e264_57, e264_58, e264_61, e264_64, e264_67, e264_68, e264_70, e264_71, e264_72, e264_75, e264_77, e264_79, e264_80, e264_83, e264_86, e264_87, e264_89, e264_91, e264_94, e264_97, e264_100, e264_103, e264_106, e264_107, e264_110, e264_113, e264_114, e264_115, e264_117, e264_118, e264_121, e264_124, e264_125, e264_126, e264_127, e264_128, e264_130, e264_133, e264_9r, mj_kl]
      have := loop 31 S0 (by omega) (by omega) (by omega) (fun j _ => by rw [S1]) rfl 1 (by decide) (by decide) AI AL (by rw [S1, S2]; exact hO) MX.rfl' mj_u mj_u
      simpa [show nI 1 = (1 : Int32) from rfl, mj_u, mj_kl] using this
    · simp only [tl_some, e264_0, e264_1, e264_2, e264_5, e264_6, e264_9, e264_12, e264_13, e264_14, e264_17, e264_18, e264_19, e264_20, e264_21, e264_24, e264_27, e264_28, e264_29, e264_32, e264_33, e264_34, e264_37, e264_40, e264_41, e264_42, e264_46, e264_49, e264_50, e264_52, e264_53, e264_57, e264_58, e264_61, e264_64, e264_67, e264_68, e264_70, e264_71, e264_72, e264_75, e264_77, e264_79, e264_80, e264_83, e264_86, e264_87, e264_89, e264_91, e264_94, e264_97, e264_100, e264_103, e264_106, e264_107, e264_110, e264_113, e264_114, e264_115, e264_117, e264_118, e264_121, e264_124, e264_125, e264_126, e264_127, e264_128, e264_130, e264_133, e264_9r]
      exact mrefQ hI hF hQ (k := 2) (by decide) (by rw [esp, if_neg (fun y => z (by simp [y]))])
end
