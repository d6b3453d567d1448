theorem eOK.paste {w : Wl} {e : StK} {b x y R j : Nat} {r : Int32} (hE : eOK w e) (h30 : e.2.1 < 30) (ho : onW w b x y) (hr : r = nI R) (hR : R < 3) (hj : e.2.2.1 R = nI (j + 1)) (hj20 : j + 1 ≤ 20) : eOK w (puth e.1 e.2.1 (b, x, y, r), e.2.1 + 1, upN e.2.2.1 R (e.2.2.1 R - 1), e.2.2.2) := by
  obtain ⟨h1, h2, h3, h4⟩ := hE
  refine ⟨by show wF w ≤ e.2.1 + 1; omega, by show e.2.1 + 1 ≤ 30; omega, fun k hk => ?_, fun q hq => ?_⟩
  · have hk' : k < e.2.1 + 1 := hk
    show gOK w (puth e.1 e.2.1 (b, x, y, r) k) ∧ byOK (gR (puth e.1 e.2.1 (b, x, y, r) k))
    by_cases z : k = e.2.1
    · subst z
      rw [puth_eq]
      refine ⟨ho, R + 2, by omega, ?_⟩
      show r = nI (R + 2) - 2
      rw [show (2 : Int32) = nI 2 from rfl, nq_sub (by omega), Nat.add_sub_cancel]
      exact hr
    · rw [puth_lt (by omega)]
      exact h3 k (by omega)
  · show ∃ j, j ≤ 20 ∧ upN e.2.2.1 R (e.2.2.1 R - 1) q = nI j
    by_cases z : q = R
    · subst z
      exact ⟨j, by omega, by rw [upN_s, hj, nI_pred]⟩
    · rw [upN_o z]
      exact h4 q hq
theorem MH.sp {AI : Nat → Nat → Int32} {AL : Nat → Nat → Int64} {u m j : Nat} {w : Wl} {hs : Nat → Hg} {v : Int32} (h : MH AI AL u w hs m) (hj : 121 ≤ j) : MH (mj_u2 AI (u + 1) j v) AL u w hs m := by
  obtain ⟨r1, r2, r3⟩ := h
  refine ⟨by rw [mj_u2_2 (by omega)]; exact r1, r2, fun k hk => ?_⟩
  rw [mj_u2_2 (by omega), mj_u2_2 (by omega), mj_u2_2 (by omega), mj_u2_2 (by omega)]
  exact r3 k hk
section
variable {sa : Nat → Nat} {d n t h m : Nat} {Q : mj_Q} {K : Nat → Nat × Nat} {FI : Nat → Nat → Int32} {FL : Nat → Nat → Int64} {FR : Nat → Nat → Option Nat} {AI : Nat → Nat → Int32} {AL : Nat → Nat → Int64} {AR : Nat → Nat → Option Nat} {w : Wl} {hs : Nat → Hg}
variable {a u q : Nat} {P : PG}
theorem c_m_paste (hV : InvM q P (n, K, FI, FL, FR, AI, AL, AR)) {b x y r : Int32} (hQ : ∀ μ', InvM q (as' P (sp_paste P b x y r)) μ' → FrM q (n, K, FI, FL, FR, AI, AL, AR) μ' → Q (some (.int (av (sp_paste P b x y r)))) μ') : EV sa (d + 7) 233 [.ref q, .int b, .int x, .int y, .int r] (n, K, FI, FL, FR, AI, AL, AR) Q := by
  have hI0 : MInv q P n K FR FI AI AL := hV
  have k0 := hI0.1.1
  refine n233 k0 ?_
  simp only [e233_0, e233_1, e233_2, e233_5, e233_6, e233_7, e233_10, e233_13, e233_14, e233_16, e233_19, e233_22, e233_23, e233_24, e233_27, e233_28, e233_29, e233_30, e233_31, e233_32, e233_35, e233_38, e233_39, e233_40, e233_43, e233_44, e233_45, e233_48, e233_51, e233_53, e233_55, e233_56, e233_57, e233_60, e233_61, e233_63, e233_66, e233_67, e233_68, e233_69, e233_72, e233_73, e233_76, e233_77, e233_78, e233_79, e233_82, e233_85, e233_86, e233_87, e233_90, e233_91, e233_92, e233_95, e233_96, e233_99, e233_100, e233_103, e233_104, e233_105, e233_106, e233_108, e233_111, e233_112, e233_115, e233_118, e233_120, e233_122, e233_123, e233_124, e233_125, e233_126, e233_127, e233_128, e233_129, e233_132, k0, true_and]
  have hI := hI0.th (v := 0)
  have hF : FrM q (n, K, FI, FL, FR, AI, AL, AR) (n, K, mj_u2 FI 640 q 0, FL, FR, AI, AL, AR) := FrM.f
  generalize mj_u2 FI 640 q 0 = F at hI hF ⊢
  have no1 : ¬ (isB P b = true ∧ isRv P r = true) → sp_paste P b x y r = .inl 1 := fun hn => by
    unfold sp_paste
    cases es : gW P with
    | none => rfl
    | some s => simp only []; rw [if_neg hn]
  have no : ¬ (isB P b = true ∧ isRv P r = true) → EV sa (d + 6) 164 [.ref q, .int 1] (n, K, F, FL, FR, AI, AL, AR) (fun v μ' => WP sa (EV sa (d + 6)) 233 Q 0 0 27 [.ref q, .int b, .int x, .int y, .int r] (v.toList ++ []) μ') := fun hn => by
    refine c_mdenied k0 ?_
    simp only [tl_some, e233_0, e233_1, e233_2, e233_5, e233_6, e233_7, e233_10, e233_13, e233_14, e233_16, e233_19, e233_22, e233_23, e233_24, e233_27, e233_28, e233_29, e233_30, e233_31, e233_32, e233_35, e233_38, e233_39, e233_40, e233_43, e233_44, e233_45, e233_48, e233_51, e233_53, e233_55, e233_56, e233_57, e233_60, e233_61, e233_63, e233_66, e233_67, e233_68, e233_69, e233_72, e233_73, e233_76, e233_77, e233_78, e233_79, e233_82, e233_85, e233_86, e233_87, e233_90, e233_91, e233_92, e233_95, e233_96, e233_99, e233_100, e233_103, e233_104, e233_105, e233_106, e233_108, e233_111, e233_112, e233_115, e233_118, e233_120, e233_122, e233_123, e233_124, e233_125, e233_126, e233_127, e233_128, e233_129, e233_132, true_or, true_and]
    exact mdnQ hI hF hQ (k := 1) (by decide) (no1 hn)
  refine ⟨by simp, c_misBill hI ?_⟩
  simp only [tl_some, e233_0, e233_1, e233_2, e233_5, e233_6, e233_7, e233_10, e233_13, e233_14, e233_16, e233_19, e233_22, e233_23, e233_24, e233_27, e233_28, e233_29, e233_30, e233_31, e233_32, e233_35, e233_38, e233_39, e233_40, e233_43, e233_44, e233_45, e233_48, e233_51, e233_53, e233_55, e233_56, e233_57, e233_60, e233_61, e233_63, e233_66, e233_67, e233_68, e233_69, e233_72, e233_73, e233_76, e233_77, e233_78, e233_79, e233_82, e233_85, e233_86, e233_87, e233_90, e233_91, e233_92, e233_95, e233_96, e233_99, e233_100, e233_103, e233_104, e233_105, e233_106, e233_108, e233_111, e233_112, e233_115, e233_118, e233_120, e233_122, e233_123, e233_124, e233_125, e233_126, e233_127, e233_128, e233_129, e233_132, bI_eq0]
  refine ⟨fun z => ⟨by simp, no (fun y => by rw [z] at y; cases y.1)⟩, fun z => ⟨by simp, c_misRival hI ?_⟩⟩
  simp only [tl_some, e233_0, e233_1, e233_2, e233_5, e233_6, e233_7, e233_10, e233_13, e233_14, e233_16, e233_19, e233_22, e233_23, e233_24, e233_27, e233_28, e233_29, e233_30, e233_31, e233_32, e233_35, e233_38, e233_39, e233_40, e233_43, e233_44, e233_45, e233_48, e233_51, e233_53, e233_55, e233_56, e233_57, e233_60, e233_61, e233_63, e233_66, e233_67, e233_68, e233_69, e233_72, e233_73, e233_76, e233_77, e233_78, e233_79, e233_82, e233_85, e233_86, e233_87, e233_90, e233_91, e233_92, e233_95, e233_96, e233_99, e233_100, e233_103, e233_104, e233_105, e233_106, e233_108, e233_111, e233_112, e233_115, e233_118, e233_120, e233_122, e233_123, e233_124, e233_125, e233_126, e233_127, e233_128, e233_129, e233_132, bI_eq0]
  refine ⟨fun z2 => ⟨by simp, ?_⟩, fun z2 => ⟨by simp, no (fun y => z2 (by rw [y.2]; decide))⟩⟩
  have hb1 := ts_nf z
  have hr1 := ts_nf z2
  obtain ⟨s, es, eb, hb, p1, p2, p3, p4⟩ := misB hI hb1
  obtain ⟨s', es', er, hr, hr3, -⟩ := misR hI hr1
  rw [es] at es'
  cases es'
  obtain ⟨-, -, -, hWW⟩ := id hI
  rw [es] at hWW
  obtain ⟨a, hO, ha1, ha2, hSP, hE, -⟩ := hWW
  have hd := sCor_dec (u := x) (v := y) es hO.ok hb
  have esp : sp_paste P b x y r = (match sCor P b x y with
    | none => .inl 2
    | some c => if shN P r = 0 then .inl 6 else if mayAt s.1 s.2.1.1 s.2.1.2.1 b.toNatClampNeg c then .inr (keepA s (puth s.2.1.1 s.2.1.2.1 (b.toNatClampNeg, c % wW s.1, c / wW s.1, r), s.2.1.2.1 + 1, upN s.2.1.2.2.1 r.toNatClampNeg (s.2.1.2.2.1 r.toNatClampNeg - 1), s.2.1.2.2.2)) else .inl 5) := by
    unfold sp_paste
    rw [es]
    simp only []
    rw [if_pos ⟨hb1, hr1⟩]
    cases sCor P b x y <;> rfl
  obtain ⟨j, hj20, ej⟩ := hE.2.2.2 r.toNatClampNeg hr3
  have esh : shN P r = j := by unfold shN; rw [p4, ej, nI_clamp (by omega)]
  rw [esh] at esp
  have hn4 := hO.ok.2.2.2.1
  generalize hbb : b.toNatClampNeg = B at *
  generalize hrr : r.toNatClampNeg = R at *
  subst eb
  subst er
  refine c_misOn hO hb ?_
  rw [← hd]
  simp only [tl_some, e233_0, e233_1, e233_2, e233_5, e233_6, e233_7, e233_10, e233_13, e233_14, e233_16, e233_19, e233_22, e233_23, e233_24, e233_27, e233_28, e233_29, e233_30, e233_31, e233_32, e233_35, e233_38, e233_39, e233_40, e233_43, e233_44, e233_45, e233_48, e233_51, e233_53, e233_55, e233_56, e233_57, e233_60, e233_61, e233_63, e233_66, e233_67, e233_68, e233_69, e233_72, e233_73, e233_76, e233_77, e233_78, e233_79, e233_82, e233_85, e233_86, e233_87, e233_90, e233_91, e233_92, e233_95, e233_96, e233_99, e233_100, e233_103, e233_104, e233_105, e233_106, e233_108, e233_111, e233_112, e233_115, e233_118, e233_120, e233_122, e233_123, e233_124, e233_125, e233_126, e233_127, e233_128, e233_129, e233_132, bI_eq0]
  cases hc : sCor P (nI B) x y with
  | none =>
    rw [hc] at esp
    refine ⟨fun z => absurd rfl z, fun _ => ⟨by simp, c_mdenied k0 ?_⟩⟩
    simp only [tl_some, e233_0, e233_1, e233_2, e233_5, e233_6, e233_7, e233_10, e233_13, e233_14, e233_16, e233_19, e233_22, e233_23, e233_24, e233_27, e233_28, e233_29, e233_30, e233_31, e233_32, e233_35, e233_38, e233_39, e233_40, e233_43, e233_44, e233_45, e233_48, e233_51, e233_53, e233_55, e233_56, e233_57, e233_60, e233_61, e233_63, e233_66, e233_67, e233_68, e233_69, e233_72, e233_73, e233_76, e233_77, e233_78, e233_79, e233_82, e233_85, e233_86, e233_87, e233_90, e233_91, e233_92, e233_95, e233_96, e233_99, e233_100, e233_103, e233_104, e233_105, e233_106, e233_108, e233_111, e233_112, e233_115, e233_118, e233_120, e233_122, e233_123, e233_124, e233_125, e233_126, e233_127, e233_128, e233_129, e233_132, true_or, true_and]
    exact mdnQ hI hF hQ (k := 2) (by decide) esp
  | some c =>
    rw [hc] at esp
    replace esp : sp_paste P (nI B) x y (nI R) = if j = 0 then .inl 6 else if mayAt s.1 s.2.1.1 s.2.1.2.1 B c then .inr (keepA s (puth s.2.1.1 s.2.1.2.1 (B, c % wW s.1, c / wW s.1, nI R), s.2.1.2.1 + 1, upN s.2.1.2.2.1 R (s.2.1.2.2.1 R - 1), s.2.1.2.2.2)) else .inl 5 := esp
    obtain ⟨e1, e2, e3, e4, e5⟩ := sCor_at es hO.ok (by rw [hbb]; exact hb) hc
    rw [hbb] at e3 e5
    subst e1
    subst e2
    obtain ⟨ku, ⟨g0, ku1⟩, -⟩ := hO.1.2.2.2.2.1
    have i1 : vp_in (nI (121 + R)) 127 := vp_in_nI (by omega) (by decide)
    have c1 : (nI (121 + R)).toNatClampNeg = 121 + R := nI_clamp (by omega)
    have s1 : AI (a + 13 + 1) (121 + R) = nI j := by rw [(hSP R hr3).1]; exact ej
    simp only [e233_0, e233_1, e233_2, e233_5, e233_6, e233_7, e233_10, e233_13, e233_14, e233_16, e233_19, e233_22, e233_23, e233_24, e233_27, e233_28, e233_29, e233_30, e233_31, e233_32, e233_35, e233_38, e233_39, e233_40, e233_43, e233_44, e233_45, e233_48, e233_51, e233_53, e233_55, e233_56, e233_57, e233_60, e233_61, e233_63, e233_66, e233_67, e233_68, e233_69, e233_72, e233_73, e233_76, e233_77, e233_78, e233_79, e233_82, e233_85, e233_86, e233_87, e233_90, e233_91, e233_92, e233_95, e233_96, e233_99, e233_100, e233_103, e233_104, e233_105, e233_106, e233_108, e233_111, e233_112, e233_115, e233_118, e233_120, e233_122, e233_123, e233_124, e233_125, e233_126, e233_127, e233_128, e233_129, e233_132, Option.isSome_some, k0, hO.2.1, hO.2.2, ku, g0, ku1, rf_some, show (121 : Int32) = nI 121 from rfl, nI_add, i1, c1, s1, true_and, true_or]
    refine ⟨fun _ => ⟨fun z3 => ?_, fun z3 => ⟨by simp, c_mdenied k0 ?_⟩⟩, fun z => absurd (by decide) z⟩
    · have hj0 : j ≠ 0 := fun e => z3 (by rw [e]; rfl)
      refine ⟨by simp, c_mmayGo hO.1 e3 fun A L g1 g2 => ?_⟩
      have em : mayAt s.1 s.2.1.1 s.2.1.2.1 B c = may s.1 s.2.1.1 s.2.1.2.1 B (c % wW s.1) (c / wW s.1) := by unfold mayAt; rw [e5, Bool.true_and]
      have hI1 := hI.qq es hO.2.1 g2.toMQ (hO.ofX g1).mh
      have hF1 := hF.trans (g2.toMQ.frm (FI := F) (n := n) (K := K) (FL := FL) (FR := FR) (AR := AR) ha1)
      simp only [tl_some, e233_0, e233_1, e233_2, e233_5, e233_6, e233_7, e233_10, e233_13, e233_14, e233_16, e233_19, e233_22, e233_23, e233_24, e233_27, e233_28, e233_29, e233_30, e233_31, e233_32, e233_35, e233_38, e233_39, e233_40, e233_43, e233_44, e233_45, e233_48, e233_51, e233_53, e233_55, e233_56, e233_57, e233_60, e233_61, e233_63, e233_66, e233_67, e233_68, e233_69, e233_72, e233_73, e233_76, e233_77, e233_78, e233_79, e233_82, e233_85, e233_86, e233_87, e233_90, e233_91, e233_92, e233_95, e233_96, e233_99, e233_100, e233_103, e233_104, e233_105, e233_106, e233_108, e233_111, e233_112, e233_115, e233_118, e233_120, e233_122, e233_123, e233_124, e233_125, e233_126, e233_127, e233_128, e233_129, e233_132, bI_eq0]
      refine ⟨fun z4 => ⟨by simp, c_keepsM hI1 es fun F2 A2 k1 k2 k3 => ?_⟩, fun z4 => ⟨by simp, c_mdenied k0 ?_⟩⟩
      · have z5 := ts_nf z4
        have hm30 : s.2.1.2.1 < 30 := by
          have h1 := hO.mh.2.1
          have h2 : s.2.1.2.1 ≠ 30 := fun e => by
            rw [e] at z5
            simp [may, could] at z5
          omega
        obtain ⟨a2, hO2, -⟩ := k1.mo (s := keepA s s.2.1) rfl
        have ea : a2 = a := by have := hO2.2.1; rw [hO.2.1] at this; exact (Option.some.inj this).symm
        subst ea
        simp only [tl_none, e233_0, e233_1, e233_2, e233_5, e233_6, e233_7, e233_10, e233_13, e233_14, e233_16, e233_19, e233_22, e233_23, e233_24, e233_27, e233_28, e233_29, e233_30, e233_31, e233_32, e233_35, e233_38, e233_39, e233_40, e233_43, e233_44, e233_45, e233_48, e233_51, e233_53, e233_55, e233_56, e233_57, e233_60, e233_61, e233_63, e233_66, e233_67, e233_68, e233_69, e233_72, e233_73, e233_76, e233_77, e233_78, e233_79, e233_82, e233_85, e233_86, e233_87, e233_90, e233_91, e233_92, e233_95, e233_96, e233_99, e233_100, e233_103, e233_104, e233_105, e233_106, e233_108, e233_111, e233_112, e233_115, e233_118, e233_120, e233_122, e233_123, e233_124, e233_125, e233_126, e233_127, e233_128, e233_129, e233_132, k0, hO.2.1, hO.2.2, rf_some, true_and]
        refine ⟨by simp, c_adds hO2.1.2.1 hO2.ok hO2.1.2.2.2.1 hO2.1.2.2.2.2.1 (Or.inl (by omega)) hO2.mh hm30 e3 fun A3 L3 m1 m2 m3 m4 => ?_⟩
        obtain ⟨j', rfl⟩ : ∃ j', j = j' + 1 := ⟨j - 1, by omega⟩
        have s3 : A3 (a2 + 13 + 1) (121 + R) = nI (j' + 1) := by rw [m2 _ (by omega), k3 _ (by omega), g2.2.1 _ (by omega)]; exact s1
        simp only [tl_none, e233_0, e233_1, e233_2, e233_5, e233_6, e233_7, e233_10, e233_13, e233_14, e233_16, e233_19, e233_22, e233_23, e233_24, e233_27, e233_28, e233_29, e233_30, e233_31, e233_32, e233_35, e233_38, e233_39, e233_40, e233_43, e233_44, e233_45, e233_48, e233_51, e233_53, e233_55, e233_56, e233_57, e233_60, e233_61, e233_63, e233_66, e233_67, e233_68, e233_69, e233_72, e233_73, e233_76, e233_77, e233_78, e233_79, e233_82, e233_85, e233_86, e233_87, e233_90, e233_91, e233_92, e233_95, e233_96, e233_99, e233_100, e233_103, e233_104, e233_105, e233_106, e233_108, e233_111, e233_112, e233_115, e233_118, e233_120, e233_122, e233_123, e233_124, e233_125, e233_126, e233_127, e233_128, e233_129, e233_132, k0, hO.2.2, ku, g0, ku1, rf_some, show (121 : Int32) = nI 121 from rfl, nI_add, i1, c1, s3, nI_pred, true_and, true_or]
        refine ⟨by simp, c_mgranted k0 ?_⟩
        simp only [tl_some, e233_0, e233_1, e233_2, e233_5, e233_6, e233_7, e233_10, e233_13, e233_14, e233_16, e233_19, e233_22, e233_23, e233_24, e233_27, e233_28, e233_29, e233_30, e233_31, e233_32, e233_35, e233_38, e233_39, e233_40, e233_43, e233_44, e233_45, e233_48, e233_51, e233_53, e233_55, e233_56, e233_57, e233_60, e233_61, e233_63, e233_66, e233_67, e233_68, e233_69, e233_72, e233_73, e233_76, e233_77, e233_78, e233_79, e233_82, e233_85, e233_86, e233_87, e233_90, e233_91, e233_92, e233_95, e233_96, e233_99, e233_100, e233_103, e233_104, e233_105, e233_106, e233_108, e233_111, e233_112, e233_115, e233_118, e233_120, e233_122, e233_123, e233_124, e233_125, e233_126, e233_127, e233_128, e233_129, e233_132, or_true, true_and]
        have hI2 := k1.set (e := (puth s.2.1.1 s.2.1.2.1 (B, c % wW s.1, c / wW s.1, nI R), s.2.1.2.1 + 1, upN s.2.1.2.2.1 R (s.2.1.2.2.1 R - 1), s.2.1.2.2.2)) (AI' := mj_u2 A3 (a2 + 13 + 1) (121 + R) (nI j')) (AL' := L3) (FI' := F2) rfl hO.2.1 (m1.sp (by omega)) (fun r' hr' => by
          show mj_u2 A3 (a2 + 13 + 1) (121 + R) (nI j') (a2 + 13 + 1) (121 + r') = upN s.2.1.2.2.1 R (s.2.1.2.2.1 R - 1) r' ∧ mj_u2 A3 (a2 + 13 + 1) (121 + R) (nI j') (a2 + 13 + 1) (124 + r') = s.2.1.2.2.2 r'
          have hold : ∀ i, 121 ≤ i → A3 (a2 + 13 + 1) i = AI (a2 + 13 + 1) i := fun i hi => by rw [m2 _ hi, k3 _ (by omega), g2.2.1 _ hi]
          refine ⟨?_, by rw [mj_u2_2 (by omega), hold _ (by omega)]; exact (hSP r' hr').2⟩
          by_cases z : r' = R
          · subst z; rw [mj_u2_s, upN_s, ej, nI_pred]
          · rw [mj_u2_2 (by omega), upN_o z, hold _ (by omega)]; exact (hSP r' hr').1) (hE.paste hm30 e3 rfl hr3 ej hj20) FIx.rfl' (fun z z1 z2 z3 => by funext i; rw [mj_u2_1 (by omega), m3 _ (by omega)])
        refine mgrQ (P := P) (s' := keepA s (puth s.2.1.1 s.2.1.2.1 (B, c % wW s.1, c / wW s.1, nI R), s.2.1.2.1 + 1, upN s.2.1.2.2.1 R (s.2.1.2.2.1 R - 1), s.2.1.2.2.2)) hI2 (hF1.trans (FrM.ch (fun f z hz => k2 f z (Or.inl (by omega))) (fun z hz => ?_) (fun z hz => m4 z (by omega)))) hQ ?_
        · funext i; rw [mj_u2_1 (by omega), m3 z (by omega), k3 z (by omega)]
        · rw [esp, if_neg (by omega), em, if_pos z5]
      · simp only [tl_some, e233_0, e233_1, e233_2, e233_5, e233_6, e233_7, e233_10, e233_13, e233_14, e233_16, e233_19, e233_22, e233_23, e233_24, e233_27, e233_28, e233_29, e233_30, e233_31, e233_32, e233_35, e233_38, e233_39, e233_40, e233_43, e233_44, e233_45, e233_48, e233_51, e233_53, e233_55, e233_56, e233_57, e233_60, e233_61, e233_63, e233_66, e233_67, e233_68, e233_69, e233_72, e233_73, e233_76, e233_77, e233_78, e233_79, e233_82, e233_85, e233_86, e233_87, e233_90, e233_91, e233_92, e233_95, e233_96, e233_99, e233_100, e233_103, e233_104, e233_105, e233_106, e233_108, e233_111, e233_112, e233_115, e233_118, e233_120, e233_122, e233_123, e233_124, e233_125, e233_126, e233_127, e233_128, e233_129, e233_132, true_or, true_and]
        have z5 : may s.1 s.2.1.1 s.2.1.2.1 B (c % wW s.1) (c / wW s.1) = false := by simpa using z4
        exact mdnQ hI1 hF1 hQ (k := 5) (by decide) (by rw [esp, if_neg hj0, em, z5]; rfl)
    · have hj0 : j = 0 := (nI_eq (by omega) (by decide)).mp (Classical.not_not.mp z3)
      simp only [tl_some, e233_0, e233_1, e233_2, e233_5, e233_6, e233_7, e233_10, e233_13, e233_14, e233_16, e233_19, e233_22, e233_23, e233_24, e233_27, e233_28, e233_29, e233_30, e233_31, e233_32, e233_35, e233_38, e233_39, e233_40, e233_43, e233_44, e233_45, e233_48, e233_51, e233_53, e233_55, e233_56, e233_57, e233_60, e233_61, e233_63, e233_66, e233_67, e233_68, e233_69, e233_72, e233_73, e233_76, e233_77, e233_78, e233_79, e233_82, e233_85, e233_86, e233_87, e233_90, e233_91, e233_92, e233_95, e233_96, e233_99, e233_100, e233_103, e233_104, e233_105, e233_106, e233_108, e233_111, e233_112, e233_115, e233_118, e233_120, e233_122, e233_123, e233_124, e233_125, e233_126, e233_127, e233_128, e233_129, e233_132, true_or, true_and]
      exact mdnQ hI hF hQ (k := 6) (by decide) (by rw [esp, if_pos hj0])
theorem MH.mv {g : Nat → Hg} {k : Nat} (h : MH AI AL u w g m) (hk : k + 1 < m) : MH (mj_u2 (mj_u2 (mj_u2 (mj_u2 AI (u + 1) (1 + k) (AI (u + 1) (2 + k))) (u + 1) (31 + k) (AI (u + 1) (32 + k))) (u + 1) (61 + k) (AI (u + 1) (62 + k))) (u + 1) (91 + k) (AI (u + 1) (92 + k))) (mj_u2 AL (u + 2) k (AL (u + 2) (k + 1))) u w (upN g k (g (k + 1))) m := by
  obtain ⟨r1, r2, r3⟩ := h
  generalize hA : mj_u2 (mj_u2 (mj_u2 (mj_u2 AI (u + 1) (1 + k) (AI (u + 1) (2 + k))) (u + 1) (31 + k) (AI (u + 1) (32 + k))) (u + 1) (61 + k) (AI (u + 1) (62 + k))) (u + 1) (91 + k) (AI (u + 1) (92 + k)) = A
  have aV : ∀ j, A (u + 1) j = if j = 91 + k then AI (u + 1) (92 + k) else if j = 61 + k then AI (u + 1) (62 + k) else if j = 31 + k then AI (u + 1) (32 + k) else if j = 1 + k then AI (u + 1) (2 + k) else AI (u + 1) j := fun j => by rw [← hA]; simp [mj_u2]
  refine ⟨by rw [aV, if_neg (by omega), if_neg (by omega), if_neg (by omega), if_neg (by omega)]; exact r1, r2, fun j hj => ?_⟩
  rw [aV, aV, aV, aV]
  by_cases e : j = k
  · subst e
    obtain ⟨s1, s2, s3, s4, s5, s6⟩ := r3 (j + 1) hk
    rw [upN_s, if_neg (by omega), if_neg (by omega), if_neg (by omega), if_pos rfl, if_neg (by omega), if_neg (by omega), if_pos rfl, if_neg (by omega), if_pos rfl, if_pos rfl, mj_u2_s]
    refine ⟨s1, ?_, ?_, ?_, ?_, s6⟩
    · rw [show 2 + j = 1 + (j + 1) by omega]; exact s2
    · rw [show 32 + j = 31 + (j + 1) by omega]; exact s3
    · rw [show 62 + j = 61 + (j + 1) by omega]; exact s4
    · rw [show 92 + j = 91 + (j + 1) by omega]; exact s5
  · rw [upN_o e, if_neg (by omega), if_neg (by omega), if_neg (by omega), if_neg (by omega), if_neg (by omega), if_neg (by omega), if_neg (by omega), if_neg (by omega), if_neg (by omega), if_neg (by omega), if_neg (by omega), if_neg (by omega), if_neg (by omega), if_neg (by omega), if_neg (by omega), if_neg (by omega), mj_u2_2 e]
    exact r3 j hj
theorem c_m_tear (hV : InvM q P (n, K, FI, FL, FR, AI, AL, AR)) {i : Int32} (hQ : ∀ μ', InvM q (as' P (sp_tear P i)) μ' → FrM q (n, K, FI, FL, FR, AI, AL, AR) μ' → Q (some (.int (av (sp_tear P i)))) μ') : EV sa (d + 3) 235 [.ref q, .int i] (n, K, FI, FL, FR, AI, AL, AR) Q := by
  have hI0 : MInv q P n K FR FI AI AL := hV
  have k0 := hI0.1.1
  refine n235 k0 ?_
  simp only [e235_0, e235_1, e235_2, e235_5, e235_6, e235_7, e235_10, e235_13, e235_14, e235_15, e235_18, e235_19, e235_20, e235_21, e235_24, e235_27, e235_30, e235_31, e235_32, e235_35, e235_36, e235_37, e235_40, e235_41, e235_43, e235_44, e235_45, e235_46, e235_49, e235_52, e235_55, e235_56, e235_58, e235_60, e235_63, e235_64, e235_67, e235_70, e235_71, e235_72, e235_73, e235_74, e235_77, e235_80, e235_81, e235_82, e235_83, e235_84, e235_85, e235_86, e235_87, e235_90, e235_93, e235_94, e235_97, e235_100, e235_101, e235_102, e235_105, e235_108, e235_109, e235_110, e235_111, e235_112, e235_113, e235_116, e235_119, e235_120, e235_123, e235_126, e235_127, e235_130, k0, true_and]
  have hI := hI0.th (v := 0)
  have hF : FrM q (n, K, FI, FL, FR, AI, AL, AR) (n, K, mj_u2 FI 640 q 0, FL, FR, AI, AL, AR) := FrM.f
  generalize mj_u2 FI 640 q 0 = F at hI hF ⊢
  refine ⟨by simp, c_misHung hI ?_⟩
  simp only [tl_some, e235_0, e235_1, e235_2, e235_5, e235_6, e235_7, e235_10, e235_13, e235_14, e235_15, e235_18, e235_19, e235_20, e235_21, e235_24, e235_27, e235_30, e235_31, e235_32, e235_35, e235_36, e235_37, e235_40, e235_41, e235_43, e235_44, e235_45, e235_46, e235_49, e235_52, e235_55, e235_56, e235_58, e235_60, e235_63, e235_64, e235_67, e235_70, e235_71, e235_72, e235_73, e235_74, e235_77, e235_80, e235_81, e235_82, e235_83, e235_84, e235_85, e235_86, e235_87, e235_90, e235_93, e235_94, e235_97, e235_100, e235_101, e235_102, e235_105, e235_108, e235_109, e235_110, e235_111, e235_112, e235_113, e235_116, e235_119, e235_120, e235_123, e235_126, e235_127, e235_130, bI_eq0]
  refine ⟨fun z => ?_, fun z => ⟨by simp, c_mdenied k0 ?_⟩⟩
  · have hi1 := ts_nf z
    obtain ⟨s, es, eb, hb, p1, p2, p3, p4⟩ := misH hI hi1
    obtain ⟨-, -, -, hWW⟩ := id hI
    rw [es] at hWW
    obtain ⟨a, hO, ha1, ha2, hSP, hE, -⟩ := hWW
    have esp : sp_tear P i = (if i.toNatClampNeg < wF s.1 then .inl 5 else .inr (keepA s (dropH s.2.1.1 i.toNatClampNeg, s.2.1.2.1 - 1, s.2.1.2.2))) := by
      unfold sp_tear
      rw [es]
      simp only []
      rw [if_pos hi1]
    generalize hbb : i.toNatClampNeg = I at *
    subst eb
    have w7 := hO.1.2.2.2.1.1.2.2.2.2.2.2.1
    have h30 := hO.mh.2.1
    have hfm := hE.1
    simp only [k0, hO.2.1, rf_some, hO.1.2.1.1, w7, e235_0, e235_1, e235_2, e235_5, e235_6, e235_7, e235_10, e235_13, e235_14, e235_15, e235_18, e235_19, e235_20, e235_21, e235_24, e235_27, e235_30, e235_31, e235_32, e235_35, e235_36, e235_37, e235_40, e235_41, e235_43, e235_44, e235_45, e235_46, e235_49, e235_52, e235_55, e235_56, e235_58, e235_60, e235_63, e235_64, e235_67, e235_70, e235_71, e235_72, e235_73, e235_74, e235_77, e235_80, e235_81, e235_82, e235_83, e235_84, e235_85, e235_86, e235_87, e235_90, e235_93, e235_94, e235_97, e235_100, e235_101, e235_102, e235_105, e235_108, e235_109, e235_110, e235_111, e235_112, e235_113, e235_116, e235_119, e235_120, e235_123, e235_126, e235_127, e235_130, nI_leI (show wF s.1 < 2 ^ 31 by omega) (show I < 2 ^ 31 by omega), true_and]
    refine ⟨fun z2 => ⟨by simp, c_keepsM hI es fun F2 A2 k1 k2 k3 => ?_⟩, fun z2 => ⟨by simp, c_mdenied k0 ?_⟩⟩
    · have hH := hO.1.2.2.2.2.1
      obtain ⟨ku, ⟨g0, ku1⟩, ⟨g1, ku2⟩⟩ := id hH
      have e1 : A2 (a + 13 + 1) = AI (a + 13 + 1) := k3 _ (by omega)
      have hR2 : MH A2 AL (a + 13) s.1 s.2.1.1 s.2.1.2.1 := hO.mh.fr e1 rfl
      have loop : ∀ rr k, k + 1 + rr = s.2.1.2.1 → I ≤ k → ∀ (A : Nat → Nat → Int32) (L : Nat → Nat → Int64), MH A L (a + 13) s.1 (fun j => if j < k then dropH s.2.1.1 I j else s.2.1.1 j) s.2.1.2.1 → (∀ z, z ≠ a + 14 → A z = A2 z) → (∀ j, 121 ≤ j → A (a + 13 + 1) j = A2 (a + 13 + 1) j) → (∀ z, z ≠ a + 15 → L z = AL z) → ∀ x3 : Value, WP sa (EV sa (d + 2)) 235 Q 0 0 42 [.ref q, .int (nI I), .int (nI k), x3] [] (n, K, F2, FL, FR, A, L, AR) := by
        intro rr
        induction rr with
        | zero =>
          intro k hk hIk A L hR a1 a2 a3 x3
          rw [e235_42]
          simp only [e235_0, e235_1, e235_2, e235_5, e235_6, e235_7, e235_10, e235_13, e235_14, e235_15, e235_18, e235_19, e235_20, e235_21, e235_24, e235_27, e235_30, e235_31, e235_32, e235_35, e235_36, e235_37, e235_40, e235_41, e235_43, e235_44, e235_45, e235_46, e235_49, e235_52, e235_55, e235_56, e235_58, e235_60, e235_63, e235_64, e235_67, e235_70, e235_71, e235_72, e235_73, e235_74, e235_77, e235_80, e235_81, e235_82, e235_83, e235_84, e235_85, e235_86, e235_87, e235_90, e235_93, e235_94, e235_97, e235_100, e235_101, e235_102, e235_105, e235_108, e235_109, e235_110, e235_111, e235_112, e235_113, e235_116, e235_119, e235_120, e235_123, e235_126, e235_127, e235_130, k0, hO.2.2, rf_some, true_and]
          refine ⟨by simp, c_many hH ?_⟩
          rw [hR.1]
          simp only [tl_some, e235_0, e235_1, e235_2, e235_5, e235_6, e235_7, e235_10, e235_13, e235_14, e235_15, e235_18, e235_19, e235_20, e235_21, e235_24, e235_27, e235_30, e235_31, e235_32, e235_35, e235_36, e235_37, e235_40, e235_41, e235_43, e235_44, e235_45, e235_46, e235_49, e235_52, e235_55, e235_56, e235_58, e235_60, e235_63, e235_64, e235_67, e235_70, e235_71, e235_72, e235_73, e235_74, e235_77, e235_80, e235_81, e235_82, e235_83, e235_84, e235_85, e235_86, e235_87, e235_90, e235_93, e235_94, e235_97, e235_100, e235_101, e235_102, e235_105, e235_108, e235_109, e235_110, e235_111, e235_112, e235_113, e235_116, e235_119, e235_120, e235_123, e235_126, e235_127, e235_130, nI_1, k0, hO.2.2, rf_some, true_and]
          refine ⟨fun _ => ⟨by simp, c_takesOff hH ?_⟩, fun z => absurd (nI_le (by omega) (by omega)) z⟩
          have hm1 : s.2.1.2.1 = k + 1 := by omega
          rw [hR.1, hm1, nI_pred]
          simp only [tl_none, e235_0, e235_1, e235_2, e235_5, e235_6, e235_7, e235_10, e235_13, e235_14, e235_15, e235_18, e235_19, e235_20, e235_21, e235_24, e235_27, e235_30, e235_31, e235_32, e235_35, e235_36, e235_37, e235_40, e235_41, e235_43, e235_44, e235_45, e235_46, e235_49, e235_52, e235_55, e235_56, e235_58, e235_60, e235_63, e235_64, e235_67, e235_70, e235_71, e235_72, e235_73, e235_74, e235_77, e235_80, e235_81, e235_82, e235_83, e235_84, e235_85, e235_86, e235_87, e235_90, e235_93, e235_94, e235_97, e235_100, e235_101, e235_102, e235_105, e235_108, e235_109, e235_110, e235_111, e235_112, e235_113, e235_116, e235_119, e235_120, e235_123, e235_126, e235_127, e235_130]
          refine ⟨by simp, c_mgranted k0 ?_⟩
          simp only [tl_some, e235_0, e235_1, e235_2, e235_5, e235_6, e235_7, e235_10, e235_13, e235_14, e235_15, e235_18, e235_19, e235_20, e235_21, e235_24, e235_27, e235_30, e235_31, e235_32, e235_35, e235_36, e235_37, e235_40, e235_41, e235_43, e235_44, e235_45, e235_46, e235_49, e235_52, e235_55, e235_56, e235_58, e235_60, e235_63, e235_64, e235_67, e235_70, e235_71, e235_72, e235_73, e235_74, e235_77, e235_80, e235_81, e235_82, e235_83, e235_84, e235_85, e235_86, e235_87, e235_90, e235_93, e235_94, e235_97, e235_100, e235_101, e235_102, e235_105, e235_108, e235_109, e235_110, e235_111, e235_112, e235_113, e235_116, e235_119, e235_120, e235_123, e235_126, e235_127, e235_130, or_true, true_and]
          rw [hm1] at hR
          have hR3 := hR.cut.congr (hs' := dropH s.2.1.1 I) (fun j hj => if_pos hj)
          have hI2 := k1.set (e := (dropH s.2.1.1 I, k, s.2.1.2.2)) (AI' := mj_u2 A (a + 13 + 1) 0 (nI k)) (AL' := L) (FI' := F2) rfl hO.2.1 hR3 (fun r hr => by
            rw [mj_u2_2 (by omega), mj_u2_2 (by omega), a2 _ (by omega), a2 _ (by omega), e1]
            exact hSP r hr) (by
              have := hE.drop (g := I) (by omega) (by omega)
              rw [hm1, Nat.add_sub_cancel] at this
              exact this) FIx.rfl' (fun z z1 z2 z3 => by funext j; rw [mj_u2_1 (by omega), a1 z (by omega)])
          refine mgrQ (P := P) (s' := keepA s (dropH s.2.1.1 I, k, s.2.1.2.2)) hI2 (hF.trans (FrM.ch (fun f z hz => k2 f z (Or.inl (by omega))) (fun z hz => ?_) (fun z hz => a3 z (by omega)))) hQ ?_
          · funext j; rw [mj_u2_1 (by omega), a1 z (by omega), k3 z (by omega)]
          · rw [esp, if_neg (by omega), hm1, Nat.add_sub_cancel]
        | succ rr ih =>
          intro k hk hIk A L hR a1 a2 a3 x3
          have step : ∀ p, p ≤ 91 → ∀ B : Nat → Nat → Int32, WP sa (EV sa (d + 2)) 235 Q 0 0 57 [.ref q, .int (nI I), .int (nI k), .int (nI (p + 30))] [] (n, K, F2, FL, FR, mj_u2 B (a + 13 + 1) (p + k) (B (a + 13 + 1) (p + k + 1)), L, AR) → WP sa (EV sa (d + 2)) 235 Q 0 0 57 [.ref q, .int (nI I), .int (nI k), .int (nI p)] [] (n, K, F2, FL, FR, B, L, AR) := by
            intro p hp B h
            have i1 : vp_in (nI (p + k)) 127 := vp_in_nI (by omega) (by decide)
            have c1 : (nI (p + k)).toNatClampNeg = p + k := nI_clamp (by omega)
            have i2 : vp_in (nI (p + k + 1)) 127 := vp_in_nI (by omega) (by decide)
            have c2 : (nI (p + k + 1)).toNatClampNeg = p + k + 1 := nI_clamp (by omega)
            rw [e235_57]
            simp only [e235_0, e235_1, e235_2, e235_5, e235_6, e235_7, e235_10, e235_13, e235_14, e235_15, e235_18, e235_19, e235_20, e235_21, e235_24, e235_27, e235_30, e235_31, e235_32, e235_35, e235_36, e235_37, e235_40, e235_41, e235_43, e235_44, e235_45, e235_46, e235_49, e235_52, e235_55, e235_56, e235_58, e235_60, e235_63, e235_64, e235_67, e235_70, e235_71, e235_72, e235_73, e235_74, e235_77, e235_80, e235_81, e235_82, e235_83, e235_84, e235_85, e235_86, e235_87, e235_90, e235_94, e235_97, e235_100, e235_101, e235_102, e235_105, e235_108, e235_109, e235_110, e235_111, e235_112, e235_113, e235_116, e235_119, e235_120, e235_123, e235_126, e235_127, e235_130, k0, hO.2.2, rf_some, ku, g0, ku1, nI_add, nI_1, i1, c1, i2, c2, mj_kl, show (30 : Int32) = nI 30 from rfl, true_and, true_or]
            exact ⟨fun z => absurd z (nI_ge (b := 121) (by omega) (by decide)), fun _ => h⟩
          have kin : vp_in (nI k) 30 := vp_in_nI (by omega) (by decide)
          have kcl : (nI k).toNatClampNeg = k := nI_clamp (by omega)
          have kin2 : vp_in (nI (k + 1)) 30 := vp_in_nI (by omega) (by decide)
          have kcl2 : (nI (k + 1)).toNatClampNeg = k + 1 := nI_clamp (by omega)
          rw [e235_42]
          simp only [e235_0, e235_1, e235_2, e235_5, e235_6, e235_7, e235_10, e235_13, e235_14, e235_15, e235_18, e235_19, e235_20, e235_21, e235_24, e235_27, e235_30, e235_31, e235_32, e235_35, e235_36, e235_37, e235_40, e235_41, e235_43, e235_44, e235_45, e235_46, e235_49, e235_52, e235_55, e235_56, e235_58, e235_60, e235_63, e235_64, e235_67, e235_70, e235_71, e235_72, e235_73, e235_74, e235_77, e235_80, e235_81, e235_82, e235_83, e235_84, e235_85, e235_86, e235_87, e235_90, e235_93, e235_94, e235_97, e235_100, e235_101, e235_102, e235_105, e235_108, e235_109, e235_110, e235_111, e235_112, e235_113, e235_116, e235_119, e235_120, e235_123, e235_126, e235_127, e235_130, k0, hO.2.2, rf_some, true_and]
          refine ⟨by simp, c_many hH ?_⟩
          rw [hR.1]
          simp only [tl_some, e235_0, e235_1, e235_2, e235_5, e235_6, e235_7, e235_10, e235_13, e235_14, e235_15, e235_18, e235_19, e235_20, e235_21, e235_24, e235_27, e235_30, e235_31, e235_32, e235_35, e235_36, e235_37, e235_40, e235_41, e235_43, e235_44, e235_45, e235_46, e235_49, e235_52, e235_55, e235_56, e235_58, e235_60, e235_63, e235_64, e235_67, e235_70, e235_71, e235_72, e235_73, e235_74, e235_77, e235_80, e235_81, e235_82, e235_83, e235_84, e235_85, e235_86, e235_87, e235_90, e235_93, e235_94, e235_97, e235_100, e235_101, e235_102, e235_105, e235_108, e235_109, e235_110, e235_111, e235_112, e235_113, e235_116, e235_119, e235_120, e235_123, e235_126, e235_127, e235_130, nI_1, mj_kl]
          refine ⟨fun z => absurd z (nI_ge (by omega) (by omega)), fun _ => ?_⟩
          refine step 1 (by omega) A (step 31 (by omega) _ (step 61 (by omega) _ (step 91 (by omega) _ ?_)))
          rw [e235_57]
          simp only [e235_0, e235_1, e235_2, e235_5, e235_6, e235_7, e235_10, e235_13, e235_14, e235_15, e235_18, e235_19, e235_20, e235_21, e235_24, e235_27, e235_30, e235_31, e235_32, e235_35, e235_36, e235_37, e235_40, e235_41, e235_43, e235_44, e235_45, e235_46, e235_49, e235_52, e235_55, e235_56, e235_58, e235_60, e235_63, e235_64, e235_67, e235_70, e235_71, e235_72, e235_73, e235_74, e235_77, e235_80, e235_81, e235_82, e235_83, e235_84, e235_85, e235_86, e235_87, e235_90, e235_93, e235_94, e235_97, e235_100, e235_101, e235_102, e235_105, e235_108, e235_109, e235_110, e235_111, e235_112, e235_113, e235_116, e235_119, e235_120, e235_123, e235_126, e235_127, e235_130, k0, hO.2.2, rf_some, ku, g1, ku2, nI_1, kin, kcl, kin2, kcl2, mj_kl, true_and]
          refine ⟨fun _ => ?_, fun z => absurd (by decide) z⟩
          have mv := hR.mv (k := k) (by omega)
          refine ih (k + 1) (by omega) (by omega) _ _ ?_ ?_ ?_ ?_ _
          · have e2 : mj_u2 (mj_u2 (mj_u2 (mj_u2 A (a + 13 + 1) (1 + k) (A (a + 13 + 1) (1 + k + 1))) (a + 13 + 1) (31 + k) (mj_u2 A (a + 13 + 1) (1 + k) (A (a + 13 + 1) (1 + k + 1)) (a + 13 + 1) (31 + k + 1))) (a + 13 + 1) (61 + k) (mj_u2 (mj_u2 A (a + 13 + 1) (1 + k) (A (a + 13 + 1) (1 + k + 1))) (a + 13 + 1) (31 + k) (mj_u2 A (a + 13 + 1) (1 + k) (A (a + 13 + 1) (1 + k + 1)) (a + 13 + 1) (31 + k + 1)) (a + 13 + 1) (61 + k + 1))) (a + 13 + 1) (91 + k) (mj_u2 (mj_u2 (mj_u2 A (a + 13 + 1) (1 + k) (A (a + 13 + 1) (1 + k + 1))) (a + 13 + 1) (31 + k) (mj_u2 A (a + 13 + 1) (1 + k) (A (a + 13 + 1) (1 + k + 1)) (a + 13 + 1) (31 + k + 1))) (a + 13 + 1) (61 + k) (mj_u2 (mj_u2 A (a + 13 + 1) (1 + k) (A (a + 13 + 1) (1 + k + 1))) (a + 13 + 1) (31 + k) (mj_u2 A (a + 13 + 1) (1 + k) (A (a + 13 + 1) (1 + k + 1)) (a + 13 + 1) (31 + k + 1)) (a + 13 + 1) (61 + k + 1)) (a + 13 + 1) (91 + k + 1)) = mj_u2 (mj_u2 (mj_u2 (mj_u2 A (a + 13 + 1) (1 + k) (A (a + 13 + 1) (2 + k))) (a + 13 + 1) (31 + k) (A (a + 13 + 1) (32 + k))) (a + 13 + 1) (61 + k) (A (a + 13 + 1) (62 + k))) (a + 13 + 1) (91 + k) (A (a + 13 + 1) (92 + k)) := by
              rw [mj_u2_2 (show 31 + k + 1 ≠ 1 + k by omega), mj_u2_2 (show 61 + k + 1 ≠ 31 + k by omega), mj_u2_2 (show 61 + k + 1 ≠ 1 + k by omega), mj_u2_2 (show 91 + k + 1 ≠ 61 + k by omega), mj_u2_2 (show 91 + k + 1 ≠ 31 + k by omega), mj_u2_2 (show 91 + k + 1 ≠ 1 + k by omega), show 1 + k + 1 = 2 + k by omega, show 31 + k + 1 = 32 + k by omega, show 61 + k + 1 = 62 + k by omega, show 91 + k + 1 = 92 + k by omega]
            rw [e2]
            refine mv.congr fun j hj => ?_
            by_cases e : j = k
            · subst e
              rw [upN_s, if_neg (by omega), if_pos (by omega)]
              unfold dropH
              rw [if_neg (by omega)]
            · rw [upN_o e]
              by_cases z : j < k
              · rw [if_pos z, if_pos (by omega)]
              · rw [if_neg z, if_neg (by omega)]
          · intro z hz
            funext j
            rw [mj_u2_1 (by omega), mj_u2_1 (by omega), mj_u2_1 (by omega), mj_u2_1 (by omega), a1 z hz]
          · intro j hj
            rw [mj_u2_2 (by omega), mj_u2_2 (by omega), mj_u2_2 (by omega), mj_u2_2 (by omega), a2 j hj]
          · intro z hz
            funext j
            rw [mj_u2_1 (by omega), a3 z hz]
      simp only [tl_none, e235_0, e235_1, e235_2, e235_5, e235_6, e235_7, e235_10, e235_13, e235_14, e235_15, e235_18, e235_19, e235_20, e235_21, e235_24, e235_27, e235_30, e235_31, e235_32, e235_35, e235_36, e235_37, e235_40, e235_41, e235_43, e235_44, e235_45, e235_46, e235_49, e235_52, e235_55, e235_56, e235_58, e235_60, e235_63, e235_64, e235_67, e235_70, e235_71, e235_72, e235_73, e235_74, e235_77, e235_80, e235_81, e235_82, e235_83, e235_84, e235_85, e235_86, e235_87, e235_90, e235_93, e235_94, e235_97, e235_100, e235_101, e235_102, e235_105, e235_108, e235_109, e235_110, e235_111, e235_112, e235_113, e235_116, e235_119, e235_120, e235_123, e235_126, e235_127, e235_130, mj_kl]
      exact loop (s.2.1.2.1 - (I + 1)) I (by omega) (Nat.le_refl _) A2 AL (hR2.congr fun j hj => by
        by_cases z : j < I
        · show s.2.1.1 j = if j < I then dropH s.2.1.1 I j else s.2.1.1 j
          rw [if_pos z]
          unfold dropH
          rw [if_pos z]
        · show s.2.1.1 j = if j < I then dropH s.2.1.1 I j else s.2.1.1 j
          rw [if_neg z]) (fun _ _ => rfl) (fun _ _ => rfl) (fun _ _ => rfl) _
    · simp only [tl_some, e235_0, e235_1, e235_2, e235_5, e235_6, e235_7, e235_10, e235_13, e235_14, e235_15, e235_18, e235_19, e235_20, e235_21, e235_24, e235_27, e235_30, e235_31, e235_32, e235_35, e235_36, e235_37, e235_40, e235_41, e235_43, e235_44, e235_45, e235_46, e235_49, e235_52, e235_55, e235_56, e235_58, e235_60, e235_63, e235_64, e235_67, e235_70, e235_71, e235_72, e235_73, e235_74, e235_77, e235_80, e235_81, e235_82, e235_83, e235_84, e235_85, e235_86, e235_87, e235_90, e235_93, e235_94, e235_97, e235_100, e235_101, e235_102, e235_105, e235_108, e235_109, e235_110, e235_111, e235_112, e235_113, e235_116, e235_119, e235_120, e235_123, e235_126, e235_127, e235_130, true_or, true_and]
      exact mdnQ hI hF hQ (k := 5) (by decide) (by rw [esp, if_pos (by omega)])
  · simp only [tl_some, e235_0, e235_1, e235_2, e235_5, e235_6, e235_7, e235_10, e235_13, e235_14, e235_15, e235_18, e235_19, e235_20, e235_21, e235_24, e235_27, e235_30, e235_31, e235_32, e235_35, e235_36, e235_37, e235_40, e235_41, e235_43, e235_44, e235_45, e235_46, e235_49, e235_52, e235_55, e235_56, e235_58, e235_60, e235_63, e235_64, e235_67, e235_70, e235_71, e235_72, e235_73, e235_74, e235_77, e235_80, e235_81, e235_82, e235_83, e235_84, e235_85, e235_86, e235_87, e235_90, e235_93, e235_94, e235_97, e235_100, e235_101, e235_102, e235_105, e235_108, e235_109, e235_110, e235_111, e235_112, e235_113, e235_116, e235_119, e235_120, e235_123, e235_126, e235_127, e235_130, true_or, true_and]
    refine mdnQ hI hF hQ (k := 1) (by decide) ?_
    unfold sp_tear
    cases es : gW P with
    | none => rfl
    | some s => simp only []; rw [if_neg (by simpa using z)]
end
