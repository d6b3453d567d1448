section
variable {sa : Nat → Nat} {d n t h m : Nat} {Q : mj_Q} {K : Nat → Nat × Nat} {FI : Nat → Nat → Int32} {FL : Nat → Nat → Int64} {FR : Nat → Nat → Option Nat} {AI : Nat → Nat → Int32} {AL : Nat → Nat → Int64} {AR : Nat → Nat → Option Nat} {w : Wl} {hs : Nat → Hg}
variable {x : Nat} {P : PG}
theorem eOK.drop {e : StK} {g : Nat} (h : eOK w e) (h1 : wF w ≤ g) (h2 : g < e.2.1) : eOK w (dropH e.1 g, e.2.1 - 1, e.2.2) := by
  refine ⟨by show wF w ≤ e.2.1 - 1; omega, by show e.2.1 - 1 ≤ 30; have := h.2.1; omega, fun k hk => ?_, h.2.2.2⟩
  have hk' : k < e.2.1 - 1 := hk
  show gOK w (dropH e.1 g k) ∧ byOK (gR (dropH e.1 g k))
  unfold dropH
  split
  · exact h.2.2.1 k (by omega)
  · exact h.2.2.1 (k + 1) (by omega)
theorem c_tear (hV : InvC x P (n, K, FI, FL, FR, AI, AL, AR)) {i : Int32} (hQ : ∀ μ', InvC x (as' P (sp_tear P i)) μ' → FrC x (n, K, FI, FL, FR, AI, AL, AR) μ' → Q (some (.int (av (sp_tear P i)))) μ') : EV sa (d + 4) 119 [.ref x, .int i] (n, K, FI, FL, FR, AI, AL, AR) Q := by
  obtain ⟨o, h, hS, hI⟩ := hV
  replace hS : CSt K FR AR x o h := hS
  replace hI : CInv x o P K FR AR FI AI AL := hI
  obtain ⟨k0, -, f450, -, f452, f453, f454, f455, -, ⟨hH, hT, ht⟩, -, ⟨e1, g1, s1, s1'⟩, ⟨e2, g2, s2, s2'⟩, hRow, hOrd⟩ := id hS
  have hno := hS.now
  obtain ⟨-, x1, x2, h30, -⟩ := hI.told
  refine n119 k0 ?_
  simp only [e119_0, e119_1, e119_2, e119_5, e119_8, e119_9, e119_10, e119_13, e119_14, e119_15, e119_16, e119_19, e119_22, e119_25, e119_26, e119_27, e119_30, e119_31, e119_32, e119_35, e119_36, e119_39, e119_42, e119_43, e119_46, e119_47, e119_50, e119_51, e119_54]
  refine ⟨by simp, c_hangs hS hI ?_⟩
  simp only [tl_some, e119_0, e119_1, e119_2, e119_5, e119_8, e119_9, e119_10, e119_13, e119_14, e119_15, e119_16, e119_19, e119_22, e119_25, e119_26, e119_27, e119_30, e119_31, e119_32, e119_35, e119_36, e119_39, e119_42, e119_43, e119_46, e119_47, e119_50, e119_51, e119_54, k0, f450, f452, hH.1, rf_some, x2, true_and, bI_eq0]
  refine ⟨fun z => ?_, fun z => ⟨by simp, c_deny hS ?_⟩⟩
  · have hi := ts_nf z
    obtain ⟨ei, i2⟩ := rng_of (N := pM P) (by omega) (by simpa [isHg] using hi)
    obtain ⟨s, es⟩ := wall_of (P := P) (Or.inr (Or.inr (Or.inl (by omega))))
    obtain ⟨p1, p2⟩ := pW_some es
    have em : pM P = s.2.1.2.1 := by unfold pM; rw [p2]
    have hE := (hI.hc es).2.2.1
    generalize hk : i.toNatClampNeg = k at *
    rw [p1]
    have hF30 : wF s.1 ≤ 30 := Nat.le_trans hE.1 hE.2.1
    have fi : nI (wF s.1) ≤ i ↔ wF s.1 ≤ k := by rw [ei]; exact nI_leI (by omega) (by omega)
    refine ⟨fun y => ⟨by simp, ?_⟩, fun y => ⟨by simp, c_deny hS ?_⟩⟩
    · have y' := fi.mp y
      refine c_keepP hS hI es fun F1 A1 b1 b2 b3 b4 b5 b6 => ?_
      simp only [tl_none, e119_0, e119_1, e119_2, e119_5, e119_8, e119_9, e119_10, e119_13, e119_14, e119_15, e119_16, e119_19, e119_22, e119_25, e119_26, e119_27, e119_30, e119_31, e119_32, e119_35, e119_36, e119_39, e119_42, e119_43, e119_46, e119_47, e119_50, e119_51, e119_54, k0, f450, rf_some, true_and]
      rw [ei]
      refine ⟨by simp, c_takeOut (g := k) b1 (by omega) fun F2 A2 c1 c2 c3 => ?_⟩
      simp only [tl_none, e119_0, e119_1, e119_2, e119_5, e119_8, e119_9, e119_10, e119_13, e119_14, e119_15, e119_16, e119_19, e119_22, e119_25, e119_26, e119_27, e119_30, e119_31, e119_32, e119_35, e119_36, e119_39, e119_42, e119_43, e119_46, e119_47, e119_50, e119_51, e119_54]
      refine ⟨by simp, c_grant hS ?_⟩
      simp only [tl_some, e119_0, e119_1, e119_2, e119_5, e119_8, e119_9, e119_10, e119_13, e119_14, e119_15, e119_16, e119_19, e119_22, e119_25, e119_26, e119_27, e119_30, e119_31, e119_32, e119_35, e119_36, e119_39, e119_42, e119_43, e119_46, e119_47, e119_50, e119_51, e119_54, or_true, true_and]
      refine grQ (s' := keepA s (dropH s.2.1.1 k, s.2.1.2.1 - 1, s.2.1.2.2)) hS (CInv.act hI (s' := keepA s (dropH s.2.1.1 k, s.2.1.2.1 - 1, s.2.1.2.2)) c1 ?_ (hE.drop y' (by omega)) ?_ ?_ ?_ ?_) (fun a ha => ⟨fun f => ⟨?_, rfl, rfl⟩, ?_, rfl⟩) hQ ?_
      · intro r hr
        rw [c3 _ (by omega), c3 _ (by omega)]
        exact b2 r hr
      · exact b3.fr s1 (c2 _ _ (Or.inl (by omega))) (c2 _ _ (Or.inl (by omega))) (fun i hi => by have := s1' i hi; exact c3 _ (by omega))
      · exact b4.fr s2 (c2 _ _ (Or.inl (by omega))) (c2 _ _ (Or.inl (by omega))) (fun i hi => by have := s2' i hi; exact c3 _ (by omega))
      · intro f; rw [c2 f x (Or.inl (by omega)), b5 f x (Or.inl (by omega))]
      · rw [c3 _ (by omega), b6 _ (by omega)]
      · rw [c2 f a (Or.inl (by omega)), b5 f a (Or.inl (by omega))]
      · rw [c3 _ (by omega), b6 _ (by omega)]
      · unfold sp_tear; rw [es]; simp only []; rw [if_pos hi, hk, if_neg (by omega)]
    · simp only [tl_some, e119_0, e119_1, e119_2, e119_5, e119_8, e119_9, e119_10, e119_13, e119_14, e119_15, e119_16, e119_19, e119_22, e119_25, e119_26, e119_27, e119_30, e119_31, e119_32, e119_35, e119_36, e119_39, e119_42, e119_43, e119_46, e119_47, e119_50, e119_51, e119_54, true_or, true_and]
      exact dnQ hS hI hQ (k := 5) (by decide) (by unfold sp_tear; rw [es]; simp only []; rw [if_pos hi, hk, if_pos (by
        rcases Nat.lt_or_ge k (wF s.1) with q | q
        · exact q
        · exact absurd (fi.mpr q) y)])
  · simp only [tl_some, e119_0, e119_1, e119_2, e119_5, e119_8, e119_9, e119_10, e119_13, e119_14, e119_15, e119_16, e119_19, e119_22, e119_25, e119_26, e119_27, e119_30, e119_31, e119_32, e119_35, e119_36, e119_39, e119_42, e119_43, e119_46, e119_47, e119_50, e119_51, e119_54, true_or, true_and]
    refine dnQ hS hI hQ (k := 1) (by decide) ?_
    unfold sp_tear
    cases e : gW P with
    | none => rfl
    | some s => simp only []; rw [if_neg (by simpa using z)]
theorem c_paste (hV : InvC x P (n, K, FI, FL, FR, AI, AL, AR)) {b u v r : Int32} (hQ : ∀ μ', InvC x (as' P (sp_paste P b u v r)) μ' → FrC x (n, K, FI, FL, FR, AI, AL, AR) μ' → Q (some (.int (av (sp_paste P b u v r)))) μ') : EV sa (d + 5) 117 [.ref x, .int b, .int u, .int v, .int r] (n, K, FI, FL, FR, AI, AL, AR) Q := by
  obtain ⟨o, h, hS, hI⟩ := hV
  replace hS : CSt K FR AR x o h := hS
  replace hI : CInv x o P K FR AR FI AI AL := hI
  obtain ⟨k0, -, f450, -, f452, f453, f454, f455, -, ⟨hH, hT, ht⟩, -, ⟨e1, g1, s1, s1'⟩, ⟨e2, g2, s2, s2'⟩, hRow, hOrd⟩ := id hS
  have hno := hS.now
  obtain ⟨-, -, -, -, -, -, -, h8, h4⟩ := hI.told
  have bad : ¬ (isB P b = true ∧ isRv P r = true) → Q (some (.int 0)) (n, K, mj_u2 FI 456 x 1, FL, FR, AI, AL, AR) := fun q => dnQ hS hI hQ (k := 1) (by decide) (by
    unfold sp_paste
    cases e : gW P with
    | none => rfl
    | some s => simp only []; rw [if_neg q])
  refine n117 k0 ?_
  simp only [e117_0, e117_1, e117_2, e117_5, e117_8, e117_9, e117_11, e117_14, e117_17, e117_18, e117_19, e117_22, e117_23, e117_24, e117_27, e117_30, e117_31, e117_32, e117_33, e117_36, e117_38, e117_40, e117_43, e117_44, e117_45, e117_48, e117_49, e117_50, e117_53, e117_56, e117_58, e117_59, e117_62, e117_63, e117_65, e117_68, e117_69, e117_70, e117_73, e117_74, e117_76, e117_79, e117_82, e117_83, e117_84, e117_87, e117_88, e117_89, e117_92, e117_93, e117_96, e117_99, e117_100, e117_103, e117_104, e117_106, e117_108, e117_111, e117_112, e117_115, e117_118, e117_120, e117_121, e117_122, e117_123, e117_124, e117_125, e117_126, e117_129]
  refine ⟨by simp, c_isBill hS hI ?_⟩
  simp only [tl_some, e117_0, e117_1, e117_2, e117_5, e117_8, e117_9, e117_11, e117_14, e117_17, e117_18, e117_19, e117_22, e117_23, e117_24, e117_27, e117_30, e117_31, e117_32, e117_33, e117_36, e117_38, e117_40, e117_43, e117_44, e117_45, e117_48, e117_49, e117_50, e117_53, e117_56, e117_58, e117_59, e117_62, e117_63, e117_65, e117_68, e117_69, e117_70, e117_73, e117_74, e117_76, e117_79, e117_82, e117_83, e117_84, e117_87, e117_88, e117_89, e117_92, e117_93, e117_96, e117_99, e117_100, e117_103, e117_104, e117_106, e117_108, e117_111, e117_112, e117_115, e117_118, e117_120, e117_121, e117_122, e117_123, e117_124, e117_125, e117_126, e117_129, bI_eq0]
  refine ⟨fun z => ⟨by simp, c_deny hS ?_⟩, fun z => ⟨by simp, c_isRival hS hI ?_⟩⟩
  · simp only [tl_some, e117_0, e117_1, e117_2, e117_5, e117_8, e117_9, e117_11, e117_14, e117_17, e117_18, e117_19, e117_22, e117_23, e117_24, e117_27, e117_30, e117_31, e117_32, e117_33, e117_36, e117_38, e117_40, e117_43, e117_44, e117_45, e117_48, e117_49, e117_50, e117_53, e117_56, e117_58, e117_59, e117_62, e117_63, e117_65, e117_68, e117_69, e117_70, e117_73, e117_74, e117_76, e117_79, e117_82, e117_83, e117_84, e117_87, e117_88, e117_89, e117_92, e117_93, e117_96, e117_99, e117_100, e117_103, e117_104, e117_106, e117_108, e117_111, e117_112, e117_115, e117_118, e117_120, e117_121, e117_122, e117_123, e117_124, e117_125, e117_126, e117_129, true_or, true_and]
    exact bad (fun q => by rw [z] at q; cases q.1)
  simp only [tl_some, e117_0, e117_1, e117_2, e117_5, e117_8, e117_9, e117_11, e117_14, e117_17, e117_18, e117_19, e117_22, e117_23, e117_24, e117_27, e117_30, e117_31, e117_32, e117_33, e117_36, e117_38, e117_40, e117_43, e117_44, e117_45, e117_48, e117_49, e117_50, e117_53, e117_56, e117_58, e117_59, e117_62, e117_63, e117_65, e117_68, e117_69, e117_70, e117_73, e117_74, e117_76, e117_79, e117_82, e117_83, e117_84, e117_87, e117_88, e117_89, e117_92, e117_93, e117_96, e117_99, e117_100, e117_103, e117_104, e117_106, e117_108, e117_111, e117_112, e117_115, e117_118, e117_120, e117_121, e117_122, e117_123, e117_124, e117_125, e117_126, e117_129, k0, f450, hH.1, ht, rf_some, true_and, bI_eq0]
  refine ⟨fun z2 => ⟨by simp, ?_⟩, fun z2 => ⟨by simp, c_deny hS ?_⟩⟩
  · have hb := ts_nf z
    have hr := ts_nf z2
    obtain ⟨s, es, eb, hb4, p1, p2, p3⟩ := isB_wall hI hb
    obtain ⟨s', es', er, hrn, hr3, -, p5⟩ := isR_wall hI hr
    rw [es] at es'
    cases es'
    obtain ⟨hC, hSP, hE, hA, hM⟩ := hI.hc es
    obtain ⟨j, hj, ej⟩ := hE.2.2.2 _ hr3
    have xs : AI (o + 20) r.toNatClampNeg = nI j := by rw [(hSP _ hr3).1]; exact ej
    have hsh : shN P r = j := by unfold shN; rw [p5, ej]; exact nI_clamp (by omega)
    have hin : vp_in r 3 := by rw [er]; exact vp_in_nI hr3 (by decide)
    obtain ⟨-, -, -, -, -, -, ⟨f9, k20⟩, -⟩ := id hH
    refine c_cornerAtP hS hI hb ?_
    simp only [tl_some, e117_0, e117_1, e117_2, e117_5, e117_8, e117_9, e117_11, e117_14, e117_17, e117_18, e117_19, e117_22, e117_23, e117_24, e117_27, e117_30, e117_31, e117_32, e117_33, e117_36, e117_38, e117_40, e117_43, e117_44, e117_45, e117_48, e117_49, e117_50, e117_53, e117_56, e117_58, e117_59, e117_62, e117_63, e117_65, e117_68, e117_69, e117_70, e117_73, e117_74, e117_76, e117_79, e117_82, e117_83, e117_84, e117_87, e117_88, e117_89, e117_92, e117_93, e117_96, e117_99, e117_100, e117_103, e117_104, e117_106, e117_108, e117_111, e117_112, e117_115, e117_118, e117_120, e117_121, e117_122, e117_123, e117_124, e117_125, e117_126, e117_129, k0, f450, hH.1, f9, k20, hin, xs, rf_some, true_and, true_or, mj_kl]
    cases hc : sCor P b u v with
    | none =>
      simp only [oI]
      refine ⟨fun y => absurd y (by decide), fun _ => ⟨by simp, c_deny hS ?_⟩⟩
      simp only [tl_some, e117_0, e117_1, e117_2, e117_5, e117_8, e117_9, e117_11, e117_14, e117_17, e117_18, e117_19, e117_22, e117_23, e117_24, e117_27, e117_30, e117_31, e117_32, e117_33, e117_36, e117_38, e117_40, e117_43, e117_44, e117_45, e117_48, e117_49, e117_50, e117_53, e117_56, e117_58, e117_59, e117_62, e117_63, e117_65, e117_68, e117_69, e117_70, e117_73, e117_74, e117_76, e117_79, e117_82, e117_83, e117_84, e117_87, e117_88, e117_89, e117_92, e117_93, e117_96, e117_99, e117_100, e117_103, e117_104, e117_106, e117_108, e117_111, e117_112, e117_115, e117_118, e117_120, e117_121, e117_122, e117_123, e117_124, e117_125, e117_126, e117_129, true_or, true_and]
      exact dnQ hS hI hQ (k := 2) (by decide) (by unfold sp_paste; rw [es]; simp only []; rw [if_pos ⟨hb, hr⟩, hc])
    | some c =>
      obtain ⟨hc1, hc2⟩ := sCor_some hc
      have c32 := (sCell_lt h8 h4 hc1).2
      simp only [oI]
      refine ⟨fun _ => ⟨fun y => ⟨by simp, ?_⟩, fun y => ⟨by simp, c_deny hS ?_⟩⟩, fun y => absurd (nI_pos' (by omega)) y⟩
      · have hj0 : ¬ j = 0 := fun q => by rw [q] at y; exact absurd y (by decide)
        obtain ⟨j', hj'⟩ : ∃ j', j = j' + 1 := ⟨j - 1, by omega⟩
        have mg := c_mayGo (sa := sa) (d := d) (n := n) (FL := FL) (AR := AR) (Q := fun v' μ => WP sa (EV sa (d + 4)) 117 Q 0 0 79 [.ref x, .int b, .int u, .int v, .int r, .int (nI c)] (v'.toList ++ []) μ) hC hb4 c32 fun F0 L0 a1 a2 => by
          have hI0 := hI.qx hS es a1 a2.toQX (fun _ _ _ => rfl)
          simp only [tl_some, e117_0, e117_1, e117_2, e117_5, e117_8, e117_9, e117_11, e117_14, e117_17, e117_18, e117_19, e117_22, e117_23, e117_24, e117_27, e117_30, e117_31, e117_32, e117_33, e117_36, e117_38, e117_40, e117_43, e117_44, e117_45, e117_48, e117_49, e117_50, e117_53, e117_56, e117_58, e117_59, e117_62, e117_63, e117_65, e117_68, e117_69, e117_70, e117_73, e117_74, e117_76, e117_79, e117_82, e117_83, e117_84, e117_87, e117_88, e117_89, e117_92, e117_93, e117_96, e117_99, e117_100, e117_103, e117_104, e117_106, e117_108, e117_111, e117_112, e117_115, e117_118, e117_120, e117_121, e117_122, e117_123, e117_124, e117_125, e117_126, e117_129, k0, f450, f452, rf_some, true_and, bI_eq0]
          refine ⟨fun w' => ⟨by simp, ?_⟩, fun w' => ⟨by simp, c_deny hS ?_⟩⟩
          · have hmy := ts_nf w'
            have hmo := mvp_on (w := s.1) (hs := s.2.1.1) (m := s.2.1.2.1) (i := 32 * b.toNatClampNeg + c) (by omega) (by unfold mvp; rwa [show (32 * b.toNatClampNeg + c) / 32 = b.toNatClampNeg by omega, show (32 * b.toNatClampNeg + c) % 32 = c by omega])
            rw [show (32 * b.toNatClampNeg + c) / 32 = b.toNatClampNeg by omega, show (32 * b.toNatClampNeg + c) % 32 = c by omega] at hmo
            have h30 := hE.2.1
            refine c_keepP hS hI0 es fun F1 A1 b1 b2 b3 b4 b5 b6 => ?_
            simp only [tl_none, e117_0, e117_1, e117_2, e117_5, e117_8, e117_9, e117_11, e117_14, e117_17, e117_18, e117_19, e117_22, e117_23, e117_24, e117_27, e117_30, e117_31, e117_32, e117_33, e117_36, e117_38, e117_40, e117_43, e117_44, e117_45, e117_48, e117_49, e117_50, e117_53, e117_56, e117_58, e117_59, e117_62, e117_63, e117_65, e117_68, e117_69, e117_70, e117_73, e117_74, e117_76, e117_79, e117_82, e117_83, e117_84, e117_87, e117_88, e117_89, e117_92, e117_93, e117_96, e117_99, e117_100, e117_103, e117_104, e117_106, e117_108, e117_111, e117_112, e117_115, e117_118, e117_120, e117_121, e117_122, e117_123, e117_124, e117_125, e117_126, e117_129, k0, f450, rf_some, true_and]
            refine ⟨by simp, ?_⟩
            have pt := C_put (sa := sa) (d := d + 2) (n := n) (FL := FL) (AR := AR) (Q := fun v' μ => WP sa (EV sa (d + 4)) 117 Q 0 0 111 [.ref x, .int b, .int u, .int v, .int r, .int (nI c)] (v'.toList ++ []) μ) b1 (by omega) (r := r) hmo.1 fun F2 A2 c1 c2 c3 => by
              have ys : A2 (o + 20) r.toNatClampNeg = nI (j' + 1) := by rw [c3 _ (by omega), (b2 _ hr3).1, ej, hj']
              simp only [tl_none, e117_0, e117_1, e117_2, e117_5, e117_8, e117_9, e117_11, e117_14, e117_17, e117_18, e117_19, e117_22, e117_23, e117_24, e117_27, e117_30, e117_31, e117_32, e117_33, e117_36, e117_38, e117_40, e117_43, e117_44, e117_45, e117_48, e117_49, e117_50, e117_53, e117_56, e117_58, e117_59, e117_62, e117_63, e117_65, e117_68, e117_69, e117_70, e117_73, e117_74, e117_76, e117_79, e117_82, e117_83, e117_84, e117_87, e117_88, e117_89, e117_92, e117_93, e117_96, e117_99, e117_100, e117_103, e117_104, e117_106, e117_108, e117_111, e117_112, e117_115, e117_118, e117_120, e117_121, e117_122, e117_123, e117_124, e117_125, e117_126, e117_129, k0, f450, hH.1, f9, k20, rf_some, hin, ys, nI_pred, true_and, true_or]
              refine ⟨by simp, c_grant hS ?_⟩
              simp only [tl_some, e117_0, e117_1, e117_2, e117_5, e117_8, e117_9, e117_11, e117_14, e117_17, e117_18, e117_19, e117_22, e117_23, e117_24, e117_27, e117_30, e117_31, e117_32, e117_33, e117_36, e117_38, e117_40, e117_43, e117_44, e117_45, e117_48, e117_49, e117_50, e117_53, e117_56, e117_58, e117_59, e117_62, e117_63, e117_65, e117_68, e117_69, e117_70, e117_73, e117_74, e117_76, e117_79, e117_82, e117_83, e117_84, e117_87, e117_88, e117_89, e117_92, e117_93, e117_96, e117_99, e117_100, e117_103, e117_104, e117_106, e117_108, e117_111, e117_112, e117_115, e117_118, e117_120, e117_121, e117_122, e117_123, e117_124, e117_125, e117_126, e117_129, or_true, true_and]
              generalize hA3 : mj_u2 A2 (o + 20) r.toNatClampNeg (nI j') = A3
              have aA : ∀ q, q ≠ o + 20 → A3 q = A2 q := fun q hq => by rw [← hA3]; funext z; exact mj_u2_1 hq
              refine grQ (s' := keepA s (puth s.2.1.1 s.2.1.2.1 (b.toNatClampNeg, c % wW s.1, c / wW s.1, r), s.2.1.2.1 + 1, upN s.2.1.2.2.1 r.toNatClampNeg (s.2.1.2.2.1 r.toNatClampNeg - 1), s.2.1.2.2.2)) hS (CInv.act hI (s' := keepA s (puth s.2.1.1 s.2.1.2.1 (b.toNatClampNeg, c % wW s.1, c / wW s.1, r), s.2.1.2.1 + 1, upN s.2.1.2.2.1 r.toNatClampNeg (s.2.1.2.2.1 r.toNatClampNeg - 1), s.2.1.2.2.2)) ?_ ?_ ⟨?_, ?_, ?_, ?_⟩ ?_ ?_ ?_ ?_) (fun a ha => ⟨fun f => ⟨?_, rfl, rfl⟩, ?_, ?_⟩) hQ ?_
              · exact c1.wc c1.2.2.2.1 (by
                  obtain ⟨z1, z2, z3, z4⟩ := c1.2.2.2.2.1
                  refine ⟨z1, fun b hb => ?_, fun u hu => ?_, fun c hc => ?_⟩
                  · rw [aA _ (by omega), aA _ (by omega), aA _ (by omega), aA _ (by omega), aA _ (by omega), aA _ (by omega)]
                    exact z2 b hb
                  · rw [aA _ (by omega)]; exact z3 u hu
                  · rw [aA _ (by omega), aA _ (by omega)]; exact z4 c hc) rfl rfl (Nat.le_refl _) (fun b hb => ⟨rfl, rfl, rfl, rfl, rfl⟩) rfl c1.2.2.2.2.2.1.2.2.1 rfl rfl (fun j j1 j2 => aA _ (by omega)) rfl
              · intro q hq
                show A3 (o + 20) q = upN s.2.1.2.2.1 r.toNatClampNeg (s.2.1.2.2.1 r.toNatClampNeg - 1) q ∧ A3 (o + 21) q = s.2.1.2.2.2 q
                rw [aA (o + 21) (by omega), c3 _ (by omega), ← hA3]
                refine ⟨?_, (b2 q hq).2⟩
                by_cases e : q = r.toNatClampNeg
                · subst e
                  rw [upN_s, mj_u2_s, ej, hj', nI_pred]
                · rw [upN_o e, mj_u2_2 e, c3 _ (by omega)]
                  exact (b2 q hq).1
              · show wF s.1 ≤ s.2.1.2.1 + 1
                have := hE.1
                omega
              · show s.2.1.2.1 + 1 ≤ 30
                omega
              · intro k hk
                have hk' : k < s.2.1.2.1 + 1 := hk
                show gOK s.1 (puth s.2.1.1 s.2.1.2.1 (b.toNatClampNeg, c % wW s.1, c / wW s.1, r) k) ∧ byOK (gR (puth s.2.1.1 s.2.1.2.1 (b.toNatClampNeg, c % wW s.1, c / wW s.1, r) k))
                by_cases q : k = s.2.1.2.1
                · subst q
                  rw [puth_eq]
                  refine ⟨hmo.1, r.toNatClampNeg + 2, by omega, ?_⟩
                  show r = nI (r.toNatClampNeg + 2) - 2
                  rw [show (2 : Int32) = nI 2 from rfl, nq_sub (by omega), Nat.add_sub_cancel]
                  exact er
                · rw [puth_lt (by omega)]
                  exact hE.2.2.1 k (by omega)
              · intro q hq
                show ∃ j, j ≤ 20 ∧ upN s.2.1.2.2.1 r.toNatClampNeg (s.2.1.2.2.1 r.toNatClampNeg - 1) q = nI j
                by_cases e : q = r.toNatClampNeg
                · subst e
                  exact ⟨j', by omega, by rw [upN_s, ej, hj', nI_pred]⟩
                · rw [upN_o e]
                  exact hE.2.2.2 q hq
              · exact b3.fr s1 (c2 _ _ (Or.inl (by omega))) (c2 _ _ (Or.inl (by omega))) (fun i hi => by have := s1' i hi; rw [aA _ (by omega)]; exact c3 _ (by omega))
              · exact b4.fr s2 (c2 _ _ (Or.inl (by omega))) (c2 _ _ (Or.inl (by omega))) (fun i hi => by have := s2' i hi; rw [aA _ (by omega)]; exact c3 _ (by omega))
              · intro f; rw [c2 f x (Or.inl (by omega)), b5 f x (Or.inl (by omega)), a2.1 f x (Or.inl (by omega))]
              · rw [aA _ (by omega), c3 _ (by omega), b6 _ (by omega)]
              · rw [c2 f a (Or.inl (by omega)), b5 f a (Or.inl (by omega)), a2.1 f a (Or.inl (by omega))]
              · rw [aA _ (by omega), c3 _ (by omega), b6 _ (by omega)]
              · exact a2.2 a (by omega)
              · unfold sp_paste; rw [es]; simp only []; rw [if_pos ⟨hb, hr⟩, hc]; simp only []; rw [if_neg (by omega), if_pos hmy]
            rw [← eb, Nat.div_add_mod] at pt
            simp only [e117_111] at pt
            exact pt
          · simp only [tl_some, e117_0, e117_1, e117_2, e117_5, e117_8, e117_9, e117_11, e117_14, e117_17, e117_18, e117_19, e117_22, e117_23, e117_24, e117_27, e117_30, e117_31, e117_32, e117_33, e117_36, e117_38, e117_40, e117_43, e117_44, e117_45, e117_48, e117_49, e117_50, e117_53, e117_56, e117_58, e117_59, e117_62, e117_63, e117_65, e117_68, e117_69, e117_70, e117_73, e117_74, e117_76, e117_79, e117_82, e117_83, e117_84, e117_87, e117_88, e117_89, e117_92, e117_93, e117_96, e117_99, e117_100, e117_103, e117_104, e117_106, e117_108, e117_111, e117_112, e117_115, e117_118, e117_120, e117_121, e117_122, e117_123, e117_124, e117_125, e117_126, e117_129, true_or, true_and]
            have f := finC (n := n) (FI := FI) (FL := FL) (FR := FR) (AI := AI) (AL := AL) (G := FL) (k := 5) hS hI0 (a2.out hno) (by decide)
            have e5 : sp_paste P b u v r = .inl 5 := by unfold sp_paste; rw [es]; simp only []; rw [if_pos ⟨hb, hr⟩, hc]; simp only []; rw [if_neg (by omega), if_neg (by simpa using w')]
            rw [e5] at hQ
            exact hQ _ f.1 f.2
        rw [← eb] at mg
        exact mg
      · have hj0 : j = 0 := by
          rcases Nat.eq_zero_or_pos j with q | q
          · exact q
          · exact absurd (nI_lt (a := 0) q (by omega)) y
        simp only [tl_some, e117_0, e117_1, e117_2, e117_5, e117_8, e117_9, e117_11, e117_14, e117_17, e117_18, e117_19, e117_22, e117_23, e117_24, e117_27, e117_30, e117_31, e117_32, e117_33, e117_36, e117_38, e117_40, e117_43, e117_44, e117_45, e117_48, e117_49, e117_50, e117_53, e117_56, e117_58, e117_59, e117_62, e117_63, e117_65, e117_68, e117_69, e117_70, e117_73, e117_74, e117_76, e117_79, e117_82, e117_83, e117_84, e117_87, e117_88, e117_89, e117_92, e117_93, e117_96, e117_99, e117_100, e117_103, e117_104, e117_106, e117_108, e117_111, e117_112, e117_115, e117_118, e117_120, e117_121, e117_122, e117_123, e117_124, e117_125, e117_126, e117_129, true_or, true_and]
        exact dnQ hS hI hQ (k := 6) (by decide) (by unfold sp_paste; rw [es]; simp only []; rw [if_pos ⟨hb, hr⟩, hc]; simp only []; rw [if_pos (by omega)])
  · simp only [tl_some, e117_0, e117_1, e117_2, e117_5, e117_8, e117_9, e117_11, e117_14, e117_17, e117_18, e117_19, e117_22, e117_23, e117_24, e117_27, e117_30, e117_31, e117_32, e117_33, e117_36, e117_38, e117_40, e117_43, e117_44, e117_45, e117_48, e117_49, e117_50, e117_53, e117_56, e117_58, e117_59, e117_62, e117_63, e117_65, e117_68, e117_69, e117_70, e117_73, e117_74, e117_76, e117_79, e117_82, e117_83, e117_84, e117_87, e117_88, e117_89, e117_92, e117_93, e117_96, e117_99, e117_100, e117_103, e117_104, e117_106, e117_108, e117_111, e117_112, e117_115, e117_118, e117_120, e117_121, e117_122, e117_123, e117_124, e117_125, e117_126, e117_129, true_or, true_and]
    exact bad (fun q => by rw [Decidable.not_not.mp z2] at q; cases q.2)
end
