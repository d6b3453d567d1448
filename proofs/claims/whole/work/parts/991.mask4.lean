theorem byR_tp {w : Wl} {hs : Nat → Hg} {m c : Nat} {r : Int32} : byR w hs m r c = (match tp w hs m c with
  | some k => decide (gR (hs k) = r)
  | none => false) := by
  unfold byR
  cases e : tp w hs m c with
  | none => rw [ex_false]; intro k _; simp
  | some k =>
    have hk := (tp_lt e).1
    by_cases z : gR (hs k) = r
    · show ex (fun k_1 => decide (gR (hs k_1) = r) && (some k == some k_1)) m = decide (gR (hs k) = r)
      rw [decide_eq_true z, ex_true]
      exact ⟨k, hk, by simp [z]⟩
    · show ex (fun k_1 => decide (gR (hs k_1) = r) && (some k == some k_1)) m = decide (gR (hs k) = r)
      rw [decide_eq_false z, ex_false]
      intro j _
      by_cases y : k = j
      · subst y; simp [z]
      · simp [y]
section
variable {sa : Nat → Nat} {d n t h m : Nat} {Q : mj_Q} {K : Nat → Nat × Nat} {FI : Nat → Nat → Int32} {FL : Nat → Nat → Int64} {FR : Nat → Nat → Option Nat} {AI : Nat → Nat → Int32} {AL : Nat → Nat → Int64} {AR : Nat → Nat → Option Nat} {w : Wl} {hs : Nat → Hg}
variable {a u q : Nat} {P : PG}
theorem c_mseenBy (hO : MO K FR FI AI AL q a w hs m) (hT : TopR AI q w hs m) {r : Int32} (hQ : Q (some (.int (nI (ct (byR w hs m r) 32)))) (n, K, FI, FL, FR, AI, AL, AR)) : EV sa (d + 1) 237 [.ref q, .int r] (n, K, FI, FL, FR, AI, AL, AR) Q := by
  have k0 := hO.k
  obtain ⟨-, ⟨f0, k1⟩, -⟩ := hO.1.1
  obtain ⟨ku, ⟨g0, ku1⟩, -⟩ := hO.1.2.2.2.2.1
  obtain ⟨r1, r2, r3⟩ := hO.mh
  have loop : ∀ rr c, c + rr = 32 → WP sa (EV sa d) 237 Q 0 0 4 [.ref q, .int r, .int (nI (ct (byR w hs m r) c)), .int (nI c)] [] (n, K, FI, FL, FR, AI, AL, AR) := by
    intro rr
    induction rr with
    | zero =>
      intro c hc
      have hc' : c = 32 := by omega
      subst hc'
      rw [e237_4]
      simp only [e237_0, e237_1, e237_2, e237_3, e237_5, e237_7, e237_10, e237_11, e237_12, e237_15, e237_16, e237_17, e237_18, e237_21, e237_22, e237_25, e237_28, e237_30, e237_31, e237_34, e237_35, e237_36, e237_37, e237_38, e237_39, e237_42, e237_43, e237_46, e237_47, e237_48, e237_49, e237_52, e237_55, e237_56]
      exact ⟨fun _ => hQ, fun z => absurd (by decide) z⟩
    | succ rr ih =>
      intro c hc
      have nx := ih (c + 1) (by omega)
      rw [ct_top, byR_tp] at nx
      have hin : vp_in (nI c) 32 := vp_in_nI (by omega) (by decide)
      have hcl : (nI c).toNatClampNeg = c := nI_clamp (by omega)
      have ht := hT c (by omega)
      rw [e237_4]
      simp only [e237_0, e237_1, e237_2, e237_3, e237_5, e237_7, e237_10, e237_11, e237_12, e237_15, e237_16, e237_17, e237_18, e237_21, e237_22, e237_25, e237_28, e237_30, e237_31, e237_34, e237_35, e237_36, e237_37, e237_38, e237_39, e237_42, e237_43, e237_46, e237_47, e237_48, e237_49, e237_52, e237_55, e237_56, k0, f0, k1, rf_some, hin, hcl, ht, nI_1, mj_kl, true_and, true_or]
      refine ⟨fun z => absurd z (nI_ge (b := 32) (by omega) (by decide)), fun _ => ?_⟩
      cases e : tp w hs m c with
      | none =>
        rw [e] at nx
        simp only [oI]
        refine ⟨fun _ => ?_, fun z => absurd trivial z⟩
        simpa using nx
      | some k =>
        rw [e] at nx
        have hk := (tp_lt e).1
        have i4 : vp_in (nI (91 + k)) 127 := vp_in_nI (by omega) (by decide)
        have c4 : (nI (91 + k)).toNatClampNeg = 91 + k := nI_clamp (by omega)
        rw [e] at ht
        simp only [oI] at ht ⊢
        refine ⟨fun z => ?_, fun _ => ?_⟩
        · have h3 : nI k < 0 := by rw [z]; decide
          exact absurd h3 (nI_pos (by omega))
        · simp only [e237_0, e237_1, e237_2, e237_3, e237_5, e237_7, e237_10, e237_11, e237_12, e237_15, e237_16, e237_17, e237_18, e237_21, e237_22, e237_25, e237_28, e237_30, e237_31, e237_34, e237_35, e237_36, e237_37, e237_38, e237_39, e237_42, e237_43, e237_46, e237_47, e237_48, e237_49, e237_52, e237_55, e237_56, k0, f0, k1, hin, hcl, ht, hO.2.2, ku, g0, ku1, rf_some, show (91 : Int32) = nI 91 from rfl, nI_add, i4, c4, (r3 k hk).2.2.2.2.1, nI_1, mj_kl, true_and, true_or]
          refine ⟨fun z => ?_, fun z => ?_⟩
          · simpa [z] using nx
          · have z' : gR (hs k) = r := Classical.not_not.mp z
            simpa [z'] using nx
  refine n237 k0 ?_
  simp only [e237_0, e237_1, e237_2, e237_3, e237_5, e237_7, e237_10, e237_11, e237_12, e237_15, e237_16, e237_17, e237_18, e237_21, e237_22, e237_25, e237_28, e237_30, e237_31, e237_34, e237_35, e237_36, e237_37, e237_38, e237_39, e237_42, e237_43, e237_46, e237_47, e237_48, e237_49, e237_52, e237_55, e237_56, mj_kl]
  have := loop 32 0 (by omega)
  simpa [nI_0, ct, mj_u, mj_kl] using this
theorem c_m_rival (hV : InvM q P (n, K, FI, FL, FR, AI, AL, AR)) {r k : Int32} (hQ : ∀ μ', InvM q (rs P (sp_rival P r k)) μ' → FrM q (n, K, FI, FL, FR, AI, AL, AR) μ' → Q (some (.int (rv (sp_rival P r k)))) μ') : EV sa (d + 3) 239 [.ref q, .int r, .int k] (n, K, FI, FL, FR, AI, AL, AR) Q := by
  have hI0 : MInv q P n K FR FI AI AL := hV
  have k0 := hI0.1.1
  refine n239 k0 ?_
  simp only [e239_0, e239_1, e239_2, e239_5, e239_6, e239_7, e239_10, e239_13, e239_14, e239_15, e239_16, e239_19, e239_22, e239_23, e239_24, e239_27, e239_28, e239_29, e239_30, e239_33, e239_34, e239_37, e239_40, e239_41, e239_42, e239_45, e239_46, e239_49, e239_52, e239_54, e239_55, e239_56, e239_57, e239_60, e239_61, e239_62, e239_65, e239_66, e239_67, e239_70, e239_73, e239_74, e239_77, e239_80, e239_82, e239_83, e239_84, e239_85, e239_88, k0, true_and]
  have hI := hI0.th (v := 0)
  have hF : FrM q (n, K, FI, FL, FR, AI, AL, AR) (n, K, mj_u2 FI 640 q 0, FL, FR, AI, AL, AR) := FrM.f
  generalize mj_u2 FI 640 q 0 = F at hI hF ⊢
  refine ⟨by simp, c_misRival hI ?_⟩
  have no : ¬ (isRv P r = true ∧ 0 ≤ k ∧ k ≤ nI 2) → EV sa (d + 2) 163 [.ref q, .int 1] (n, K, F, FL, FR, AI, AL, AR) (fun v μ' => WP sa (EV sa (d + 2)) 239 Q 0 0 27 [.ref q, .int r, .int k] (v.toList ++ []) μ') := fun hn => by
    refine c_mrefused k0 ?_
    simp only [tl_some, e239_0, e239_1, e239_2, e239_5, e239_6, e239_7, e239_10, e239_13, e239_14, e239_15, e239_16, e239_19, e239_22, e239_23, e239_24, e239_27, e239_28, e239_29, e239_30, e239_33, e239_34, e239_37, e239_40, e239_41, e239_42, e239_45, e239_46, e239_49, e239_52, e239_54, e239_55, e239_56, e239_57, e239_60, e239_61, e239_62, e239_65, e239_66, e239_67, e239_70, e239_73, e239_74, e239_77, e239_80, e239_82, e239_83, e239_84, e239_85, e239_88]
    exact mrefQ hI hF hQ (k := 1) (by decide) (by unfold sp_rival; rw [if_neg hn])
  simp only [tl_some, e239_0, e239_1, e239_2, e239_5, e239_6, e239_7, e239_10, e239_13, e239_14, e239_15, e239_16, e239_19, e239_22, e239_23, e239_24, e239_27, e239_28, e239_29, e239_30, e239_33, e239_34, e239_37, e239_40, e239_41, e239_42, e239_45, e239_46, e239_49, e239_52, e239_54, e239_55, e239_56, e239_57, e239_60, e239_61, e239_62, e239_65, e239_66, e239_67, e239_70, e239_73, e239_74, e239_77, e239_80, e239_82, e239_83, e239_84, e239_85, e239_88, bI_eq0]
  refine ⟨fun z => ⟨by simp, no (fun y => by rw [z] at y; cases y.1)⟩, fun z => ⟨by simp, c_min ?_⟩⟩
  simp only [tl_some, e239_0, e239_1, e239_2, e239_5, e239_6, e239_7, e239_10, e239_13, e239_14, e239_15, e239_16, e239_19, e239_22, e239_23, e239_24, e239_27, e239_28, e239_29, e239_30, e239_33, e239_34, e239_37, e239_40, e239_41, e239_42, e239_45, e239_46, e239_49, e239_52, e239_54, e239_55, e239_56, e239_57, e239_60, e239_61, e239_62, e239_65, e239_66, e239_67, e239_70, e239_73, e239_74, e239_77, e239_80, e239_82, e239_83, e239_84, e239_85, e239_88, bI_eq0]
  refine ⟨fun z2 => ?_, fun z2 => ⟨by simp, no (fun y => z2 (by simp [show (2 : Int32) = nI 2 from rfl, y.2]))⟩⟩
  have z2' := ts_nf z2
  rw [decide_eq_true_eq] at z2'
  obtain ⟨s, es, eb, hb, hb3, p1, p2, p3, p4⟩ := misR hI (ts_nf z)
  obtain ⟨-, -, -, hWW⟩ := id hI
  rw [es] at hWW
  obtain ⟨a, hO, ha1, ha2, hSP, -⟩ := hWW
  obtain ⟨ku, ⟨g0, ku1⟩, -⟩ := hO.1.2.2.2.2.1
  have esp : sp_rival P r k = .inr (if k = nI 0 then s.2.1.2.2.1 r.toNatClampNeg else if k = nI 1 then nI (ct (byR s.1 s.2.1.1 s.2.1.2.1 r) 32) else s.2.1.2.2.2 r.toNatClampNeg) := by
    unfold sp_rival
    rw [if_pos ⟨ts_nf z, z2'.1, z2'.2⟩, p1, p2, p3, p4]
  generalize hbb : r.toNatClampNeg = R at *
  subst eb
  simp only [e239_0, e239_1, e239_2, e239_5, e239_6, e239_7, e239_10, e239_13, e239_14, e239_15, e239_16, e239_19, e239_22, e239_23, e239_24, e239_27, e239_28, e239_29, e239_30, e239_33, e239_34, e239_37, e239_40, e239_41, e239_42, e239_45, e239_46, e239_49, e239_52, e239_54, e239_55, e239_56, e239_57, e239_60, e239_61, e239_62, e239_65, e239_66, e239_67, e239_70, e239_73, e239_74, e239_77, e239_80, e239_82, e239_83, e239_84, e239_85, e239_88, k0, hO.2.1, hO.2.2, rf_some, true_and]
  refine ⟨by simp, c_looks hO.1.1 hO.1.2.2.2.2.1 (by omega) hO.mh fun A t x' => ?_⟩
  have hX : MX q (a + 13) AI A AL AL := ⟨fun z z1 _ _ => x' z (by omega), fun j _ => by rw [x' _ (by omega)], fun _ _ => rfl⟩
  have hA := hO.ofX (hO.1.of hX (hO.mh.fr (AL' := AL) (x' _ (by omega)) rfl))
  have fin : ∀ v, sp_rival P (nI R) k = .inr v → EV sa (d + 2) 165 [.ref q, .int v] (n, K, F, FL, FR, A, AL, AR) (fun r μ' => WP sa (EV sa (d + 2)) 239 Q 0 0 88 [.ref q, .int (nI R), .int k] (r.toList ++ []) μ') := fun v hv => by
    refine c_mgood k0 ?_
    simp only [tl_some, e239_0, e239_1, e239_2, e239_5, e239_6, e239_7, e239_10, e239_13, e239_14, e239_15, e239_16, e239_19, e239_22, e239_23, e239_24, e239_27, e239_28, e239_29, e239_30, e239_33, e239_34, e239_37, e239_40, e239_41, e239_42, e239_45, e239_46, e239_49, e239_52, e239_54, e239_55, e239_56, e239_57, e239_60, e239_61, e239_62, e239_65, e239_66, e239_67, e239_70, e239_73, e239_74, e239_77, e239_80, e239_82, e239_83, e239_84, e239_85, e239_88]
    exact mansQ (hI.qq es hO.2.1 hX.toMQ hA.mh) (hF.trans (hX.toMQ.frm ha1)) hQ hv
  have i1 : vp_in (nI (121 + R)) 127 := vp_in_nI (by omega) (by decide)
  have c1 : (nI (121 + R)).toNatClampNeg = 121 + R := nI_clamp (by omega)
  have i2 : vp_in (nI (124 + R)) 127 := vp_in_nI (by omega) (by decide)
  have c2 : (nI (124 + R)).toNatClampNeg = 124 + R := nI_clamp (by omega)
  have s1 : A (a + 13 + 1) (121 + R) = s.2.1.2.2.1 R := by rw [x' _ (by omega)]; exact (hSP R hb3).1
  have s2 : A (a + 13 + 1) (124 + R) = s.2.1.2.2.2 R := by rw [x' _ (by omega)]; exact (hSP R hb3).2
  simp only [tl_none, e239_0, e239_1, e239_2, e239_5, e239_6, e239_7, e239_10, e239_13, e239_14, e239_15, e239_16, e239_19, e239_22, e239_23, e239_24, e239_27, e239_28, e239_29, e239_30, e239_33, e239_34, e239_37, e239_40, e239_41, e239_42, e239_45, e239_46, e239_49, e239_52, e239_54, e239_55, e239_56, e239_57, e239_60, e239_61, e239_62, e239_65, e239_66, e239_67, e239_70, e239_73, e239_74, e239_77, e239_80, e239_82, e239_83, e239_84, e239_85, e239_88, k0, hO.2.2, ku, g0, ku1, rf_some, show (121 : Int32) = nI 121 from rfl, show (124 : Int32) = nI 124 from rfl, nI_add, i1, c1, i2, c2, s1, s2, true_and, true_or]
  refine ⟨fun (z3 : ¬ k = nI 0) => ⟨fun (z4 : ¬ k = nI 1) => ⟨by simp, fin _ ?_⟩, fun (z4 : ¬ ¬ k = nI 1) => ⟨by simp, c_mseenBy hA t ?_⟩⟩, fun (z3 : ¬ ¬ k = nI 0) => ⟨by simp, fin _ ?_⟩⟩
  · rw [esp, if_neg z3, if_neg z4]
  · simp only [tl_some, e239_0, e239_1, e239_2, e239_5, e239_6, e239_7, e239_10, e239_13, e239_14, e239_15, e239_16, e239_19, e239_22, e239_23, e239_24, e239_27, e239_28, e239_29, e239_30, e239_33, e239_34, e239_37, e239_40, e239_41, e239_42, e239_45, e239_46, e239_49, e239_52, e239_54, e239_55, e239_56, e239_57, e239_60, e239_61, e239_62, e239_65, e239_66, e239_67, e239_70, e239_73, e239_74, e239_77, e239_80, e239_82, e239_83, e239_84, e239_85, e239_88]
    exact ⟨by simp, fin _ (by rw [esp, if_neg z3, if_pos (Classical.not_not.mp z4)])⟩
  · rw [esp, if_pos (Classical.not_not.mp z3)]
theorem c_m_bill (hV : InvM q P (n, K, FI, FL, FR, AI, AL, AR)) {b k : Int32} (hQ : ∀ μ', InvM q (rs P (sp_bill P b k)) μ' → FrM q (n, K, FI, FL, FR, AI, AL, AR) μ' → Q (some (.int (rv (sp_bill P b k)))) μ') : EV sa (d + 3) 216 [.ref q, .int b, .int k] (n, K, FI, FL, FR, AI, AL, AR) Q := by
  have hI0 : MInv q P n K FR FI AI AL := hV
  have k0 := hI0.1.1
  refine n216 k0 ?_
  simp only [e216_0, e216_1, e216_2, e216_5, e216_6, e216_7, e216_10, e216_13, e216_14, e216_15, e216_16, e216_19, e216_22, e216_23, e216_24, e216_27, e216_28, e216_29, e216_30, e216_33, e216_34, e216_37, e216_40, e216_41, e216_42, e216_45, e216_46, e216_47, e216_50, e216_51, e216_54, e216_57, e216_58, e216_59, e216_62, e216_63, e216_64, e216_67, e216_68, e216_71, e216_74, e216_75, e216_76, e216_79, e216_80, e216_83, e216_86, e216_87, e216_88, e216_91, k0, true_and]
  have hI := hI0.th (v := 0)
  have hF : FrM q (n, K, FI, FL, FR, AI, AL, AR) (n, K, mj_u2 FI 640 q 0, FL, FR, AI, AL, AR) := FrM.f
  generalize mj_u2 FI 640 q 0 = F at hI hF ⊢
  refine ⟨by simp, c_misBill hI ?_⟩
  have no : ¬ (isB P b = true ∧ 0 ≤ k ∧ k ≤ nI 3) → EV sa (d + 2) 163 [.ref q, .int 1] (n, K, F, FL, FR, AI, AL, AR) (fun v μ' => WP sa (EV sa (d + 2)) 216 Q 0 0 27 [.ref q, .int b, .int k] (v.toList ++ []) μ') := fun hn => by
    refine c_mrefused k0 ?_
    simp only [tl_some, e216_0, e216_1, e216_2, e216_5, e216_6, e216_7, e216_10, e216_13, e216_14, e216_15, e216_16, e216_19, e216_22, e216_23, e216_24, e216_27, e216_28, e216_29, e216_30, e216_33, e216_34, e216_37, e216_40, e216_41, e216_42, e216_45, e216_46, e216_47, e216_50, e216_51, e216_54, e216_57, e216_58, e216_59, e216_62, e216_63, e216_64, e216_67, e216_68, e216_71, e216_74, e216_75, e216_76, e216_79, e216_80, e216_83, e216_86, e216_87, e216_88, e216_91]
    exact mrefQ hI hF hQ (k := 1) (by decide) (by unfold sp_bill; rw [if_neg hn])
  simp only [tl_some, e216_0, e216_1, e216_2, e216_5, e216_6, e216_7, e216_10, e216_13, e216_14, e216_15, e216_16, e216_19, e216_22, e216_23, e216_24, e216_27, e216_28, e216_29, e216_30, e216_33, e216_34, e216_37, e216_40, e216_41, e216_42, e216_45, e216_46, e216_47, e216_50, e216_51, e216_54, e216_57, e216_58, e216_59, e216_62, e216_63, e216_64, e216_67, e216_68, e216_71, e216_74, e216_75, e216_76, e216_79, e216_80, e216_83, e216_86, e216_87, e216_88, e216_91, bI_eq0]
  refine ⟨fun z => ⟨by simp, no (fun y => by rw [z] at y; cases y.1)⟩, fun z => ⟨by simp, c_min ?_⟩⟩
  simp only [tl_some, e216_0, e216_1, e216_2, e216_5, e216_6, e216_7, e216_10, e216_13, e216_14, e216_15, e216_16, e216_19, e216_22, e216_23, e216_24, e216_27, e216_28, e216_29, e216_30, e216_33, e216_34, e216_37, e216_40, e216_41, e216_42, e216_45, e216_46, e216_47, e216_50, e216_51, e216_54, e216_57, e216_58, e216_59, e216_62, e216_63, e216_64, e216_67, e216_68, e216_71, e216_74, e216_75, e216_76, e216_79, e216_80, e216_83, e216_86, e216_87, e216_88, e216_91, bI_eq0]
  refine ⟨fun z2 => ?_, fun z2 => ⟨by simp, no (fun y => z2 (by simp [show (3 : Int32) = nI 3 from rfl, y.2]))⟩⟩
  have z2' := ts_nf z2
  rw [decide_eq_true_eq] at z2'
  obtain ⟨s, es, eb, hb, p1, p2, p3, p4⟩ := misB hI (ts_nf z)
  obtain ⟨a, hO, ha1, ha2⟩ := hI.mo es
  obtain ⟨ka, ⟨g1, ka1⟩, ⟨g2, ka2⟩, ⟨g3, ka3⟩, ⟨g4, ka4⟩, -⟩ := hO.1.2.1
  obtain ⟨m1, m2, m3, m4, -⟩ := hO.1.2.2.2.1.2.1 _ hb
  have hn4 := hO.ok.2.2.2.1
  have esp : sp_bill P b k = .inr (nI (if k = nI 0 then wK s.1 b.toNatClampNeg else if k = nI 1 then wBW s.1 b.toNatClampNeg else if k = nI 2 then wBH s.1 b.toNatClampNeg else wTL s.1 b.toNatClampNeg)) := by
    unfold sp_bill
    rw [if_pos ⟨ts_nf z, z2'.1, z2'.2⟩, p1]
  generalize hbb : b.toNatClampNeg = B at *
  subst eb
  have bin : vp_in (nI B) 4 := vp_in_nI (by omega) (by decide)
  have fin : ∀ v, sp_bill P (nI B) k = .inr v → EV sa (d + 2) 165 [.ref q, .int v] (n, K, F, FL, FR, AI, AL, AR) (fun r μ' => WP sa (EV sa (d + 2)) 216 Q 0 0 91 [.ref q, .int (nI B), .int k] (r.toList ++ []) μ') := fun v hv => by
    refine c_mgood k0 ?_
    simp only [tl_some, e216_0, e216_1, e216_2, e216_5, e216_6, e216_7, e216_10, e216_13, e216_14, e216_15, e216_16, e216_19, e216_22, e216_23, e216_24, e216_27, e216_28, e216_29, e216_30, e216_33, e216_34, e216_37, e216_40, e216_41, e216_42, e216_45, e216_46, e216_47, e216_50, e216_51, e216_54, e216_57, e216_58, e216_59, e216_62, e216_63, e216_64, e216_67, e216_68, e216_71, e216_74, e216_75, e216_76, e216_79, e216_80, e216_83, e216_86, e216_87, e216_88, e216_91]
    exact mansQ hI hF hQ hv
  simp only [e216_0, e216_1, e216_2, e216_5, e216_6, e216_7, e216_10, e216_13, e216_14, e216_15, e216_16, e216_19, e216_22, e216_23, e216_24, e216_27, e216_28, e216_29, e216_30, e216_33, e216_34, e216_37, e216_40, e216_41, e216_42, e216_45, e216_46, e216_47, e216_50, e216_51, e216_54, e216_57, e216_58, e216_59, e216_62, e216_63, e216_64, e216_67, e216_68, e216_71, e216_74, e216_75, e216_76, e216_79, e216_80, e216_83, e216_86, e216_87, e216_88, e216_91, k0, hO.2.1, rf_some, ka, g1, ka1, g2, ka2, g3, ka3, g4, ka4, bin, hbb, m1, m2, m3, m4, true_and, true_or]
  refine ⟨fun (z3 : ¬ k = nI 0) => ⟨fun (z4 : ¬ k = nI 1) => ⟨fun (z5 : ¬ k = nI 2) => ⟨by simp, fin _ ?_⟩, fun (z5 : ¬ ¬ k = nI 2) => ⟨by simp, fin _ ?_⟩⟩, fun (z4 : ¬ ¬ k = nI 1) => ⟨by simp, fin _ ?_⟩⟩, fun (z3 : ¬ ¬ k = nI 0) => ⟨by simp, fin _ ?_⟩⟩
  · rw [esp, if_neg z3, if_neg z4, if_neg z5]
  · rw [esp, if_neg z3, if_neg z4, if_pos (Classical.not_not.mp z5)]
  · rw [esp, if_neg z3, if_pos (Classical.not_not.mp z4)]
  · rw [esp, if_pos (Classical.not_not.mp z3)]
theorem c_m_hung (hV : InvM q P (n, K, FI, FL, FR, AI, AL, AR)) {i k : Int32} (hQ : ∀ μ', InvM q (rs P (sp_hung P i k)) μ' → FrM q (n, K, FI, FL, FR, AI, AL, AR) μ' → Q (some (.int (rv (sp_hung P i k)))) μ') : EV sa (d + 3) 218 [.ref q, .int i, .int k] (n, K, FI, FL, FR, AI, AL, AR) Q := by
  have hI0 : MInv q P n K FR FI AI AL := hV
  have k0 := hI0.1.1
  refine n218 k0 ?_
  simp only [e218_0, e218_1, e218_2, e218_5, e218_6, e218_7, e218_10, e218_13, e218_14, e218_15, e218_16, e218_19, e218_22, e218_23, e218_24, e218_27, e218_28, e218_29, e218_30, e218_33, e218_34, e218_35, e218_38, e218_41, e218_42, e218_44, e218_45, e218_46, e218_47, e218_48, e218_49, e218_50, e218_53, e218_54, e218_55, e218_56, e218_59, e218_60, e218_63, e218_66, e218_67, e218_68, e218_69, e218_72, e218_75, e218_78, k0, true_and]
  have hI := hI0.th (v := 0)
  have hF : FrM q (n, K, FI, FL, FR, AI, AL, AR) (n, K, mj_u2 FI 640 q 0, FL, FR, AI, AL, AR) := FrM.f
  generalize mj_u2 FI 640 q 0 = F at hI hF ⊢
  refine ⟨by simp, c_misHung hI ?_⟩
  have no : ¬ (isHg P i = true ∧ 0 ≤ k ∧ k ≤ nI 4) → EV sa (d + 2) 163 [.ref q, .int 1] (n, K, F, FL, FR, AI, AL, AR) (fun v μ' => WP sa (EV sa (d + 2)) 218 Q 0 0 27 [.ref q, .int i, .int k] (v.toList ++ []) μ') := fun hn => by
    refine c_mrefused k0 ?_
    simp only [tl_some, e218_0, e218_1, e218_2, e218_5, e218_6, e218_7, e218_10, e218_13, e218_14, e218_15, e218_16, e218_19, e218_22, e218_23, e218_24, e218_27, e218_28, e218_29, e218_30, e218_33, e218_34, e218_35, e218_38, e218_41, e218_42, e218_44, e218_45, e218_46, e218_47, e218_48, e218_49, e218_50, e218_53, e218_54, e218_55, e218_56, e218_59, e218_60, e218_63, e218_66, e218_67, e218_68, e218_69, e218_72, e218_75, e218_78]
    exact mrefQ hI hF hQ (k := 1) (by decide) (by unfold sp_hung; rw [if_neg hn])
  simp only [tl_some, e218_0, e218_1, e218_2, e218_5, e218_6, e218_7, e218_10, e218_13, e218_14, e218_15, e218_16, e218_19, e218_22, e218_23, e218_24, e218_27, e218_28, e218_29, e218_30, e218_33, e218_34, e218_35, e218_38, e218_41, e218_42, e218_44, e218_45, e218_46, e218_47, e218_48, e218_49, e218_50, e218_53, e218_54, e218_55, e218_56, e218_59, e218_60, e218_63, e218_66, e218_67, e218_68, e218_69, e218_72, e218_75, e218_78, bI_eq0]
  refine ⟨fun z => ⟨by simp, no (fun y => by rw [z] at y; cases y.1)⟩, fun z => ⟨by simp, c_min ?_⟩⟩
  simp only [tl_some, e218_0, e218_1, e218_2, e218_5, e218_6, e218_7, e218_10, e218_13, e218_14, e218_15, e218_16, e218_19, e218_22, e218_23, e218_24, e218_27, e218_28, e218_29, e218_30, e218_33, e218_34, e218_35, e218_38, e218_41, e218_42, e218_44, e218_45, e218_46, e218_47, e218_48, e218_49, e218_50, e218_53, e218_54, e218_55, e218_56, e218_59, e218_60, e218_63, e218_66, e218_67, e218_68, e218_69, e218_72, e218_75, e218_78, bI_eq0]
  refine ⟨fun z2 => ?_, fun z2 => ⟨by simp, no (fun y => z2 (by simp [show (4 : Int32) = nI 4 from rfl, y.2]))⟩⟩
  have z2' := ts_nf z2
  rw [decide_eq_true_eq] at z2'
  obtain ⟨s, es, eb, hb, p1, p2, p3, p4⟩ := misH hI (ts_nf z)
  obtain ⟨a, hO, ha1, ha2⟩ := hI.mo es
  obtain ⟨ku, ⟨g0, ku1⟩, -⟩ := hO.1.2.2.2.2.1
  obtain ⟨r1, r2, r3⟩ := hO.mh
  have esp : sp_hung P i k = .inr (if k = nI 0 then nI (gB (s.2.1.1 i.toNatClampNeg)) else if k = nI 1 then nI (gX (s.2.1.1 i.toNatClampNeg)) else if k = nI 2 then nI (gY (s.2.1.1 i.toNatClampNeg)) else if k = nI 3 then gR (s.2.1.1 i.toNatClampNeg) else nI (ct (fun c => tp s.1 s.2.1.1 s.2.1.2.1 c == some i.toNatClampNeg) 32)) := by
    unfold sp_hung
    rw [if_pos ⟨ts_nf z, z2'.1, z2'.2⟩, p1, p2, p3]
  generalize hbb : i.toNatClampNeg = I at *
  subst eb
  obtain ⟨j, hj, rfl⟩ := nI_of (Int32.not_lt.mpr z2'.1)
  have hj4 := (nI_leI (b := 4) hj (by decide)).mp z2'.2
  simp only [show (4 : Int32) = nI 4 from rfl, nI_leI (show 4 < 2 ^ 31 by decide) hj]
  refine ⟨fun z3 => ?_, fun z3 => ?_⟩
  · have e4 : j = 4 := by omega
    subst e4
    simp only [e218_0, e218_1, e218_2, e218_5, e218_6, e218_7, e218_10, e218_13, e218_14, e218_15, e218_16, e218_19, e218_22, e218_23, e218_24, e218_27, e218_28, e218_29, e218_30, e218_33, e218_34, e218_35, e218_38, e218_41, e218_42, e218_44, e218_45, e218_46, e218_47, e218_48, e218_49, e218_50, e218_53, e218_54, e218_55, e218_56, e218_59, e218_60, e218_63, e218_66, e218_67, e218_68, e218_69, e218_72, e218_75, e218_78, k0, hO.2.1, hO.2.2, rf_some, true_and]
    refine ⟨by simp, c_looks hO.1.1 hO.1.2.2.2.2.1 (by omega) hO.mh fun A t x' => ?_⟩
    have hX : MX q (a + 13) AI A AL AL := ⟨fun z z1 _ _ => x' z (by omega), fun j _ => by rw [x' _ (by omega)], fun _ _ => rfl⟩
    have hA := hO.ofX (hO.1.of hX (hO.mh.fr (AL' := AL) (x' _ (by omega)) rfl))
    simp only [tl_none, e218_0, e218_1, e218_2, e218_5, e218_6, e218_7, e218_10, e218_13, e218_14, e218_15, e218_16, e218_19, e218_22, e218_23, e218_24, e218_27, e218_28, e218_29, e218_30, e218_33, e218_34, e218_35, e218_38, e218_41, e218_42, e218_44, e218_45, e218_46, e218_47, e218_48, e218_49, e218_50, e218_53, e218_54, e218_55, e218_56, e218_59, e218_60, e218_63, e218_66, e218_67, e218_68, e218_69, e218_72, e218_75, e218_78]
    refine ⟨by simp, c_mseenOf hO.1.1 t r2 (by omega) fun v hv => ?_⟩
    simp only [tl_some, e218_0, e218_1, e218_2, e218_5, e218_6, e218_7, e218_10, e218_13, e218_14, e218_15, e218_16, e218_19, e218_22, e218_23, e218_24, e218_27, e218_28, e218_29, e218_30, e218_33, e218_34, e218_35, e218_38, e218_41, e218_42, e218_44, e218_45, e218_46, e218_47, e218_48, e218_49, e218_50, e218_53, e218_54, e218_55, e218_56, e218_59, e218_60, e218_63, e218_66, e218_67, e218_68, e218_69, e218_72, e218_75, e218_78]
    refine ⟨by simp, c_bits hv ?_⟩
    simp only [tl_some, e218_0, e218_1, e218_2, e218_5, e218_6, e218_7, e218_10, e218_13, e218_14, e218_15, e218_16, e218_19, e218_22, e218_23, e218_24, e218_27, e218_28, e218_29, e218_30, e218_33, e218_34, e218_35, e218_38, e218_41, e218_42, e218_44, e218_45, e218_46, e218_47, e218_48, e218_49, e218_50, e218_53, e218_54, e218_55, e218_56, e218_59, e218_60, e218_63, e218_66, e218_67, e218_68, e218_69, e218_72, e218_75, e218_78]
    refine ⟨by simp, c_mgood k0 ?_⟩
    simp only [tl_some, e218_0, e218_1, e218_2, e218_5, e218_6, e218_7, e218_10, e218_13, e218_14, e218_15, e218_16, e218_19, e218_22, e218_23, e218_24, e218_27, e218_28, e218_29, e218_30, e218_33, e218_34, e218_35, e218_38, e218_41, e218_42, e218_44, e218_45, e218_46, e218_47, e218_48, e218_49, e218_50, e218_53, e218_54, e218_55, e218_56, e218_59, e218_60, e218_63, e218_66, e218_67, e218_68, e218_69, e218_72, e218_75, e218_78]
    exact mansQ (hI.qq es hO.2.1 hX.toMQ hA.mh) (hF.trans (hX.toMQ.frm ha1)) hQ (by rw [esp]; rfl)
  · have hj3 : j < 4 := by omega
    have i1 : vp_in (nI (1 + 30 * j + I)) 127 := vp_in_nI (by omega) (by decide)
    have c1 : (nI (1 + 30 * j + I)).toNatClampNeg = 1 + 30 * j + I := nI_clamp (by omega)
    obtain ⟨-, q1, q2, q3, q4, -⟩ := r3 I hb
    simp only [e218_0, e218_1, e218_2, e218_5, e218_6, e218_7, e218_10, e218_13, e218_14, e218_15, e218_16, e218_19, e218_22, e218_23, e218_24, e218_27, e218_28, e218_29, e218_30, e218_33, e218_34, e218_35, e218_38, e218_41, e218_42, e218_44, e218_45, e218_46, e218_47, e218_48, e218_49, e218_50, e218_53, e218_54, e218_55, e218_56, e218_59, e218_60, e218_63, e218_66, e218_67, e218_68, e218_69, e218_72, e218_75, e218_78, k0, hO.2.2, ku, g0, ku1, rf_some, show (1 : Int32) = nI 1 from rfl, show (30 : Int32) = nI 30 from rfl, pk_mul, nI_add, i1, c1, true_and, true_or]
    refine ⟨by simp, c_mgood k0 ?_⟩
    simp only [tl_some, e218_0, e218_1, e218_2, e218_5, e218_6, e218_7, e218_10, e218_13, e218_14, e218_15, e218_16, e218_19, e218_22, e218_23, e218_24, e218_27, e218_28, e218_29, e218_30, e218_33, e218_34, e218_35, e218_38, e218_41, e218_42, e218_44, e218_45, e218_46, e218_47, e218_48, e218_49, e218_50, e218_53, e218_54, e218_55, e218_56, e218_59, e218_60, e218_63, e218_66, e218_67, e218_68, e218_69, e218_72, e218_75, e218_78]
    refine mansQ hI hF hQ ?_
    rw [esp]
    have hcase : j = 0 ∨ j = 1 ∨ j = 2 ∨ j = 3 := by omega
    rcases hcase with rfl | rfl | rfl | rfl
    · rw [if_pos rfl, ← q1]
    · rw [if_neg (by decide), if_pos rfl, ← q2]
    · rw [if_neg (by decide), if_neg (by decide), if_pos rfl, ← q3]
    · rw [if_neg (by decide), if_neg (by decide), if_neg (by decide), if_pos rfl, ← q4]
theorem c_m_fault (hV : InvM q P (n, K, FI, FL, FR, AI, AL, AR)) (hQ : ∀ μ', InvM q P μ' → FrM q (n, K, FI, FL, FR, AI, AL, AR) μ' → Q (some (.int (nI (gFl P)))) μ') : EV sa (d + 1) 206 [.ref q] (n, K, FI, FL, FR, AI, AL, AR) Q := by
  have hI0 : MInv q P n K FR FI AI AL := hV
  have k0 := hI0.1.1
  have hI := hI0.th (v := 0)
  refine n206 k0 ?_
  simp only [e206_0, e206_1, e206_2, e206_5, e206_6, e206_9, k0, hI.2.1.2.2.2.2.2, true_and]
  exact hQ _ hI FrM.f
theorem c_m_where (hV : InvM q P (n, K, FI, FL, FR, AI, AL, AR)) (hQ : ∀ μ', InvM q P μ' → FrM q (n, K, FI, FL, FR, AI, AL, AR) μ' → Q (some (.int (sp_where P))) μ') : EV sa (d + 1) 207 [.ref q] (n, K, FI, FL, FR, AI, AL, AR) Q := by
  have hI0 : MInv q P n K FR FI AI AL := hV
  have k0 := hI0.1.1
  have hI := hI0.th (v := 0)
  refine n207 k0 ?_
  simp only [e207_0, e207_1, e207_2, e207_5, e207_6, e207_9, k0, hI.2.1.2.2.2.2.1, true_and]
  exact hQ _ hI FrM.f
theorem c_m_trouble (hV : InvM q P (n, K, FI, FL, FR, AI, AL, AR)) (hQ : ∀ μ', InvM q P μ' → FrM q (n, K, FI, FL, FR, AI, AL, AR) μ' → Q (some (.int (nI (gTr P)))) μ') : EV sa (d + 1) 274 [.ref q] (n, K, FI, FL, FR, AI, AL, AR) Q := by
  have hI0 : MInv q P n K FR FI AI AL := hV
  have k0 := hI0.1.1
  have hI := hI0.th (v := 0)
  refine n274 k0 ?_
  simp only [e274_0, e274_1, e274_2, e274_5, e274_6, e274_9, k0, hI.2.1.2.2.2.1, true_and]
  exact hQ _ hI FrM.f
theorem c_thrown (k0 : K q = (1, 10)) (hQ : Q (some (.int (FI 640 q))) (n, K, FI, FL, FR, AI, AL, AR)) : EV sa (d + 1) 162 [.ref q] (n, K, FI, FL, FR, AI, AL, AR) Q := by
  refine n162 k0 ?_
  simp only [e162_0, e162_1, e162_4, k0, true_and]
  exact hQ
theorem c_m_size (hV : InvM q P (n, K, FI, FL, FR, AI, AL, AR)) {k : Int32} (hQ : ∀ μ', InvM q P μ' → FrM q (n, K, FI, FL, FR, AI, AL, AR) μ' → Q (some (.int (sp_size P k))) μ') : EV sa (d + 2) 273 [.ref q, .int k] (n, K, FI, FL, FR, AI, AL, AR) Q := by
  have hI0 : MInv q P n K FR FI AI AL := hV
  have k0 := hI0.1.1
  have hI := hI0.th (v := 0)
  have fin := hQ (n, K, mj_u2 FI 640 q 0, FL, FR, AI, AL, AR) hI FrM.f
  refine n273 k0 ?_
  simp only [e273_0, e273_1, e273_2, e273_5, e273_6, e273_8, e273_11, e273_12, e273_15, e273_16, e273_17, e273_18, e273_20, e273_23, e273_26, e273_27, e273_28, e273_29, e273_32, e273_35, e273_36, e273_37, e273_88, e273_89, e273_92, e273_95, e273_96, e273_97, e273_100, e273_103, e273_104, e273_105, e273_108, e273_111, e273_112, e273_113, e273_116, e273_119, e273_122, e273_123, e273_126, e273_127, e273_128, e273_129, e273_132, e273_135, e273_136, e273_137, e273_140, e273_143, e273_144, e273_145, e273_148, e273_151, e273_152, e273_153, e273_156, e273_159, e273_160, e273_161, e273_164, e273_165, e273_166, e273_169, e273_32r, k0, true_and]
  generalize mj_u2 FI 640 q 0 = F at hI fin ⊢
  have b2 := hI.2.1.2.1
  unfold sp_size at fin
  refine ⟨fun z => ⟨by simp, c_min ?_⟩, fun z => ?_⟩
  · have z10 : ¬ k = nI 10 := z
    simp only [tl_some, e273_0, e273_1, e273_2, e273_5, e273_6, e273_8, e273_11, e273_12, e273_15, e273_16, e273_17, e273_18, e273_20, e273_23, e273_26, e273_27, e273_28, e273_29, e273_32, e273_35, e273_36, e273_37, e273_88, e273_89, e273_92, e273_95, e273_96, e273_97, e273_100, e273_103, e273_104, e273_105, e273_108, e273_111, e273_112, e273_113, e273_116, e273_119, e273_122, e273_123, e273_126, e273_127, e273_128, e273_129, e273_132, e273_135, e273_136, e273_137, e273_140, e273_143, e273_144, e273_145, e273_148, e273_151, e273_152, e273_153, e273_156, e273_159, e273_160, e273_161, e273_164, e273_165, e273_166, e273_169, e273_32r, bI_eq0, k0, true_and]
    refine ⟨fun z2 => ?_, fun z2 => ?_⟩
    · have z2' := ts_nf z2
      rw [decide_eq_true_eq] at z2'
      obtain ⟨j, hj, rfl⟩ := nI_of (Int32.not_lt.mpr z2'.1)
      have hj9 := (nI_leI (b := 9) hj (by decide)).mp z2'.2
      simp only [nI_eq hj (show 0 < 2 ^ 31 by decide), nI_eq hj (show 1 < 2 ^ 31 by decide), nI_eq hj (show 2 < 2 ^ 31 by decide), nI_eq hj (show 3 < 2 ^ 31 by decide), nI_eq hj (show 4 < 2 ^ 31 by decide), nI_eq hj (show 5 < 2 ^ 31 by decide), nI_eq hj (show 6 < 2 ^ 31 by decide), nI_eq hj (show 7 < 2 ^ 31 by decide), nI_eq hj (show 8 < 2 ^ 31 by decide), nI_eq hj (show 9 < 2 ^ 31 by decide), nI_eq hj (show 10 < 2 ^ 31 by decide)] at fin
      cases es : gW P with
      | none =>
        simp only [hI.no es, e273_0, e273_1, e273_2, e273_5, e273_6, e273_8, e273_11, e273_12, e273_15, e273_16, e273_17, e273_18, e273_20, e273_23, e273_26, e273_27, e273_28, e273_29, e273_32, e273_35, e273_36, e273_37, e273_88, e273_89, e273_92, e273_95, e273_96, e273_97, e273_100, e273_103, e273_104, e273_105, e273_108, e273_111, e273_112, e273_113, e273_116, e273_119, e273_122, e273_123, e273_126, e273_127, e273_128, e273_129, e273_132, e273_135, e273_136, e273_137, e273_140, e273_143, e273_144, e273_145, e273_148, e273_151, e273_152, e273_153, e273_156, e273_159, e273_160, e273_161, e273_164, e273_165, e273_166, e273_169, e273_32r]
        refine ⟨fun z => absurd trivial z, fun _ => ?_⟩
        have hz : ∀ v : Int32, v = (if j = 0 then nI (wW (pW P)) else if j = 1 then nI (wH (pW P)) else if j = 2 then nI (wL (pW P)) else if j = 3 then bI (wB (pW P)) else if j = 4 then nI (wNB (pW P)) else if j = 5 then nI (wNR (pW P)) else if j = 6 then nI (wNW (pW P)) else if j = 7 then nI (wF (pW P)) else if j = 8 then nI (pA P) else if j = 9 then nI (pMk P) else if j = 10 then nI (gZ P) else -1) → v = 0 := fun v hv => by
          rw [hv, (pWn es).1]
          unfold pA pMk
          rw [es]
          have hcase : j = 0 ∨ j = 1 ∨ j = 2 ∨ j = 3 ∨ j = 4 ∨ j = 5 ∨ j = 6 ∨ j = 7 ∨ j = 8 ∨ j = 9 := by omega
          rcases hcase with rfl | rfl | rfl | rfl | rfl | rfl | rfl | rfl | rfl | rfl <;> rfl
        rw [hz _ rfl] at fin
        exact fin
      | some s =>
        obtain ⟨-, -, -, hWW⟩ := id hI
        rw [es] at hWW
        obtain ⟨a, hO, -, -, -, -, ⟨c6, -⟩, ⟨c9, -⟩⟩ := hWW
        obtain ⟨p1, p2, p3, p4⟩ := pWs es
        obtain ⟨w1, w2, w3, w4, w5, w6, w7, w8⟩ := hO.1.2.2.2.1.1
        have pa : pA P = s.2.2.1.2 := by unfold pA; rw [es]
        have pm : pMk P = s.2.2.2.2 := by unfold pMk; rw [es]
        rw [p1, pa, pm] at fin
        have ka := hO.1.2.1.1
        simp only [hO.2.1, e273_0, e273_1, e273_2, e273_5, e273_6, e273_8, e273_11, e273_12, e273_15, e273_16, e273_17, e273_18, e273_20, e273_23, e273_26, e273_27, e273_28, e273_29, e273_32, e273_35, e273_36, e273_37, e273_88, e273_89, e273_92, e273_95, e273_96, e273_97, e273_100, e273_103, e273_104, e273_105, e273_108, e273_111, e273_112, e273_113, e273_116, e273_119, e273_122, e273_123, e273_126, e273_127, e273_128, e273_129, e273_132, e273_135, e273_136, e273_137, e273_140, e273_143, e273_144, e273_145, e273_148, e273_151, e273_152, e273_153, e273_156, e273_159, e273_160, e273_161, e273_164, e273_165, e273_166, e273_169, e273_32r]
        refine ⟨fun _ => ?_, fun z => by cases z⟩
        have cv : ∀ j', j' < 2 ^ 31 → nI j = nI j' → j = j' := fun j' h1 h2 => (nI_eq hj h1).mp h2
        refine s273_38 (fun e => ?_) (fun e => ?_) (fun e => ?_) (fun e => ?_) (fun e => ?_) (fun e => ?_) (fun e => ?_) (fun e => ?_) (fun e => ?_) (fun e => ?_)
        · have := cv _ (by decide) e; subst this
          simp only [e273_0, e273_1, e273_2, e273_5, e273_6, e273_8, e273_11, e273_12, e273_15, e273_16, e273_17, e273_18, e273_20, e273_23, e273_26, e273_27, e273_28, e273_29, e273_32, e273_35, e273_36, e273_37, e273_88, e273_89, e273_92, e273_95, e273_96, e273_97, e273_100, e273_103, e273_104, e273_105, e273_108, e273_111, e273_112, e273_113, e273_116, e273_119, e273_122, e273_123, e273_126, e273_127, e273_128, e273_129, e273_132, e273_135, e273_136, e273_137, e273_140, e273_143, e273_144, e273_145, e273_148, e273_151, e273_152, e273_153, e273_156, e273_159, e273_160, e273_161, e273_164, e273_165, e273_166, e273_169, e273_32r, k0, hO.2.1, rf_some, ka, w1, true_and]; exact fin
        · have := cv _ (by decide) e; subst this
          simp only [e273_0, e273_1, e273_2, e273_5, e273_6, e273_8, e273_11, e273_12, e273_15, e273_16, e273_17, e273_18, e273_20, e273_23, e273_26, e273_27, e273_28, e273_29, e273_32, e273_35, e273_36, e273_37, e273_88, e273_89, e273_92, e273_95, e273_96, e273_97, e273_100, e273_103, e273_104, e273_105, e273_108, e273_111, e273_112, e273_113, e273_116, e273_119, e273_122, e273_123, e273_126, e273_127, e273_128, e273_129, e273_132, e273_135, e273_136, e273_137, e273_140, e273_143, e273_144, e273_145, e273_148, e273_151, e273_152, e273_153, e273_156, e273_159, e273_160, e273_161, e273_164, e273_165, e273_166, e273_169, e273_32r, k0, hO.2.1, rf_some, ka, w2, true_and]; exact fin
        · have := cv _ (by decide) e; subst this
          simp only [e273_0, e273_1, e273_2, e273_5, e273_6, e273_8, e273_11, e273_12, e273_15, e273_16, e273_17, e273_18, e273_20, e273_23, e273_26, e273_27, e273_28, e273_29, e273_32, e273_35, e273_36, e273_37, e273_88, e273_89, e273_92, e273_95, e273_96, e273_97, e273_100, e273_103, e273_104, e273_105, e273_108, e273_111, e273_112, e273_113, e273_116, e273_119, e273_122, e273_123, e273_126, e273_127, e273_128, e273_129, e273_132, e273_135, e273_136, e273_137, e273_140, e273_143, e273_144, e273_145, e273_148, e273_151, e273_152, e273_153, e273_156, e273_159, e273_160, e273_161, e273_164, e273_165, e273_166, e273_169, e273_32r, k0, hO.2.1, rf_some, ka, w3, true_and]; exact fin
        · have := cv _ (by decide) e; subst this
          simp only [e273_0, e273_1, e273_2, e273_5, e273_6, e273_8, e273_11, e273_12, e273_15, e273_16, e273_17, e273_18, e273_20, e273_23, e273_26, e273_27, e273_28, e273_29, e273_32, e273_35, e273_36, e273_37, e273_88, e273_89, e273_92, e273_95, e273_96, e273_97, e273_100, e273_103, e273_104, e273_105, e273_108, e273_111, e273_112, e273_113, e273_116, e273_119, e273_122, e273_123, e273_126, e273_127, e273_128, e273_129, e273_132, e273_135, e273_136, e273_137, e273_140, e273_143, e273_144, e273_145, e273_148, e273_151, e273_152, e273_153, e273_156, e273_159, e273_160, e273_161, e273_164, e273_165, e273_166, e273_169, e273_32r, k0, hO.2.1, rf_some, ka, w8, bI_eq0, true_and]
          refine ⟨fun y => ?_, fun y => ?_⟩
          · simp only [y] at fin; exact fin
          · simp only [ts_nf y] at fin; exact fin
        · have := cv _ (by decide) e; subst this
          simp only [e273_0, e273_1, e273_2, e273_5, e273_6, e273_8, e273_11, e273_12, e273_15, e273_16, e273_17, e273_18, e273_20, e273_23, e273_26, e273_27, e273_28, e273_29, e273_32, e273_35, e273_36, e273_37, e273_88, e273_89, e273_92, e273_95, e273_96, e273_97, e273_100, e273_103, e273_104, e273_105, e273_108, e273_111, e273_112, e273_113, e273_116, e273_119, e273_122, e273_123, e273_126, e273_127, e273_128, e273_129, e273_132, e273_135, e273_136, e273_137, e273_140, e273_143, e273_144, e273_145, e273_148, e273_151, e273_152, e273_153, e273_156, e273_159, e273_160, e273_161, e273_164, e273_165, e273_166, e273_169, e273_32r, k0, hO.2.1, rf_some, ka, w4, true_and]; exact fin
        · have := cv _ (by decide) e; subst this
          simp only [e273_0, e273_1, e273_2, e273_5, e273_6, e273_8, e273_11, e273_12, e273_15, e273_16, e273_17, e273_18, e273_20, e273_23, e273_26, e273_27, e273_28, e273_29, e273_32, e273_35, e273_36, e273_37, e273_88, e273_89, e273_92, e273_95, e273_96, e273_97, e273_100, e273_103, e273_104, e273_105, e273_108, e273_111, e273_112, e273_113, e273_116, e273_119, e273_122, e273_123, e273_126, e273_127, e273_128, e273_129, e273_132, e273_135, e273_136, e273_137, e273_140, e273_143, e273_144, e273_145, e273_148, e273_151, e273_152, e273_153, e273_156, e273_159, e273_160, e273_161, e273_164, e273_165, e273_166, e273_169, e273_32r, k0, hO.2.1, rf_some, ka, w5, true_and]; exact fin
        · have := cv _ (by decide) e; subst this
          simp only [e273_0, e273_1, e273_2, e273_5, e273_6, e273_8, e273_11, e273_12, e273_15, e273_16, e273_17, e273_18, e273_20, e273_23, e273_26, e273_27, e273_28, e273_29, e273_32, e273_35, e273_36, e273_37, e273_88, e273_89, e273_92, e273_95, e273_96, e273_97, e273_100, e273_103, e273_104, e273_105, e273_108, e273_111, e273_112, e273_113, e273_116, e273_119, e273_122, e273_123, e273_126, e273_127, e273_128, e273_129, e273_132, e273_135, e273_136, e273_137, e273_140, e273_143, e273_144, e273_145, e273_148, e273_151, e273_152, e273_153, e273_156, e273_159, e273_160, e273_161, e273_164, e273_165, e273_166, e273_169, e273_32r, k0, hO.2.1, rf_some, ka, w6, true_and]; exact fin
        · have := cv _ (by decide) e; subst this
          simp only [e273_0, e273_1, e273_2, e273_5, e273_6, e273_8, e273_11, e273_12, e273_15, e273_16, e273_17, e273_18, e273_20, e273_23, e273_26, e273_27, e273_28, e273_29, e273_32, e273_35, e273_36, e273_37, e273_88, e273_89, e273_92, e273_95, e273_96, e273_97, e273_100, e273_103, e273_104, e273_105, e273_108, e273_111, e273_112, e273_113, e273_116, e273_119, e273_122, e273_123, e273_126, e273_127, e273_128, e273_129, e273_132, e273_135, e273_136, e273_137, e273_140, e273_143, e273_144, e273_145, e273_148, e273_151, e273_152, e273_153, e273_156, e273_159, e273_160, e273_161, e273_164, e273_165, e273_166, e273_169, e273_32r, k0, hO.2.1, rf_some, ka, w7, true_and]; exact fin
        · have := cv _ (by decide) e; subst this
          simp only [e273_0, e273_1, e273_2, e273_5, e273_6, e273_8, e273_11, e273_12, e273_15, e273_16, e273_17, e273_18, e273_20, e273_23, e273_26, e273_27, e273_28, e273_29, e273_32, e273_35, e273_36, e273_37, e273_88, e273_89, e273_92, e273_95, e273_96, e273_97, e273_100, e273_103, e273_104, e273_105, e273_108, e273_111, e273_112, e273_113, e273_116, e273_119, e273_122, e273_123, e273_126, e273_127, e273_128, e273_129, e273_132, e273_135, e273_136, e273_137, e273_140, e273_143, e273_144, e273_145, e273_148, e273_151, e273_152, e273_153, e273_156, e273_159, e273_160, e273_161, e273_164, e273_165, e273_166, e273_169, e273_32r, k0, c6, true_and]; exact fin
        · have e9 : j = 9 := by
            rcases Nat.lt_or_ge j 9 with y | y
            · exact absurd ⟨nI0_le hj, nI_le (by omega) (by decide)⟩ e
            · omega
          subst e9
          simp only [e273_0, e273_1, e273_2, e273_5, e273_6, e273_8, e273_11, e273_12, e273_15, e273_16, e273_17, e273_18, e273_20, e273_23, e273_26, e273_27, e273_28, e273_29, e273_32, e273_35, e273_36, e273_37, e273_88, e273_89, e273_92, e273_95, e273_96, e273_97, e273_100, e273_103, e273_104, e273_105, e273_108, e273_111, e273_112, e273_113, e273_116, e273_119, e273_122, e273_123, e273_126, e273_127, e273_128, e273_129, e273_132, e273_135, e273_136, e273_137, e273_140, e273_143, e273_144, e273_145, e273_148, e273_151, e273_152, e273_153, e273_156, e273_159, e273_160, e273_161, e273_164, e273_165, e273_166, e273_169, e273_32r, k0, c9, true_and]; exact fin
    · have hn : ¬ (0 ≤ k ∧ k ≤ nI 9) := fun y => z2 (by simp [show (9 : Int32) = nI 9 from rfl, y])
      have ne : ∀ j, j ≤ 9 → ¬ k = nI j := fun j hj e => hn (by rw [e]; exact ⟨nI0_le (by omega), nI_le hj (by decide)⟩)
      rw [if_neg (ne 0 (by omega)), if_neg (ne 1 (by omega)), if_neg (ne 2 (by omega)), if_neg (ne 3 (by omega)), if_neg (ne 4 (by omega)), if_neg (ne 5 (by omega)), if_neg (ne 6 (by omega)), if_neg (ne 7 (by omega)), if_neg (ne 8 (by omega)), if_neg (ne 9 (by omega)), if_neg z10] at fin
      exact fin
  · have z10 : k = nI 10 := Classical.not_not.mp z
    subst z10
    simp only [b2]
    exact fin
theorem c_m_led (hV : InvM q P (n, K, FI, FL, FR, AI, AL, AR)) {i : Int32} (hQ : ∀ μ', InvM q P μ' → FrM q (n, K, FI, FL, FR, AI, AL, AR) μ' → μ'.2.2.1 640 q = (if (sp_led P i).isSome then 0 else 1) → Q (some (.int (oI (sp_led P i) 0))) μ') : EV sa (d + 3) 272 [.ref q, .int i] (n, K, FI, FL, FR, AI, AL, AR) Q := by
  have hI0 : MInv q P n K FR FI AI AL := hV
  have k0 := hI0.1.1
  refine n272 k0 ?_
  simp only [e272_0, e272_1, e272_2, e272_5, e272_6, e272_7, e272_8, k0, true_and, mj_kl]
  have hI := hI0.th (v := 0)
  have hF : FrM q (n, K, FI, FL, FR, AI, AL, AR) (n, K, mj_u2 FI 640 q 0, FL, FR, AI, AL, AR) := FrM.f
  have h640 : mj_u2 FI 640 q 0 640 q = 0 := mj_u2_s
  generalize mj_u2 FI 640 q 0 = F at hI hF h640 ⊢
  cases es : gW P with
  | none =>
    have e : sp_led P i = none := by unfold sp_led; rw [(pWn es).2]; rfl
    simp only [hI.no es, e272_0, e272_1, e272_2, e272_5, e272_6, e272_7, e272_8, e272_11, e272_14, e272_15, e272_16, e272_19, e272_20, e272_23, e272_26, e272_27, e272_28, e272_29, e272_32, e272_35, e272_36, e272_37, e272_40, e272_43, e272_46, e272_47, e272_48, e272_51, e272_52, e272_53, e272_56, e272_59, e272_60, e272_61, e272_64, e272_65, e272_66, e272_69, e272_72, e272_75, e272_76, e272_77, e272_80, e272_81, e272_11r, e272_32r, k0, mj_kl, true_and]
    have := hQ (n, K, mj_u2 F 640 q 1, FL, FR, AI, AL, AR) hI.th (hF.trans FrM.f) (by rw [e]; exact mj_u2_s)
    rw [e] at this
    exact ⟨fun _ => ⟨fun _ => this, fun z => absurd trivial z⟩, fun z => absurd trivial z⟩
  | some s =>
    obtain ⟨a, hO, ha1, ha2⟩ := hI.mo es
    obtain ⟨p1, p2, p3, p4⟩ := pWs es
    have hH := hO.1.2.2.2.2.1
    have r2 := hO.mh.2.1
    generalize hp : unseen s.1 s.2.1.1 s.2.1.2.1 = p
    have esp : sp_led P i = fnd (fun k => p k && decide (i = nI (ct p k))) s.2.1.2.1 := by unfold sp_led; rw [p1, p2, p3, hp]
    simp only [hO.2.1, e272_0, e272_1, e272_2, e272_5, e272_6, e272_7, e272_8, e272_11, e272_14, e272_15, e272_16, e272_19, e272_20, e272_23, e272_26, e272_27, e272_29, e272_32, e272_35, e272_36, e272_37, e272_40, e272_43, e272_46, e272_47, e272_48, e272_51, e272_52, e272_53, e272_56, e272_59, e272_60, e272_61, e272_64, e272_65, e272_66, e272_69, e272_72, e272_75, e272_76, e272_77, e272_80, e272_81, e272_11r, e272_32r, k0, hO.2.2, rf_some, mj_kl, true_and]
    refine ⟨by simp, c_looks hO.1.1 hH (by omega) hO.mh fun A t x' => ?_⟩
    have hX : MX q (a + 13) AI A AL AL := ⟨fun z z1 _ _ => x' z (by omega), fun j _ => by rw [x' _ (by omega)], fun _ _ => rfl⟩
    have hR' := hO.mh.fr (AL' := AL) (x' _ (by omega)) rfl
    have hIA := hI.qq es hO.2.1 hX.toMQ hR'
    have hFA := hF.trans (hX.toMQ.frm ha1)
    have loop : ∀ rr k, k + rr = s.2.1.2.1 → fnd (fun k => p k && decide (i = nI (ct p k))) k = none → WP sa (EV sa (d + 2)) 272 Q 0 0 28 [.ref q, .int i, .int (nI (ct p k)), .int (nI k)] [] (n, K, F, FL, FR, A, AL, AR) := by
      intro rr
      induction rr with
      | zero =>
        intro k hk hf
        have hk' : k = s.2.1.2.1 := by omega
        subst hk'
        have e : sp_led P i = none := by rw [esp, hf]
        rw [e272_28]
        simp only [e272_0, e272_1, e272_2, e272_5, e272_6, e272_7, e272_8, e272_11, e272_14, e272_15, e272_16, e272_19, e272_20, e272_23, e272_26, e272_27, e272_29, e272_32, e272_35, e272_36, e272_37, e272_40, e272_43, e272_46, e272_47, e272_48, e272_51, e272_52, e272_53, e272_56, e272_59, e272_60, e272_61, e272_64, e272_65, e272_66, e272_69, e272_72, e272_75, e272_76, e272_77, e272_80, e272_81, e272_11r, e272_32r, k0, hO.2.1, hO.2.2, rf_some, true_and]
        refine ⟨by simp, c_many hH ?_⟩
        rw [hR'.1]
        simp only [tl_some, e272_0, e272_1, e272_2, e272_5, e272_6, e272_7, e272_8, e272_11, e272_14, e272_15, e272_16, e272_19, e272_20, e272_23, e272_26, e272_27, e272_29, e272_32, e272_35, e272_36, e272_37, e272_40, e272_43, e272_46, e272_47, e272_48, e272_51, e272_52, e272_53, e272_56, e272_59, e272_60, e272_61, e272_64, e272_65, e272_66, e272_69, e272_72, e272_75, e272_76, e272_77, e272_80, e272_81, e272_11r, e272_32r, k0, true_and]
        refine ⟨fun _ => ?_, fun z => absurd (nI_le (Nat.le_refl _) (by omega)) z⟩
        have := hQ (n, K, mj_u2 F 640 q 1, FL, FR, A, AL, AR) hIA.th (hFA.trans FrM.f) (by rw [e]; exact mj_u2_s)
        rw [e] at this
        exact this
      | succ rr ih =>
        intro k hk hf
        have nx := ih (k + 1) (by omega)
        rw [ct_top] at nx
        rw [e272_28]
        simp only [e272_0, e272_1, e272_2, e272_5, e272_6, e272_7, e272_8, e272_11, e272_14, e272_15, e272_16, e272_19, e272_20, e272_23, e272_26, e272_27, e272_29, e272_32, e272_35, e272_36, e272_37, e272_40, e272_43, e272_46, e272_47, e272_48, e272_51, e272_52, e272_53, e272_56, e272_59, e272_60, e272_61, e272_64, e272_65, e272_66, e272_69, e272_72, e272_75, e272_76, e272_77, e272_80, e272_81, e272_11r, e272_32r, k0, hO.2.1, hO.2.2, rf_some, true_and]
        refine ⟨by simp, c_many hH ?_⟩
        rw [hR'.1]
        simp only [tl_some, e272_0, e272_1, e272_2, e272_5, e272_6, e272_7, e272_8, e272_11, e272_14, e272_15, e272_16, e272_19, e272_20, e272_23, e272_26, e272_27, e272_29, e272_32, e272_35, e272_36, e272_37, e272_40, e272_43, e272_46, e272_47, e272_48, e272_51, e272_52, e272_53, e272_56, e272_59, e272_60, e272_61, e272_64, e272_65, e272_66, e272_69, e272_72, e272_75, e272_76, e272_77, e272_80, e272_81, e272_11r, e272_32r]
        refine ⟨fun z => absurd z (nI_ge (by omega) (by omega)), fun _ => ⟨by simp, c_mseenOf hO.1.1 t r2 (by omega) fun v hv => ?_⟩⟩
        have e0 : (v = 0) ↔ p k = true := by
          rw [hv.eq0, ← hp]
          unfold unseen
          simp
        simp only [tl_some, e272_0, e272_1, e272_2, e272_5, e272_6, e272_7, e272_8, e272_11, e272_14, e272_15, e272_16, e272_19, e272_20, e272_23, e272_26, e272_27, e272_29, e272_32, e272_35, e272_36, e272_37, e272_40, e272_43, e272_46, e272_47, e272_48, e272_51, e272_52, e272_53, e272_56, e272_59, e272_60, e272_61, e272_64, e272_65, e272_66, e272_69, e272_72, e272_75, e272_76, e272_77, e272_80, e272_81, e272_11r, e272_32r, lg_cmp_0, e0, nI_1, mj_kl]
        refine ⟨fun z => ⟨fun z2 => ?_, fun z2 => ?_⟩, fun z => ?_⟩
        · have z3 : ¬ i = nI (ct p k) := fun e => z2 e.symm
          have := nx (fnd_no hf (by simp [z3]))
          simpa [z] using this
        · have z3 : i = nI (ct p k) := (Classical.not_not.mp z2).symm
          have e : sp_led P i = some k := by rw [esp, fnd_yes hf (by simp [z, ← z3]) (by omega)]
          have := hQ (n, K, F, FL, FR, A, AL, AR) hIA hFA (by rw [e]; exact h640)
          rw [e] at this
          exact this
        · have z' : p k = false := by simpa using z
          have := nx (fnd_no hf (by simp [z']))
          simpa [z'] using this
    simp only [tl_none, e272_0, e272_1, e272_2, e272_5, e272_6, e272_7, e272_8, e272_11, e272_14, e272_15, e272_16, e272_19, e272_20, e272_23, e272_26, e272_27, e272_29, e272_32, e272_35, e272_36, e272_37, e272_40, e272_43, e272_46, e272_47, e272_48, e272_51, e272_52, e272_53, e272_56, e272_59, e272_60, e272_61, e272_64, e272_65, e272_66, e272_69, e272_72, e272_75, e272_76, e272_77, e272_80, e272_81, e272_11r, e272_32r, mj_kl]
    have := loop s.2.1.2.1 0 (by omega) rfl
    simpa [nI_0, ct, mj_u, mj_kl] using this
end
