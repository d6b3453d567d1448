section
variable {sa : Nat → Nat} {d n t h m : Nat} {Q : mj_Q} {K : Nat → Nat × Nat} {FI : Nat → Nat → Int32} {FL : Nat → Nat → Int64} {FR : Nat → Nat → Option Nat} {AI : Nat → Nat → Int32} {AL : Nat → Nat → Int64} {AR : Nat → Nat → Option Nat} {w : Wl} {hs : Nat → Hg}
variable {a u q : Nat} {P : PG}
theorem c_m_days (hV : InvM q P (n, K, FI, FL, FR, AI, AL, AR)) {k : Int32} (hQ : ∀ μ', InvM q (is' P (sp_days P k)) μ' → FrM q (n, K, FI, FL, FR, AI, AL, AR) μ' → Q (some (.int (iv (sp_days P k)))) μ') : EV sa (d + 3) 238 [.ref q, .int k] (n, K, FI, FL, FR, AI, AL, AR) Q := by
  have hI0 : MInv q P n K FR FI AI AL := hV
  have k0 := hI0.1.1
  refine n238 k0 ?_
  simp only [e238_0, e238_1, e238_2, e238_5, e238_6, k0, true_and]
  have hI := hI0.th (v := 0)
  have hF : FrM q (n, K, FI, FL, FR, AI, AL, AR) (n, K, mj_u2 FI 640 q 0, FL, FR, AI, AL, AR) := FrM.f
  generalize mj_u2 FI 640 q 0 = F at hI hF ⊢
  cases es : gW P with
  | none =>
    simp only [hI.no es, e238_0, e238_1, e238_2, e238_5, e238_6, e238_9, e238_12, e238_13, e238_14, e238_17, e238_18, e238_19, e238_20, e238_22, e238_25, e238_28, e238_29, e238_30, e238_33, e238_34, e238_35, e238_38, e238_39, e238_40, e238_43, e238_44, e238_47, e238_50, e238_51, e238_52, e238_53, e238_55, e238_56, e238_59, e238_62, e238_65, e238_66, e238_69, e238_72, e238_74, e238_75, e238_76, e238_77, e238_78, e238_79, e238_80, e238_81, e238_84, e238_85, e238_86, e238_87, e238_88, e238_89, e238_90, e238_93, e238_94, e238_95, e238_98, e238_101, e238_102, e238_103, e238_106, e238_9r]
    refine ⟨fun z => absurd trivial z, fun _ => ⟨by simp, c_mrefused k0 ?_⟩⟩
    simp only [tl_some, e238_0, e238_1, e238_2, e238_5, e238_6, e238_9, e238_12, e238_13, e238_14, e238_17, e238_18, e238_19, e238_20, e238_22, e238_25, e238_28, e238_29, e238_30, e238_33, e238_34, e238_35, e238_38, e238_39, e238_40, e238_43, e238_44, e238_47, e238_50, e238_51, e238_52, e238_53, e238_55, e238_56, e238_59, e238_62, e238_65, e238_66, e238_69, e238_72, e238_74, e238_75, e238_76, e238_77, e238_78, e238_79, e238_80, e238_81, e238_84, e238_85, e238_86, e238_87, e238_88, e238_89, e238_90, e238_93, e238_94, e238_95, e238_98, e238_101, e238_102, e238_103, e238_106, e238_9r]
    exact mirQ hI hF hQ (k := 1) (by decide) (by unfold sp_days; rw [es])
  | some s =>
    obtain ⟨-, -, -, hWW⟩ := id hI
    rw [es] at hWW
    obtain ⟨a, hO, ha1, ha2, hSP, hE, -⟩ := hWW
    have esp : sp_days P k = (if 1 ≤ k ∧ k ≤ 30 then .inr (keepA s (s.2.1.1, s.2.1.2.1, s.2.1.2.2.1, fun r => if r < wNR s.1 then s.2.1.2.2.2 r + k * nI (payN s r) else s.2.1.2.2.2 r), nI (sm (payN s) (wNR s.1))) else .inl 2) := by unfold sp_days; rw [es]
    have hnr := hO.ok.2.2.2.2.1
    obtain ⟨ku, ⟨g0, ku1⟩, -⟩ := hO.1.2.2.2.2.1
    simp only [hO.2.1, rf_some, e238_0, e238_1, e238_2, e238_5, e238_6, e238_9, e238_12, e238_13, e238_14, e238_17, e238_18, e238_19, e238_20, e238_22, e238_25, e238_28, e238_29, e238_30, e238_33, e238_34, e238_35, e238_38, e238_39, e238_40, e238_43, e238_44, e238_47, e238_50, e238_51, e238_52, e238_53, e238_55, e238_56, e238_59, e238_62, e238_65, e238_66, e238_69, e238_72, e238_74, e238_75, e238_76, e238_77, e238_78, e238_79, e238_80, e238_81, e238_84, e238_85, e238_86, e238_87, e238_88, e238_89, e238_90, e238_93, e238_94, e238_95, e238_98, e238_101, e238_102, e238_103, e238_106, e238_9r, k0, true_and]
    refine ⟨by simp, c_min ?_⟩
    simp only [tl_some, e238_0, e238_1, e238_2, e238_5, e238_6, e238_9, e238_12, e238_13, e238_14, e238_17, e238_18, e238_19, e238_20, e238_22, e238_25, e238_28, e238_29, e238_30, e238_33, e238_34, e238_35, e238_38, e238_39, e238_40, e238_43, e238_44, e238_47, e238_50, e238_51, e238_52, e238_53, e238_55, e238_56, e238_59, e238_62, e238_65, e238_66, e238_69, e238_72, e238_74, e238_75, e238_76, e238_77, e238_78, e238_79, e238_80, e238_81, e238_84, e238_85, e238_86, e238_87, e238_88, e238_89, e238_90, e238_93, e238_94, e238_95, e238_98, e238_101, e238_102, e238_103, e238_106, e238_9r, bI_eq0]
    refine ⟨fun z => ⟨by simp, c_keepsM hI es fun F2 A2 k1 k2 k3 => ?_⟩, fun z => ⟨by simp, c_mrefused k0 ?_⟩⟩
    · have z' := ts_nf z
      rw [decide_eq_true_eq] at z'
      rw [if_pos z'] at esp
      obtain ⟨a2, hO2, -⟩ := k1.mo (s := keepA s s.2.1) rfl
      have ea : a2 = a := by have := hO2.2.1; rw [hO.2.1] at this; exact (Option.some.inj this).symm
      subst ea
      simp only [tl_none, e238_0, e238_1, e238_2, e238_5, e238_6, e238_9, e238_12, e238_13, e238_14, e238_17, e238_18, e238_19, e238_20, e238_22, e238_25, e238_28, e238_29, e238_30, e238_33, e238_34, e238_35, e238_38, e238_39, e238_40, e238_43, e238_44, e238_47, e238_50, e238_51, e238_52, e238_53, e238_55, e238_56, e238_59, e238_62, e238_65, e238_66, e238_69, e238_72, e238_74, e238_75, e238_76, e238_77, e238_78, e238_79, e238_80, e238_81, e238_84, e238_85, e238_86, e238_87, e238_88, e238_89, e238_90, e238_93, e238_94, e238_95, e238_98, e238_101, e238_102, e238_103, e238_106, e238_9r, k0, hO.2.1, hO.2.2, rf_some, true_and]
      refine ⟨by simp, c_looks hO.1.1 hO.1.2.2.2.2.1 (by omega) hO2.mh fun A3 t3 x3 => ?_⟩
      have e3 : A3 (a2 + 13 + 1) = AI (a2 + 13 + 1) := by rw [x3 _ (by omega), k3 _ (by omega)]
      have w5 : F2 580 a2 = nI (wNR s.1) := by rw [k2 _ _ (Or.inl (by omega))]; exact hO.1.2.2.2.1.1.2.2.2.2.1
      have loop : ∀ rr r, r + rr = wNR s.1 → ∀ A : Nat → Nat → Int32, AIx A3 A (a2 + 14) (a2 + 14) → MH A AL (a2 + 13) s.1 s.2.1.1 s.2.1.2.1 → (∀ j, j < 3 → A (a2 + 13 + 1) (121 + j) = s.2.1.2.2.1 j ∧ A (a2 + 13 + 1) (124 + j) = if j < r then s.2.1.2.2.2 j + k * nI (payN s j) else s.2.1.2.2.2 j) → WP sa (EV sa (d + 2)) 238 Q 0 0 54 [.ref q, .int k, .int (nI (sm (payN s) r)), .int (nI r)] [] (n, K, F2, FL, FR, A, AL, AR) := by
        intro rr
        induction rr with
        | zero =>
          intro r hr A a1 hR a3
          have hr' : r = wNR s.1 := by omega
          subst hr'
          rw [e238_54]
          simp only [e238_0, e238_1, e238_2, e238_5, e238_6, e238_9, e238_12, e238_13, e238_14, e238_17, e238_18, e238_19, e238_20, e238_22, e238_25, e238_28, e238_29, e238_30, e238_33, e238_34, e238_35, e238_38, e238_39, e238_40, e238_43, e238_44, e238_47, e238_50, e238_51, e238_52, e238_53, e238_55, e238_56, e238_59, e238_62, e238_65, e238_66, e238_69, e238_72, e238_74, e238_75, e238_76, e238_77, e238_78, e238_79, e238_80, e238_81, e238_84, e238_85, e238_86, e238_87, e238_88, e238_89, e238_90, e238_93, e238_94, e238_95, e238_98, e238_101, e238_102, e238_103, e238_106, e238_9r, k0, hO.2.1, rf_some, hO.1.2.1.1, w5, true_and]
          refine ⟨fun _ => ⟨by simp, c_mgood k0 ?_⟩, fun z => absurd (nI_le (Nat.le_refl _) (by omega)) z⟩
          simp only [tl_some, e238_0, e238_1, e238_2, e238_5, e238_6, e238_9, e238_12, e238_13, e238_14, e238_17, e238_18, e238_19, e238_20, e238_22, e238_25, e238_28, e238_29, e238_30, e238_33, e238_34, e238_35, e238_38, e238_39, e238_40, e238_43, e238_44, e238_47, e238_50, e238_51, e238_52, e238_53, e238_55, e238_56, e238_59, e238_62, e238_65, e238_66, e238_69, e238_72, e238_74, e238_75, e238_76, e238_77, e238_78, e238_79, e238_80, e238_81, e238_84, e238_85, e238_86, e238_87, e238_88, e238_89, e238_90, e238_93, e238_94, e238_95, e238_98, e238_101, e238_102, e238_103, e238_106, e238_9r]
          have hI2 := k1.set (e := (s.2.1.1, s.2.1.2.1, s.2.1.2.2.1, fun r => if r < wNR s.1 then s.2.1.2.2.2 r + k * nI (payN s r) else s.2.1.2.2.2 r)) (AI' := A) (AL' := AL) (FI' := F2) rfl hO.2.1 hR (fun r hr => a3 r hr) hE FIx.rfl' (fun z z1 z2 z3 => by rw [a1 z (by omega), x3 z (by omega)])
          exact mivQ (P := P) (s' := keepA s (s.2.1.1, s.2.1.2.1, s.2.1.2.2.1, fun r => if r < wNR s.1 then s.2.1.2.2.2 r + k * nI (payN s r) else s.2.1.2.2.2 r)) hI2 (hF.trans (FrM.ch (fun f z hz => k2 f z (Or.inl (by omega))) (fun z hz => by rw [a1 z (by omega), x3 z (by omega), k3 z (by omega)]) (fun _ _ => rfl))) hQ esp
        | succ rr ih =>
          intro r hr A a1 hR a3
          have r3 : r < 3 := by omega
          have i1 : vp_in (nI (124 + r)) 127 := vp_in_nI (by omega) (by decide)
          have c1 : (nI (124 + r)).toNatClampNeg = 124 + r := nI_clamp (by omega)
          have hOA : MO K FR F2 A AL q a2 s.1 s.2.1.1 s.2.1.2.1 := by
            obtain ⟨v1, v2, v3, v4, v5, v6, v7, v8⟩ := hO2.1
            exact ⟨⟨v1, v2, v3, v4.fr (fun _ => rfl) (fun j z1 z2 => by rw [a1 _ (by omega), x3 _ (by omega)]), v5, hR, v7, v8⟩, hO.2⟩
          have tA : TopR A q s.1 s.2.1.1 s.2.1.2.1 := fun c hc => by rw [a1 _ (by omega)]; exact t3 c hc
          have hv := (a3 r r3).2
          rw [if_neg (Nat.lt_irrefl r)] at hv
          rw [e238_54]
          simp only [e238_0, e238_1, e238_2, e238_5, e238_6, e238_9, e238_12, e238_13, e238_14, e238_17, e238_18, e238_19, e238_20, e238_22, e238_25, e238_28, e238_29, e238_30, e238_33, e238_34, e238_35, e238_38, e238_39, e238_40, e238_43, e238_44, e238_47, e238_50, e238_51, e238_52, e238_53, e238_55, e238_56, e238_59, e238_62, e238_65, e238_66, e238_69, e238_72, e238_74, e238_75, e238_76, e238_77, e238_78, e238_79, e238_80, e238_81, e238_84, e238_85, e238_86, e238_87, e238_88, e238_89, e238_90, e238_93, e238_94, e238_95, e238_98, e238_101, e238_102, e238_103, e238_106, e238_9r, k0, hO.2.1, hO.2.2, rf_some, hO.1.2.1.1, w5, ku, g0, ku1, show (124 : Int32) = nI 124 from rfl, nI_add, i1, c1, hv, true_and, true_or]
          refine ⟨fun z => absurd z (nI_ge (by omega) (by omega)), fun _ => ⟨by simp, c_mseenBy hOA tA ?_⟩⟩
          simp only [tl_some, e238_0, e238_1, e238_2, e238_5, e238_6, e238_9, e238_12, e238_13, e238_14, e238_17, e238_18, e238_19, e238_20, e238_22, e238_25, e238_28, e238_29, e238_30, e238_33, e238_34, e238_35, e238_38, e238_39, e238_40, e238_43, e238_44, e238_47, e238_50, e238_51, e238_52, e238_53, e238_55, e238_56, e238_59, e238_62, e238_65, e238_66, e238_69, e238_72, e238_74, e238_75, e238_76, e238_77, e238_78, e238_79, e238_80, e238_81, e238_84, e238_85, e238_86, e238_87, e238_88, e238_89, e238_90, e238_93, e238_94, e238_95, e238_98, e238_101, e238_102, e238_103, e238_106, e238_9r, ku1, i1, c1, true_and]
          generalize hB : mj_u2 A (a2 + 13 + 1) (124 + r) (s.2.1.2.2.2 r + k * nI (ct (byR s.1 s.2.1.1 s.2.1.2.1 (nI r)) 32)) = B
          have bo : ∀ z, z ≠ a2 + 14 → B z = A z := fun z hz => by rw [← hB]; funext j; exact mj_u2_1 (by omega)
          have hRB : MH B AL (a2 + 13) s.1 s.2.1.1 s.2.1.2.1 := by rw [← hB]; exact hR.sp (by omega)
          have hOB : MO K FR F2 B AL q a2 s.1 s.2.1.1 s.2.1.2.1 := by
            obtain ⟨v1, v2, v3, v4, v5, v6, v7, v8⟩ := hOA.1
            exact ⟨⟨v1, v2, v3, v4.fr (fun _ => rfl) (fun j z1 z2 => bo _ (by omega)), v5, hRB, v7, v8⟩, hO.2⟩
          refine ⟨by simp, c_mseenBy hOB (fun c hc => by rw [bo _ (by omega)]; exact tA c hc) ?_⟩
          simp only [tl_some, e238_0, e238_1, e238_2, e238_5, e238_6, e238_9, e238_12, e238_13, e238_14, e238_17, e238_18, e238_19, e238_20, e238_22, e238_25, e238_28, e238_29, e238_30, e238_33, e238_34, e238_35, e238_38, e238_39, e238_40, e238_43, e238_44, e238_47, e238_50, e238_51, e238_52, e238_53, e238_55, e238_56, e238_59, e238_62, e238_65, e238_66, e238_69, e238_72, e238_74, e238_75, e238_76, e238_77, e238_78, e238_79, e238_80, e238_81, e238_84, e238_85, e238_86, e238_87, e238_88, e238_89, e238_90, e238_93, e238_94, e238_95, e238_98, e238_101, e238_102, e238_103, e238_106, e238_9r, nI_add, nI_1, mj_kl]
          refine ih (r + 1) (by omega) B (fun z hz => by rw [bo z (by omega), a1 z hz]) hRB (fun j hj => ?_)
          obtain ⟨q1, q2⟩ := a3 j hj
          rw [← hB]
          refine ⟨by rw [mj_u2_2 (by omega)]; exact q1, ?_⟩
          by_cases e : j = r
          · subst e
            rw [mj_u2_s, if_pos (by omega)]
            rfl
          · rw [mj_u2_2 (by omega), q2]
            by_cases y : j < r
            · rw [if_pos y, if_pos (by omega)]
            · rw [if_neg y, if_neg (by omega)]
      simp only [tl_none, e238_0, e238_1, e238_2, e238_5, e238_6, e238_9, e238_12, e238_13, e238_14, e238_17, e238_18, e238_19, e238_20, e238_22, e238_25, e238_28, e238_29, e238_30, e238_33, e238_34, e238_35, e238_38, e238_39, e238_40, e238_43, e238_44, e238_47, e238_50, e238_51, e238_52, e238_53, e238_55, e238_56, e238_59, e238_62, e238_65, e238_66, e238_69, e238_72, e238_74, e238_75, e238_76, e238_77, e238_78, e238_79, e238_80, e238_81, e238_84, e238_85, e238_86, e238_87, e238_88, e238_89, e238_90, e238_93, e238_94, e238_95, e238_98, e238_101, e238_102, e238_103, e238_106, e238_9r, mj_kl]
      have := loop (wNR s.1) 0 (by omega) A3 AIx.rfl' (hO2.mh.fr (x3 _ (by omega)) rfl) (fun j hj => by rw [if_neg (by omega), e3]; exact hSP j hj)
      simpa [nI_0, sm, mj_u, mj_kl] using this
    · simp only [tl_some, e238_0, e238_1, e238_2, e238_5, e238_6, e238_9, e238_12, e238_13, e238_14, e238_17, e238_18, e238_19, e238_20, e238_22, e238_25, e238_28, e238_29, e238_30, e238_33, e238_34, e238_35, e238_38, e238_39, e238_40, e238_43, e238_44, e238_47, e238_50, e238_51, e238_52, e238_53, e238_55, e238_56, e238_59, e238_62, e238_65, e238_66, e238_69, e238_72, e238_74, e238_75, e238_76, e238_77, e238_78, e238_79, e238_80, e238_81, e238_84, e238_85, e238_86, e238_87, e238_88, e238_89, e238_90, e238_93, e238_94, e238_95, e238_98, e238_101, e238_102, e238_103, e238_106, e238_9r]
      exact mirQ hI hF hQ (k := 2) (by decide) (by rw [esp, if_neg (fun y => z (by simp [y]))])
theorem c_m_feed (hV : InvM q P (n, K, FI, FL, FR, AI, AL, AR)) {v1 v2 v3 v4 v5 : Int32} (hQ : ∀ μ', InvM q (sp_feed P v1 v2 v3 v4 v5).2 μ' → FrM q (n, K, FI, FL, FR, AI, AL, AR) μ' → Q (some (.int (sp_feed P v1 v2 v3 v4 v5).1)) μ') : EV sa (d + 1) 204 [.ref q, .int v1, .int v2, .int v3, .int v4, .int v5] (n, K, FI, FL, FR, AI, AL, AR) Q := by
  have hI0 : MInv q P n K FR FI AI AL := hV
  have k0 := hI0.1.1
  refine n204 k0 ?_
  have hI := hI0.th (v := 0)
  obtain ⟨hSt, ⟨b1, b2, b3, b4, b5, b6⟩, hn, hWW⟩ := id hI
  obtain ⟨-, -, -, ⟨f3, k3⟩, -⟩ := id hSt
  have hF : FrM q (n, K, FI, FL, FR, AI, AL, AR) (n, K, mj_u2 FI 640 q 0, FL, FR, AI, AL, AR) := FrM.f
  simp only [e204_0, e204_1, e204_2, e204_5, e204_6, e204_9, e204_11, e204_12, e204_15, e204_18, e204_19, e204_20, e204_21, e204_25, e204_27, e204_30, e204_32, e204_33, e204_36, e204_37, e204_40, e204_42, e204_44, e204_47, e204_48, e204_51, e204_53, e204_55, e204_58, e204_59, e204_62, e204_64, e204_66, e204_69, e204_71, e204_74, e204_76, e204_78, e204_79, e204_82, e204_83, e204_86, e204_88, e204_90, e204_92, e204_94, e204_95, e204_96, e204_97, e204_98, e204_99, e204_100, e204_101, e204_102, e204_102i, e204_103, e204_106, e204_107, e204_108, e204_111, e204_114, e204_117, e204_118, e204_121, k0, b2, mj_kl, true_and]
  generalize mj_u2 FI 640 q 0 = F at *
  unfold sp_feed at hQ
  simp only [show (20 : Int32) = nI 20 from rfl, show (900 : Int32) = nI 900 from rfl, nI_add, nI_leI (show gZ P + 20 < 2 ^ 31 by omega) (show 900 < 2 ^ 31 by decide)]
  refine ⟨fun z => ?_, fun z => ?_⟩
  · rw [if_pos z] at hQ
    have vk : ∀ k, k < 20 → by4 (if k < 4 then v1 else if k < 8 then v2 else if k < 12 then v3 else if k < 16 then v4 else v5) (k % 4) = put4 (put4 (put4 (put4 (put4 (gT P) (gZ P) v1) (gZ P + 4) v2) (gZ P + 8) v3) (gZ P + 12) v4) (gZ P + 16) v5 (gZ P + k) := fun k hk => by
      unfold put4
      by_cases h1 : k < 4
      · rw [if_pos h1, if_neg (by omega), if_neg (by omega), if_neg (by omega), if_neg (by omega), if_pos (by omega)]
        congr 1; omega
      · by_cases h2 : k < 8
        · rw [if_neg h1, if_pos h2, if_neg (by omega), if_neg (by omega), if_neg (by omega), if_pos (by omega)]
          congr 1; omega
        · by_cases h3 : k < 12
          · rw [if_neg h1, if_neg h2, if_pos h3, if_neg (by omega), if_neg (by omega), if_pos (by omega)]
            congr 1; omega
          · by_cases h4 : k < 16
            · rw [if_neg h1, if_neg h2, if_neg h3, if_pos h4, if_neg (by omega), if_pos (by omega)]
              congr 1; omega
            · rw [if_neg h1, if_neg h2, if_neg h3, if_neg h4, if_pos (by omega)]
              congr 1; omega
    have vo : ∀ i, (i < gZ P ∨ gZ P + 20 ≤ i) → put4 (put4 (put4 (put4 (put4 (gT P) (gZ P) v1) (gZ P + 4) v2) (gZ P + 8) v3) (gZ P + 12) v4) (gZ P + 16) v5 i = gT P i := fun i hi => by
      unfold put4
      rw [if_neg (by omega), if_neg (by omega), if_neg (by omega), if_neg (by omega), if_neg (by omega)]
    generalize hT : put4 (put4 (put4 (put4 (put4 (gT P) (gZ P) v1) (gZ P + 4) v2) (gZ P + 8) v3) (gZ P + 12) v4) (gZ P + 16) v5 = T at *
    have loop : ∀ rr k, k + rr = 20 → ∀ (G A : Nat → Nat → Int32), G 650 q = nI (gZ P + k) → FIx F G q [650] → AIx AI A (q + 3) (q + 3) → (∀ i, A (q + 3) i = if i < gZ P + k then T i else gT P i) → ∀ x7 : Value, WP sa (EV sa d) 204 Q 0 0 23 [.ref q, .int v1, .int v2, .int v3, .int v4, .int v5, .int (nI k), x7] [] (n, K, G, FL, FR, A, AL, AR) := by
      intro rr
      induction rr with
      | zero =>
        intro k hk G A g1 g2 a1 a2 x7
        have hk' : k = 20 := by omega
        subst hk'
        rw [e204_23]
        simp only [e204_0, e204_1, e204_2, e204_5, e204_6, e204_9, e204_11, e204_12, e204_15, e204_18, e204_19, e204_20, e204_21, e204_25, e204_27, e204_30, e204_32, e204_33, e204_36, e204_37, e204_40, e204_42, e204_44, e204_47, e204_48, e204_51, e204_53, e204_55, e204_58, e204_59, e204_62, e204_64, e204_66, e204_69, e204_71, e204_74, e204_76, e204_78, e204_79, e204_82, e204_83, e204_86, e204_88, e204_90, e204_92, e204_94, e204_95, e204_96, e204_97, e204_98, e204_99, e204_100, e204_101, e204_102, e204_102i, e204_103, e204_106, e204_107, e204_108, e204_111, e204_114, e204_117, e204_118, e204_121, k0, g1, true_and]
        refine ⟨fun _ => hQ _ ?_ (hF.trans (FrM.ch (fun f z hz => g2 f z (Or.inl (by omega))) (fun z hz => a1 z (by omega)) (fun _ _ => rfl))), fun z => absurd (by decide) z⟩
        have fx : ∀ k, k ≠ 650 → G k q = F k q := fun k hk => g2 k q (Or.inr (by simpa using hk))
        have e3 : A (q + 3) = T := by
          funext i
          rw [a2 i]
          by_cases y : i < gZ P + 20
          · rw [if_pos y]
          · rw [if_neg y, vo i (by omega)]
        show MInv q (T, gZ P + 20, P.2.2) n K FR G A AL
        refine ⟨hSt, ⟨e3, g1, z, by rw [fx _ (by decide)]; exact b4, by rw [fx _ (by decide)]; exact b5, by rw [fx _ (by decide)]; exact b6⟩, hn, ?_⟩
        show (match gW P with
          | none => FR 643 q = none
          | some s => _)
        cases es : gW P with
        | none => rw [es] at hWW; exact hWW
        | some s =>
          rw [es] at hWW
          obtain ⟨a, hO, ha1, ha2, hSP, hE, ⟨c6, c7, c8⟩, ⟨c9, c10, c11⟩⟩ := hWW
          refine ⟨a, ⟨?_, hO.2⟩, ha1, ha2, fun r hr => by rw [a1 _ (by omega)]; exact hSP r hr, hE, ⟨by rw [fx _ (by decide)]; exact c6, c7, by rw [a1 _ (by omega)]; exact c8⟩, ⟨by rw [fx _ (by decide)]; exact c9, c10, by rw [a1 _ (by omega)]; exact c11⟩⟩
          obtain ⟨u1, u2, u3, u4, u5, u6, u7, u8⟩ := hO.1
          exact ⟨u1, u2, u3, u4.fr (fun k => g2 k a (Or.inl (by omega))) (fun j z1 z2 => a1 _ (by omega)), u5, u6.fr (a1 _ (by omega)) rfl, u7, u8⟩
      | succ rr ih =>
        intro k hk G A g1 g2 a1 a2 x7
        have hin : vp_in (nI (gZ P + k)) 900 := vp_in_nI (by omega) (by decide)
        have hcl : (nI (gZ P + k)).toNatClampNeg = gZ P + k := nI_clamp (by omega)
        have hm4 : k % 4 < 4 := Nat.mod_lt _ (by decide)
        have esh : (24 : Int32) - 8 * (nI k - nI k / 4 * 4) = nI (24 - 8 * (k % 4)) := by
          rw [show (4 : Int32) = nI 4 from rfl, pk_rem (by omega) (by decide) (by decide), show (8 : Int32) = nI 8 from rfl, pk_mul, show (24 : Int32) = nI 24 from rfl, pk_sub (by omega)]
        have fin : ∀ v : Int32, v = (if k < 4 then v1 else if k < 8 then v2 else if k < 12 then v3 else if k < 16 then v4 else v5) → WP sa (EV sa d) 204 Q 0 0 76 [.ref q, .int v1, .int v2, .int v3, .int v4, .int v5, .int (nI k), x7] [.int v] (n, K, G, FL, FR, A, AL, AR) := by
          intro v hv
          simp only [e204_0, e204_1, e204_2, e204_5, e204_6, e204_9, e204_11, e204_12, e204_15, e204_18, e204_19, e204_20, e204_21, e204_25, e204_27, e204_30, e204_32, e204_33, e204_36, e204_37, e204_40, e204_42, e204_44, e204_47, e204_48, e204_51, e204_53, e204_55, e204_58, e204_59, e204_62, e204_64, e204_66, e204_69, e204_71, e204_74, e204_76, e204_78, e204_79, e204_82, e204_83, e204_86, e204_88, e204_90, e204_92, e204_94, e204_95, e204_96, e204_97, e204_98, e204_99, e204_100, e204_101, e204_102, e204_102i, e204_103, e204_106, e204_107, e204_108, e204_111, e204_114, e204_117, e204_118, e204_121, k0, f3, k3, rf_some, g1, hin, hcl, esh, fb_byte_twice, nI_1, mj_kl, true_and]
          refine ⟨by decide, ih (k + 1) (by omega) _ _ mj_u2_s (g2.same (FIx_u2 (by decide))) (fun z hz => by funext j; rw [mj_u2_1 (by omega), a1 z hz]) (fun i => ?_) _⟩
          by_cases e : i = gZ P + k
          · subst e
            rw [mj_u2_s, if_pos (by omega), ← vk k (by omega), ← hv]
            rfl
          · rw [mj_u2_2 e, a2 i]
            by_cases y : i < gZ P + k
            · rw [if_pos y, if_pos (by omega)]
            · rw [if_neg y, if_neg (by omega)]
        rw [e204_23]
        simp only [e204_0, e204_1, e204_2, e204_5, e204_6, e204_9, e204_11, e204_12, e204_15, e204_18, e204_19, e204_20, e204_21, e204_25, e204_27, e204_30, e204_32, e204_33, e204_36, e204_37, e204_40, e204_42, e204_44, e204_47, e204_48, e204_51, e204_53, e204_55, e204_58, e204_59, e204_62, e204_64, e204_66, e204_69, e204_71, e204_74, e204_78, e204_79, e204_82, e204_83, e204_86, e204_88, e204_90, e204_92, e204_94, e204_95, e204_96, e204_97, e204_98, e204_99, e204_100, e204_101, e204_102, e204_102i, e204_103, e204_106, e204_107, e204_108, e204_111, e204_114, e204_117, e204_118, e204_121, show (20 : Int32) = nI 20 from rfl, show (4 : Int32) = nI 4 from rfl, show (8 : Int32) = nI 8 from rfl, show (12 : Int32) = nI 12 from rfl, show (16 : Int32) = nI 16 from rfl, nI_leI (show 4 < 2 ^ 31 by decide) (show k < 2 ^ 31 by omega), nI_leI (show 8 < 2 ^ 31 by decide) (show k < 2 ^ 31 by omega), nI_leI (show 12 < 2 ^ 31 by decide) (show k < 2 ^ 31 by omega), nI_leI (show 16 < 2 ^ 31 by decide) (show k < 2 ^ 31 by omega), nI_leI (show 20 < 2 ^ 31 by decide) (show k < 2 ^ 31 by omega)]
        refine ⟨fun z => by omega, fun _ => ⟨fun h1 => ⟨fun h2 => ⟨fun h3 => ⟨fun h4 => fin _ ?_, fun h4 => fin _ ?_⟩, fun h3 => fin _ ?_⟩, fun h2 => fin _ ?_⟩, fun h1 => fin _ ?_⟩⟩
        · rw [if_neg (by omega), if_neg (by omega), if_neg (by omega), if_neg (by omega)]
        · rw [if_neg (by omega), if_neg (by omega), if_neg (by omega), if_pos (by omega)]
        · rw [if_neg (by omega), if_neg (by omega), if_pos (by omega)]
        · rw [if_neg (by omega), if_pos (by omega)]
        · rw [if_pos (by omega)]
    have := loop 20 0 (by omega) F AI b2 FIx.rfl' AIx.rfl' (fun i => by
      by_cases y : i < gZ P + 0
      · rw [if_pos y, b1, vo i (by omega)]
      · rw [if_neg y, b1]) mj_u
    simpa [nI_0, mj_u, mj_kl] using this
  · rw [if_neg z] at hQ
    exact hQ _ hI hF
end
