section
variable {sa : Nat → Nat} {d n t h m : Nat} {Q : mj_Q} {K : Nat → Nat × Nat} {FI : Nat → Nat → Int32} {FL : Nat → Nat → Int64} {FR : Nat → Nat → Option Nat} {AI : Nat → Nat → Int32} {AL : Nat → Nat → Int64} {AR : Nat → Nat → Option Nat} {w : Wl} {hs : Nat → Hg}
variable {a u q : Nat} {P : PG}
theorem c_takes (hU : MHS K FR u) (hS : MWS K FR a) (hw : wOK w) (hM : MW FI AI a w) (sep : a + 12 < u) {p sp len : Nat} (hp : K p = (2, len)) (hl : sp + 127 ≤ len) (hl2 : len < 10000) (hpu : p ≠ u + 1) {e : StK} (he : MKe (AI p) sp e) (he30 : e.2.1 ≤ 30) (hg : ∀ k, k < e.2.1 → gOK w (e.1 k)) (hQ : ∀ (AI' : Nat → Nat → Int32) (AL' : Nat → Nat → Int64), MH AI' AL' u w e.1 e.2.1 → MSP AI' u e → AIx AI AI' (u + 1) (u + 1) → ALx AL AL' (u + 2) (u + 2) → Q none (n, K, FI, FL, FR, AI', AL', AR)) : EV sa (d + 2) 156 [.ref u, .ref p, .int (nI sp), .ref a] (n, K, FI, FL, FR, AI, AL, AR) Q := by
  obtain ⟨ku, ⟨g0, ku1⟩, ⟨g1, ku2⟩⟩ := id hU
  have loop2 : ∀ A : Nat → Nat → Int32, AIx AI A (u + 1) (u + 1) → (∀ j, j < 127 → A (u + 1) j = AI p (sp + j)) → ∀ rr k, k + rr = e.2.1 → ∀ L : Nat → Nat → Int64, ALx AL L (u + 2) (u + 2) → (∀ j, j < k → MkL (L (u + 2) j) (covg w (e.1 j))) → WP sa (EV sa (d + 1)) 156 Q 0 0 32 [.ref u, .ref p, .int (nI sp), .ref a, .int (nI k)] [] (n, K, FI, FL, FR, A, L, AR) := by
    intro A a1 a2 rr
    have hke : MKe (A (u + 1)) 0 e := he.copy he30 (fun j hj => by rw [Nat.zero_add]; exact a2 j hj)
    obtain ⟨c1, c2, c3⟩ := id hke
    simp only [Nat.zero_add] at c1 c2 c3
    have in0 : vp_in (0 : Int32) 127 := vp_in_nI (n := 0) (by decide) (by decide)
    have hMA : MW FI A a w := hM.fr (fun _ => rfl) (fun j z1 z2 => a1 _ (by omega))
    induction rr with
    | zero =>
      intro k hk L l1 l2
      have hk' : k = e.2.1 := by omega
      subst hk'
      rw [e156_32]
      simp only [e156_0, e156_1, e156_5, e156_7, e156_10, e156_11, e156_14, e156_16, e156_17, e156_18, e156_20, e156_21, e156_22, e156_23, e156_26, e156_29, e156_30, e156_34, e156_35, e156_38, e156_39, e156_40, e156_43, e156_44, e156_47, e156_49, e156_50, e156_51, e156_54, e156_55, e156_57, e156_58, e156_59, e156_60, e156_63, e156_65, e156_67, e156_68, e156_69, e156_70, e156_73, e156_75, e156_77, e156_78, e156_79, e156_82, e156_83, e156_86, e156_89, ku, g0, ku1, rf_some, in0, cl0, c1, true_and, true_or]
      refine ⟨fun _ => ?_, fun z => absurd (nI_le (Nat.le_refl _) (by omega)) z⟩
      exact hQ A L ⟨c1, he30, fun k hk => by obtain ⟨d1, d2, d3, d4⟩ := c2 k hk; exact ⟨hg k hk, d1, d2, d3, d4, l2 k hk⟩⟩ (fun r hr => c3 r hr) a1 l1
    | succ rr ih =>
      intro k hk L l1 l2
      obtain ⟨d1, d2, d3, d4⟩ := c2 k (by omega)
      have kin : vp_in (nI k) 30 := vp_in_nI (by omega) (by decide)
      have kcl : (nI k).toNatClampNeg = k := nI_clamp (by omega)
      have i1 : vp_in (nI (1 + k)) 127 := vp_in_nI (by omega) (by decide)
      have j1 : (nI (1 + k)).toNatClampNeg = 1 + k := nI_clamp (by omega)
      have i2 : vp_in (nI (31 + k)) 127 := vp_in_nI (by omega) (by decide)
      have j2 : (nI (31 + k)).toNatClampNeg = 31 + k := nI_clamp (by omega)
      have i3 : vp_in (nI (61 + k)) 127 := vp_in_nI (by omega) (by decide)
      have j3 : (nI (61 + k)).toNatClampNeg = 61 + k := nI_clamp (by omega)
      rw [e156_32]
      simp only [e156_0, e156_1, e156_5, e156_7, e156_10, e156_11, e156_14, e156_16, e156_17, e156_18, e156_20, e156_21, e156_22, e156_23, e156_26, e156_29, e156_30, e156_34, e156_35, e156_38, e156_39, e156_40, e156_43, e156_44, e156_47, e156_49, e156_50, e156_51, e156_54, e156_55, e156_57, e156_58, e156_59, e156_60, e156_63, e156_65, e156_67, e156_68, e156_69, e156_70, e156_73, e156_75, e156_77, e156_78, e156_79, e156_82, e156_83, e156_86, e156_89, ku, g0, g1, ku1, rf_some, in0, cl0, c1, show (1 : Int32) = nI 1 from rfl, show (31 : Int32) = nI 31 from rfl, show (61 : Int32) = nI 61 from rfl, nI_add, i1, j1, i2, j2, i3, j3, d1, d2, d3, true_and, true_or]
      refine ⟨fun z => absurd z (nI_ge (by omega) (by omega)), fun _ => ⟨by simp, c_mcells hS hw hMA (hg k (by omega)) fun v hv => ?_⟩⟩
      simp only [tl_some, e156_0, e156_1, e156_5, e156_7, e156_10, e156_11, e156_14, e156_16, e156_17, e156_18, e156_20, e156_21, e156_22, e156_23, e156_26, e156_29, e156_30, e156_34, e156_35, e156_38, e156_39, e156_40, e156_43, e156_44, e156_47, e156_49, e156_50, e156_51, e156_54, e156_55, e156_57, e156_58, e156_59, e156_60, e156_63, e156_65, e156_67, e156_68, e156_69, e156_70, e156_73, e156_75, e156_77, e156_78, e156_79, e156_82, e156_83, e156_86, e156_89, ku2, kin, kcl, nI_1, mj_kl, true_and]
      refine ih (k + 1) (by omega) _ (fun z hz => ?_) (fun j hj => ?_)
      · funext j; rw [mj_u2_1 (by omega), l1 z hz]
      · by_cases z : j = k
        · subst z; rw [mj_u2_s]; exact hv
        · rw [mj_u2_2 z]; exact l2 j (by omega)
  have loop1 : ∀ rr k, k + rr = 127 → ∀ A : Nat → Nat → Int32, AIx AI A (u + 1) (u + 1) → (∀ j, j < k → A (u + 1) j = AI p (sp + j)) → WP sa (EV sa (d + 1)) 156 Q 0 0 3 [.ref u, .ref p, .int (nI sp), .ref a, .int (nI k)] [] (n, K, FI, FL, FR, A, AL, AR) := by
    intro rr
    induction rr with
    | zero =>
      intro k hk A a1 a2
      have hk' : k = 127 := by omega
      subst hk'
      rw [e156_3]
      simp only [e156_0, e156_1, e156_5, e156_7, e156_10, e156_11, e156_14, e156_16, e156_17, e156_18, e156_20, e156_21, e156_22, e156_23, e156_26, e156_29, e156_30, e156_34, e156_35, e156_38, e156_39, e156_40, e156_43, e156_44, e156_47, e156_49, e156_50, e156_51, e156_54, e156_55, e156_57, e156_58, e156_59, e156_60, e156_63, e156_65, e156_67, e156_68, e156_69, e156_70, e156_73, e156_75, e156_77, e156_78, e156_79, e156_82, e156_83, e156_86, e156_89, mj_kl]
      refine ⟨fun _ => ?_, fun z => absurd (by decide) z⟩
      have := loop2 A a1 a2 e.2.1 0 (by omega) AL (fun _ _ => rfl) (fun j hj => by omega)
      simpa [nI_0, mj_kl] using this
    | succ rr ih =>
      intro k hk A a1 a2
      have kin : vp_in (nI k) 127 := vp_in_nI (by omega) (by decide)
      have kcl : (nI k).toNatClampNeg = k := nI_clamp (by omega)
      have i1 : vp_in (nI (sp + k)) len := vp_in_nI (by omega) (by omega)
      have j1 : (nI (sp + k)).toNatClampNeg = sp + k := nI_clamp (by omega)
      have eA : A p = AI p := a1 _ (by omega)
      rw [e156_3]
      simp only [e156_0, e156_1, e156_5, e156_7, e156_10, e156_11, e156_14, e156_16, e156_17, e156_18, e156_20, e156_21, e156_22, e156_23, e156_26, e156_30, e156_34, e156_35, e156_38, e156_39, e156_40, e156_43, e156_44, e156_47, e156_49, e156_50, e156_51, e156_54, e156_55, e156_57, e156_58, e156_59, e156_60, e156_63, e156_65, e156_67, e156_68, e156_69, e156_70, e156_73, e156_75, e156_77, e156_78, e156_79, e156_82, e156_83, e156_86, e156_89, ku, g0, ku1, hp, rf_some, nI_add, nI_1, kin, kcl, i1, j1, eA, mj_kl, true_and, true_or]
      refine ⟨fun z => absurd z (nI_ge (b := 127) (by omega) (by decide)), fun _ => ?_⟩
      refine ih (k + 1) (by omega) _ (fun z hz => ?_) (fun j hj => ?_)
      · funext j; rw [mj_u2_1 (by omega), a1 z hz]
      · by_cases z : j = k
        · subst z; exact mj_u2_s
        · rw [mj_u2_2 z]; exact a2 j (by omega)
  refine n156 ku ?_
  simp only [e156_0, e156_1, e156_5, e156_7, e156_10, e156_11, e156_14, e156_16, e156_17, e156_18, e156_20, e156_21, e156_22, e156_23, e156_26, e156_29, e156_30, e156_34, e156_35, e156_38, e156_39, e156_40, e156_43, e156_44, e156_47, e156_49, e156_50, e156_51, e156_54, e156_55, e156_57, e156_58, e156_59, e156_60, e156_63, e156_65, e156_67, e156_68, e156_69, e156_70, e156_73, e156_75, e156_77, e156_78, e156_79, e156_82, e156_83, e156_86, e156_89, mj_kl]
  have := loop1 127 0 (by omega) AI AIx.rfl' (fun j hj => by omega)
  simpa [nI_0, mj_u, mj_kl] using this
/-- another state, other acts -/
theorem MInv.setA {s : WS} {FI' AI' : Nat → Nat → Int32} {AL' : Nat → Nat → Int64} {e : StK} {E : (Nat → StK) × Nat} (hI : MInv q P n K FR FI AI AL) (es : gW P = some s) (ha : FR 643 q = some a) (hR : MH AI' AL' (a + 13) s.1 e.1 e.2.1) (hSP : MSP AI' (a + 13) e) (hE : eOK s.1 e) (hF : FIx FI FI' q [666]) (hA : ∀ z, z ≠ a + 14 → AI' z = AI z) (h666 : FI' 666 q = nI E.2) (hc : E.2 ≤ s.2.2.1.2) (hEE : ∀ i, i < E.2 → E.1 i = s.2.2.1.1 i) : MInv q (setW P (s.1, e, E, s.2.2.2)) n K FR FI' AI' AL' := by
  obtain ⟨h1, ⟨b1, b2, b3, b4, b5, b6⟩, h3, h4⟩ := hI
  rw [es] at h4
  obtain ⟨a', c1, c2, c3, c4, c5, ⟨c6, c7, c8⟩, ⟨c9, c10, c11⟩⟩ := h4
  have ea : a' = a := by have := c1.2.1; rw [ha] at this; exact (Option.some.inj this).symm
  subst ea
  have fx : ∀ k, k ∉ [666] → FI' k q = FI k q := fun k hk => hF k q (Or.inr hk)
  refine ⟨h1, ⟨by rw [hA _ (by omega)]; exact b1, by rw [fx _ (by decide)]; exact b2, b3, by rw [fx _ (by decide)]; exact b4, by rw [fx _ (by decide)]; exact b5, by rw [fx _ (by decide)]; exact b6⟩, h3, ?_⟩
  refine ⟨a', ⟨?_, c1.2⟩, c2, c3, hSP, hE, ⟨h666, Nat.le_trans hc c7, fun i hi => by rw [hA _ (by omega), show (s.1, e, E, s.2.2.2).2.2.1.1 i = s.2.2.1.1 i from hEE i hi]; exact c8 i (Nat.lt_of_lt_of_le hi hc)⟩, ⟨by rw [fx _ (by decide)]; exact c9, c10, by rw [hA _ (by omega)]; exact c11⟩⟩
  obtain ⟨v1, v2, v3, v4, v5, v6, v7, v8⟩ := c1.1
  exact ⟨v1, v2, v3, v4.fr (fun k => hF k a' (Or.inl (by omega))) (fun j z1 z2 => hA _ (by omega)), v5, hR, v7, v8⟩
theorem c_m_undo (hV : InvM q P (n, K, FI, FL, FR, AI, AL, AR)) (hQ : ∀ μ', InvM q (as' P (sp_undo P)) μ' → FrM q (n, K, FI, FL, FR, AI, AL, AR) μ' → Q (some (.int (av (sp_undo P)))) μ') : EV sa (d + 3) 240 [.ref q] (n, K, FI, FL, FR, AI, AL, AR) Q := by
  have hI0 : MInv q P n K FR FI AI AL := hV
  have k0 := hI0.1.1
  refine n240 k0 ?_
  simp only [e240_0, e240_1, e240_2, e240_5, e240_6, k0, true_and]
  have hI := hI0.th (v := 0)
  have hF : FrM q (n, K, FI, FL, FR, AI, AL, AR) (n, K, mj_u2 FI 640 q 0, FL, FR, AI, AL, AR) := FrM.f
  generalize mj_u2 FI 640 q 0 = F at hI hF ⊢
  have no : sp_undo P = .inl 6 → EV sa (d + 2) 164 [.ref q, .int 6] (n, K, F, FL, FR, AI, AL, AR) (fun r μ' => WP sa (EV sa (d + 2)) 240 Q 0 0 25 [.ref q] (r.toList ++ []) μ') := fun e => by
    refine c_mdenied k0 ?_
    simp only [tl_some, e240_0, e240_1, e240_2, e240_5, e240_6, e240_9, e240_12, e240_13, e240_16, e240_19, e240_20, e240_22, e240_25, e240_26, e240_27, e240_27i, e240_28, e240_31, e240_32, e240_33, e240_36, e240_37, e240_40, e240_41, e240_44, e240_46, e240_47, e240_50, e240_51, e240_52, e240_55, e240_58, e240_59, e240_62, e240_9r, true_or, true_and]
    exact mdnQ hI hF hQ (k := 6) (by decide) e
  cases es : gW P with
  | none =>
    simp only [hI.no es, e240_0, e240_1, e240_2, e240_5, e240_6, e240_9, e240_12, e240_13, e240_16, e240_19, e240_20, e240_22, e240_25, e240_26, e240_27, e240_27i, e240_28, e240_31, e240_32, e240_33, e240_36, e240_37, e240_40, e240_41, e240_44, e240_46, e240_47, e240_50, e240_51, e240_52, e240_55, e240_58, e240_59, e240_62, e240_9r]
    exact ⟨fun _ => ⟨by simp, no (by unfold sp_undo; rw [es])⟩, fun z => absurd trivial z⟩
  | some s =>
    obtain ⟨hSt, -, -, hWW⟩ := id hI
    rw [es] at hWW
    obtain ⟨a, hO, ha1, ha2, hSP, hE, ⟨c6, c7, c8⟩, -⟩ := hWW
    obtain ⟨-, -, -, -, -, ⟨f5, k5⟩, -⟩ := hSt
    have esp : sp_undo P = (if s.2.2.1.2 = 0 then .inl 6 else .inr (s.1, s.2.2.1.1 (s.2.2.1.2 - 1), (s.2.2.1.1, s.2.2.1.2 - 1), s.2.2.2)) := by unfold sp_undo; rw [es]
    simp only [hO.2.1, rf_some, e240_0, e240_1, e240_2, e240_5, e240_6, e240_9, e240_12, e240_13, e240_16, e240_19, e240_20, e240_22, e240_25, e240_26, e240_27, e240_27i, e240_28, e240_31, e240_32, e240_33, e240_36, e240_37, e240_40, e240_41, e240_44, e240_46, e240_47, e240_50, e240_51, e240_52, e240_55, e240_58, e240_59, e240_62, e240_9r, k0, c6, true_and]
    refine ⟨fun z => ?_, fun z => ⟨by simp, no (by rw [esp, if_pos ((nI_eq (by omega) (by decide)).mp (Classical.not_not.mp z))])⟩⟩
    have hc0 : s.2.2.1.2 ≠ 0 := fun e => z (by rw [e]; rfl)
    obtain ⟨c, hc⟩ : ∃ c, s.2.2.1.2 = c + 1 := ⟨s.2.2.1.2 - 1, by omega⟩
    rw [hc] at c7 esp ⊢
    rw [Nat.add_sub_cancel] at esp
    obtain ⟨q1, q2⟩ := c8 c (by omega)
    simp only [nI_pred, hO.2.1, hO.2.2, f5, rf_some, e240_0, e240_1, e240_2, e240_5, e240_6, e240_9, e240_12, e240_13, e240_16, e240_19, e240_20, e240_22, e240_25, e240_26, e240_27, e240_27i, e240_28, e240_31, e240_32, e240_33, e240_36, e240_37, e240_40, e240_41, e240_44, e240_46, e240_47, e240_50, e240_51, e240_52, e240_55, e240_58, e240_59, e240_62, e240_9r, k0, mj_u2_s, show (127 : Int32) = nI 127 from rfl, pk_mul, true_and]
    refine ⟨by simp, c_takes hO.1.2.2.2.2.1 hO.1.2.1 hO.ok (hO.1.2.2.2.1.fr (FI' := mj_u2 F 666 q (nI c)) (fun k => mj_u2_2 (by omega)) (fun _ _ _ => rfl)) (by omega) k5 (by omega) (by decide) (by omega) q1 q2.2.1 (fun k hk => (q2.2.2.1 k hk).1) fun A L m1 m2 m3 m4 => ?_⟩
    simp only [tl_none, e240_0, e240_1, e240_2, e240_5, e240_6, e240_9, e240_12, e240_13, e240_16, e240_19, e240_20, e240_22, e240_25, e240_26, e240_27, e240_27i, e240_28, e240_31, e240_32, e240_33, e240_36, e240_37, e240_40, e240_41, e240_44, e240_46, e240_47, e240_50, e240_51, e240_52, e240_55, e240_58, e240_59, e240_62, e240_9r]
    refine ⟨by simp, c_mgranted k0 ?_⟩
    simp only [tl_some, e240_0, e240_1, e240_2, e240_5, e240_6, e240_9, e240_12, e240_13, e240_16, e240_19, e240_20, e240_22, e240_25, e240_26, e240_27, e240_27i, e240_28, e240_31, e240_32, e240_33, e240_36, e240_37, e240_40, e240_41, e240_44, e240_46, e240_47, e240_50, e240_51, e240_52, e240_55, e240_58, e240_59, e240_62, e240_9r, or_true, true_and]
    have hI2 := hI.setA (E := (s.2.2.1.1, c)) (FI' := mj_u2 F 666 q (nI c)) es hO.2.1 m1 m2 q2 (FIx_u2 (by decide)) (fun z hz => m3 z (by omega)) mj_u2_s (by show c ≤ s.2.2.1.2; omega) (fun _ _ => rfl)
    exact mgrQ hI2 (hF.trans (FrM.ch (fun f z hz => mj_u2_2 (by omega)) (fun z hz => m3 z (by omega)) (fun z hz => m4 z (by omega)))) hQ (by rw [esp, if_neg (by omega)])
theorem c_m_back (hV : InvM q P (n, K, FI, FL, FR, AI, AL, AR)) {k : Int32} (hQ : ∀ μ', InvM q (as' P (sp_back P k)) μ' → FrM q (n, K, FI, FL, FR, AI, AL, AR) μ' → Q (some (.int (av (sp_back P k)))) μ') : EV sa (d + 3) 271 [.ref q, .int k] (n, K, FI, FL, FR, AI, AL, AR) Q := by
  have hI0 : MInv q P n K FR FI AI AL := hV
  have k0 := hI0.1.1
  refine n271 k0 ?_
  simp only [e271_0, e271_1, e271_2, e271_5, e271_6, k0, true_and]
  have hI := hI0.th (v := 0)
  have hF : FrM q (n, K, FI, FL, FR, AI, AL, AR) (n, K, mj_u2 FI 640 q 0, FL, FR, AI, AL, AR) := FrM.f
  generalize mj_u2 FI 640 q 0 = F at hI hF ⊢
  have no : sp_back P k = .inl 1 → EV sa (d + 2) 164 [.ref q, .int 1] (n, K, F, FL, FR, AI, AL, AR) (fun r μ' => WP sa (EV sa (d + 2)) 271 Q 0 0 29 [.ref q, .int k] (r.toList ++ []) μ') := fun e => by
    refine c_mdenied k0 ?_
    simp only [tl_some, e271_0, e271_1, e271_2, e271_5, e271_6, e271_9, e271_12, e271_13, e271_16, e271_17, e271_18, e271_21, e271_24, e271_25, e271_26, e271_29, e271_30, e271_31, e271_34, e271_35, e271_38, e271_40, e271_41, e271_42, e271_43, e271_46, e271_49, e271_50, e271_51, e271_54, e271_55, e271_58, e271_9r, true_or, true_and]
    exact mdnQ hI hF hQ (k := 1) (by decide) e
  cases es : gW P with
  | none =>
    simp only [hI.no es, e271_0, e271_1, e271_2, e271_5, e271_6, e271_9, e271_12, e271_13, e271_16, e271_17, e271_18, e271_21, e271_24, e271_25, e271_26, e271_29, e271_30, e271_31, e271_34, e271_35, e271_38, e271_40, e271_41, e271_42, e271_43, e271_46, e271_49, e271_50, e271_51, e271_54, e271_55, e271_58, e271_9r]
    exact ⟨fun _ => ⟨by simp, no (by unfold sp_back; rw [es])⟩, fun z => absurd trivial z⟩
  | some s =>
    obtain ⟨hSt, -, -, hWW⟩ := id hI
    rw [es] at hWW
    obtain ⟨a, hO, ha1, ha2, hSP, hE, -, ⟨c9, c10, c11⟩⟩ := hWW
    obtain ⟨-, -, -, -, -, -, ⟨f6, k6⟩, -⟩ := hSt
    have esp : sp_back P k = (if 0 ≤ k ∧ k < nI s.2.2.2.2 then .inr (s.1, s.2.2.2.1 k.toNatClampNeg, (s.2.2.1.1, 0), s.2.2.2) else .inl 1) := by unfold sp_back; rw [es]
    simp only [hO.2.1, rf_some, e271_0, e271_1, e271_2, e271_5, e271_6, e271_9, e271_12, e271_13, e271_16, e271_17, e271_18, e271_21, e271_24, e271_25, e271_26, e271_29, e271_30, e271_31, e271_34, e271_35, e271_38, e271_40, e271_41, e271_42, e271_43, e271_46, e271_49, e271_50, e271_51, e271_54, e271_55, e271_58, e271_9r, k0, c9, true_and]
    refine ⟨fun z => ⟨by simp, no (by rw [esp, if_neg (fun y => absurd z (Int32.not_lt.mpr y.1))])⟩, fun z => ⟨fun z2 => ?_, fun z2 => ⟨by simp, no (by rw [esp, if_neg (fun y => z2 y.2)])⟩⟩⟩
    obtain ⟨j, hj, rfl⟩ := nI_of z
    have hjl := (nI_ltI hj (by omega)).mp z2
    rw [if_pos ⟨nI0_le hj, z2⟩, nI_clamp hj] at esp
    obtain ⟨q1, q2⟩ := c11 j hjl
    simp only [hO.2.1, hO.2.2, f6, rf_some, e271_0, e271_1, e271_2, e271_5, e271_6, e271_9, e271_12, e271_13, e271_16, e271_17, e271_18, e271_21, e271_24, e271_25, e271_26, e271_29, e271_30, e271_31, e271_34, e271_35, e271_38, e271_40, e271_41, e271_42, e271_43, e271_46, e271_49, e271_50, e271_51, e271_54, e271_55, e271_58, e271_9r, k0, show (127 : Int32) = nI 127 from rfl, pk_mul, true_and]
    refine ⟨by simp, c_takes hO.1.2.2.2.2.1 hO.1.2.1 hO.ok hO.1.2.2.2.1 (by omega) k6 (by omega) (by decide) (by omega) q1 q2.2.1 (fun k hk => (q2.2.2.1 k hk).1) fun A L m1 m2 m3 m4 => ?_⟩
    simp only [tl_none, e271_0, e271_1, e271_2, e271_5, e271_6, e271_9, e271_12, e271_13, e271_16, e271_17, e271_18, e271_21, e271_24, e271_25, e271_26, e271_29, e271_30, e271_31, e271_34, e271_35, e271_38, e271_40, e271_41, e271_42, e271_43, e271_46, e271_49, e271_50, e271_51, e271_54, e271_55, e271_58, e271_9r, k0, true_and]
    refine ⟨by simp, c_mgranted k0 ?_⟩
    simp only [tl_some, e271_0, e271_1, e271_2, e271_5, e271_6, e271_9, e271_12, e271_13, e271_16, e271_17, e271_18, e271_21, e271_24, e271_25, e271_26, e271_29, e271_30, e271_31, e271_34, e271_35, e271_38, e271_40, e271_41, e271_42, e271_43, e271_46, e271_49, e271_50, e271_51, e271_54, e271_55, e271_58, e271_9r, or_true, true_and]
    have hI2 := hI.setA (E := (s.2.2.1.1, 0)) (FI' := mj_u2 F 666 q 0) es hO.2.1 m1 m2 q2 (FIx_u2 (by decide)) (fun z hz => m3 z (by omega)) mj_u2_s (Nat.zero_le _) (fun _ _ => rfl)
    exact mgrQ hI2 (hF.trans (FrM.ch (fun f z hz => mj_u2_2 (by omega)) (fun z hz => m3 z (by omega)) (fun z hz => m4 z (by omega)))) hQ esp
theorem c_m_mark (hV : InvM q P (n, K, FI, FL, FR, AI, AL, AR)) (hQ : ∀ μ', InvM q (is' P (sp_mark P)) μ' → FrM q (n, K, FI, FL, FR, AI, AL, AR) μ' → Q (some (.int (iv (sp_mark P)))) μ') : EV sa (d + 3) 270 [.ref q] (n, K, FI, FL, FR, AI, AL, AR) Q := by
  have hI0 : MInv q P n K FR FI AI AL := hV
  have k0 := hI0.1.1
  refine n270 k0 ?_
  simp only [e270_0, e270_1, e270_2, e270_5, e270_6, k0, true_and]
  have hI := hI0.th (v := 0)
  have hF : FrM q (n, K, FI, FL, FR, AI, AL, AR) (n, K, mj_u2 FI 640 q 0, FL, FR, AI, AL, AR) := FrM.f
  generalize mj_u2 FI 640 q 0 = F at hI hF ⊢
  cases es : gW P with
  | none =>
    simp only [hI.no es, e270_0, e270_1, e270_2, e270_5, e270_6, e270_9, e270_12, e270_13, e270_14, e270_17, e270_18, e270_19, e270_22, e270_23, e270_26, e270_27, e270_28, e270_31, e270_32, e270_33, e270_35, e270_37, e270_40, e270_41, e270_44, e270_46, e270_47, e270_50, e270_51, e270_52, e270_53, e270_54, e270_57, e270_60, e270_61, e270_62, e270_63, e270_66, e270_69, e270_70, e270_70i, e270_71, e270_74, e270_75, e270_76, e270_79, e270_80, e270_81, e270_84, e270_85, e270_86, e270_89, e270_9r]
    refine ⟨fun z => absurd trivial z, fun _ => ⟨by simp, c_mrefused k0 ?_⟩⟩
    simp only [tl_some, e270_0, e270_1, e270_2, e270_5, e270_6, e270_9, e270_12, e270_13, e270_14, e270_17, e270_18, e270_19, e270_22, e270_23, e270_26, e270_27, e270_28, e270_31, e270_32, e270_33, e270_35, e270_37, e270_40, e270_41, e270_44, e270_46, e270_47, e270_50, e270_51, e270_52, e270_53, e270_54, e270_57, e270_60, e270_61, e270_62, e270_63, e270_66, e270_69, e270_70, e270_70i, e270_71, e270_74, e270_75, e270_76, e270_79, e270_80, e270_81, e270_84, e270_85, e270_86, e270_89, e270_9r]
    exact mirQ hI hF hQ (k := 1) (by decide) (by unfold sp_mark; rw [es])
  | some s =>
    obtain ⟨hSt, ⟨b1, b2, b3, b4, b5, b6⟩, hn, hWW⟩ := id hI
    rw [es] at hWW
    obtain ⟨a, hO, ha1, ha2, hSP, hE, ⟨c6, c7, c8⟩, ⟨c9, c10, c11⟩⟩ := hWW
    obtain ⟨-, -, -, -, -, -, ⟨f6, k6⟩, -⟩ := id hSt
    obtain ⟨ku, ⟨g0, ku1⟩, -⟩ := hO.1.2.2.2.2.1
    have esp : sp_mark P = (if s.2.2.2.2 < 3 then .inr ((s.1, s.2.1, s.2.2.1, pushE s.2.2.2.1 s.2.2.2.2 3 s.2.1), nI s.2.2.2.2) else .inl 3) := by unfold sp_mark; rw [es]
    generalize hc : s.2.2.2.2 = c at *
    simp only [hO.2.1, rf_some, e270_0, e270_1, e270_2, e270_5, e270_6, e270_9, e270_12, e270_13, e270_14, e270_17, e270_18, e270_19, e270_22, e270_23, e270_26, e270_27, e270_28, e270_31, e270_32, e270_33, e270_35, e270_37, e270_40, e270_41, e270_44, e270_46, e270_47, e270_50, e270_51, e270_52, e270_53, e270_54, e270_57, e270_60, e270_61, e270_62, e270_63, e270_66, e270_69, e270_70, e270_70i, e270_71, e270_74, e270_75, e270_76, e270_79, e270_80, e270_81, e270_84, e270_85, e270_86, e270_89, e270_9r, k0, c9, show (3 : Int32) = nI 3 from rfl, nI_eq (show c < 2 ^ 31 by omega) (show 3 < 2 ^ 31 by decide), mj_kl, true_and]
    refine ⟨fun z => ?_, fun z => ⟨by simp, c_mrefused k0 ?_⟩⟩
    · have hc3 : c < 3 := by omega
      have hke := hO.mh.ke hSP
      have loop : ∀ rr k, k + rr = 127 → ∀ A : Nat → Nat → Int32, AIx AI A (q + 6) (q + 6) → (∀ j, j < k → A (q + 6) (127 * c + j) = AI (a + 13 + 1) j) → (∀ j, j < 127 * c → A (q + 6) j = AI (q + 6) j) → WP sa (EV sa (d + 2)) 270 Q 0 0 34 [.ref q, .int (nI k)] [] (n, K, F, FL, FR, A, AL, AR) := by
        intro rr
        induction rr with
        | zero =>
          intro k hk A a1 a2 a3
          have hk' : k = 127 := by omega
          subst hk'
          rw [e270_34]
          simp only [e270_0, e270_1, e270_2, e270_5, e270_6, e270_9, e270_12, e270_13, e270_14, e270_17, e270_18, e270_19, e270_22, e270_23, e270_26, e270_27, e270_28, e270_31, e270_32, e270_33, e270_35, e270_37, e270_40, e270_41, e270_44, e270_46, e270_47, e270_50, e270_51, e270_52, e270_53, e270_54, e270_57, e270_60, e270_61, e270_62, e270_63, e270_66, e270_69, e270_70, e270_70i, e270_71, e270_74, e270_75, e270_76, e270_79, e270_80, e270_81, e270_84, e270_85, e270_86, e270_89, e270_9r, k0, c9, nI_1, mj_u2_s, nI_pred, true_and]
          refine ⟨fun _ => ⟨by simp, c_mgood k0 ?_⟩, fun z => absurd (by decide) z⟩
          simp only [tl_some, e270_0, e270_1, e270_2, e270_5, e270_6, e270_9, e270_12, e270_13, e270_14, e270_17, e270_18, e270_19, e270_22, e270_23, e270_26, e270_27, e270_28, e270_31, e270_32, e270_33, e270_35, e270_37, e270_40, e270_41, e270_44, e270_46, e270_47, e270_50, e270_51, e270_52, e270_53, e270_54, e270_57, e270_60, e270_61, e270_62, e270_63, e270_66, e270_69, e270_70, e270_70i, e270_71, e270_74, e270_75, e270_76, e270_79, e270_80, e270_81, e270_84, e270_85, e270_86, e270_89, e270_9r]
          have ep : pushE s.2.2.2.1 c 3 s.2.1 = (upN s.2.2.2.1 c s.2.1, c + 1) := by unfold pushE; rw [if_pos hc3]
          rw [if_pos hc3, ep] at esp
          have fx : ∀ k, k ≠ 667 → mj_u2 F 667 q (nI (c + 1)) k q = F k q := fun k hk => mj_u2_1 hk
          have hI2 : MInv q (setW P (s.1, s.2.1, s.2.2.1, upN s.2.2.2.1 c s.2.1, c + 1)) n K FR (mj_u2 F 667 q (nI (c + 1))) A AL := by
            refine ⟨hSt, ⟨by rw [a1 _ (by omega)]; exact b1, by rw [fx _ (by decide)]; exact b2, b3, by rw [fx _ (by decide)]; exact b4, by rw [fx _ (by decide)]; exact b5, by rw [fx _ (by decide)]; exact b6⟩, hn, ?_⟩
            refine ⟨a, ⟨?_, hO.2⟩, ha1, ha2, fun r hr => by rw [a1 _ (by omega)]; exact hSP r hr, hE, ⟨by rw [fx _ (by decide)]; exact c6, c7, by rw [a1 _ (by omega)]; exact c8⟩, ⟨mj_u2_s, by show c + 1 ≤ 3; omega, fun i hi => ?_⟩⟩
            · obtain ⟨v1, v2, v3, v4, v5, v6, v7, v8⟩ := hO.1
              exact ⟨v1, v2, v3, v4.fr (fun k => mj_u2_2 (by omega)) (fun j z1 z2 => a1 _ (by omega)), v5, v6.fr (a1 _ (by omega)) rfl, v7, v8⟩
            · show MKe (A (q + 6)) (127 * i) (upN s.2.2.2.1 c s.2.1 i) ∧ eOK s.1 (upN s.2.2.2.1 c s.2.1 i)
              have hi' : i < c + 1 := hi
              by_cases y : i = c
              · subst y
                rw [upN_s]
                exact ⟨hke.copy hO.mh.2.1 (fun j hj => by rw [Nat.zero_add]; exact a2 j hj), hE⟩
              · rw [upN_o y]
                obtain ⟨q1, q2⟩ := c11 i (by omega)
                refine ⟨q1.copy q2.2.1 (fun j hj => a3 _ ?_), q2⟩
                have : 127 * (i + 1) ≤ 127 * c := Nat.mul_le_mul_left _ (by omega)
                omega
          exact mivQ hI2 (hF.trans (FrM.ch (fun f z hz => mj_u2_2 (by omega)) (fun z hz => a1 z (by omega)) (fun _ _ => rfl))) hQ esp
        | succ rr ih =>
          intro k hk A a1 a2 a3
          have kin : vp_in (nI k) 127 := vp_in_nI (by omega) (by decide)
          have kcl : (nI k).toNatClampNeg = k := nI_clamp (by omega)
          have pin : vp_in (nI (127 * c + k)) 381 := vp_in_nI (by omega) (by decide)
          have pcl : (nI (127 * c + k)).toNatClampNeg = 127 * c + k := nI_clamp (by omega)
          have eA : A (a + 13 + 1) = AI (a + 13 + 1) := a1 _ (by omega)
          rw [e270_34]
          simp only [e270_0, e270_1, e270_2, e270_5, e270_6, e270_9, e270_12, e270_13, e270_14, e270_17, e270_18, e270_19, e270_22, e270_23, e270_26, e270_27, e270_28, e270_31, e270_32, e270_33, e270_35, e270_37, e270_40, e270_41, e270_44, e270_46, e270_47, e270_50, e270_51, e270_52, e270_53, e270_54, e270_57, e270_60, e270_61, e270_62, e270_63, e270_66, e270_70, e270_70i, e270_71, e270_74, e270_75, e270_76, e270_79, e270_80, e270_81, e270_84, e270_85, e270_86, e270_89, e270_9r, k0, f6, k6, hO.2.2, rf_some, ku, g0, ku1, c9, show (127 : Int32) = nI 127 from rfl, pk_mul, nI_add, nI_1, kin, kcl, pin, pcl, eA, mj_kl, true_and, true_or]
          refine ⟨fun z => absurd z (nI_ge (by omega) (by decide)), fun _ => ?_⟩
          refine ih (k + 1) (by omega) _ (fun z hz => ?_) (fun j hj => ?_) (fun j hj => ?_)
          · funext j; rw [mj_u2_1 (by omega), a1 z hz]
          · by_cases z : j = k
            · subst z; exact mj_u2_s
            · rw [mj_u2_2 (by omega)]; exact a2 j (by omega)
          · rw [mj_u2_2 (by omega)]; exact a3 j hj
      have := loop 127 0 (by omega) AI AIx.rfl' (fun j hj => by omega) (fun j hj => rfl)
      simpa [nI_0, mj_u, mj_kl] using this
    · simp only [tl_some, e270_0, e270_1, e270_2, e270_5, e270_6, e270_9, e270_12, e270_13, e270_14, e270_17, e270_18, e270_19, e270_22, e270_23, e270_26, e270_27, e270_28, e270_31, e270_32, e270_33, e270_35, e270_37, e270_40, e270_41, e270_44, e270_46, e270_47, e270_50, e270_51, e270_52, e270_53, e270_54, e270_57, e270_60, e270_61, e270_62, e270_63, e270_66, e270_69, e270_70, e270_70i, e270_71, e270_74, e270_75, e270_76, e270_79, e270_80, e270_81, e270_84, e270_85, e270_86, e270_89, e270_9r]
      exact mirQ hI hF hQ (k := 3) (by decide) (by rw [esp, if_neg (by omega)])
end
