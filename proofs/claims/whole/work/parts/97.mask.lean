section
variable {sa : Nat → Nat} {d n t h m : Nat} {Q : mj_Q} {K : Nat → Nat × Nat} {FI : Nat → Nat → Int32} {FL : Nat → Nat → Int64} {FR : Nat → Nat → Option Nat} {AI : Nat → Nat → Int32} {AL : Nat → Nat → Int64} {AR : Nat → Nat → Option Nat} {w : Wl} {hs : Nat → Hg}
variable {a u q : Nat} {P : PG}
theorem c_misFull (hO : MO K FR FI AI AL q a w hs m) (hQ : ∀ (AI' : Nat → Nat → Int32) (AL' : Nat → Nat → Int64), MO K FR FI AI' AL' q a w hs m → MX q (a + 13) AI AI' AL AL' → Q (some (.int (bI (isFullP w hs m)))) (n, K, FI, FL, FR, AI', AL', AR)) : EV sa (d + 8) 229 [.ref q] (n, K, FI, FL, FR, AI, AL, AR) Q := by
  have k0 := hO.k
  have w4 := hO.1.2.2.2.1.1.2.2.2.1
  have ka := hO.1.2.1.1
  have hn4 := hO.ok.2.2.2.1
  have h32 := hO.c32
  have outer : ∀ rr b, b + rr = wNB w → (∀ b', b' < b → ex (fun c => mayAt w hs m b' c) (wW w * wH w) = false) → ∀ (A : Nat → Nat → Int32) (L : Nat → Nat → Int64), MO K FR FI A L q a w hs m → MX q (a + 13) AI A AL L → ∀ x2 : Value, WP sa (EV sa (d + 7)) 229 Q 0 0 2 [.ref q, .int (nI b), x2] [] (n, K, FI, FL, FR, A, L, AR) := by
    intro rr
    induction rr with
    | zero =>
      intro b hb hn A L hA hX x2
      have hb' : b = wNB w := by omega
      subst hb'
      rw [e229_2]
      have w4' := hA.1.2.2.2.1.1.2.2.2.1
      simp only [e229_0, e229_1, e229_3, e229_4, e229_7, e229_10, e229_13, e229_14, e229_16, e229_17, e229_20, e229_23, e229_24, e229_25, e229_26, e229_29, e229_32, e229_33, e229_34, e229_35, e229_38, e229_41, e229_42, e229_43, e229_46, e229_49, e229_52, e229_55, e229_56, k0, hA.2.1, rf_some, ka, w4', true_and, or_true]
      refine ⟨fun _ => ?_, fun z => absurd (nI_le (Nat.le_refl _) (by omega)) z⟩
      have e : isFullP w hs m = true := by unfold isFullP; rw [Bool.not_eq_true', ex_false]; exact hn
      have := hQ A L hA hX
      rw [e] at this
      exact this
    | succ rr IH =>
      intro b hb hn A L hA hX x2
      have inner : ∀ sr c, c + sr = wW w * wH w → (∀ j, j < c → mayAt w hs m b j = false) → ∀ (A : Nat → Nat → Int32) (L : Nat → Nat → Int64), MO K FR FI A L q a w hs m → MX q (a + 13) AI A AL L → WP sa (EV sa (d + 7)) 229 Q 0 0 15 [.ref q, .int (nI b), .int (nI c)] [] (n, K, FI, FL, FR, A, L, AR) := by
        intro sr
        induction sr with
        | zero =>
          intro c hc hj A L hA hX
          have hc' : c = wW w * wH w := by omega
          subst hc'
          rw [e229_15]
          simp only [e229_0, e229_1, e229_3, e229_4, e229_7, e229_10, e229_13, e229_14, e229_16, e229_17, e229_20, e229_23, e229_24, e229_25, e229_26, e229_29, e229_32, e229_33, e229_34, e229_35, e229_38, e229_41, e229_42, e229_43, e229_46, e229_52, e229_55, e229_56]
          refine ⟨by simp, c_mOcells hA ?_⟩
          simp only [tl_some, e229_0, e229_1, e229_3, e229_4, e229_7, e229_10, e229_13, e229_14, e229_16, e229_17, e229_20, e229_23, e229_24, e229_25, e229_26, e229_29, e229_32, e229_33, e229_34, e229_35, e229_38, e229_41, e229_42, e229_43, e229_46, e229_49, e229_52, e229_55, e229_56, nI_1, mj_kl]
          refine ⟨fun _ => IH (b + 1) (by omega) (fun b' hb' => ?_) A L hA hX _, fun z => absurd (nI_le (Nat.le_refl _) (by omega)) z⟩
          by_cases e : b' = b
          · subst e; exact ex_false.mpr hj
          · exact hn b' (by omega)
        | succ sr ih =>
          intro c hc hj A L hA hX
          have nx : mayAt w hs m b c = false → ∀ (A : Nat → Nat → Int32) (L : Nat → Nat → Int64), MO K FR FI A L q a w hs m → MX q (a + 13) AI A AL L → WP sa (EV sa (d + 7)) 229 Q 0 0 15 [.ref q, .int (nI b), .int (nI (c + 1))] [] (n, K, FI, FL, FR, A, L, AR) := fun e => ih (c + 1) (by omega) fun j h => by
            by_cases e2 : j = c
            · subst e2; exact e
            · exact hj j (by omega)
          rw [e229_15]
          simp only [e229_0, e229_1, e229_3, e229_4, e229_7, e229_10, e229_13, e229_14, e229_16, e229_17, e229_20, e229_23, e229_24, e229_25, e229_26, e229_29, e229_32, e229_33, e229_34, e229_35, e229_38, e229_41, e229_42, e229_43, e229_46, e229_52, e229_55, e229_56]
          refine ⟨by simp, c_mOcells hA ?_⟩
          simp only [tl_some, e229_0, e229_1, e229_3, e229_4, e229_7, e229_10, e229_13, e229_14, e229_16, e229_17, e229_20, e229_23, e229_24, e229_25, e229_26, e229_29, e229_32, e229_33, e229_34, e229_35, e229_38, e229_41, e229_42, e229_43, e229_46, e229_52, e229_55, e229_56]
          refine ⟨fun z => absurd z (nI_ge (by omega) (by omega)), fun _ => ⟨by simp, c_misOnAt hA (by omega) (by omega) ?_⟩⟩
          simp only [tl_some, e229_0, e229_1, e229_3, e229_4, e229_7, e229_10, e229_13, e229_14, e229_16, e229_17, e229_20, e229_23, e229_24, e229_25, e229_26, e229_29, e229_32, e229_33, e229_34, e229_35, e229_38, e229_41, e229_42, e229_43, e229_46, e229_52, e229_55, e229_56, bI_eq0, nI_1, mj_kl]
          refine ⟨fun z => nx (mayAt_no z) A L hA hX, fun z => ⟨by simp, c_mmayAt hA (by omega) (by omega) (ts_nf z) fun A2 L2 g1 g2 => ?_⟩⟩
          simp only [tl_some, e229_0, e229_1, e229_3, e229_4, e229_7, e229_10, e229_13, e229_14, e229_16, e229_17, e229_20, e229_23, e229_24, e229_25, e229_26, e229_29, e229_32, e229_33, e229_34, e229_35, e229_38, e229_41, e229_42, e229_43, e229_46, e229_52, e229_55, e229_56, bI_eq0, nI_1, mj_kl, true_or, true_and]
          refine ⟨fun z => nx z A2 L2 g1 (hX.trans g2), fun z => ?_⟩
          have e : isFullP w hs m = false := by
            unfold isFullP
            rw [Bool.not_eq_false', ex_true]
            exact ⟨b, by omega, ex_true.mpr ⟨c, by omega, ts_nf z⟩⟩
          have := hQ A2 L2 g1 (hX.trans g2)
          rw [e] at this
          exact this
      have w4' := hA.1.2.2.2.1.1.2.2.2.1
      rw [e229_2]
      simp only [e229_0, e229_1, e229_3, e229_4, e229_7, e229_10, e229_13, e229_14, e229_16, e229_17, e229_20, e229_23, e229_24, e229_25, e229_26, e229_29, e229_32, e229_33, e229_34, e229_35, e229_38, e229_41, e229_42, e229_43, e229_46, e229_49, e229_52, e229_55, e229_56, k0, hA.2.1, rf_some, ka, w4', true_and, or_true, mj_kl]
      refine ⟨fun z => absurd z (nI_ge (by omega) (by omega)), fun _ => ?_⟩
      have := inner (wW w * wH w) 0 (by omega) (fun j h => by omega) A L hA hX
      simpa [nI_0, mj_kl] using this
  refine n229 k0 ?_
  simp only [e229_0, e229_1, e229_3, e229_4, e229_7, e229_10, e229_13, e229_14, e229_16, e229_17, e229_20, e229_23, e229_24, e229_25, e229_26, e229_29, e229_32, e229_33, e229_34, e229_35, e229_38, e229_41, e229_42, e229_43, e229_46, e229_49, e229_52, e229_55, e229_56, mj_kl]
  have := outer (wNB w) 0 (by omega) (fun j h => by omega) AI AL hO MX.rfl' mj_u
  simpa [nI_0, mj_u, mj_kl] using this
theorem isSome_some {α : Type} {o : Option α} (h : o.isSome = true) : ∃ s, o = some s := by cases o with
  | none => cases h
  | some s => exact ⟨s, rfl⟩
theorem c_m_full (hV : InvM q P (n, K, FI, FL, FR, AI, AL, AR)) (hQ : ∀ μ', InvM q (rs P (sp_full P)) μ' → FrM q (n, K, FI, FL, FR, AI, AL, AR) μ' → Q (some (.int (rv (sp_full P)))) μ') : EV sa (d + 9) 230 [.ref q] (n, K, FI, FL, FR, AI, AL, AR) Q := by
  have hI0 : MInv q P n K FR FI AI AL := hV
  have k0 := hI0.1.1
  refine n230 k0 ?_
  simp only [e230_0, e230_1, e230_2, e230_5, e230_6, k0, true_and]
  have hI := hI0.th (v := 0)
  have hF : FrM q (n, K, FI, FL, FR, AI, AL, AR) (n, K, mj_u2 FI 640 q 0, FL, FR, AI, AL, AR) := FrM.f
  generalize mj_u2 FI 640 q 0 = F at hI hF ⊢
  cases es : gW P with
  | none =>
    simp only [hI.no es, e230_0, e230_1, e230_2, e230_5, e230_6, e230_9, e230_12, e230_13, e230_14, e230_17, e230_20, e230_21, e230_22, e230_25, e230_28, e230_29, e230_32, e230_33, e230_36, e230_9r]
    refine ⟨fun z => absurd trivial z, fun _ => ⟨by simp, c_mrefused k0 ?_⟩⟩
    simp only [tl_some, e230_0, e230_1, e230_2, e230_5, e230_6, e230_9, e230_12, e230_13, e230_14, e230_17, e230_20, e230_21, e230_22, e230_25, e230_28, e230_29, e230_32, e230_33, e230_36, e230_9r]
    exact mrefQ hI hF hQ (k := 1) (by decide) (by unfold sp_full; rw [es]; rfl)
  | some s =>
    obtain ⟨a, hO, ha1, ha2⟩ := hI.mo es
    obtain ⟨p1, p2, p3, p4⟩ := pWs es
    simp only [hO.2.1, e230_0, e230_1, e230_2, e230_5, e230_6, e230_9, e230_12, e230_13, e230_14, e230_17, e230_20, e230_21, e230_22, e230_25, e230_28, e230_29, e230_32, e230_33, e230_36, e230_9r]
    refine ⟨fun _ => ⟨by simp, c_misFull hO fun A L g1 g2 => ?_⟩, fun z => by cases z⟩
    have fin : ∀ bb, bb = isFullP s.1 s.2.1.1 s.2.1.2.1 → EV sa (d + 8) 165 [.ref q, .int (bI bb)] (n, K, F, FL, FR, A, L, AR) (fun v μ' => WP sa (EV sa (d + 8)) 230 Q 0 0 36 [.ref q] (v.toList ++ []) μ') := by
      rintro bb rfl
      refine c_mgood k0 ?_
      simp only [tl_some, e230_0, e230_1, e230_2, e230_5, e230_6, e230_9, e230_12, e230_13, e230_14, e230_17, e230_20, e230_21, e230_22, e230_25, e230_28, e230_29, e230_32, e230_33, e230_36, e230_9r]
      exact mansQ (hI.qq es hO.2.1 g2.toMQ g1.mh) (hF.trans (g2.toMQ.frm ha1)) hQ (by unfold sp_full; rw [es, p1, p2, p3]; rfl)
    simp only [tl_some, e230_0, e230_1, e230_2, e230_5, e230_6, e230_9, e230_12, e230_13, e230_14, e230_17, e230_20, e230_21, e230_22, e230_25, e230_28, e230_29, e230_32, e230_33, e230_36, e230_9r, bI_eq0]
    exact ⟨fun z => ⟨by simp, fin false z.symm⟩, fun z => ⟨by simp, fin true (ts_nf z).symm⟩⟩
theorem c_m_table (hV : InvM q P (n, K, FI, FL, FR, AI, AL, AR)) {b k : Int32} {hang : Bool} (hQ : ∀ μ', InvM q (rs P (sp_table P b k hang)) μ' → FrM q (n, K, FI, FL, FR, AI, AL, AR) μ' → Q (some (.int (rv (sp_table P b k hang)))) μ') : EV sa (d + 8) 231 [.ref q, .int b, .int k, .int (bI hang)] (n, K, FI, FL, FR, AI, AL, AR) Q := by
  have hI0 : MInv q P n K FR FI AI AL := hV
  have k0 := hI0.1.1
  refine n231 k0 ?_
  simp only [e231_0, e231_1, e231_2, e231_5, e231_6, e231_7, e231_10, e231_13, e231_14, e231_15, e231_18, e231_19, e231_20, e231_21, e231_22, e231_25, e231_28, e231_29, e231_30, e231_33, e231_34, e231_35, e231_37, e231_38, e231_42, e231_43, e231_46, e231_49, e231_51, e231_52, e231_53, e231_55, e231_58, e231_61, e231_62, e231_63, e231_66, e231_67, e231_70, e231_71, e231_73, e231_74, e231_77, e231_80, e231_81, e231_83, e231_84, e231_87, e231_90, e231_91, e231_92, e231_93, e231_96, e231_99, e231_100, e231_103, e231_104, e231_105, e231_107, e231_110, e231_113, e231_114, e231_116, e231_119, k0, true_and]
  have hI := hI0.th (v := 0)
  have hF : FrM q (n, K, FI, FL, FR, AI, AL, AR) (n, K, mj_u2 FI 640 q 0, FL, FR, AI, AL, AR) := FrM.f
  generalize mj_u2 FI 640 q 0 = F at hI hF ⊢
  refine ⟨by simp, c_misBill hI ?_⟩
  simp only [tl_some, e231_0, e231_1, e231_2, e231_5, e231_6, e231_7, e231_10, e231_13, e231_14, e231_15, e231_18, e231_19, e231_20, e231_21, e231_22, e231_25, e231_28, e231_29, e231_30, e231_33, e231_34, e231_35, e231_37, e231_38, e231_42, e231_43, e231_46, e231_49, e231_51, e231_52, e231_53, e231_55, e231_58, e231_61, e231_62, e231_63, e231_66, e231_67, e231_70, e231_71, e231_73, e231_74, e231_77, e231_80, e231_81, e231_83, e231_84, e231_87, e231_90, e231_91, e231_92, e231_93, e231_96, e231_99, e231_100, e231_103, e231_104, e231_105, e231_107, e231_110, e231_113, e231_114, e231_116, e231_119, bI_eq0, mj_kl]
  refine ⟨fun z => ⟨by simp, c_min ?_⟩, fun z => ⟨by simp, c_mrefused k0 ?_⟩⟩
  · have hb1 := ts_nf z
    obtain ⟨s, es, eb, hb, p1, p2, p3, p4⟩ := misB hI hb1
    obtain ⟨a, hO, ha1, ha2⟩ := hI.mo es
    have h32 := hO.c32
    have hw := hO.ok
    have hW := hw.1
    have nW : ¬ nI (wW s.1) = 0 := nI_ne0 (by omega) (by omega)
    simp only [tl_some, e231_0, e231_1, e231_2, e231_5, e231_6, e231_7, e231_10, e231_13, e231_14, e231_15, e231_18, e231_19, e231_20, e231_21, e231_22, e231_25, e231_28, e231_29, e231_30, e231_33, e231_34, e231_35, e231_37, e231_38, e231_42, e231_43, e231_46, e231_49, e231_51, e231_52, e231_53, e231_55, e231_58, e231_61, e231_62, e231_63, e231_66, e231_67, e231_70, e231_71, e231_73, e231_74, e231_77, e231_80, e231_81, e231_83, e231_84, e231_87, e231_90, e231_91, e231_92, e231_93, e231_96, e231_99, e231_100, e231_103, e231_104, e231_105, e231_107, e231_110, e231_113, e231_114, e231_116, e231_119, bI_eq0, mj_kl]
    refine ⟨fun z2 => ?_, fun z2 => ⟨by simp, c_mrefused k0 ?_⟩⟩
    · have z2' := ts_nf z2
      rw [decide_eq_true_eq] at z2'
      obtain ⟨ek, hk5⟩ := rng_of (b := k) (N := 6) (by decide) ⟨z2'.1, by
        obtain ⟨j, hj, rfl⟩ := nI_of (Int32.not_lt.mpr z2'.1)
        exact nI_lt (by have := (nI_leI (b := 5) hj (by decide)).mp z2'.2; omega) (by decide)⟩
      generalize hbb : b.toNatClampNeg = B at *
      generalize hkk : k.toNatClampNeg = k' at *
      subst eb
      have loop : ∀ rr c, c + rr = wW s.1 * wH s.1 → ∀ (A : Nat → Nat → Int32) (L : Nat → Nat → Int64), MO K FR F A L q a s.1 s.2.1.1 s.2.1.2.1 → MX q (a + 13) AI A AL L → WP sa (EV sa (d + 7)) 231 Q 0 0 40 [.ref q, .int (nI B), .int k, .int (bI hang), .int (nI (ct (fun c => couldAt s.1 s.2.1.1 s.2.1.2.1 B c k' hang) c)), .int (nI c)] [] (n, K, F, FL, FR, A, L, AR) := by
        intro rr
        induction rr with
        | zero =>
          intro c hc A L hA hX
          have hc' : c = wW s.1 * wH s.1 := by omega
          subst hc'
          rw [e231_40]
          simp only [e231_0, e231_1, e231_2, e231_5, e231_6, e231_7, e231_10, e231_13, e231_14, e231_15, e231_18, e231_19, e231_20, e231_21, e231_22, e231_25, e231_28, e231_29, e231_30, e231_33, e231_34, e231_35, e231_37, e231_38, e231_42, e231_43, e231_46, e231_49, e231_51, e231_52, e231_53, e231_55, e231_58, e231_61, e231_62, e231_63, e231_66, e231_67, e231_70, e231_71, e231_73, e231_74, e231_77, e231_80, e231_81, e231_83, e231_84, e231_87, e231_90, e231_91, e231_92, e231_93, e231_96, e231_99, e231_100, e231_103, e231_104, e231_105, e231_107, e231_110, e231_113, e231_114, e231_116, e231_119]
          refine ⟨by simp, c_mOcells hA ?_⟩
          simp only [tl_some, e231_0, e231_1, e231_2, e231_5, e231_6, e231_7, e231_10, e231_13, e231_14, e231_15, e231_18, e231_19, e231_20, e231_21, e231_22, e231_25, e231_28, e231_29, e231_30, e231_33, e231_34, e231_35, e231_37, e231_38, e231_42, e231_43, e231_46, e231_49, e231_51, e231_52, e231_53, e231_55, e231_58, e231_61, e231_62, e231_63, e231_66, e231_67, e231_70, e231_71, e231_73, e231_74, e231_77, e231_80, e231_81, e231_83, e231_84, e231_87, e231_90, e231_91, e231_92, e231_93, e231_96, e231_99, e231_100, e231_103, e231_104, e231_105, e231_107, e231_110, e231_113, e231_114, e231_116, e231_119]
          refine ⟨fun _ => ⟨by simp, c_mgood k0 ?_⟩, fun z => absurd (nI_le (Nat.le_refl _) (by omega)) z⟩
          simp only [tl_some, e231_0, e231_1, e231_2, e231_5, e231_6, e231_7, e231_10, e231_13, e231_14, e231_15, e231_18, e231_19, e231_20, e231_21, e231_22, e231_25, e231_28, e231_29, e231_30, e231_33, e231_34, e231_35, e231_37, e231_38, e231_42, e231_43, e231_46, e231_49, e231_51, e231_52, e231_53, e231_55, e231_58, e231_61, e231_62, e231_63, e231_66, e231_67, e231_70, e231_71, e231_73, e231_74, e231_77, e231_80, e231_81, e231_83, e231_84, e231_87, e231_90, e231_91, e231_92, e231_93, e231_96, e231_99, e231_100, e231_103, e231_104, e231_105, e231_107, e231_110, e231_113, e231_114, e231_116, e231_119]
          exact mansQ (hI.qq es hO.2.1 hX.toMQ hA.mh) (hF.trans (hX.toMQ.frm ha1)) hQ (by unfold sp_table; rw [if_pos hb1, if_pos z2', p1, p2, p3, hbb, hkk])
        | succ rr ih =>
          intro c hc A L hA hX
          have nx := ih (c + 1) (by omega)
          rw [ct_top] at nx
          have w1 := hA.1.2.2.2.1.1.1
          rw [e231_40]
          simp only [e231_0, e231_1, e231_2, e231_5, e231_6, e231_7, e231_10, e231_13, e231_14, e231_15, e231_18, e231_19, e231_20, e231_21, e231_22, e231_25, e231_28, e231_29, e231_30, e231_33, e231_34, e231_35, e231_37, e231_38, e231_42, e231_43, e231_46, e231_49, e231_51, e231_52, e231_53, e231_55, e231_58, e231_61, e231_62, e231_63, e231_66, e231_67, e231_70, e231_71, e231_73, e231_74, e231_77, e231_80, e231_81, e231_83, e231_84, e231_87, e231_90, e231_91, e231_92, e231_93, e231_96, e231_99, e231_100, e231_103, e231_104, e231_105, e231_107, e231_110, e231_113, e231_114, e231_116, e231_119]
          refine ⟨by simp, c_mOcells hA ?_⟩
          simp only [tl_some, e231_0, e231_1, e231_2, e231_5, e231_6, e231_7, e231_10, e231_13, e231_14, e231_15, e231_18, e231_19, e231_20, e231_21, e231_22, e231_25, e231_28, e231_29, e231_30, e231_33, e231_34, e231_35, e231_37, e231_38, e231_42, e231_43, e231_46, e231_49, e231_51, e231_52, e231_53, e231_55, e231_58, e231_61, e231_62, e231_63, e231_66, e231_67, e231_70, e231_71, e231_73, e231_74, e231_77, e231_80, e231_81, e231_83, e231_84, e231_87, e231_90, e231_91, e231_92, e231_93, e231_96, e231_99, e231_100, e231_103, e231_104, e231_105, e231_107, e231_110, e231_113, e231_114, e231_116, e231_119]
          refine ⟨fun z => absurd z (nI_ge (by omega) (by omega)), fun _ => ⟨by simp, c_misOnAt hA hb (by omega) ?_⟩⟩
          simp only [tl_some, e231_0, e231_1, e231_2, e231_5, e231_6, e231_7, e231_10, e231_13, e231_14, e231_15, e231_18, e231_19, e231_20, e231_21, e231_22, e231_25, e231_28, e231_29, e231_30, e231_33, e231_34, e231_35, e231_37, e231_38, e231_42, e231_43, e231_46, e231_49, e231_51, e231_52, e231_53, e231_55, e231_58, e231_61, e231_62, e231_63, e231_66, e231_67, e231_70, e231_71, e231_73, e231_74, e231_77, e231_80, e231_81, e231_83, e231_84, e231_87, e231_90, e231_91, e231_92, e231_93, e231_96, e231_99, e231_100, e231_103, e231_104, e231_105, e231_107, e231_110, e231_113, e231_114, e231_116, e231_119, bI_eq0, nI_1, mj_kl]
          refine ⟨fun z => ?_, fun z => ?_⟩
          · have := nx A L hA hX
            simpa [couldAt_no z] using this
          · simp only [e231_0, e231_1, e231_2, e231_5, e231_6, e231_7, e231_10, e231_13, e231_14, e231_15, e231_18, e231_19, e231_20, e231_21, e231_22, e231_25, e231_28, e231_29, e231_30, e231_33, e231_34, e231_35, e231_37, e231_38, e231_42, e231_43, e231_46, e231_49, e231_51, e231_52, e231_53, e231_55, e231_58, e231_61, e231_62, e231_63, e231_66, e231_67, e231_70, e231_71, e231_73, e231_74, e231_77, e231_80, e231_81, e231_83, e231_84, e231_87, e231_90, e231_91, e231_92, e231_93, e231_96, e231_99, e231_100, e231_103, e231_104, e231_105, e231_107, e231_110, e231_113, e231_114, e231_116, e231_119, k0, hA.2.1, hA.2.2, rf_some, hA.1.2.1.1, w1, nW, pk_div (show c < 2 ^ 31 by omega) (show 0 < wW s.1 by omega) (show wW s.1 < 2 ^ 31 by omega), rem_m1, rem_m2, not_false_eq_true, true_and]
            have ec : couldAt s.1 s.2.1.1 s.2.1.2.1 B c k' hang = could s.1 s.2.1.1 s.2.1.2.1 B (c % wW s.1) (c / wW s.1) k' hang := by unfold couldAt; rw [ts_nf z, Bool.true_and]
            refine ⟨by simp, ?_⟩
            have go := fun QQ => c_mcouldGo (sa := sa) (d := d + 2) (n := n) (FL := FL) (AR := AR) (Q := QQ) (k := k') (hang := hang) hA.1 (onAt_on hb (ts_nf z)) (by omega)
            rw [← ek] at go
            refine go _ fun A2 L2 g1 g2 => ?_
            have := nx A2 L2 (hA.ofX g1) (hX.trans g2)
            rw [ec] at this
            simp only [tl_some, e231_0, e231_1, e231_2, e231_5, e231_6, e231_7, e231_10, e231_13, e231_14, e231_15, e231_18, e231_19, e231_20, e231_21, e231_22, e231_25, e231_28, e231_29, e231_30, e231_33, e231_34, e231_35, e231_37, e231_38, e231_42, e231_43, e231_46, e231_49, e231_51, e231_52, e231_53, e231_55, e231_58, e231_61, e231_62, e231_63, e231_66, e231_67, e231_70, e231_71, e231_73, e231_74, e231_77, e231_80, e231_81, e231_83, e231_84, e231_87, e231_90, e231_91, e231_92, e231_93, e231_96, e231_99, e231_100, e231_103, e231_104, e231_105, e231_107, e231_110, e231_113, e231_114, e231_116, e231_119, bI_eq0, nI_1, mj_kl]
            refine ⟨fun z => ?_, fun z => ?_⟩
            · simpa [z] using this
            · simpa [ts_nf z] using this
      have := loop (wW s.1 * wH s.1) 0 (by omega) AI AL hO MX.rfl'
      simpa [nI_0, ct, mj_u, mj_kl] using this
    · simp only [tl_some, e231_0, e231_1, e231_2, e231_5, e231_6, e231_7, e231_10, e231_13, e231_14, e231_15, e231_18, e231_19, e231_20, e231_21, e231_22, e231_25, e231_28, e231_29, e231_30, e231_33, e231_34, e231_35, e231_37, e231_38, e231_42, e231_43, e231_46, e231_49, e231_51, e231_52, e231_53, e231_55, e231_58, e231_61, e231_62, e231_63, e231_66, e231_67, e231_70, e231_71, e231_73, e231_74, e231_77, e231_80, e231_81, e231_83, e231_84, e231_87, e231_90, e231_91, e231_92, e231_93, e231_96, e231_99, e231_100, e231_103, e231_104, e231_105, e231_107, e231_110, e231_113, e231_114, e231_116, e231_119]
      exact mrefQ hI hF hQ (k := 2) (by decide) (by unfold sp_table; rw [if_pos hb1, if_neg (fun y => z2 (by simp [y]))])
  · simp only [tl_some, e231_0, e231_1, e231_2, e231_5, e231_6, e231_7, e231_10, e231_13, e231_14, e231_15, e231_18, e231_19, e231_20, e231_21, e231_22, e231_25, e231_28, e231_29, e231_30, e231_33, e231_34, e231_35, e231_37, e231_38, e231_42, e231_43, e231_46, e231_49, e231_51, e231_52, e231_53, e231_55, e231_58, e231_61, e231_62, e231_63, e231_66, e231_67, e231_70, e231_71, e231_73, e231_74, e231_77, e231_80, e231_81, e231_83, e231_84, e231_87, e231_90, e231_91, e231_92, e231_93, e231_96, e231_99, e231_100, e231_103, e231_104, e231_105, e231_107, e231_110, e231_113, e231_114, e231_116, e231_119]
    exact mrefQ hI hF hQ (k := 1) (by decide) (by unfold sp_table; rw [if_neg (by simpa using z)])
theorem c_m_makes (hV : InvM q P (n, K, FI, FL, FR, AI, AL, AR)) {b : Int32} (hQ : ∀ μ', InvM q (rs P (sp_makes P b)) μ' → FrM q (n, K, FI, FL, FR, AI, AL, AR) μ' → Q (some (.int (rv (sp_makes P b)))) μ') : EV sa (d + 8) 246 [.ref q, .int b] (n, K, FI, FL, FR, AI, AL, AR) Q := by
  have hI0 : MInv q P n K FR FI AI AL := hV
  have k0 := hI0.1.1
  refine n246 k0 ?_
  simp only [e246_0, e246_1, e246_2, e246_5, e246_6, e246_7, e246_10, e246_13, e246_14, e246_15, e246_18, e246_19, e246_20, e246_21, e246_22, e246_24, e246_25, e246_28, e246_31, e246_32, e246_33, e246_34, e246_35, e246_38, e246_41, e246_42, e246_43, e246_44, e246_47, e246_50, e246_51, e246_52, e246_55, e246_56, e246_59, e246_60, e246_61, e246_62, e246_65, e246_68, e246_69, e246_70, e246_71, e246_74, e246_77, e246_78, e246_81, e246_84, e246_85, e246_88, e246_89, e246_90, e246_91, e246_94, e246_97, e246_98, e246_99, e246_102, k0, true_and]
  have hI := hI0.th (v := 0)
  have hF : FrM q (n, K, FI, FL, FR, AI, AL, AR) (n, K, mj_u2 FI 640 q 0, FL, FR, AI, AL, AR) := FrM.f
  generalize mj_u2 FI 640 q 0 = F at hI hF ⊢
  refine ⟨by simp, c_misBill hI ?_⟩
  simp only [tl_some, e246_0, e246_1, e246_2, e246_5, e246_6, e246_7, e246_10, e246_13, e246_14, e246_15, e246_18, e246_19, e246_20, e246_21, e246_22, e246_24, e246_25, e246_28, e246_31, e246_32, e246_33, e246_34, e246_35, e246_38, e246_41, e246_42, e246_43, e246_44, e246_47, e246_50, e246_51, e246_52, e246_55, e246_56, e246_59, e246_60, e246_61, e246_62, e246_65, e246_68, e246_69, e246_70, e246_71, e246_74, e246_77, e246_78, e246_81, e246_84, e246_85, e246_88, e246_89, e246_90, e246_91, e246_94, e246_97, e246_98, e246_99, e246_102, bI_eq0, mj_kl]
  refine ⟨fun z => ?_, fun z => ⟨by simp, c_mrefused k0 ?_⟩⟩
  · obtain ⟨s, es, eb, hb, p1, p2, p3, p4⟩ := misB hI (ts_nf z)
    obtain ⟨a, hO, ha1, ha2⟩ := hI.mo es
    have h32 := hO.c32
    have hw := hO.ok
    have hW := hw.1
    have nW : ¬ nI (wW s.1) = 0 := nI_ne0 (by omega) (by omega)
    generalize hbb : b.toNatClampNeg = B at *
    subst eb
    have loop : ∀ rr c, c + rr = wW s.1 * wH s.1 → ∀ (A : Nat → Nat → Int32) (L : Nat → Nat → Int64), MO K FR F A L q a s.1 s.2.1.1 s.2.1.2.1 → MX q (a + 13) AI A AL L → WP sa (EV sa (d + 7)) 246 Q 0 0 23 [.ref q, .int (nI B), .int (nI (ct (fun c => makesAt s.1 s.2.1.1 s.2.1.2.1 B c) c)), .int (nI c)] [] (n, K, F, FL, FR, A, L, AR) := by
      intro rr
      induction rr with
      | zero =>
        intro c hc A L hA hX
        have hc' : c = wW s.1 * wH s.1 := by omega
        subst hc'
        rw [e246_23]
        simp only [e246_0, e246_1, e246_2, e246_5, e246_6, e246_7, e246_10, e246_13, e246_14, e246_15, e246_18, e246_19, e246_20, e246_21, e246_22, e246_24, e246_25, e246_28, e246_31, e246_32, e246_33, e246_34, e246_35, e246_38, e246_41, e246_42, e246_43, e246_44, e246_47, e246_50, e246_51, e246_52, e246_55, e246_56, e246_59, e246_60, e246_61, e246_62, e246_65, e246_68, e246_69, e246_70, e246_71, e246_74, e246_77, e246_78, e246_81, e246_84, e246_85, e246_88, e246_89, e246_90, e246_91, e246_94, e246_97, e246_98, e246_99, e246_102]
        refine ⟨by simp, c_mOcells hA ?_⟩
        simp only [tl_some, e246_0, e246_1, e246_2, e246_5, e246_6, e246_7, e246_10, e246_13, e246_14, e246_15, e246_18, e246_19, e246_20, e246_21, e246_22, e246_24, e246_25, e246_28, e246_31, e246_32, e246_33, e246_34, e246_35, e246_38, e246_41, e246_42, e246_43, e246_44, e246_47, e246_50, e246_51, e246_52, e246_55, e246_56, e246_59, e246_60, e246_61, e246_62, e246_65, e246_68, e246_69, e246_70, e246_71, e246_74, e246_77, e246_78, e246_81, e246_84, e246_85, e246_88, e246_89, e246_90, e246_91, e246_94, e246_97, e246_98, e246_99, e246_102]
        refine ⟨fun _ => ⟨by simp, c_mgood k0 ?_⟩, fun z => absurd (nI_le (Nat.le_refl _) (by omega)) z⟩
        simp only [tl_some, e246_0, e246_1, e246_2, e246_5, e246_6, e246_7, e246_10, e246_13, e246_14, e246_15, e246_18, e246_19, e246_20, e246_21, e246_22, e246_24, e246_25, e246_28, e246_31, e246_32, e246_33, e246_34, e246_35, e246_38, e246_41, e246_42, e246_43, e246_44, e246_47, e246_50, e246_51, e246_52, e246_55, e246_56, e246_59, e246_60, e246_61, e246_62, e246_65, e246_68, e246_69, e246_70, e246_71, e246_74, e246_77, e246_78, e246_81, e246_84, e246_85, e246_88, e246_89, e246_90, e246_91, e246_94, e246_97, e246_98, e246_99, e246_102]
        exact mansQ (hI.qq es hO.2.1 hX.toMQ hA.mh) (hF.trans (hX.toMQ.frm ha1)) hQ (by unfold sp_makes; rw [if_pos (ts_nf z), p1, p2, p3, hbb])
      | succ rr ih =>
        intro c hc A L hA hX
        have nx := ih (c + 1) (by omega)
        rw [ct_top] at nx
        rw [e246_23]
        simp only [e246_0, e246_1, e246_2, e246_5, e246_6, e246_7, e246_10, e246_13, e246_14, e246_15, e246_18, e246_19, e246_20, e246_21, e246_22, e246_24, e246_25, e246_28, e246_31, e246_32, e246_33, e246_34, e246_35, e246_38, e246_41, e246_42, e246_43, e246_44, e246_47, e246_50, e246_51, e246_52, e246_55, e246_56, e246_59, e246_60, e246_61, e246_62, e246_65, e246_68, e246_69, e246_70, e246_71, e246_74, e246_77, e246_78, e246_81, e246_84, e246_85, e246_88, e246_89, e246_90, e246_91, e246_94, e246_97, e246_98, e246_99, e246_102]
        refine ⟨by simp, c_mOcells hA ?_⟩
        simp only [tl_some, e246_0, e246_1, e246_2, e246_5, e246_6, e246_7, e246_10, e246_13, e246_14, e246_15, e246_18, e246_19, e246_20, e246_21, e246_22, e246_24, e246_25, e246_28, e246_31, e246_32, e246_33, e246_34, e246_35, e246_38, e246_41, e246_42, e246_43, e246_44, e246_47, e246_50, e246_51, e246_52, e246_55, e246_56, e246_59, e246_60, e246_61, e246_62, e246_65, e246_68, e246_69, e246_70, e246_71, e246_74, e246_77, e246_78, e246_81, e246_84, e246_85, e246_88, e246_89, e246_90, e246_91, e246_94, e246_97, e246_98, e246_99, e246_102]
        refine ⟨fun z => absurd z (nI_ge (by omega) (by omega)), fun _ => ⟨by simp, c_misOnAt hA hb (by omega) ?_⟩⟩
        simp only [tl_some, e246_0, e246_1, e246_2, e246_5, e246_6, e246_7, e246_10, e246_13, e246_14, e246_15, e246_18, e246_19, e246_20, e246_21, e246_22, e246_24, e246_25, e246_28, e246_31, e246_32, e246_33, e246_34, e246_35, e246_38, e246_41, e246_42, e246_43, e246_44, e246_47, e246_50, e246_51, e246_52, e246_55, e246_56, e246_59, e246_60, e246_61, e246_62, e246_65, e246_68, e246_69, e246_70, e246_71, e246_74, e246_77, e246_78, e246_81, e246_84, e246_85, e246_88, e246_89, e246_90, e246_91, e246_94, e246_97, e246_98, e246_99, e246_102, bI_eq0, nI_1, mj_kl]
        refine ⟨fun z => ?_, fun z => ⟨by simp, c_mmayAt hA hb (by omega) (ts_nf z) fun A2 L2 g1 g2 => ?_⟩⟩
        · have := nx A L hA hX
          simpa [makesAt, mayAt_no z] using this
        · have w1 := g1.1.2.2.2.1.1.1
          simp only [tl_some, e246_0, e246_1, e246_2, e246_5, e246_6, e246_7, e246_10, e246_13, e246_14, e246_15, e246_18, e246_19, e246_20, e246_21, e246_22, e246_24, e246_25, e246_28, e246_31, e246_32, e246_33, e246_34, e246_35, e246_38, e246_41, e246_42, e246_43, e246_44, e246_47, e246_50, e246_51, e246_52, e246_55, e246_56, e246_59, e246_60, e246_61, e246_62, e246_65, e246_68, e246_69, e246_70, e246_71, e246_74, e246_77, e246_78, e246_81, e246_84, e246_85, e246_88, e246_89, e246_90, e246_91, e246_94, e246_97, e246_98, e246_99, e246_102, bI_eq0, nI_1, mj_kl, k0, g1.2.1, g1.2.2, rf_some, g1.1.2.1.1, w1, nW, pk_div (show c < 2 ^ 31 by omega) (show 0 < wW s.1 by omega) (show wW s.1 < 2 ^ 31 by omega), rem_m1, rem_m2, not_false_eq_true, true_and]
          refine ⟨fun z2 => ?_, fun z2 => ⟨by simp, c_makesWord (d := d + 3) g1.1 (onAt_on hb (ts_nf z)) fun A3 L3 g3 g4 => ?_⟩⟩
          · have := nx A2 L2 g1 (hX.trans g2)
            simpa [makesAt, z2] using this
          · have := nx A3 L3 (g1.ofX g3) ((hX.trans g2).trans g4)
            rw [show makesAt s.1 s.2.1.1 s.2.1.2.1 B c = makes s.1 s.2.1.1 s.2.1.2.1 B (c % wW s.1) (c / wW s.1) by unfold makesAt; rw [ts_nf z2, Bool.true_and]] at this
            simp only [tl_some, e246_0, e246_1, e246_2, e246_5, e246_6, e246_7, e246_10, e246_13, e246_14, e246_15, e246_18, e246_19, e246_20, e246_21, e246_22, e246_24, e246_25, e246_28, e246_31, e246_32, e246_33, e246_34, e246_35, e246_38, e246_41, e246_42, e246_43, e246_44, e246_47, e246_50, e246_51, e246_52, e246_55, e246_56, e246_59, e246_60, e246_61, e246_62, e246_65, e246_68, e246_69, e246_70, e246_71, e246_74, e246_77, e246_78, e246_81, e246_84, e246_85, e246_88, e246_89, e246_90, e246_91, e246_94, e246_97, e246_98, e246_99, e246_102, bI_eq0, nI_1, mj_kl]
            refine ⟨fun z => ?_, fun z => ?_⟩
            · simpa [z] using this
            · simpa [ts_nf z] using this
    have := loop (wW s.1 * wH s.1) 0 (by omega) AI AL hO MX.rfl'
    simpa [nI_0, ct, mj_u, mj_kl] using this
  · simp only [tl_some, e246_0, e246_1, e246_2, e246_5, e246_6, e246_7, e246_10, e246_13, e246_14, e246_15, e246_18, e246_19, e246_20, e246_21, e246_22, e246_24, e246_25, e246_28, e246_31, e246_32, e246_33, e246_34, e246_35, e246_38, e246_41, e246_42, e246_43, e246_44, e246_47, e246_50, e246_51, e246_52, e246_55, e246_56, e246_59, e246_60, e246_61, e246_62, e246_65, e246_68, e246_69, e246_70, e246_71, e246_74, e246_77, e246_78, e246_81, e246_84, e246_85, e246_88, e246_89, e246_90, e246_91, e246_94, e246_97, e246_98, e246_99, e246_102]
    exact mrefQ hI hF hQ (k := 1) (by decide) (by unfold sp_makes; rw [if_neg (by simpa using z)])
end
