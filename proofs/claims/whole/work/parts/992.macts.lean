theorem MKe.copy {A A' : Nat → Int32} {off off' : Nat} {e : StK} (h : MKe A off e) (h30 : e.2.1 ≤ 30) (hc : ∀ j, j < 127 → A' (off' + j) = A (off + j)) : MKe A' off' e := by
  obtain ⟨h1, h2, h3⟩ := h
  refine ⟨by rw [← Nat.add_zero off', hc 0 (by omega)]; exact h1, fun k hk => ?_, fun r hr => ?_⟩
  · obtain ⟨g1, g2, g3, g4⟩ := h2 k hk
    refine ⟨?_, ?_, ?_, ?_⟩
    · rw [Nat.add_assoc, hc _ (by omega), ← Nat.add_assoc]; exact g1
    · rw [Nat.add_assoc, hc _ (by omega), ← Nat.add_assoc]; exact g2
    · rw [Nat.add_assoc, hc _ (by omega), ← Nat.add_assoc]; exact g3
    · rw [Nat.add_assoc, hc _ (by omega), ← Nat.add_assoc]; exact g4
  · obtain ⟨g1, g2⟩ := h3 r hr
    exact ⟨by rw [Nat.add_assoc, hc _ (by omega), ← Nat.add_assoc]; exact g1, by rw [Nat.add_assoc, hc _ (by omega), ← Nat.add_assoc]; exact g2⟩
section
variable {sa : Nat → Nat} {d n t h m : Nat} {Q : mj_Q} {K : Nat → Nat × Nat} {FI : Nat → Nat → Int32} {FL : Nat → Nat → Int64} {FR : Nat → Nat → Option Nat} {AI : Nat → Nat → Int32} {AL : Nat → Nat → Int64} {AR : Nat → Nat → Option Nat} {w : Wl} {hs : Nat → Hg}
variable {a u q : Nat} {P : PG}
theorem MH.ke {e : StK} (hR : MH AI AL u w e.1 e.2.1) (hS : MSP AI u e) : MKe (AI (u + 1)) 0 e := by
  obtain ⟨r1, r2, r3⟩ := hR
  refine ⟨r1, fun k hk => ?_, fun r hr => ?_⟩
  · obtain ⟨-, g1, g2, g3, g4, -⟩ := r3 k hk
    simp only [Nat.zero_add]
    exact ⟨g1, g2, g3, g4⟩
  · simp only [Nat.zero_add]
    exact hS r hr
theorem c_keeps (hS : MStS K FR q) (h645 : FR 645 q = some u) (hU : MHS K FR u) (sep : q + 12 < u) {cnt : Nat} (hc : FI 666 q = nI cnt) (hc12 : cnt ≤ 12) {E : Nat → StK} (hE : ∀ i, i < cnt → MKe (AI (q + 5)) (127 * i) (E i) ∧ (E i).2.1 ≤ 30) {e : StK} (he : MKe (AI (u + 1)) 0 e) (he30 : e.2.1 ≤ 30) (hQ : ∀ FI' AI' : Nat → Nat → Int32, FI' 666 q = nI (pushE E cnt 12 e).2 → (∀ i, i < (pushE E cnt 12 e).2 → MKe (AI' (q + 5)) (127 * i) ((pushE E cnt 12 e).1 i)) → FIx FI FI' q [666] → AIx AI AI' (q + 5) (q + 5) → Q none (n, K, FI', FL, FR, AI', AL, AR)) : EV sa (d + 1) 232 [.ref q] (n, K, FI, FL, FR, AI, AL, AR) Q := by
  obtain ⟨k0, -, -, -, -, ⟨f5, k5⟩, -⟩ := id hS
  obtain ⟨ku, ⟨g0, ku1⟩, -⟩ := id hU
  have copy : ∀ (F A : Nat → Nat → Int32) (c : Nat), c < 12 → F 666 q = nI c → FIx FI F q [666] → AIx AI A (q + 5) (q + 5) → (pushE E cnt 12 e).2 = c + 1 → (∀ i, i < c → MKe (A (q + 5)) (127 * i) ((pushE E cnt 12 e).1 i) ∧ ((pushE E cnt 12 e).1 i).2.1 ≤ 30) → (pushE E cnt 12 e).1 c = e → WP sa (EV sa d) 232 Q 0 0 51 [.ref q, .int (nI 0)] [] (n, K, F, FL, FR, A, AL, AR) := by
    intro F A c hc12 hF hFx hAx hp2 hold hnew
    have loop : ∀ rr k, k + rr = 127 → ∀ B : Nat → Nat → Int32, AIx A B (q + 5) (q + 5) → (∀ j, j < k → B (q + 5) (127 * c + j) = AI (u + 1) j) → (∀ j, j < 127 * c → B (q + 5) j = A (q + 5) j) → WP sa (EV sa d) 232 Q 0 0 51 [.ref q, .int (nI k)] [] (n, K, F, FL, FR, B, AL, AR) := by
      intro rr
      induction rr with
      | zero =>
        intro k hk B b1 b2 b3
        have hk' : k = 127 := by omega
        subst hk'
        rw [e232_51]
        simp only [e232_0, e232_1, e232_4, e232_6, e232_9, e232_10, e232_12, e232_15, e232_18, e232_19, e232_22, e232_23, e232_24, e232_27, e232_28, e232_30, e232_31, e232_32, e232_33, e232_36, e232_39, e232_40, e232_40i, e232_41, e232_44, e232_45, e232_46, e232_49, e232_50, e232_52, e232_54, e232_57, e232_58, e232_61, e232_63, e232_64, e232_67, e232_68, e232_69, e232_70, e232_71, e232_74, e232_77, e232_78, e232_79, e232_80, e232_83, e232_86, e232_87, e232_87i, e232_88, e232_91, e232_92, e232_93, e232_96, k0, hF, nI_1, true_and]
        refine ⟨fun _ => ?_, fun z => absurd (by decide) z⟩
        refine hQ _ B (by rw [mj_u2_s, hp2]) (fun i hi => ?_) ((hFx.trans (FIx_u2 (fs := [666]) (by decide))).sub (by simp)) (hAx.trans b1)
        by_cases z : i = c
        · subst z
          rw [hnew]
          exact he.copy he30 (fun j hj => by rw [Nat.zero_add]; exact b2 j hj)
        · have hi' : i < c := by omega
          exact (hold i hi').1.copy (hold i hi').2 (fun j hj => b3 _ (by
            have : 127 * (i + 1) ≤ 127 * c := Nat.mul_le_mul_left _ hi'
            omega))
      | succ rr ih =>
        intro k hk B b1 b2 b3
        have kin : vp_in (nI k) 127 := vp_in_nI (by omega) (by decide)
        have kcl : (nI k).toNatClampNeg = k := nI_clamp (by omega)
        have pin : vp_in (nI (127 * c + k)) 1524 := vp_in_nI (by omega) (by decide)
        have pcl : (nI (127 * c + k)).toNatClampNeg = 127 * c + k := nI_clamp (by omega)
        have eB : B (u + 1) = AI (u + 1) := by rw [b1 _ (by omega), hAx _ (by omega)]
        rw [e232_51]
        simp only [e232_0, e232_1, e232_4, e232_6, e232_9, e232_10, e232_12, e232_15, e232_18, e232_19, e232_22, e232_23, e232_24, e232_27, e232_28, e232_30, e232_31, e232_32, e232_33, e232_36, e232_39, e232_40, e232_40i, e232_41, e232_44, e232_45, e232_46, e232_49, e232_50, e232_52, e232_54, e232_57, e232_58, e232_61, e232_63, e232_64, e232_67, e232_68, e232_69, e232_70, e232_71, e232_74, e232_77, e232_78, e232_79, e232_80, e232_83, e232_87, e232_87i, e232_88, e232_91, e232_92, e232_93, e232_96, k0, f5, k5, h645, rf_some, ku, g0, ku1, hF, show (127 : Int32) = nI 127 from rfl, pk_mul, nI_add, nI_1, kin, kcl, pin, pcl, eB, mj_kl, true_and, true_or]
        refine ⟨fun z => absurd z (nI_ge (by omega) (by decide)), fun _ => ?_⟩
        refine ih (k + 1) (by omega) _ (fun z hz => ?_) (fun j hj => ?_) (fun j hj => ?_)
        · funext j; rw [mj_u2_1 (by omega), b1 z hz]
        · by_cases z : j = k
          · subst z; exact mj_u2_s
          · rw [mj_u2_2 (by omega)]; exact b2 j (by omega)
        · rw [mj_u2_2 (by omega)]; exact b3 j hj
    exact loop 127 0 (by omega) A AIx.rfl' (fun j hj => by omega) (fun j hj => rfl)
  refine n232 k0 ?_
  simp only [e232_0, e232_1, e232_4, e232_6, e232_9, e232_10, e232_12, e232_15, e232_18, e232_19, e232_22, e232_23, e232_24, e232_27, e232_28, e232_30, e232_31, e232_32, e232_33, e232_36, e232_39, e232_40, e232_40i, e232_41, e232_44, e232_45, e232_46, e232_49, e232_50, e232_52, e232_54, e232_57, e232_58, e232_61, e232_63, e232_64, e232_67, e232_68, e232_69, e232_70, e232_71, e232_74, e232_77, e232_78, e232_79, e232_80, e232_83, e232_86, e232_87, e232_87i, e232_88, e232_91, e232_92, e232_93, e232_96, k0, hc, show (12 : Int32) = nI 12 from rfl, nI_eq (show cnt < 2 ^ 31 by omega) (show 12 < 2 ^ 31 by decide), mj_kl, true_and]
  refine ⟨fun z => ?_, fun z => ?_⟩
  · have hlt : cnt < 12 := by omega
    have ep : pushE E cnt 12 e = (upN E cnt e, cnt + 1) := by unfold pushE; rw [if_pos hlt]
    have := copy FI AI cnt hlt hc FIx.rfl' AIx.rfl' (by rw [ep]) (fun i hi => by rw [ep]; show MKe _ _ (upN E cnt e i) ∧ (upN E cnt e i).2.1 ≤ 30; rw [upN_o (by omega)]; exact hE i hi) (by rw [ep]; exact upN_s)
    simpa [nI_0, mj_u, mj_kl] using this
  · have h12 : cnt = 12 := by omega
    subst h12
    have ep : pushE E 12 12 e = (fun i => if i = 11 then e else E (i + 1), 12) := by unfold pushE; rw [if_neg (by omega)]
    have loop : ∀ rr k, k + rr = 1397 → ∀ B : Nat → Nat → Int32, AIx AI B (q + 5) (q + 5) → (∀ j, j < k → B (q + 5) j = AI (q + 5) (j + 127)) → (∀ j, k ≤ j → B (q + 5) j = AI (q + 5) j) → WP sa (EV sa d) 232 Q 0 0 11 [.ref q, .int (nI k)] [] (n, K, FI, FL, FR, B, AL, AR) := by
      intro rr
      induction rr with
      | zero =>
        intro k hk B b1 b2 b3
        have hk' : k = 1397 := by omega
        subst hk'
        rw [e232_11]
        simp only [e232_0, e232_1, e232_4, e232_6, e232_9, e232_10, e232_12, e232_15, e232_18, e232_19, e232_22, e232_23, e232_24, e232_27, e232_28, e232_30, e232_31, e232_32, e232_33, e232_36, e232_39, e232_40, e232_40i, e232_41, e232_44, e232_45, e232_46, e232_49, e232_50, e232_52, e232_54, e232_57, e232_58, e232_61, e232_63, e232_64, e232_67, e232_68, e232_69, e232_70, e232_71, e232_74, e232_77, e232_78, e232_79, e232_80, e232_83, e232_86, e232_87, e232_87i, e232_88, e232_91, e232_92, e232_93, e232_96, k0, hc, mj_kl, true_and]
        refine ⟨fun _ => ?_, fun z => absurd (by decide) z⟩
        have := copy (mj_u2 FI 666 q (nI 12 - 1)) B 11 (by omega) (by rw [mj_u2_s]; exact nI_pred 11) (FIx_u2 (by decide)) b1 (by rw [ep]) (fun i hi => by
          rw [ep]
          show MKe _ _ (if i = 11 then e else E (i + 1)) ∧ (if i = 11 then e else E (i + 1)).2.1 ≤ 30
          rw [if_neg (by omega)]
          have h1 := hE (i + 1) (by omega)
          exact ⟨h1.1.copy h1.2 (fun j hj => by rw [b2 _ (by omega)]; congr 1; omega), h1.2⟩) (by rw [ep]; rfl)
        simpa [nI_0, mj_u, mj_kl] using this
      | succ rr ih =>
        intro k hk B b1 b2 b3
        have kin : vp_in (nI k) 1524 := vp_in_nI (by omega) (by decide)
        have kcl : (nI k).toNatClampNeg = k := nI_clamp (by omega)
        have pin : vp_in (nI (k + 127)) 1524 := vp_in_nI (by omega) (by decide)
        have pcl : (nI (k + 127)).toNatClampNeg = k + 127 := nI_clamp (by omega)
        rw [e232_11]
        simp only [e232_0, e232_1, e232_4, e232_6, e232_9, e232_10, e232_12, e232_15, e232_18, e232_19, e232_22, e232_23, e232_24, e232_27, e232_28, e232_30, e232_31, e232_32, e232_33, e232_36, e232_40, e232_40i, e232_41, e232_44, e232_45, e232_46, e232_49, e232_50, e232_52, e232_54, e232_57, e232_58, e232_61, e232_63, e232_64, e232_67, e232_68, e232_69, e232_70, e232_71, e232_74, e232_77, e232_78, e232_79, e232_80, e232_83, e232_86, e232_87, e232_87i, e232_88, e232_91, e232_92, e232_93, e232_96, k0, f5, k5, rf_some, show (127 : Int32) = nI 127 from rfl, nI_add, nI_1, kin, kcl, pin, pcl, b3 (k + 127) (by omega), mj_kl, true_and, true_or]
        refine ⟨fun z => absurd z (nI_ge (b := 1397) (by omega) (by decide)), fun _ => ?_⟩
        refine ih (k + 1) (by omega) _ (fun z hz => ?_) (fun j hj => ?_) (fun j hj => ?_)
        · funext j; rw [mj_u2_1 (by omega), b1 z hz]
        · by_cases z : j = k
          · subst z; exact mj_u2_s
          · rw [mj_u2_2 (by omega)]; exact b2 j (by omega)
        · rw [mj_u2_2 (by omega)]; exact b3 j (by omega)
    have := loop 1397 0 (by omega) AI AIx.rfl' (fun j hj => by omega) (fun j _ => rfl)
    simpa [nI_0, mj_u, mj_kl] using this
/-- the state after keeping -/
theorem c_keepsM (hI : MInv q P n K FR FI AI AL) {s : WS} (es : gW P = some s) (hQ : ∀ FI' AI' : Nat → Nat → Int32, MInv q (setW P (keepA s s.2.1)) n K FR FI' AI' AL → FIx FI FI' q [666] → AIx AI AI' (q + 5) (q + 5) → Q none (n, K, FI', FL, FR, AI', AL, AR)) : EV sa (d + 1) 232 [.ref q] (n, K, FI, FL, FR, AI, AL, AR) Q := by
  obtain ⟨h1, ⟨b1, b2, b3, b4, b5, b6⟩, h3, h4⟩ := id hI
  rw [es] at h4
  obtain ⟨a, c1, c2, c3, c4, c5, ⟨c6, c7, c8⟩, ⟨c9, c10, c11⟩⟩ := h4
  refine c_keeps h1 c1.2.2 c1.1.2.2.2.2.1 (by omega) c6 c7 (E := s.2.2.1.1) (fun i hi => ⟨(c8 i hi).1, (c8 i hi).2.2.1⟩) (c1.mh.ke c4) c1.mh.2.1 fun F A f1 f2 f3 f4 => ?_
  refine hQ F A ⟨h1, ⟨by rw [f4 _ (by omega)]; exact b1, by rw [f3 _ _ (Or.inr (by decide))]; exact b2, b3, by rw [f3 _ _ (Or.inr (by decide))]; exact b4, by rw [f3 _ _ (Or.inr (by decide))]; exact b5, by rw [f3 _ _ (Or.inr (by decide))]; exact b6⟩, h3, ?_⟩ f3 f4
  have hp := pushE_ok (E := s.2.2.1) (e := s.2.1) (R := 12) (w := s.1) (by decide) c7 (fun i hi => (c8 i hi).2) c5
  have hcnt : (pushE s.2.2.1.1 s.2.2.1.2 12 s.2.1).2 ≤ 12 := by
    unfold pushE
    split
    · show s.2.2.1.2 + 1 ≤ 12; omega
    · exact c7
  refine ⟨a, ⟨?_, c1.2⟩, c2, c3, fun r hr => by rw [f4 _ (by omega)]; exact c4 r hr, c5, ⟨f1, hcnt, fun i hi => ⟨f2 i hi, hp i hi⟩⟩, ⟨by rw [f3 _ _ (Or.inr (by decide))]; exact c9, c10, by rw [f4 _ (by omega)]; exact c11⟩⟩
  obtain ⟨v1, v2, v3, v4, v5, v6, v7, v8⟩ := c1.1
  exact ⟨v1, v2, v3, v4.fr (fun k => f3 k a (Or.inl (by omega))) (fun j z1 z2 => f4 _ (by omega)), v5, v6.fr (f4 _ (by omega)) rfl, v7, v8⟩
/-- what hangs is another state now -/
theorem MInv.set {s : WS} {FI' AI' : Nat → Nat → Int32} {AL' : Nat → Nat → Int64} {e : StK} (hI : MInv q P n K FR FI AI AL) (es : gW P = some s) (ha : FR 643 q = some a) (hR : MH AI' AL' (a + 13) s.1 e.1 e.2.1) (hSP : MSP AI' (a + 13) e) (hE : eOK s.1 e) (hF : FIx FI FI' q qFs) (hA : ∀ z, z ≠ q + 1 → z ≠ q + 2 → z ≠ a + 14 → AI' z = AI z) : MInv q (setW P (s.1, e, s.2.2)) n K FR FI' AI' AL' := by
  obtain ⟨h1, ⟨b1, b2, b3, b4, b5, b6⟩, h3, h4⟩ := hI
  rw [es] at h4
  obtain ⟨a', c1, c2, c3, c4, c5, ⟨c6, c7, c8⟩, ⟨c9, c10, c11⟩⟩ := h4
  have ea : a' = a := by have := c1.2.1; rw [ha] at this; exact (Option.some.inj this).symm
  subst ea
  have fx : ∀ k, k ∉ qFs → FI' k q = FI k q := fun k hk => hF k q (Or.inr hk)
  refine ⟨h1, ⟨by rw [hA _ (by omega) (by omega) (by omega)]; exact b1, by rw [fx _ (by decide)]; exact b2, b3, by rw [fx _ (by decide)]; exact b4, by rw [fx _ (by decide)]; exact b5, by rw [fx _ (by decide)]; exact b6⟩, h3, ?_⟩
  refine ⟨a', ⟨?_, c1.2⟩, c2, c3, hSP, hE, ⟨by rw [fx _ (by decide)]; exact c6, c7, by rw [hA _ (by omega) (by omega) (by omega)]; exact c8⟩, ⟨by rw [fx _ (by decide)]; exact c9, c10, by rw [hA _ (by omega) (by omega) (by omega)]; exact c11⟩⟩
  obtain ⟨v1, v2, v3, v4, v5, v6, v7, v8⟩ := c1.1
  exact ⟨v1, v2, v3, v4.fr (fun k => hF k a' (Or.inl (by omega))) (fun j z1 z2 => hA _ (by omega) (by omega) (by omega)), v5, hR, v7, v8⟩
theorem setW_setW {s s' : WS} : setW (setW P s) s' = setW P s' := rfl
theorem mgrQ {sp : Nat ⊕ WS} {F A : Nat → Nat → Int32} {L : Nat → Nat → Int64} {s' : WS} (hI : MInv q (setW P s') n K FR F A L) (hX : FrM q (n, K, FI, FL, FR, AI, AL, AR) (n, K, F, FL, FR, A, L, AR)) (hQ : ∀ μ', InvM q (as' P sp) μ' → FrM q (n, K, FI, FL, FR, AI, AL, AR) μ' → Q (some (.int (av sp))) μ') (e : sp = .inr s') : Q (some (.int 1)) (n, K, mj_u2 (mj_u2 F 641 q 0) 642 q (-1), FL, FR, A, L, AR) := by
  subst e
  exact hQ _ (hI.tr (k := 0) (by decide)) (hX.trans (FrM.f.trans FrM.f))
theorem mdnQ {sp : Nat ⊕ WS} {F A : Nat → Nat → Int32} {L : Nat → Nat → Int64} (hI : MInv q P n K FR F A L) (hX : FrM q (n, K, FI, FL, FR, AI, AL, AR) (n, K, F, FL, FR, A, L, AR)) (hQ : ∀ μ', InvM q (as' P sp) μ' → FrM q (n, K, FI, FL, FR, AI, AL, AR) μ' → Q (some (.int (av sp))) μ') {k : Nat} (hk : k ≠ 4) (e : sp = .inl k) : Q (some (.int 0)) (n, K, mj_u2 (mj_u2 F 641 q (nI k)) 642 q (-1), FL, FR, A, L, AR) := by
  subst e
  exact hQ _ (hI.tr hk) (hX.trans (FrM.f.trans FrM.f))
theorem mivQ {sp : Nat ⊕ (WS × Int32)} {F A : Nat → Nat → Int32} {L : Nat → Nat → Int64} {s' : WS} {v : Int32} (hI : MInv q (setW P s') n K FR F A L) (hX : FrM q (n, K, FI, FL, FR, AI, AL, AR) (n, K, F, FL, FR, A, L, AR)) (hQ : ∀ μ', InvM q (is' P sp) μ' → FrM q (n, K, FI, FL, FR, AI, AL, AR) μ' → Q (some (.int (iv sp))) μ') (e : sp = .inr (s', v)) : Q (some (.int v)) (n, K, mj_u2 (mj_u2 F 641 q 0) 642 q (-1), FL, FR, A, L, AR) := by
  subst e
  exact hQ _ (hI.tr (k := 0) (by decide)) (hX.trans (FrM.f.trans FrM.f))
theorem mirQ {sp : Nat ⊕ (WS × Int32)} {F A : Nat → Nat → Int32} {L : Nat → Nat → Int64} (hI : MInv q P n K FR F A L) (hX : FrM q (n, K, FI, FL, FR, AI, AL, AR) (n, K, F, FL, FR, A, L, AR)) (hQ : ∀ μ', InvM q (is' P sp) μ' → FrM q (n, K, FI, FL, FR, AI, AL, AR) μ' → Q (some (.int (iv sp))) μ') {k : Nat} (hk : k ≠ 4) (e : sp = .inl k) : Q (some (.int (-1))) (n, K, mj_u2 (mj_u2 F 641 q (nI k)) 642 q (-1), FL, FR, A, L, AR) := by
  subst e
  exact hQ _ (hI.tr hk) (hX.trans (FrM.f.trans FrM.f))
theorem FrM.ch {FI' AI' : Nat → Nat → Int32} {AL' : Nat → Nat → Int64} (h1 : ∀ f z, (z < q ∨ z = q + 13) → FI' f z = FI f z) (h2 : ∀ z, (z < q ∨ z = q + 13) → AI' z = AI z) (h3 : ∀ z, (z < q ∨ z = q + 13) → AL' z = AL z) : FrM q (n, K, FI, FL, FR, AI, AL, AR) (n, K, FI', FL, FR, AI', AL', AR) := ⟨Nat.le_refl _, fun _ _ => rfl, rfl, fun z hz => ⟨fun f => ⟨h1 f z hz, rfl, rfl⟩, h2 z hz, h3 z hz⟩⟩
theorem c_m_peel (hV : InvM q P (n, K, FI, FL, FR, AI, AL, AR)) (hQ : ∀ μ', InvM q (as' P (sp_peel P)) μ' → FrM q (n, K, FI, FL, FR, AI, AL, AR) μ' → Q (some (.int (av (sp_peel P)))) μ') : EV sa (d + 3) 234 [.ref q] (n, K, FI, FL, FR, AI, AL, AR) Q := by
  have hI0 : MInv q P n K FR FI AI AL := hV
  have k0 := hI0.1.1
  refine n234 k0 ?_
  simp only [e234_0, e234_1, e234_2, e234_5, e234_6, k0, true_and]
  have hI := hI0.th (v := 0)
  have hF : FrM q (n, K, FI, FL, FR, AI, AL, AR) (n, K, mj_u2 FI 640 q 0, FL, FR, AI, AL, AR) := FrM.f
  generalize mj_u2 FI 640 q 0 = F at hI hF ⊢
  have no : sp_peel P = .inl 6 → EV sa (d + 2) 164 [.ref q, .int 6] (n, K, F, FL, FR, AI, AL, AR) (fun r μ' => WP sa (EV sa (d + 2)) 234 Q 0 0 35 [.ref q] (r.toList ++ []) μ') := fun e => by
    refine c_mdenied k0 ?_
    simp only [tl_some, e234_0, e234_1, e234_2, e234_5, e234_6, e234_9, e234_12, e234_13, e234_16, e234_19, e234_20, e234_23, e234_26, e234_29, e234_30, e234_32, e234_35, e234_36, e234_37, e234_40, e234_41, e234_44, e234_47, e234_48, e234_51, e234_9r, true_or, true_and]
    exact mdnQ hI hF hQ (k := 6) (by decide) e
  cases es : gW P with
  | none =>
    simp only [hI.no es, e234_0, e234_1, e234_2, e234_5, e234_6, e234_9, e234_12, e234_13, e234_16, e234_19, e234_20, e234_23, e234_26, e234_29, e234_30, e234_32, e234_35, e234_36, e234_37, e234_40, e234_41, e234_44, e234_47, e234_48, e234_51, e234_9r]
    exact ⟨fun _ => ⟨by simp, no (by unfold sp_peel; rw [es])⟩, fun z => absurd trivial z⟩
  | some s =>
    obtain ⟨a, hO, ha1, ha2⟩ := hI.mo es
    have hH := hO.1.2.2.2.2.1
    have w7 := hO.1.2.2.2.1.1.2.2.2.2.2.2.1
    have esp : sp_peel P = (if s.2.1.2.1 ≤ wF s.1 then .inl 6 else .inr (keepA s (s.2.1.1, s.2.1.2.1 - 1, s.2.1.2.2))) := by unfold sp_peel; rw [es]
    obtain ⟨-, -, -, hWW⟩ := id hI
    rw [es] at hWW
    obtain ⟨a', hO', -, -, hSP, hE, -⟩ := hWW
    have ea : a' = a := by have := hO'.2.1; rw [hO.2.1] at this; exact (Option.some.inj this).symm
    subst ea
    simp only [hO.2.1, hO.2.2, rf_some, e234_0, e234_1, e234_2, e234_5, e234_6, e234_9, e234_12, e234_13, e234_16, e234_19, e234_20, e234_23, e234_26, e234_29, e234_30, e234_32, e234_35, e234_36, e234_37, e234_40, e234_41, e234_44, e234_47, e234_48, e234_51, e234_9r, k0, true_and]
    refine ⟨by simp, c_many hH ?_⟩
    rw [hO.mh.1]
    have h30 := hO.mh.2.1
    have hfm := hE.1
    simp only [tl_some, hO.2.1, rf_some, e234_0, e234_1, e234_2, e234_5, e234_6, e234_9, e234_12, e234_13, e234_16, e234_19, e234_20, e234_23, e234_26, e234_29, e234_30, e234_32, e234_35, e234_36, e234_37, e234_40, e234_41, e234_44, e234_47, e234_48, e234_51, e234_9r, k0, hO.1.2.1.1, w7, nI_eq (show s.2.1.2.1 < 2 ^ 31 by omega) (show wF s.1 < 2 ^ 31 by omega), true_and]
    refine ⟨fun z => ⟨by simp, c_keepsM hI es fun F2 A2 g1 g2 g3 => ?_⟩, fun z => ⟨by simp, no (by rw [esp, if_pos (by omega)])⟩⟩
    simp only [tl_none, e234_0, e234_1, e234_2, e234_5, e234_6, e234_9, e234_12, e234_13, e234_16, e234_19, e234_20, e234_23, e234_26, e234_29, e234_30, e234_32, e234_35, e234_36, e234_37, e234_40, e234_41, e234_44, e234_47, e234_48, e234_51, e234_9r, k0, hO.2.2, rf_some, true_and]
    refine ⟨by simp, c_takesOff hH ?_⟩
    have e1 : A2 (a' + 13 + 1) = AI (a' + 13 + 1) := g3 _ (by omega)
    obtain ⟨m', hm'⟩ : ∃ m', s.2.1.2.1 = m' + 1 := ⟨s.2.1.2.1 - 1, by omega⟩
    rw [e1, hO.mh.1, hm', nI_pred]
    simp only [tl_none, e234_0, e234_1, e234_2, e234_5, e234_6, e234_9, e234_12, e234_13, e234_16, e234_19, e234_20, e234_23, e234_26, e234_29, e234_30, e234_32, e234_35, e234_36, e234_37, e234_40, e234_41, e234_44, e234_47, e234_48, e234_51, e234_9r]
    refine ⟨by simp, c_mgranted k0 ?_⟩
    simp only [tl_some, e234_0, e234_1, e234_2, e234_5, e234_6, e234_9, e234_12, e234_13, e234_16, e234_19, e234_20, e234_23, e234_26, e234_29, e234_30, e234_32, e234_35, e234_36, e234_37, e234_40, e234_41, e234_44, e234_47, e234_48, e234_51, e234_9r, or_true, true_and]
    have hR2 : MH A2 AL (a' + 13) s.1 s.2.1.1 (m' + 1) := by rw [← hm']; exact hO.mh.fr e1 rfl
    have hI2 := g1.set (e := (s.2.1.1, m', s.2.1.2.2)) (AI' := mj_u2 A2 (a' + 13 + 1) 0 (nI m')) (AL' := AL) (FI' := F2) rfl hO.2.1 hR2.cut (fun r hr => by
      rw [mj_u2_2 (by omega), mj_u2_2 (by omega), e1]
      exact hSP r hr) (hE.cut (by omega) (by omega)) FIx.rfl' (fun z z1 z2 z3 => by funext j; exact mj_u2_1 (by omega))
    refine mgrQ (P := P) (s' := keepA s (s.2.1.1, m', s.2.1.2.2)) hI2 (hF.trans (FrM.ch (fun f z hz => g2 f z (Or.inl (by omega))) (fun z hz => ?_) (fun _ _ => rfl))) hQ ?_
    · funext j; rw [mj_u2_1 (by omega), g3 z (by omega)]
    · rw [esp, if_neg (by omega), hm', Nat.add_sub_cancel]
theorem c_m_scrape (hV : InvM q P (n, K, FI, FL, FR, AI, AL, AR)) (hQ : ∀ μ', InvM q (as' P (sp_scrape P)) μ' → FrM q (n, K, FI, FL, FR, AI, AL, AR) μ' → Q (some (.int (av (sp_scrape P)))) μ') : EV sa (d + 3) 236 [.ref q] (n, K, FI, FL, FR, AI, AL, AR) Q := by
  have hI0 : MInv q P n K FR FI AI AL := hV
  have k0 := hI0.1.1
  refine n236 k0 ?_
  simp only [e236_0, e236_1, e236_2, e236_5, e236_6, k0, true_and]
  have hI := hI0.th (v := 0)
  have hF : FrM q (n, K, FI, FL, FR, AI, AL, AR) (n, K, mj_u2 FI 640 q 0, FL, FR, AI, AL, AR) := FrM.f
  generalize mj_u2 FI 640 q 0 = F at hI hF ⊢
  cases es : gW P with
  | none =>
    simp only [hI.no es, e236_0, e236_1, e236_2, e236_5, e236_6, e236_9, e236_12, e236_13, e236_14, e236_17, e236_18, e236_19, e236_22, e236_23, e236_26, e236_29, e236_30, e236_31, e236_34, e236_37, e236_38, e236_39, e236_42, e236_9r]
    refine ⟨fun z => absurd trivial z, fun _ => ⟨by simp, c_mdenied k0 ?_⟩⟩
    simp only [tl_some, e236_0, e236_1, e236_2, e236_5, e236_6, e236_9, e236_12, e236_13, e236_14, e236_17, e236_18, e236_19, e236_22, e236_23, e236_26, e236_29, e236_30, e236_31, e236_34, e236_37, e236_38, e236_39, e236_42, e236_9r, true_or, true_and]
    exact mdnQ hI hF hQ (k := 1) (by decide) (by unfold sp_scrape; rw [es])
  | some s =>
    obtain ⟨-, -, -, hWW⟩ := id hI
    rw [es] at hWW
    obtain ⟨a, hO, ha1, ha2, hSP, hE, -⟩ := hWW
    have esp : sp_scrape P = .inr (keepA s (s.2.1.1, wF s.1, s.2.1.2.2)) := by unfold sp_scrape; rw [es]
    obtain ⟨ku, ⟨g0, ku1⟩, -⟩ := hO.1.2.2.2.2.1
    simp only [hO.2.1, hO.2.2, rf_some, e236_0, e236_1, e236_2, e236_5, e236_6, e236_9, e236_12, e236_13, e236_14, e236_17, e236_18, e236_19, e236_22, e236_23, e236_26, e236_29, e236_30, e236_31, e236_34, e236_37, e236_38, e236_39, e236_42, e236_9r, k0, true_and]
    refine ⟨by simp, c_keepsM hI es fun F2 A2 g1 g2 g3 => ?_⟩
    have w7 : F2 582 a = nI (wF s.1) := by rw [g2 _ _ (Or.inl (by omega))]; exact hO.1.2.2.2.1.1.2.2.2.2.2.2.1
    have e1 : A2 (a + 13 + 1) = AI (a + 13 + 1) := g3 _ (by omega)
    have in0 : vp_in (0 : Int32) 127 := vp_in_nI (n := 0) (by decide) (by decide)
    simp only [tl_none, e236_0, e236_1, e236_2, e236_5, e236_6, e236_9, e236_12, e236_13, e236_14, e236_17, e236_18, e236_19, e236_22, e236_23, e236_26, e236_29, e236_30, e236_31, e236_34, e236_37, e236_38, e236_39, e236_42, e236_9r, k0, hO.2.1, hO.2.2, rf_some, ku, g0, ku1, in0, cl0, hO.1.2.1.1, w7, true_and]
    refine ⟨by simp, c_mgranted k0 ?_⟩
    simp only [tl_some, e236_0, e236_1, e236_2, e236_5, e236_6, e236_9, e236_12, e236_13, e236_14, e236_17, e236_18, e236_19, e236_22, e236_23, e236_26, e236_29, e236_30, e236_31, e236_34, e236_37, e236_38, e236_39, e236_42, e236_9r, or_true, true_and]
    have hfm := hE.1
    have hR2 : MH A2 AL (a + 13) s.1 s.2.1.1 s.2.1.2.1 := hO.mh.fr e1 rfl
    have hR3 : MH (mj_u2 A2 (a + 13 + 1) 0 (nI (wF s.1))) AL (a + 13) s.1 s.2.1.1 (wF s.1) := by
      obtain ⟨r1, r2, r3⟩ := hR2
      refine ⟨mj_u2_s, by omega, fun k hk => ?_⟩
      rw [mj_u2_2 (by omega), mj_u2_2 (by omega), mj_u2_2 (by omega), mj_u2_2 (by omega)]
      exact r3 k (by omega)
    have hI2 := g1.set (e := (s.2.1.1, wF s.1, s.2.1.2.2)) (AI' := mj_u2 A2 (a + 13 + 1) 0 (nI (wF s.1))) (AL' := AL) (FI' := F2) rfl hO.2.1 hR3 (fun r hr => by
      rw [mj_u2_2 (by omega), mj_u2_2 (by omega), e1]
      exact hSP r hr) (hE.cut (by omega) (by omega)) FIx.rfl' (fun z z1 z2 z3 => by funext j; exact mj_u2_1 (by omega))
    refine mgrQ (P := P) (s' := keepA s (s.2.1.1, wF s.1, s.2.1.2.2)) hI2 (hF.trans (FrM.ch (fun f z hz => g2 f z (Or.inl (by omega))) (fun z hz => ?_) (fun _ _ => rfl))) hQ esp
    funext j; rw [mj_u2_1 (by omega), g3 z (by omega)]
end
