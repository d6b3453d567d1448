section
variable {sa : Nat → Nat} {d n t h m : Nat} {Q : mj_Q} {K : Nat → Nat × Nat} {FI : Nat → Nat → Int32} {FL : Nat → Nat → Int64} {FR : Nat → Nat → Option Nat} {AI : Nat → Nat → Int32} {AL : Nat → Nat → Int64} {AR : Nat → Nat → Option Nat} {w : Wl} {hs : Nat → Hg}
variable {a u q : Nat} {P : PG}
/-- whether who is to paste wins -/
theorem c_winsNow {f : Nat} (hf4 : f ≤ 4) (hL : ∀ g, g + 1 = f → ∀ {hs : Nat → Hg} {m : Nat} {AI : Nat → Nat → Int32} {AL : Nat → Nat → Int64} {Q : mj_Q}, MO K FR FI AI AL q a w hs m → (∀ (AI' : Nat → Nat → Int32) (AL' : Nat → Nat → Int64), MO K FR FI AI' AL' q a w hs m → MX q (a + 13) AI AI' AL AL' → Q (some (.int (bI (WNw w g false hs m)))) (n, K, FI, FL, FR, AI', AL', AR)) → EV sa (d + 9) 258 [.ref q, .int (nI g)] (n, K, FI, FL, FR, AI, AL, AR) Q) (hO : MO K FR FI AI AL q a w hs m) (hQ : ∀ (AI' : Nat → Nat → Int32) (AL' : Nat → Nat → Int64), MO K FR FI AI' AL' q a w hs m → MX q (a + 13) AI AI' AL AL' → Q (some (.int (bI (WNw w f true hs m)))) (n, K, FI, FL, FR, AI', AL', AR)) : EV sa (d + 10) 257 [.ref q, .int (nI f)] (n, K, FI, FL, FR, AI, AL, AR) Q := by
  have k0 := hO.k
  have h32 := hO.c32
  have hw := hO.ok
  have hn4 := hw.2.2.2.1
  have w4 := hO.1.2.2.2.1.1.2.2.2.1
  cases f with
  | zero =>
    have eW : WNw w 0 true hs m = false := rfl
    rw [eW] at hQ
    refine n257 k0 ?_
    simp only [e257_0, e257_1, e257_3, e257_4, e257_7, e257_10, e257_13, e257_14, e257_17, e257_18, e257_20, e257_21, e257_24, e257_27, e257_28, e257_29, e257_30, e257_33, e257_36, e257_37, e257_38, e257_39, e257_42, e257_45, e257_48, e257_49, e257_50, e257_51, e257_54, e257_55, e257_56, e257_57, e257_58, e257_61, e257_63, e257_64, e257_67, e257_70, e257_72, e257_75, e257_76, e257_77, e257_80, e257_83, e257_86, e257_89, e257_90, mj_kl]
    have : WP sa (EV sa (d + 9)) 257 Q 0 0 2 [.ref q, .int (nI 0), .int 0, mj_u, mj_u] [] (n, K, FI, FL, FR, AI, AL, AR) := by
      rw [e257_2]
      simp only [e257_0, e257_1, e257_3, e257_4, e257_7, e257_10, e257_13, e257_14, e257_17, e257_18, e257_20, e257_21, e257_24, e257_27, e257_28, e257_29, e257_30, e257_33, e257_36, e257_37, e257_38, e257_39, e257_42, e257_45, e257_48, e257_49, e257_50, e257_51, e257_54, e257_55, e257_56, e257_57, e257_58, e257_61, e257_63, e257_64, e257_67, e257_70, e257_72, e257_75, e257_76, e257_77, e257_80, e257_83, e257_86, e257_89, e257_90, k0, hO.2.1, rf_some, hO.1.2.1.1, w4, true_and, true_or]
      exact ⟨fun _ => hQ AI AL hO MX.rfl', fun _ => ⟨fun _ => hQ AI AL hO MX.rfl', fun z => absurd (by decide) z⟩⟩
    simpa [mj_u, mj_kl] using this
  | succ g =>
    generalize hp : (fun i => mvp w hs m i && (WNw w g (!true) (pushM w hs m i (-2)) (m + 1) == true)) = p
    have eW : WNw w (g + 1) true hs m = ex p (32 * wNB w) := by simp only [WNw, hp]; simp
    rw [eW] at hQ
    have np : ∀ i, mvp w hs m i = false → p i = false := fun i hi => by rw [← hp]; simp only [hi, Bool.false_and]
    have outer : ∀ rr b, b + rr = wNB w → ex p (32 * b) = false → ∀ (A : Nat → Nat → Int32) (L : Nat → Nat → Int64), MO K FR FI A L q a w hs m → MX q (a + 13) AI A AL L → ∀ x3 x4 : Value, WP sa (EV sa (d + 9)) 257 Q 0 0 2 [.ref q, .int (nI (g + 1)), .int (nI b), x3, x4] [] (n, K, FI, FL, FR, A, L, AR) := by
      intro rr
      induction rr with
      | zero =>
        intro b hb hx A L hA hX x3 x4
        have hb' : b = wNB w := by omega
        subst hb'
        have w4 := hA.1.2.2.2.1.1.2.2.2.1
        rw [e257_2]
        simp only [e257_3, e257_4, e257_7, e257_10, e257_89, e257_90, k0, hA.2.1, rf_some, hA.1.2.1.1, w4, true_and, true_or]
        rw [hx] at hQ
        exact ⟨fun _ => hQ A L hA hX, fun z => absurd (nI_le (Nat.le_refl _) (by omega)) z⟩
      | succ rr IH =>
        intro b hb hx A L hA hX x3 x4
        have inner : ∀ sr y, y + sr = wW w * wH w → ex p (32 * b + y) = false → ∀ (A : Nat → Nat → Int32) (L : Nat → Nat → Int64), MO K FR FI A L q a w hs m → MX q (a + 13) AI A AL L → ∀ x4 : Value, WP sa (EV sa (d + 9)) 257 Q 0 0 19 [.ref q, .int (nI (g + 1)), .int (nI b), .int (nI y), x4] [] (n, K, FI, FL, FR, A, L, AR) := by
          intro sr
          induction sr with
          | zero =>
            intro y hy hx A L hA hX x4
            have hy' : y = wW w * wH w := by omega
            subst hy'
            have s4 := ex_skip (p := p) (a := 32 * b + wW w * wH w) (k := 32 - wW w * wH w) (fun i i1 i2 => np i (mvp_out hw (show b < wNB w by omega) i1 (by omega)))
            rw [show 32 * b + wW w * wH w + (32 - wW w * wH w) = 32 * (b + 1) by omega, hx] at s4
            rw [e257_19]
            simp only [e257_0, e257_1, e257_3, e257_4, e257_7, e257_10, e257_13, e257_14, e257_17, e257_18, e257_20, e257_21, e257_24, e257_27, e257_28, e257_29, e257_30, e257_33, e257_36, e257_37, e257_38, e257_39, e257_42, e257_45, e257_48, e257_49, e257_50, e257_51, e257_54, e257_55, e257_56, e257_57, e257_58, e257_61, e257_63, e257_64, e257_67, e257_70, e257_72, e257_75, e257_76, e257_77, e257_80, e257_83, e257_86, e257_89, e257_90]
            refine ⟨by simp, c_mOcells hA ?_⟩
            simp only [tl_some, e257_0, e257_1, e257_3, e257_4, e257_7, e257_10, e257_13, e257_14, e257_17, e257_18, e257_20, e257_21, e257_24, e257_27, e257_28, e257_29, e257_30, e257_33, e257_36, e257_37, e257_38, e257_39, e257_42, e257_45, e257_48, e257_49, e257_50, e257_51, e257_54, e257_55, e257_56, e257_57, e257_58, e257_61, e257_63, e257_64, e257_67, e257_70, e257_72, e257_75, e257_76, e257_77, e257_80, e257_83, e257_86, e257_89, e257_90, nI_1, mj_kl]
            exact ⟨fun _ => IH (b + 1) (by omega) s4 A L hA hX _ _, fun z => absurd (nI_le (Nat.le_refl _) (by omega)) z⟩
          | succ sr ih =>
            intro y hy hx A L hA hX x4
            have nx : p (32 * b + y) = false → ∀ (A : Nat → Nat → Int32) (L : Nat → Nat → Int64), MO K FR FI A L q a w hs m → MX q (a + 13) AI A AL L → ∀ x4 : Value, WP sa (EV sa (d + 9)) 257 Q 0 0 19 [.ref q, .int (nI (g + 1)), .int (nI b), .int (nI (y + 1)), x4] [] (n, K, FI, FL, FR, A, L, AR) := fun e => ih (y + 1) (by omega) (by rw [show 32 * b + (y + 1) = 32 * b + y + 1 by omega]; show (ex p (32 * b + y) || p (32 * b + y)) = false; rw [hx, e]; rfl)
            rw [e257_19]
            simp only [e257_0, e257_1, e257_3, e257_4, e257_7, e257_10, e257_13, e257_14, e257_17, e257_18, e257_20, e257_21, e257_24, e257_27, e257_28, e257_29, e257_30, e257_33, e257_36, e257_37, e257_38, e257_39, e257_42, e257_45, e257_48, e257_49, e257_50, e257_51, e257_54, e257_55, e257_56, e257_57, e257_58, e257_61, e257_63, e257_64, e257_67, e257_70, e257_72, e257_75, e257_76, e257_77, e257_80, e257_86, e257_89, e257_90]
            refine ⟨by simp, c_mOcells hA ?_⟩
            simp only [tl_some, e257_0, e257_1, e257_3, e257_4, e257_7, e257_10, e257_13, e257_14, e257_17, e257_18, e257_20, e257_21, e257_24, e257_27, e257_28, e257_29, e257_30, e257_33, e257_36, e257_37, e257_38, e257_39, e257_42, e257_45, e257_48, e257_49, e257_50, e257_51, e257_54, e257_55, e257_56, e257_57, e257_58, e257_61, e257_63, e257_64, e257_67, e257_70, e257_72, e257_75, e257_76, e257_77, e257_80, e257_86, e257_89, e257_90]
            refine ⟨fun z => absurd z (nI_ge (by omega) (by omega)), fun _ => ⟨by simp, c_misOnAt hA (by omega) (by omega) ?_⟩⟩
            simp only [tl_some, e257_0, e257_1, e257_3, e257_4, e257_7, e257_10, e257_13, e257_14, e257_17, e257_18, e257_20, e257_21, e257_24, e257_27, e257_28, e257_29, e257_30, e257_33, e257_36, e257_37, e257_38, e257_39, e257_42, e257_45, e257_48, e257_49, e257_50, e257_51, e257_54, e257_55, e257_56, e257_57, e257_58, e257_61, e257_63, e257_64, e257_67, e257_70, e257_72, e257_75, e257_76, e257_77, e257_80, e257_86, e257_89, e257_90, bI_eq0, nI_1, mj_kl]
            refine ⟨fun z => nx (np _ (by rw [mvp_at (by omega)]; exact mayAt_no z)) A L hA hX _, fun z => ⟨by simp, ?_⟩⟩
            refine c_mmayAt (d := d + 2) hA (show b < wNB w by omega) (show y < 32 by omega) (ts_nf z) fun A3 L3 g5 g6 => ?_
            simp only [tl_some, e257_0, e257_1, e257_3, e257_4, e257_7, e257_10, e257_13, e257_14, e257_17, e257_18, e257_20, e257_21, e257_24, e257_27, e257_28, e257_29, e257_30, e257_33, e257_36, e257_37, e257_38, e257_39, e257_42, e257_45, e257_48, e257_49, e257_50, e257_51, e257_54, e257_55, e257_56, e257_57, e257_58, e257_61, e257_63, e257_64, e257_67, e257_70, e257_72, e257_75, e257_76, e257_77, e257_80, e257_86, e257_89, e257_90, bI_eq0, nI_1, mj_kl]
            refine ⟨fun z2 => ⟨by simp, ?_⟩, fun z2 => nx (np _ (by rw [mvp_at (by omega)]; simpa using z2)) A3 L3 g5 (hX.trans g6) _⟩
            have hmy := ts_nf z2
            refine c_mpasted (d := d + 6) g5 (show b < wNB w by omega) (show y < 32 by omega) hmy fun A4 L4 g7 g8 => ?_
            simp only [tl_none, e257_0, e257_1, e257_3, e257_4, e257_7, e257_10, e257_13, e257_14, e257_17, e257_18, e257_20, e257_21, e257_24, e257_27, e257_28, e257_29, e257_30, e257_33, e257_36, e257_37, e257_38, e257_39, e257_42, e257_45, e257_48, e257_49, e257_50, e257_51, e257_54, e257_55, e257_56, e257_57, e257_58, e257_61, e257_63, e257_64, e257_67, e257_70, e257_72, e257_75, e257_76, e257_77, e257_80, e257_86, e257_89, e257_90, nI_pred]
            refine ⟨by simp, ?_⟩
            refine hL g rfl g7 fun A5 L5 g9 g10 => ?_
            obtain ⟨o1, o2⟩ := g9.off
            have hOn := o1.congr (hs' := hs) (fun k hk => puth_lt hk)
            have hXn := (((hX.trans g6).trans g8).trans g10).trans o2
            have ep : p (32 * b + y) = WNw w g false (puth hs m (b, y % wW w, y / wW w, -2)) (m + 1) := by
              rw [← hp]
              simp only [mvp_at (show y < 32 by omega), hmy, pushM_at (show y < 32 by omega), Bool.true_and, Bool.not_true]
              simp
            rw [← ep]
            simp only [tl_some, e257_0, e257_1, e257_3, e257_4, e257_7, e257_10, e257_13, e257_14, e257_17, e257_18, e257_20, e257_21, e257_24, e257_27, e257_28, e257_29, e257_30, e257_33, e257_36, e257_37, e257_38, e257_39, e257_42, e257_45, e257_48, e257_49, e257_50, e257_51, e257_54, e257_55, e257_56, e257_57, e257_58, e257_61, e257_63, e257_64, e257_67, e257_70, e257_72, e257_75, e257_76, e257_77, e257_80, e257_86, e257_89, e257_90, k0, g9.2.2, rf_some, mj_kl, true_and]
            refine ⟨by simp, c_takesOff g9.1.2.2.2.2.1 ?_⟩
            simp only [tl_none, e257_0, e257_1, e257_3, e257_4, e257_7, e257_10, e257_13, e257_14, e257_17, e257_18, e257_20, e257_21, e257_24, e257_27, e257_28, e257_29, e257_30, e257_33, e257_36, e257_37, e257_38, e257_39, e257_42, e257_45, e257_48, e257_49, e257_50, e257_51, e257_54, e257_55, e257_56, e257_57, e257_58, e257_61, e257_63, e257_64, e257_67, e257_70, e257_72, e257_75, e257_76, e257_77, e257_80, e257_86, e257_89, e257_90, bI_eq0, nI_1, mj_kl, or_true, true_and]
            refine ⟨fun y1 => nx y1 _ L5 hOn hXn _, fun y1 => ?_⟩
            have := hQ _ L5 hOn hXn
            rw [ex_true.mpr ⟨32 * b + y, by omega, ts_nf y1⟩] at this
            exact this
        have w4 := hA.1.2.2.2.1.1.2.2.2.1
        rw [e257_2]
        simp only [e257_3, e257_4, e257_7, e257_10, e257_13, e257_14, e257_17, e257_18, k0, hA.2.1, rf_some, hA.1.2.1.1, w4, true_and, mj_kl]
        refine ⟨fun z => absurd z (nI_ge (by omega) (by omega)), fun _ => ⟨fun z => absurd z (nI_nle (by omega) (by omega)), fun _ => ?_⟩⟩
        have := inner (wW w * wH w) 0 (by omega) hx A L hA hX x4
        simpa [nI_0, mj_kl] using this
    refine n257 k0 ?_
    simp only [e257_0, e257_1, e257_3, e257_4, e257_7, e257_10, e257_13, e257_14, e257_17, e257_18, e257_20, e257_21, e257_24, e257_27, e257_28, e257_29, e257_30, e257_33, e257_36, e257_37, e257_38, e257_39, e257_42, e257_45, e257_48, e257_49, e257_50, e257_51, e257_54, e257_55, e257_56, e257_57, e257_58, e257_61, e257_63, e257_64, e257_67, e257_70, e257_72, e257_75, e257_76, e257_77, e257_80, e257_83, e257_86, e257_89, e257_90, mj_kl]
    have := outer (wNB w) 0 (by omega) rfl AI AL hO MX.rfl' mj_u mj_u
    simpa [nI_0, mj_u, mj_kl] using this
theorem c_loses {f : Nat} (hf4 : f ≤ 4) (hL : ∀ g, g + 1 = f → ∀ {hs : Nat → Hg} {m : Nat} {AI : Nat → Nat → Int32} {AL : Nat → Nat → Int64} {Q : mj_Q}, MO K FR FI AI AL q a w hs m → (∀ (AI' : Nat → Nat → Int32) (AL' : Nat → Nat → Int64), MO K FR FI AI' AL' q a w hs m → MX q (a + 13) AI AI' AL AL' → Q (some (.int (bI (WNw w g true hs m)))) (n, K, FI, FL, FR, AI', AL', AR)) → EV sa (d + 9) 257 [.ref q, .int (nI g)] (n, K, FI, FL, FR, AI, AL, AR) Q) (hO : MO K FR FI AI AL q a w hs m) (hQ : ∀ (AI' : Nat → Nat → Int32) (AL' : Nat → Nat → Int64), MO K FR FI AI' AL' q a w hs m → MX q (a + 13) AI AI' AL AL' → Q (some (.int (bI (WNw w f false hs m)))) (n, K, FI, FL, FR, AI', AL', AR)) : EV sa (d + 10) 258 [.ref q, .int (nI f)] (n, K, FI, FL, FR, AI, AL, AR) Q := by
  have k0 := hO.k
  have h32 := hO.c32
  have hw := hO.ok
  have hn4 := hw.2.2.2.1
  -- what ends it
  obtain ⟨p, np, p1, p2, eW⟩ : ∃ p : Nat → Bool, (∀ i, mvp w hs m i = false → p i = false) ∧ (f < 2 → ∀ i, mvp w hs m i = true → p i = true) ∧ (∀ g, g + 1 = f → ∀ i, mvp w hs m i = true → p i = !(WNw w g true (pushM w hs m i (-2)) (m + 1))) ∧ WNw w f false hs m = !(ex p (32 * wNB w)) := by
    cases f with
    | zero =>
      refine ⟨fun i => mvp w hs m i, fun i h => h, fun _ i h => h, fun g hg => by omega, ?_⟩
      simp only [WNw, Bool.not_false, Bool.true_and]
      cases y : isFullP w hs m with
      | true => rw [ex_false.mpr ((full_mvp hw).mp y)]; rfl
      | false =>
        cases y2 : ex (fun i => mvp w hs m i) (32 * wNB w) with
        | true => rfl
        | false => rw [(full_mvp hw).mpr (ex_false.mp y2)] at y; cases y
    | succ g =>
      refine ⟨fun i => mvp w hs m i && (WNw w g (!false) (pushM w hs m i (-2)) (m + 1) == false), fun i h => by simp only [h, Bool.false_and], fun h2 i h => ?_, fun g' hg i h => ?_, ?_⟩
      · have g0 : g = 0 := by omega
        subst g0
        simp only [h, WNw]
        rfl
      · have : g' = g := by omega
        subst this
        simp only [h, Bool.true_and, Bool.not_false]
        cases WNw w g' true (pushM w hs m i (-2)) (m + 1) <;> rfl
      · simp only [WNw]
        cases ex (fun i => mvp w hs m i && (WNw w g (!false) (pushM w hs m i (-2)) (m + 1) == false)) (32 * wNB w) <;> rfl
  rw [eW] at hQ
  have outer : ∀ rr b, b + rr = wNB w → ex p (32 * b) = false → ∀ (A : Nat → Nat → Int32) (L : Nat → Nat → Int64), MO K FR FI A L q a w hs m → MX q (a + 13) AI A AL L → ∀ x3 x4 : Value, WP sa (EV sa (d + 9)) 258 Q 0 0 2 [.ref q, .int (nI f), .int (nI b), x3, x4] [] (n, K, FI, FL, FR, A, L, AR) := by
    intro rr
    induction rr with
    | zero =>
      intro b hb hx A L hA hX x3 x4
      have hb' : b = wNB w := by omega
      subst hb'
      have w4 := hA.1.2.2.2.1.1.2.2.2.1
      rw [e258_2]
      simp only [e258_3, e258_4, e258_7, e258_10, e258_92, e258_93, k0, hA.2.1, rf_some, hA.1.2.1.1, w4, true_and, or_true]
      rw [hx] at hQ
      exact ⟨fun _ => hQ A L hA hX, fun z => absurd (nI_le (Nat.le_refl _) (by omega)) z⟩
    | succ rr IH =>
      intro b hb hx A L hA hX x3 x4
      have inner : ∀ sr y, y + sr = wW w * wH w → ex p (32 * b + y) = false → ∀ (A : Nat → Nat → Int32) (L : Nat → Nat → Int64), MO K FR FI A L q a w hs m → MX q (a + 13) AI A AL L → ∀ x4 : Value, WP sa (EV sa (d + 9)) 258 Q 0 0 15 [.ref q, .int (nI f), .int (nI b), .int (nI y), x4] [] (n, K, FI, FL, FR, A, L, AR) := by
        intro sr
        induction sr with
        | zero =>
          intro y hy hx A L hA hX x4
          have hy' : y = wW w * wH w := by omega
          subst hy'
          have s4 := ex_skip (p := p) (a := 32 * b + wW w * wH w) (k := 32 - wW w * wH w) (fun i i1 i2 => np i (mvp_out hw (show b < wNB w by omega) i1 (by omega)))
          rw [show 32 * b + wW w * wH w + (32 - wW w * wH w) = 32 * (b + 1) by omega, hx] at s4
          rw [e258_15]
          simp only [e258_0, e258_1, e258_3, e258_4, e258_7, e258_10, e258_13, e258_14, e258_16, e258_17, e258_20, e258_23, e258_24, e258_25, e258_26, e258_29, e258_32, e258_33, e258_34, e258_35, e258_38, e258_41, e258_44, e258_45, e258_46, e258_49, e258_50, e258_51, e258_52, e258_53, e258_54, e258_57, e258_58, e258_59, e258_60, e258_61, e258_64, e258_66, e258_67, e258_70, e258_73, e258_75, e258_78, e258_79, e258_80, e258_83, e258_86, e258_89, e258_92, e258_93]
          refine ⟨by simp, c_mOcells hA ?_⟩
          simp only [tl_some, e258_0, e258_1, e258_3, e258_4, e258_7, e258_10, e258_13, e258_14, e258_16, e258_17, e258_20, e258_23, e258_24, e258_25, e258_26, e258_29, e258_32, e258_33, e258_34, e258_35, e258_38, e258_41, e258_44, e258_45, e258_46, e258_49, e258_50, e258_51, e258_52, e258_53, e258_54, e258_57, e258_58, e258_59, e258_60, e258_61, e258_64, e258_66, e258_67, e258_70, e258_73, e258_75, e258_78, e258_79, e258_80, e258_83, e258_86, e258_89, e258_92, e258_93, nI_1, mj_kl]
          exact ⟨fun _ => IH (b + 1) (by omega) s4 A L hA hX _ _, fun z => absurd (nI_le (Nat.le_refl _) (by omega)) z⟩
        | succ sr ih =>
          intro y hy hx A L hA hX x4
          have nx : p (32 * b + y) = false → ∀ (A : Nat → Nat → Int32) (L : Nat → Nat → Int64), MO K FR FI A L q a w hs m → MX q (a + 13) AI A AL L → ∀ x4 : Value, WP sa (EV sa (d + 9)) 258 Q 0 0 15 [.ref q, .int (nI f), .int (nI b), .int (nI (y + 1)), x4] [] (n, K, FI, FL, FR, A, L, AR) := fun e => ih (y + 1) (by omega) (by rw [show 32 * b + (y + 1) = 32 * b + y + 1 by omega]; show (ex p (32 * b + y) || p (32 * b + y)) = false; rw [hx, e]; rfl)
          have no : p (32 * b + y) = true → ∀ (A : Nat → Nat → Int32) (L : Nat → Nat → Int64), MO K FR FI A L q a w hs m → MX q (a + 13) AI A AL L → Q (some (.int 0)) (n, K, FI, FL, FR, A, L, AR) := fun e A L hA hX => by
            have := hQ A L hA hX
            rw [ex_true.mpr ⟨32 * b + y, by omega, e⟩] at this
            exact this
          rw [e258_15]
          simp only [e258_0, e258_1, e258_3, e258_4, e258_7, e258_10, e258_13, e258_14, e258_16, e258_17, e258_20, e258_23, e258_24, e258_25, e258_26, e258_29, e258_32, e258_33, e258_34, e258_35, e258_38, e258_41, e258_44, e258_45, e258_46, e258_49, e258_50, e258_51, e258_52, e258_53, e258_54, e258_57, e258_58, e258_59, e258_60, e258_61, e258_64, e258_66, e258_67, e258_70, e258_73, e258_75, e258_78, e258_79, e258_80, e258_83, e258_89, e258_92, e258_93]
          refine ⟨by simp, c_mOcells hA ?_⟩
          simp only [tl_some, e258_0, e258_1, e258_3, e258_4, e258_7, e258_10, e258_13, e258_14, e258_16, e258_17, e258_20, e258_23, e258_24, e258_25, e258_26, e258_29, e258_32, e258_33, e258_34, e258_35, e258_38, e258_41, e258_44, e258_45, e258_46, e258_49, e258_50, e258_51, e258_52, e258_53, e258_54, e258_57, e258_58, e258_59, e258_60, e258_61, e258_64, e258_66, e258_67, e258_70, e258_73, e258_75, e258_78, e258_79, e258_80, e258_83, e258_89, e258_92, e258_93]
          refine ⟨fun z => absurd z (nI_ge (by omega) (by omega)), fun _ => ⟨by simp, c_misOnAt hA (by omega) (by omega) ?_⟩⟩
          simp only [tl_some, e258_0, e258_1, e258_3, e258_4, e258_7, e258_10, e258_13, e258_14, e258_16, e258_17, e258_20, e258_23, e258_24, e258_25, e258_26, e258_29, e258_32, e258_33, e258_34, e258_35, e258_38, e258_41, e258_44, e258_45, e258_46, e258_49, e258_50, e258_51, e258_52, e258_53, e258_54, e258_57, e258_58, e258_59, e258_60, e258_61, e258_64, e258_66, e258_67, e258_70, e258_73, e258_75, e258_78, e258_79, e258_80, e258_83, e258_89, e258_92, e258_93, bI_eq0, nI_1, mj_kl]
          refine ⟨fun z => nx (np _ (by rw [mvp_at (by omega)]; exact mayAt_no z)) A L hA hX _, fun z => ⟨by simp, ?_⟩⟩
          refine c_mmayAt (d := d + 2) hA (show b < wNB w by omega) (show y < 32 by omega) (ts_nf z) fun A3 L3 g5 g6 => ?_
          simp only [tl_some, e258_0, e258_1, e258_3, e258_4, e258_7, e258_10, e258_13, e258_14, e258_16, e258_17, e258_20, e258_23, e258_24, e258_25, e258_26, e258_29, e258_32, e258_33, e258_34, e258_35, e258_38, e258_41, e258_44, e258_45, e258_46, e258_49, e258_50, e258_51, e258_52, e258_53, e258_54, e258_57, e258_58, e258_59, e258_60, e258_61, e258_64, e258_66, e258_67, e258_70, e258_73, e258_75, e258_78, e258_79, e258_80, e258_83, e258_89, e258_92, e258_93, bI_eq0, nI_1, mj_kl, show (2 : Int32) = nI 2 from rfl, nI_leI (show 2 < 2 ^ 31 by decide) (show f < 2 ^ 31 by omega), true_or, true_and]
          refine ⟨fun z2 => ⟨fun z3 => ⟨by simp, ?_⟩, fun z3 => no (p1 (by omega) _ (by rw [mvp_at (by omega)]; exact ts_nf z2)) A3 L3 g5 (hX.trans g6)⟩, fun z2 => nx (np _ (by rw [mvp_at (by omega)]; simpa using z2)) A3 L3 g5 (hX.trans g6) _⟩
          have hmy := ts_nf z2
          obtain ⟨g, rfl⟩ : ∃ g, f = g + 1 := ⟨f - 1, by omega⟩
          refine c_mpasted (d := d + 6) g5 (show b < wNB w by omega) (show y < 32 by omega) hmy fun A4 L4 g7 g8 => ?_
          simp only [tl_none, e258_0, e258_1, e258_3, e258_4, e258_7, e258_10, e258_13, e258_14, e258_16, e258_17, e258_20, e258_23, e258_24, e258_25, e258_26, e258_29, e258_32, e258_33, e258_34, e258_35, e258_38, e258_41, e258_44, e258_45, e258_46, e258_49, e258_50, e258_51, e258_52, e258_53, e258_54, e258_57, e258_58, e258_59, e258_60, e258_61, e258_64, e258_66, e258_67, e258_70, e258_73, e258_75, e258_78, e258_79, e258_80, e258_83, e258_89, e258_92, e258_93, nI_pred]
          refine ⟨by simp, ?_⟩
          refine hL g rfl g7 fun A5 L5 g9 g10 => ?_
          obtain ⟨o1, o2⟩ := g9.off
          have hOn := o1.congr (hs' := hs) (fun k hk => puth_lt hk)
          have hXn := (((hX.trans g6).trans g8).trans g10).trans o2
          have ep := p2 g rfl (32 * b + y) (by rw [mvp_at (by omega)]; exact hmy)
          rw [pushM_at (show y < 32 by omega)] at ep
          simp only [tl_some, e258_0, e258_1, e258_3, e258_4, e258_7, e258_10, e258_13, e258_14, e258_16, e258_17, e258_20, e258_23, e258_24, e258_25, e258_26, e258_29, e258_32, e258_33, e258_34, e258_35, e258_38, e258_41, e258_44, e258_45, e258_46, e258_49, e258_50, e258_51, e258_52, e258_53, e258_54, e258_57, e258_58, e258_59, e258_60, e258_61, e258_64, e258_66, e258_67, e258_70, e258_73, e258_75, e258_78, e258_79, e258_80, e258_83, e258_89, e258_92, e258_93, k0, g9.2.2, rf_some, mj_kl, true_and]
          refine ⟨by simp, c_takesOff g9.1.2.2.2.2.1 ?_⟩
          simp only [tl_none, e258_0, e258_1, e258_3, e258_4, e258_7, e258_10, e258_13, e258_14, e258_16, e258_17, e258_20, e258_23, e258_24, e258_25, e258_26, e258_29, e258_32, e258_33, e258_34, e258_35, e258_38, e258_41, e258_44, e258_45, e258_46, e258_49, e258_50, e258_51, e258_52, e258_53, e258_54, e258_57, e258_58, e258_59, e258_60, e258_61, e258_64, e258_66, e258_67, e258_70, e258_73, e258_75, e258_78, e258_79, e258_80, e258_83, e258_89, e258_92, e258_93, bI_eq0, nI_1, mj_kl, true_or, true_and]
          refine ⟨fun y1 => nx (by rw [ep, ts_nf y1]; rfl) _ L5 hOn hXn _, fun y1 => no ?_ _ L5 hOn hXn⟩
          rw [ep, show WNw w g true (puth hs m (b, y % wW w, y / wW w, -2)) (m + 1) = false by simpa using y1]
          rfl
      have w4 := hA.1.2.2.2.1.1.2.2.2.1
      rw [e258_2]
      simp only [e258_3, e258_4, e258_7, e258_10, e258_13, e258_14, k0, hA.2.1, rf_some, hA.1.2.1.1, w4, true_and, mj_kl]
      refine ⟨fun z => absurd z (nI_ge (by omega) (by omega)), fun _ => ?_⟩
      have := inner (wW w * wH w) 0 (by omega) hx A L hA hX x4
      simpa [nI_0, mj_kl] using this
  refine n258 k0 ?_
  simp only [e258_0, e258_1, e258_3, e258_4, e258_7, e258_10, e258_13, e258_14, e258_16, e258_17, e258_20, e258_23, e258_24, e258_25, e258_26, e258_29, e258_32, e258_33, e258_34, e258_35, e258_38, e258_41, e258_44, e258_45, e258_46, e258_49, e258_50, e258_51, e258_52, e258_53, e258_54, e258_57, e258_58, e258_59, e258_60, e258_61, e258_64, e258_66, e258_67, e258_70, e258_73, e258_75, e258_78, e258_79, e258_80, e258_83, e258_86, e258_89, e258_92, e258_93, mj_kl]
  have := outer (wNB w) 0 (by omega) rfl AI AL hO MX.rfl' mj_u mj_u
  simpa [nI_0, mj_u, mj_kl] using this
theorem c_winlose : ∀ (f : Nat), f ≤ 4 → (∀ {d : Nat} {hs : Nat → Hg} {m : Nat} {AI : Nat → Nat → Int32} {AL : Nat → Nat → Int64} {Q : mj_Q}, MO K FR FI AI AL q a w hs m → (∀ (AI' : Nat → Nat → Int32) (AL' : Nat → Nat → Int64), MO K FR FI AI' AL' q a w hs m → MX q (a + 13) AI AI' AL AL' → Q (some (.int (bI (WNw w f true hs m)))) (n, K, FI, FL, FR, AI', AL', AR)) → EV sa (d + f + 10) 257 [.ref q, .int (nI f)] (n, K, FI, FL, FR, AI, AL, AR) Q) ∧ (∀ {d : Nat} {hs : Nat → Hg} {m : Nat} {AI : Nat → Nat → Int32} {AL : Nat → Nat → Int64} {Q : mj_Q}, MO K FR FI AI AL q a w hs m → (∀ (AI' : Nat → Nat → Int32) (AL' : Nat → Nat → Int64), MO K FR FI AI' AL' q a w hs m → MX q (a + 13) AI AI' AL AL' → Q (some (.int (bI (WNw w f false hs m)))) (n, K, FI, FL, FR, AI', AL', AR)) → EV sa (d + f + 10) 258 [.ref q, .int (nI f)] (n, K, FI, FL, FR, AI, AL, AR) Q) := by
  intro f
  induction f with
  | zero => intro h4; exact ⟨fun hO hQ => c_winsNow (d := _ + 0) h4 (fun g hg => by omega) hO hQ, fun hO hQ => c_loses (d := _ + 0) h4 (fun g hg => by omega) hO hQ⟩
  | succ f ih =>
    intro h4
    obtain ⟨i1, i2⟩ := ih (by omega)
    refine ⟨fun {d} {hs} {m} {AI} {AL} {Q} hO hQ => ?_, fun {d} {hs} {m} {AI} {AL} {Q} hO hQ => ?_⟩
    · refine c_winsNow (d := d + (f + 1)) h4 (fun g hg => ?_) hO hQ
      have : g = f := by omega
      subst this
      intro hs m AI AL Q a1 a2
      have := i2 (d := d) a1 a2
      exact this
    · refine c_loses (d := d + (f + 1)) h4 (fun g hg => ?_) hO hQ
      have : g = f := by omega
      subst this
      intro hs m AI AL Q a1 a2
      have := i1 (d := d) a1 a2
      exact this
theorem c_m_wins (hV : InvM q P (n, K, FI, FL, FR, AI, AL, AR)) {D : Int32} (hQ : ∀ μ', InvM q (rs P (sp_wins P D)) μ' → FrM q (n, K, FI, FL, FR, AI, AL, AR) μ' → Q (some (.int (rv (sp_wins P D)))) μ') : EV sa (d + 17) 259 [.ref q, .int D] (n, K, FI, FL, FR, AI, AL, AR) Q := by
  have hI0 : MInv q P n K FR FI AI AL := hV
  have k0 := hI0.1.1
  refine n259 k0 ?_
  simp only [e259_0, e259_1, e259_2, e259_5, e259_6, e259_7, e259_10, e259_11, e259_12, e259_15, e259_16, e259_17, e259_20, e259_23, e259_24, e259_25, e259_26, e259_29, e259_32, e259_33, e259_36, e259_37, e259_40, k0, true_and]
  have hI := hI0.th (v := 0)
  have hF : FrM q (n, K, FI, FL, FR, AI, AL, AR) (n, K, mj_u2 FI 640 q 0, FL, FR, AI, AL, AR) := FrM.f
  generalize mj_u2 FI 640 q 0 = F at hI hF ⊢
  refine ⟨by simp, c_refusesSafely hI (fun es => ?_) (fun s es F2 A2 L2 a g1 g2 g3 r g4 g5 g6 => ?_)⟩
  · simp only [tl_some, e259_0, e259_1, e259_2, e259_5, e259_6, e259_7, e259_10, e259_11, e259_12, e259_15, e259_16, e259_17, e259_20, e259_23, e259_24, e259_25, e259_26, e259_29, e259_32, e259_33, e259_36, e259_37, e259_40, mj_kl]
    refine ⟨fun z => absurd z (by decide), fun _ => ⟨by simp, c_mrefused k0 ?_⟩⟩
    simp only [tl_some, e259_0, e259_1, e259_2, e259_5, e259_6, e259_7, e259_10, e259_11, e259_12, e259_15, e259_16, e259_17, e259_20, e259_23, e259_24, e259_25, e259_26, e259_29, e259_32, e259_33, e259_36, e259_37, e259_40]
    exact mrefQ hI hF hQ (k := 1) (by decide) (by unfold sp_wins; rw [rowsR_none es])
  · obtain ⟨p1, p2, p3, p4⟩ := pWs es
    have hI2 := hI.qq es g1.2.1 g3 g1.mh
    have hF2 := hF.trans (g3.frm (n := n) (K := K) (FL := FL) (FR := FR) (AR := AR) g2)
    simp only [tl_some, e259_0, e259_1, e259_2, e259_5, e259_6, e259_7, e259_10, e259_11, e259_12, e259_15, e259_16, e259_17, e259_20, e259_23, e259_24, e259_25, e259_26, e259_29, e259_32, e259_33, e259_36, e259_37, e259_40, mj_kl, k0, true_and]
    refine ⟨fun z => ⟨by simp, ?_⟩, fun z => ⟨by simp, c_mrefused k0 ?_⟩⟩
    · have r0 : r = 0 := by
        rcases Nat.eq_zero_or_pos r with y | y
        · exact y
        · exact absurd z (nI_nle y (by omega))
      subst r0
      have hD : ¬ (D < 1 ∨ 4 < D) := fun y => by
        unfold rowsR at g4
        rw [es] at g4
        simp only [Option.isSome_some, if_true] at g4
        rw [if_pos y] at g4
        cases g4
      have dd : dN D ≤ 4 := dN_4
      have go := fun QQ => (c_winlose (sa := sa) (n := n) (FL := FL) (AR := AR) (K := K) (FR := FR) (FI := F2) (q := q) (a := a) (w := s.1) (dN D) dd).1 (d := d + (6 - dN D)) (Q := QQ) g1
      rw [show d + (6 - dN D) + dN D + 10 = d + 16 by omega, ← dN_ok hD] at go
      refine go _ fun A3 L3 g7 g8 => ?_
      have hX3 := g8.toMQ (FI := F2)
      have fin : ∀ bb, bb = WNw s.1 (dN D) true s.2.1.1 s.2.1.2.1 → EV sa (d + 16) 165 [.ref q, .int (bI bb)] (n, K, F2, FL, FR, A3, L3, AR) (fun v μ' => WP sa (EV sa (d + 16)) 259 Q 0 0 40 [.ref q, .int D, .int (nI 0)] (v.toList ++ []) μ') := by
        rintro bb rfl
        refine c_mgood k0 ?_
        simp only [tl_some, e259_0, e259_1, e259_2, e259_5, e259_6, e259_7, e259_10, e259_11, e259_12, e259_15, e259_16, e259_17, e259_20, e259_23, e259_24, e259_25, e259_26, e259_29, e259_32, e259_33, e259_36, e259_37, e259_40]
        exact mansQ (hI.qq es g1.2.1 (g3.trans hX3) g7.mh) (hF2.trans (hX3.frm g2)) hQ (by unfold sp_wins; rw [g4, p1, p2, p3]; rfl)
      simp only [tl_some, e259_0, e259_1, e259_2, e259_5, e259_6, e259_7, e259_10, e259_11, e259_12, e259_15, e259_16, e259_17, e259_20, e259_23, e259_24, e259_25, e259_26, e259_29, e259_32, e259_33, e259_36, e259_37, e259_40, bI_eq0]
      exact ⟨fun z => ⟨by simp, fin false z.symm⟩, fun z => ⟨by simp, fin true (ts_nf z).symm⟩⟩
    · have r0 : r ≠ 0 := fun e => z (by rw [e]; decide)
      rw [if_neg r0] at g4
      simp only [tl_some, e259_0, e259_1, e259_2, e259_5, e259_6, e259_7, e259_10, e259_11, e259_12, e259_15, e259_16, e259_17, e259_20, e259_23, e259_24, e259_25, e259_26, e259_29, e259_32, e259_33, e259_36, e259_37, e259_40]
      exact mrefQ hI2 hF2 hQ (k := r) (by omega) (by unfold sp_wins; rw [g4])
end
