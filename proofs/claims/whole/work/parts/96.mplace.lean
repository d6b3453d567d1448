section
variable {sa : Nat → Nat} {d n t h m : Nat} {Q : mj_Q} {K : Nat → Nat × Nat} {FI : Nat → Nat → Int32} {FL : Nat → Nat → Int64} {FR : Nat → Nat → Option Nat} {AI : Nat → Nat → Int32} {AL : Nat → Nat → Int64} {AR : Nat → Nat → Option Nat} {w : Wl} {hs : Nat → Hg}
variable {a u q : Nat} {P : PG}
theorem misB {b : Int32} (hI : MInv q P n K FR FI AI AL) (hb : isB P b = true) : ∃ s, gW P = some s ∧ b = nI b.toNatClampNeg ∧ b.toNatClampNeg < wNB s.1 ∧ (pW P = s.1 ∧ pHs P = s.2.1.1 ∧ pM P = s.2.1.2.1 ∧ pE P = s.2.1) := by
  have hb' : 0 ≤ b ∧ b < nI (wNB (pW P)) := by simpa [isB] using hb
  cases es : gW P with
  | none => rw [(pWn es).1] at hb'; exact absurd hb' no_rng
  | some s =>
    obtain ⟨a, hO, -⟩ := hI.mo es
    have h4 := hO.1.2.2.1.2.2.2.1
    rw [(pWs es).1] at hb'
    obtain ⟨e1, e2⟩ := rng_of (by omega) hb'
    exact ⟨s, rfl, e1, e2, pWs es⟩
theorem misR {b : Int32} (hI : MInv q P n K FR FI AI AL) (hb : isRv P b = true) : ∃ s, gW P = some s ∧ b = nI b.toNatClampNeg ∧ b.toNatClampNeg < wNR s.1 ∧ b.toNatClampNeg < 3 ∧ (pW P = s.1 ∧ pHs P = s.2.1.1 ∧ pM P = s.2.1.2.1 ∧ pE P = s.2.1) := by
  have hb' : 0 ≤ b ∧ b < nI (wNR (pW P)) := by simpa [isRv] using hb
  cases es : gW P with
  | none => rw [(pWn es).1] at hb'; exact absurd hb' no_rng
  | some s =>
    obtain ⟨a, hO, -⟩ := hI.mo es
    have h4 := hO.1.2.2.1.2.2.2.2.1
    rw [(pWs es).1] at hb'
    obtain ⟨e1, e2⟩ := rng_of (by omega) hb'
    exact ⟨s, rfl, e1, e2, by omega, pWs es⟩
theorem misW {b : Int32} (hI : MInv q P n K FR FI AI AL) (hb : isWo P b = true) : ∃ s, gW P = some s ∧ b = nI b.toNatClampNeg ∧ b.toNatClampNeg < wNW s.1 ∧ (pW P = s.1 ∧ pHs P = s.2.1.1 ∧ pM P = s.2.1.2.1 ∧ pE P = s.2.1) := by
  have hb' : 0 ≤ b ∧ b < nI (wNW (pW P)) := by simpa [isWo] using hb
  cases es : gW P with
  | none => rw [(pWn es).1] at hb'; exact absurd hb' no_rng
  | some s =>
    obtain ⟨a, hO, -⟩ := hI.mo es
    have h4 := hO.1.2.2.1.2.2.2.2.2.1
    rw [(pWs es).1] at hb'
    obtain ⟨e1, e2⟩ := rng_of (by omega) hb'
    exact ⟨s, rfl, e1, e2, pWs es⟩
theorem misH {b : Int32} (hI : MInv q P n K FR FI AI AL) (hb : isHg P b = true) : ∃ s, gW P = some s ∧ b = nI b.toNatClampNeg ∧ b.toNatClampNeg < s.2.1.2.1 ∧ (pW P = s.1 ∧ pHs P = s.2.1.1 ∧ pM P = s.2.1.2.1 ∧ pE P = s.2.1) := by
  have hb' : 0 ≤ b ∧ b < nI (pM P) := by simpa [isHg] using hb
  cases es : gW P with
  | none => rw [(pWn es).2] at hb'; exact absurd hb' no_rng
  | some s =>
    obtain ⟨a, hO, -⟩ := hI.mo es
    have h4 := hO.mh.2.1
    rw [(pWs es).2.2.1] at hb'
    obtain ⟨e1, e2⟩ := rng_of (by omega) hb'
    exact ⟨s, rfl, e1, e2, pWs es⟩
theorem MO.k (hO : MO K FR FI AI AL q a w hs m) : K q = (1, 10) := hO.1.1.1
theorem MO.ok (hO : MO K FR FI AI AL q a w hs m) : wOK w := hO.1.2.2.1
theorem MO.c32 (hO : MO K FR FI AI AL q a w hs m) : wW w * wH w ≤ 32 := Nat.mul_le_mul hO.ok.1.2 hO.ok.2.1.2
theorem c_mOcells (hO : MO K FR FI AI AL q a w hs m) (hQ : Q (some (.int (nI (wW w * wH w)))) (n, K, FI, FL, FR, AI, AL, AR)) : EV sa (d + 1) 215 [.ref q] (n, K, FI, FL, FR, AI, AL, AR) Q := by
  obtain ⟨w1, w2, -⟩ := hO.1.2.2.2.1.1
  refine n215 hO.k ?_
  simp only [e215_0, e215_1, e215_4, e215_7, e215_8, e215_11, e215_14, e215_15, hO.k, hO.2.1, rf_some, hO.1.2.1.1, w1, w2, pk_mul, true_and]
  exact hQ
theorem c_misOn (hO : MO K FR FI AI AL q a w hs m) {b : Nat} (hb : b < wNB w) {x y : Int32} (hQ : Q (some (.int (bI (decide ((0 ≤ x ∧ x ≤ nI (wW w - wBW w b)) ∧ (0 ≤ y ∧ y ≤ nI (wH w - wBH w b))))))) (n, K, FI, FL, FR, AI, AL, AR)) : EV sa (d + 2) 212 [.ref q, .int (nI b), .int x, .int y] (n, K, FI, FL, FR, AI, AL, AR) Q := by
  obtain ⟨w1, w2, -⟩ := hO.1.2.2.2.1.1
  obtain ⟨ka, -, ⟨g2, ka2⟩, ⟨g3, ka3⟩, -⟩ := hO.1.2.1
  have hw := hO.ok
  have hn4 := hw.2.2.2.1
  have bin : vp_in (nI b) 4 := vp_in_nI (by omega) (by decide)
  have bcl : (nI b).toNatClampNeg = b := nI_clamp (by omega)
  obtain ⟨-, m2, m3, -⟩ := hO.1.2.2.2.1.2.1 b hb
  obtain ⟨-, b2, b3, -⟩ := hw.2.2.2.2.2.2.1 b hb
  refine n212 hO.k ?_
  simp only [e212_0, e212_1, e212_2, e212_3, e212_6, e212_9, e212_10, e212_13, e212_16, e212_17, e212_18, e212_19, e212_22, e212_25, e212_26, e212_27, e212_28, e212_31, e212_34, e212_35, e212_38, e212_41, e212_42, e212_43, e212_44, e212_47, e212_50, e212_51, e212_54, e212_55, hO.k, hO.2.1, rf_some, ka, g2, ka2, w1, bin, bcl, m2, pk_sub b2.2, true_and, true_or, or_true]
  refine ⟨by simp, c_min ?_⟩
  simp only [tl_some, e212_0, e212_1, e212_2, e212_3, e212_6, e212_9, e212_10, e212_13, e212_16, e212_17, e212_18, e212_19, e212_22, e212_25, e212_26, e212_27, e212_28, e212_31, e212_34, e212_35, e212_38, e212_41, e212_42, e212_43, e212_44, e212_47, e212_50, e212_51, e212_54, e212_55, hO.k, hO.2.1, rf_some, ka, g3, ka3, w2, bin, bcl, m3, pk_sub b3.2, bI_eq0, true_and, true_or, or_true]
  refine ⟨fun z => ?_, fun z => ⟨by simp, c_min ?_⟩⟩
  · rw [decide_eq_false (fun y => by rw [decide_eq_false_iff_not] at z; exact z y.1)] at hQ; exact hQ
  · simp only [tl_some, e212_0, e212_1, e212_2, e212_3, e212_6, e212_9, e212_10, e212_13, e212_16, e212_17, e212_18, e212_19, e212_22, e212_25, e212_26, e212_27, e212_28, e212_31, e212_34, e212_35, e212_38, e212_41, e212_42, e212_43, e212_44, e212_47, e212_50, e212_51, e212_54, e212_55, bI_eq0, true_and, true_or, or_true]
    have z' := ts_nf z
    rw [decide_eq_true_eq] at z'
    refine ⟨fun z2 => ?_, fun z2 => ?_⟩
    · rw [decide_eq_false (fun y => by rw [decide_eq_false_iff_not] at z2; exact z2 y.2)] at hQ; exact hQ
    · have z2' := ts_nf z2
      rw [decide_eq_true_eq] at z2'
      rw [decide_eq_true ⟨z', z2'⟩] at hQ; exact hQ
theorem nI0_le {x : Nat} (h : x < 2 ^ 31) : (0 : Int32) ≤ nI x := Int32.not_lt.mp (nI_pos h)
theorem c_misOnAt (hO : MO K FR FI AI AL q a w hs m) {b c : Nat} (hb : b < wNB w) (hc : c < 32) (hQ : Q (some (.int (bI (onAt w b c)))) (n, K, FI, FL, FR, AI, AL, AR)) : EV sa (d + 3) 214 [.ref q, .int (nI b), .int (nI c)] (n, K, FI, FL, FR, AI, AL, AR) Q := by
  obtain ⟨w1, -⟩ := hO.1.2.2.2.1.1
  have hw := hO.ok
  have hW := hw.1
  have hH := hw.2.1
  obtain ⟨-, b2, b3, -⟩ := hw.2.2.2.2.2.2.1 b hb
  have nW : ¬ nI (wW w) = 0 := nI_ne0 (by omega) (by omega)
  have hx : c % wW w < wW w := Nat.mod_lt _ (by omega)
  have hy : c / wW w ≤ c := Nat.div_le_self _ _
  refine n214 hO.k ?_
  simp only [e214_0, e214_1, e214_2, e214_3, e214_4, e214_7, e214_10, e214_11, e214_12, e214_13, e214_16, e214_19, e214_20, e214_23, hO.k, hO.2.1, rf_some, hO.1.2.1.1, w1, nW, pk_div (show c < 2 ^ 31 by omega) (show 0 < wW w by omega) (show wW w < 2 ^ 31 by omega), rem_m1, rem_m2, not_false_eq_true, true_and]
  refine ⟨by simp, c_misOn hO hb ?_⟩
  have e : decide ((0 ≤ nI (c % wW w) ∧ nI (c % wW w) ≤ nI (wW w - wBW w b)) ∧ (0 ≤ nI (c / wW w) ∧ nI (c / wW w) ≤ nI (wH w - wBH w b))) = onAt w b c := by
    unfold onAt
    rw [decide_eq_decide, nI_leI (by omega) (by omega), nI_leI (by omega) (by omega)]
    constructor
    · rintro ⟨⟨-, h1⟩, ⟨-, h2⟩⟩
      omega
    · rintro ⟨h1, h2⟩
      exact ⟨⟨nI0_le (by omega), by omega⟩, ⟨nI0_le (by omega), by omega⟩⟩
  rw [e]
  simp only [tl_some, e214_0, e214_1, e214_2, e214_3, e214_4, e214_7, e214_10, e214_11, e214_12, e214_13, e214_16, e214_19, e214_20, e214_23]
  exact ⟨bI_01 _, hQ⟩
theorem onAt_on {b c : Nat} (hb : b < wNB w) (h : onAt w b c = true) : onW w b (c % wW w) (c / wW w) := by
  unfold onAt at h
  rw [decide_eq_true_eq] at h
  exact ⟨hb, h.1, h.2⟩
theorem c_mmayAt (hO : MO K FR FI AI AL q a w hs m) {b c : Nat} (hb : b < wNB w) (hc : c < 32) (hon : onAt w b c = true) (hQ : ∀ (AI' : Nat → Nat → Int32) (AL' : Nat → Nat → Int64), MO K FR FI AI' AL' q a w hs m → MX q (a + 13) AI AI' AL AL' → Q (some (.int (bI (mayAt w hs m b c)))) (n, K, FI, FL, FR, AI', AL', AR)) : EV sa (d + 7) 213 [.ref q, .int (nI b), .int (nI c)] (n, K, FI, FL, FR, AI, AL, AR) Q := by
  obtain ⟨w1, -⟩ := hO.1.2.2.2.1.1
  have hw := hO.ok
  have hW := hw.1
  have nW : ¬ nI (wW w) = 0 := nI_ne0 (by omega) (by omega)
  refine n213 hO.k ?_
  simp only [e213_0, e213_1, e213_2, e213_5, e213_6, e213_9, e213_10, e213_11, e213_12, e213_15, e213_18, e213_19, e213_20, e213_21, e213_24, e213_27, e213_28, e213_31, hO.k, hO.2.1, hO.2.2, rf_some, hO.1.2.1.1, w1, nW, pk_div (show c < 2 ^ 31 by omega) (show 0 < wW w by omega) (show wW w < 2 ^ 31 by omega), rem_m1, rem_m2, not_false_eq_true, true_and]
  refine ⟨by simp, c_mmayGo hO.1 (onAt_on hb hon) fun A L h1 h2 => ?_⟩
  have := hQ A L (hO.ofX h1) h2
  unfold mayAt at this
  rw [hon, Bool.true_and] at this
  simp only [tl_some, e213_0, e213_1, e213_2, e213_5, e213_6, e213_9, e213_10, e213_11, e213_12, e213_15, e213_18, e213_19, e213_20, e213_21, e213_24, e213_27, e213_28, e213_31]
  exact ⟨bI_01 _, this⟩
theorem mayAt_no {b c : Nat} (h : onAt w b c = false) : mayAt w hs m b c = false := by unfold mayAt; rw [h, Bool.false_and]
theorem couldAt_no {b c k : Nat} {hang : Bool} (h : onAt w b c = false) : couldAt w hs m b c k hang = false := by unfold couldAt; rw [h, Bool.false_and]
/-- a question about places -/
theorem c_m_places (hV : InvM q P (n, K, FI, FL, FR, AI, AL, AR)) {b : Int32} (hQ : ∀ μ', InvM q (rs P (sp_places P b)) μ' → FrM q (n, K, FI, FL, FR, AI, AL, AR) μ' → Q (some (.int (rv (sp_places P b)))) μ') : EV sa (d + 8) 227 [.ref q, .int b] (n, K, FI, FL, FR, AI, AL, AR) Q := by
  have hI0 : MInv q P n K FR FI AI AL := hV
  have k0 := hI0.1.1
  refine n227 k0 ?_
  simp only [e227_0, e227_1, e227_2, e227_5, e227_6, e227_7, e227_10, e227_13, e227_14, e227_15, e227_18, e227_19, e227_20, e227_21, e227_22, e227_24, e227_25, e227_28, e227_31, e227_32, e227_33, e227_34, e227_35, e227_38, e227_41, e227_42, e227_43, e227_44, e227_47, e227_50, e227_51, e227_54, e227_55, e227_56, e227_57, e227_60, e227_63, e227_64, e227_65, e227_68, k0, true_and]
  have hI := hI0.th (v := 0)
  have hF : FrM q (n, K, FI, FL, FR, AI, AL, AR) (n, K, mj_u2 FI 640 q 0, FL, FR, AI, AL, AR) := FrM.f
  generalize mj_u2 FI 640 q 0 = F at hI hF ⊢
  refine ⟨by simp, c_misBill hI ?_⟩
  simp only [tl_some, e227_0, e227_1, e227_2, e227_5, e227_6, e227_7, e227_10, e227_13, e227_14, e227_15, e227_18, e227_19, e227_20, e227_21, e227_22, e227_24, e227_25, e227_28, e227_31, e227_32, e227_33, e227_34, e227_35, e227_38, e227_41, e227_42, e227_43, e227_44, e227_47, e227_50, e227_51, e227_54, e227_55, e227_56, e227_57, e227_60, e227_63, e227_64, e227_65, e227_68, bI_eq0, mj_kl]
  refine ⟨fun z => ?_, fun z => ⟨by simp, c_mrefused k0 ?_⟩⟩
  · obtain ⟨s, es, eb, hb, p1, p2, p3, p4⟩ := misB hI (ts_nf z)
    obtain ⟨a, hO, ha1, ha2⟩ := hI.mo es
    have h32 := hO.c32
    generalize hbb : b.toNatClampNeg = B at *
    subst eb
    have loop : ∀ rr c, c + rr = wW s.1 * wH s.1 → ∀ (A : Nat → Nat → Int32) (L : Nat → Nat → Int64), MO K FR F A L q a s.1 s.2.1.1 s.2.1.2.1 → MX q (a + 13) AI A AL L → WP sa (EV sa (d + 7)) 227 Q 0 0 23 [.ref q, .int (nI B), .int (nI (ct (fun c => mayAt s.1 s.2.1.1 s.2.1.2.1 B c) c)), .int (nI c)] [] (n, K, F, FL, FR, A, L, AR) := by
      intro rr
      induction rr with
      | zero =>
        intro c hc A L hA hX
        have hc' : c = wW s.1 * wH s.1 := by omega
        subst hc'
        rw [e227_23]
        simp only [e227_0, e227_1, e227_2, e227_5, e227_6, e227_7, e227_10, e227_13, e227_14, e227_15, e227_18, e227_19, e227_20, e227_21, e227_22, e227_24, e227_25, e227_28, e227_31, e227_32, e227_33, e227_34, e227_35, e227_38, e227_41, e227_42, e227_43, e227_44, e227_47, e227_50, e227_51, e227_54, e227_55, e227_56, e227_57, e227_60, e227_63, e227_64, e227_65, e227_68]
        refine ⟨by simp, c_mOcells hA ?_⟩
        simp only [tl_some, e227_0, e227_1, e227_2, e227_5, e227_6, e227_7, e227_10, e227_13, e227_14, e227_15, e227_18, e227_19, e227_20, e227_21, e227_22, e227_24, e227_25, e227_28, e227_31, e227_32, e227_33, e227_34, e227_35, e227_38, e227_41, e227_42, e227_43, e227_44, e227_47, e227_50, e227_51, e227_54, e227_55, e227_56, e227_57, e227_60, e227_63, e227_64, e227_65, e227_68]
        refine ⟨fun _ => ⟨by simp, c_mgood k0 ?_⟩, fun z => absurd (nI_le (Nat.le_refl _) (by omega)) z⟩
        simp only [tl_some, e227_0, e227_1, e227_2, e227_5, e227_6, e227_7, e227_10, e227_13, e227_14, e227_15, e227_18, e227_19, e227_20, e227_21, e227_22, e227_24, e227_25, e227_28, e227_31, e227_32, e227_33, e227_34, e227_35, e227_38, e227_41, e227_42, e227_43, e227_44, e227_47, e227_50, e227_51, e227_54, e227_55, e227_56, e227_57, e227_60, e227_63, e227_64, e227_65, e227_68]
        exact mansQ (hI.qq es hO.2.1 hX.toMQ hA.mh) (hF.trans (hX.toMQ.frm ha1)) hQ (by unfold sp_places; rw [if_pos (ts_nf z), p1, p2, p3, hbb])
      | succ rr ih =>
        intro c hc A L hA hX
        have nx := ih (c + 1) (by omega)
        rw [ct_top] at nx
        rw [e227_23]
        simp only [e227_0, e227_1, e227_2, e227_5, e227_6, e227_7, e227_10, e227_13, e227_14, e227_15, e227_18, e227_19, e227_20, e227_21, e227_22, e227_24, e227_25, e227_28, e227_31, e227_32, e227_33, e227_34, e227_35, e227_38, e227_41, e227_42, e227_43, e227_44, e227_47, e227_50, e227_51, e227_54, e227_55, e227_56, e227_57, e227_60, e227_63, e227_64, e227_65, e227_68]
        refine ⟨by simp, c_mOcells hA ?_⟩
        simp only [tl_some, e227_0, e227_1, e227_2, e227_5, e227_6, e227_7, e227_10, e227_13, e227_14, e227_15, e227_18, e227_19, e227_20, e227_21, e227_22, e227_24, e227_25, e227_28, e227_31, e227_32, e227_33, e227_34, e227_35, e227_38, e227_41, e227_42, e227_43, e227_44, e227_47, e227_50, e227_51, e227_54, e227_55, e227_56, e227_57, e227_60, e227_63, e227_64, e227_65, e227_68]
        refine ⟨fun z => absurd z (nI_ge (by omega) (by omega)), fun _ => ⟨by simp, c_misOnAt hA hb (by omega) ?_⟩⟩
        simp only [tl_some, e227_0, e227_1, e227_2, e227_5, e227_6, e227_7, e227_10, e227_13, e227_14, e227_15, e227_18, e227_19, e227_20, e227_21, e227_22, e227_24, e227_25, e227_28, e227_31, e227_32, e227_33, e227_34, e227_35, e227_38, e227_41, e227_42, e227_43, e227_44, e227_47, e227_50, e227_51, e227_54, e227_55, e227_56, e227_57, e227_60, e227_63, e227_64, e227_65, e227_68, bI_eq0, nI_1, mj_kl]
        refine ⟨fun z => ?_, fun z => ⟨by simp, c_mmayAt hA hb (by omega) (ts_nf z) fun A2 L2 g1 g2 => ?_⟩⟩
        · have := nx A L hA hX
          simpa [mayAt_no z] using this
        · have := nx A2 L2 g1 (hX.trans g2)
          simp only [tl_some, e227_0, e227_1, e227_2, e227_5, e227_6, e227_7, e227_10, e227_13, e227_14, e227_15, e227_18, e227_19, e227_20, e227_21, e227_22, e227_24, e227_25, e227_28, e227_31, e227_32, e227_33, e227_34, e227_35, e227_38, e227_41, e227_42, e227_43, e227_44, e227_47, e227_50, e227_51, e227_54, e227_55, e227_56, e227_57, e227_60, e227_63, e227_64, e227_65, e227_68, bI_eq0, nI_1, mj_kl]
          refine ⟨fun z => ?_, fun z => ?_⟩
          · simpa [z] using this
          · simpa [ts_nf z] using this
    have := loop (wW s.1 * wH s.1) 0 (by omega) AI AL hO MX.rfl'
    simpa [nI_0, ct, mj_u, mj_kl] using this
  · simp only [tl_some, e227_0, e227_1, e227_2, e227_5, e227_6, e227_7, e227_10, e227_13, e227_14, e227_15, e227_18, e227_19, e227_20, e227_21, e227_22, e227_24, e227_25, e227_28, e227_31, e227_32, e227_33, e227_34, e227_35, e227_38, e227_41, e227_42, e227_43, e227_44, e227_47, e227_50, e227_51, e227_54, e227_55, e227_56, e227_57, e227_60, e227_63, e227_64, e227_65, e227_68]
    exact mrefQ hI hF hQ (k := 1) (by decide) (by unfold sp_places; rw [if_neg (by simpa using z)])
theorem c_m_place (hV : InvM q P (n, K, FI, FL, FR, AI, AL, AR)) {b i : Int32} (hQ : ∀ μ', InvM q (rs P (sp_place P b i)) μ' → FrM q (n, K, FI, FL, FR, AI, AL, AR) μ' → Q (some (.int (rv (sp_place P b i)))) μ') : EV sa (d + 8) 228 [.ref q, .int b, .int i] (n, K, FI, FL, FR, AI, AL, AR) Q := by
  have hI0 : MInv q P n K FR FI AI AL := hV
  have k0 := hI0.1.1
  refine n228 k0 ?_
  simp only [e228_0, e228_1, e228_2, e228_5, e228_6, e228_7, e228_8, e228_11, e228_12, e228_15, e228_18, e228_20, e228_21, e228_24, e228_27, e228_28, e228_29, e228_31, e228_34, e228_37, e228_38, e228_39, e228_41, e228_44, e228_47, e228_50, e228_51, e228_52, e228_55, e228_56, e228_58, e228_61, e228_62, e228_65, e228_68, e228_71, e228_72, e228_73, e228_76, k0, true_and]
  have hI := hI0.th (v := 0)
  have hF : FrM q (n, K, FI, FL, FR, AI, AL, AR) (n, K, mj_u2 FI 640 q 0, FL, FR, AI, AL, AR) := FrM.f
  generalize mj_u2 FI 640 q 0 = F at hI hF ⊢
  by_cases hb1 : isB P b = true
  · obtain ⟨s, es, eb, hb, p1, p2, p3, p4⟩ := misB hI hb1
    obtain ⟨a, hO, ha1, ha2⟩ := hI.mo es
    have h32 := hO.c32
    generalize hbb : b.toNatClampNeg = B at *
    subst eb
    generalize hp : (fun c => mayAt s.1 s.2.1.1 s.2.1.2.1 B c) = p
    have hp' : ∀ c, mayAt s.1 s.2.1.1 s.2.1.2.1 B c = p c := fun c => by rw [← hp]
    have esp : sp_place P (nI B) i = (match fnd (fun c => p c && decide (i = nI (ct p c))) (wW s.1 * wH s.1) with
      | none => .inl 1
      | some c => .inr (nI c)) := by
      unfold sp_place
      rw [if_pos hb1, p1, p2, p3, hbb, hp]
      simp only [hp']
      cases fnd (fun c => p c && decide (i = nI (ct p c))) (wW s.1 * wH s.1) <;> rfl
    have loop : ∀ rr c, c + rr = wW s.1 * wH s.1 → fnd (fun c => p c && decide (i = nI (ct p c))) c = none → ∀ (A : Nat → Nat → Int32) (L : Nat → Nat → Int64), MO K FR F A L q a s.1 s.2.1.1 s.2.1.2.1 → MX q (a + 13) AI A AL L → WP sa (EV sa (d + 7)) 228 Q 0 0 10 [.ref q, .int (nI B), .int i, .int (nI (ct p c)), .int (nI c)] [] (n, K, F, FL, FR, A, L, AR) := by
      intro rr
      induction rr with
      | zero =>
        intro c hc hf A L hA hX
        have hc' : c = wW s.1 * wH s.1 := by omega
        subst hc'
        have hIA := hI.qq es hO.2.1 hX.toMQ hA.mh
        rw [e228_10]
        simp only [e228_0, e228_1, e228_2, e228_5, e228_6, e228_7, e228_8, e228_11, e228_12, e228_15, e228_18, e228_20, e228_21, e228_24, e228_27, e228_28, e228_29, e228_31, e228_34, e228_37, e228_38, e228_39, e228_41, e228_44, e228_47, e228_50, e228_51, e228_52, e228_55, e228_56, e228_58, e228_61, e228_62, e228_65, e228_68, e228_71, e228_72, e228_73, e228_76]
        refine ⟨by simp, c_misBill hIA ?_⟩
        simp only [tl_some, e228_0, e228_1, e228_2, e228_5, e228_6, e228_7, e228_8, e228_11, e228_12, e228_15, e228_18, e228_20, e228_21, e228_24, e228_27, e228_28, e228_29, e228_31, e228_34, e228_37, e228_38, e228_39, e228_41, e228_44, e228_47, e228_50, e228_51, e228_52, e228_55, e228_56, e228_58, e228_61, e228_62, e228_65, e228_68, e228_71, e228_72, e228_73, e228_76, bI_eq0, hb1]
        refine ⟨fun z => by simp at z, fun _ => ⟨by simp, c_mOcells hA ?_⟩⟩
        simp only [tl_some, e228_0, e228_1, e228_2, e228_5, e228_6, e228_7, e228_8, e228_11, e228_12, e228_15, e228_18, e228_20, e228_21, e228_24, e228_27, e228_28, e228_29, e228_31, e228_34, e228_37, e228_38, e228_39, e228_41, e228_44, e228_47, e228_50, e228_51, e228_52, e228_55, e228_56, e228_58, e228_61, e228_62, e228_65, e228_68, e228_71, e228_72, e228_73, e228_76]
        refine ⟨fun _ => ⟨by simp, c_mrefused k0 ?_⟩, fun z => absurd (nI_le (Nat.le_refl _) (by omega)) z⟩
        simp only [tl_some, e228_0, e228_1, e228_2, e228_5, e228_6, e228_7, e228_8, e228_11, e228_12, e228_15, e228_18, e228_20, e228_21, e228_24, e228_27, e228_28, e228_29, e228_31, e228_34, e228_37, e228_38, e228_39, e228_41, e228_44, e228_47, e228_50, e228_51, e228_52, e228_55, e228_56, e228_58, e228_61, e228_62, e228_65, e228_68, e228_71, e228_72, e228_73, e228_76]
        exact mrefQ hIA (hF.trans (hX.toMQ.frm ha1)) hQ (k := 1) (by decide) (by rw [esp, hf])
      | succ rr ih =>
        intro c hc hf A L hA hX
        have nx := ih (c + 1) (by omega)
        have cle := ct_le p c
        rw [ct_top] at nx
        have hIA := hI.qq es hO.2.1 hX.toMQ hA.mh
        rw [e228_10]
        simp only [e228_0, e228_1, e228_2, e228_5, e228_6, e228_7, e228_8, e228_11, e228_12, e228_15, e228_18, e228_20, e228_21, e228_24, e228_27, e228_28, e228_29, e228_31, e228_34, e228_37, e228_38, e228_39, e228_41, e228_44, e228_47, e228_50, e228_51, e228_52, e228_55, e228_56, e228_58, e228_61, e228_62, e228_65, e228_68, e228_71, e228_72, e228_73, e228_76]
        refine ⟨by simp, c_misBill hIA ?_⟩
        simp only [tl_some, e228_0, e228_1, e228_2, e228_5, e228_6, e228_7, e228_8, e228_11, e228_12, e228_15, e228_18, e228_20, e228_21, e228_24, e228_27, e228_28, e228_29, e228_31, e228_34, e228_37, e228_38, e228_39, e228_41, e228_44, e228_47, e228_50, e228_51, e228_52, e228_55, e228_56, e228_58, e228_61, e228_62, e228_65, e228_68, e228_71, e228_72, e228_73, e228_76, bI_eq0, hb1]
        refine ⟨fun z => by simp at z, fun _ => ⟨by simp, c_mOcells hA ?_⟩⟩
        simp only [tl_some, e228_0, e228_1, e228_2, e228_5, e228_6, e228_7, e228_8, e228_11, e228_12, e228_15, e228_18, e228_20, e228_21, e228_24, e228_27, e228_28, e228_29, e228_31, e228_34, e228_37, e228_38, e228_39, e228_41, e228_44, e228_47, e228_50, e228_51, e228_52, e228_55, e228_56, e228_58, e228_61, e228_62, e228_65, e228_68, e228_71, e228_72, e228_73, e228_76]
        refine ⟨fun z => absurd z (nI_ge (by omega) (by omega)), fun _ => ⟨by simp, c_misOnAt hA hb (by omega) ?_⟩⟩
        simp only [tl_some, e228_0, e228_1, e228_2, e228_5, e228_6, e228_7, e228_8, e228_11, e228_12, e228_15, e228_18, e228_20, e228_21, e228_24, e228_27, e228_28, e228_29, e228_31, e228_34, e228_37, e228_38, e228_39, e228_41, e228_44, e228_47, e228_50, e228_51, e228_52, e228_55, e228_56, e228_58, e228_61, e228_62, e228_65, e228_68, e228_71, e228_72, e228_73, e228_76, bI_eq0, nI_1, mj_kl]
        refine ⟨fun z => ?_, fun z => ⟨by simp, c_mmayAt hA hb (by omega) (ts_nf z) fun A2 L2 g1 g2 => ?_⟩⟩
        · have z' : p c = false := by rw [← hp']; exact mayAt_no z
          have := nx (fnd_no hf (by simp [z'])) A L hA hX
          simpa [z'] using this
        · rw [hp']
          simp only [tl_some, e228_0, e228_1, e228_2, e228_5, e228_6, e228_7, e228_8, e228_11, e228_12, e228_15, e228_18, e228_20, e228_21, e228_24, e228_27, e228_28, e228_29, e228_31, e228_34, e228_37, e228_38, e228_39, e228_41, e228_44, e228_47, e228_50, e228_51, e228_52, e228_55, e228_56, e228_58, e228_61, e228_62, e228_65, e228_68, e228_71, e228_72, e228_73, e228_76, bI_eq0, nI_1, mj_kl]
          refine ⟨fun z => ⟨fun z2 => ?_, fun z2 => ⟨by simp, c_mgood k0 ?_⟩⟩, fun z => ?_⟩
          · have z' := ts_nf z
            have z3 : ¬ i = nI (ct p c) := fun e => z2 e.symm
            have := nx (fnd_no hf (by simp [z3])) A2 L2 g1 (hX.trans g2)
            simpa [z'] using this
          · have z' := ts_nf z
            have z3 : i = nI (ct p c) := (Classical.not_not.mp z2).symm
            simp only [tl_some, e228_0, e228_1, e228_2, e228_5, e228_6, e228_7, e228_8, e228_11, e228_12, e228_15, e228_18, e228_20, e228_21, e228_24, e228_27, e228_28, e228_29, e228_31, e228_34, e228_37, e228_38, e228_39, e228_41, e228_44, e228_47, e228_50, e228_51, e228_52, e228_55, e228_56, e228_58, e228_61, e228_62, e228_65, e228_68, e228_71, e228_72, e228_73, e228_76]
            have hXX := (hX.trans g2).toMQ (FI := F)
            exact mansQ (hI.qq es hO.2.1 hXX g1.mh) (hF.trans (hXX.frm ha1)) hQ (by rw [esp, fnd_yes hf (by simp [z', ← z3]) (by omega)])
          · have z' : p c = false := by simpa using z
            have := nx (fnd_no hf (by simp [z'])) A2 L2 g1 (hX.trans g2)
            simpa [z'] using this
    have := loop (wW s.1 * wH s.1) 0 (by omega) rfl AI AL hO MX.rfl'
    simpa [nI_0, ct, mj_u, mj_kl] using this
  · have hb2 : isB P b = false := by simpa using hb1
    simp only [mj_kl]
    have go : WP sa (EV sa (d + 7)) 228 Q 0 0 10 [.ref q, .int b, .int i, .int 0, .int 0] [] (n, K, F, FL, FR, AI, AL, AR) := by
      rw [e228_10]
      simp only [e228_0, e228_1, e228_2, e228_5, e228_6, e228_7, e228_8, e228_11, e228_12, e228_15, e228_18, e228_20, e228_21, e228_24, e228_27, e228_28, e228_29, e228_31, e228_34, e228_37, e228_38, e228_39, e228_41, e228_44, e228_47, e228_50, e228_51, e228_52, e228_55, e228_56, e228_58, e228_61, e228_62, e228_65, e228_68, e228_71, e228_72, e228_73, e228_76]
      refine ⟨by simp, c_misBill hI ?_⟩
      simp only [tl_some, e228_0, e228_1, e228_2, e228_5, e228_6, e228_7, e228_8, e228_11, e228_12, e228_15, e228_18, e228_20, e228_21, e228_24, e228_27, e228_28, e228_29, e228_31, e228_34, e228_37, e228_38, e228_39, e228_41, e228_44, e228_47, e228_50, e228_51, e228_52, e228_55, e228_56, e228_58, e228_61, e228_62, e228_65, e228_68, e228_71, e228_72, e228_73, e228_76, bI_eq0, hb2]
      refine ⟨fun _ => ⟨by simp, c_mrefused k0 ?_⟩, fun z => absurd trivial z⟩
      simp only [tl_some, e228_0, e228_1, e228_2, e228_5, e228_6, e228_7, e228_8, e228_11, e228_12, e228_15, e228_18, e228_20, e228_21, e228_24, e228_27, e228_28, e228_29, e228_31, e228_34, e228_37, e228_38, e228_39, e228_41, e228_44, e228_47, e228_50, e228_51, e228_52, e228_55, e228_56, e228_58, e228_61, e228_62, e228_65, e228_68, e228_71, e228_72, e228_73, e228_76]
      exact mrefQ hI hF hQ (k := 1) (by decide) (by unfold sp_place; rw [if_neg hb1])
    simpa [mj_u, mj_kl] using go
end
