theorem sCor_at {P : PG} {s : WS} {b u v : Int32} {c : Nat} (es : gW P = some s) (hw : wOK s.1) (hb : b.toNatClampNeg < wNB s.1) (h : sCor P b u v = some c) : u = nI (c % wW s.1) ∧ v = nI (c / wW s.1) ∧ onW s.1 b.toNatClampNeg (c % wW s.1) (c / wW s.1) ∧ c < wW s.1 * wH s.1 ∧ onAt s.1 b.toNatClampNeg c = true := by
  have p1 := (pW_some es).1
  obtain ⟨h1, h2⟩ := sCor_some h
  rw [p1] at h2
  have hl := (sCell_at es hw.1.2 hw.2.1.2 h1).2
  have hW := hw.1
  have hH := hw.2.1
  unfold sCell at h1
  rw [p1] at h1
  split at h1
  · next z =>
    obtain ⟨e1, l1⟩ := rng_of (b := u) (N := wW s.1) (by omega) ⟨z.1, z.2.1⟩
    obtain ⟨e2, l2⟩ := rng_of (b := v) (N := wH s.1) (by omega) ⟨z.2.2.1, z.2.2.2⟩
    have e3 : wW s.1 * v.toNatClampNeg + u.toNatClampNeg = c := Option.some.inj h1
    obtain ⟨x1, x2⟩ := cellxy (y := v.toNatClampNeg) l1
    rw [e3] at x1 x2
    exact ⟨by rw [x1]; exact e1, by rw [x2]; exact e2, onAt_on hb h2, hl, h2⟩
  · cases h1
theorem sCor_dec {P : PG} {s : WS} {b u v : Int32} (es : gW P = some s) (hw : wOK s.1) (hb : b.toNatClampNeg < wNB s.1) : (sCor P b u v).isSome = decide ((0 ≤ u ∧ u ≤ nI (wW s.1 - wBW s.1 b.toNatClampNeg)) ∧ (0 ≤ v ∧ v ≤ nI (wH s.1 - wBH s.1 b.toNatClampNeg))) := by
  have p1 := (pW_some es).1
  have hW := hw.1
  have hH := hw.2.1
  obtain ⟨-, b2, b3, -⟩ := hw.2.2.2.2.2.2.1 _ hb
  by_cases z : (0 ≤ u ∧ u ≤ nI (wW s.1 - wBW s.1 b.toNatClampNeg)) ∧ (0 ≤ v ∧ v ≤ nI (wH s.1 - wBH s.1 b.toNatClampNeg))
  · rw [decide_eq_true z]
    obtain ⟨⟨z1, z2⟩, z3, z4⟩ := z
    obtain ⟨x, hx, rfl⟩ := nI_of (Int32.not_lt.mpr z1)
    obtain ⟨y, hy, rfl⟩ := nI_of (Int32.not_lt.mpr z3)
    have l1 := (nI_leI hx (by omega)).mp z2
    have l2 := (nI_leI hy (by omega)).mp z4
    unfold sCor sCell
    rw [p1, if_pos ⟨z1, nI_lt (by omega) (by omega), z3, nI_lt (by omega) (by omega)⟩, nI_clamp hx, nI_clamp hy]
    obtain ⟨x1, x2⟩ := cellxy (y := y) (show x < wW s.1 by omega)
    have : onAt s.1 b.toNatClampNeg (wW s.1 * y + x) = true := by
      unfold onAt
      rw [x1, x2]
      exact decide_eq_true ⟨by omega, by omega⟩
    simp only [this, if_true, Option.isSome_some]
  · rw [decide_eq_false z]
    cases hc : sCor P b u v with
    | none => rfl
    | some c =>
      obtain ⟨e1, e2, ⟨-, o1, o2⟩, o3, -⟩ := sCor_at es hw hb hc
      exfalso
      apply z
      have : c / wW s.1 ≤ c := Nat.div_le_self _ _
      have h32 : wW s.1 * wH s.1 ≤ 32 := Nat.mul_le_mul hw.1.2 hw.2.1.2
      rw [e1, e2]
      exact ⟨⟨nI0_le (by omega), nI_le (by omega) (by omega)⟩, ⟨nI0_le (by omega), nI_le (by omega) (by omega)⟩⟩
section
variable {sa : Nat → Nat} {d n t h m : Nat} {Q : mj_Q} {K : Nat → Nat × Nat} {FI : Nat → Nat → Int32} {FL : Nat → Nat → Int64} {FR : Nat → Nat → Option Nat} {AI : Nat → Nat → Int32} {AL : Nat → Nat → Int64} {AR : Nat → Nat → Option Nat} {w : Wl} {hs : Nat → Hg}
variable {a u q : Nat} {P : PG}
def rpN (P : PG) (b u v : Int32) : Nat := if isB P b then (match sCor P b u v with
  | none => 2
  | some _ => 0) else 1
theorem c_mrefPlace (hI : MInv q P n K FR FI AI AL) {b x y : Int32} (hQ : Q (some (.int (nI (rpN P b x y)))) (n, K, FI, FL, FR, AI, AL, AR)) : EV sa (d + 3) 224 [.ref q, .int b, .int x, .int y] (n, K, FI, FL, FR, AI, AL, AR) Q := by
  have k0 := hI.1.1
  unfold rpN at hQ
  refine n224 k0 ?_
  simp only [e224_0, e224_1, e224_2, e224_5, e224_8, e224_9, e224_12, e224_13, e224_14, e224_15, e224_16, e224_19, e224_22, e224_23, e224_26, e224_27]
  refine ⟨by simp, c_misBill hI ?_⟩
  simp only [tl_some, e224_0, e224_1, e224_2, e224_5, e224_8, e224_9, e224_12, e224_13, e224_14, e224_15, e224_16, e224_19, e224_22, e224_23, e224_26, e224_27, bI_eq0]
  refine ⟨fun z => ⟨by simp, ?_⟩, fun z => ?_⟩
  · obtain ⟨s, es, eb, hb, p1, p2, p3, p4⟩ := misB hI (ts_nf z)
    obtain ⟨a, hO, ha1, ha2⟩ := hI.mo es
    have hd := sCor_dec (u := x) (v := y) es hO.ok hb
    rw [if_pos (ts_nf z)] at hQ
    rw [eb] at hd ⊢
    rw [eb] at hQ
    have cl : (nI b.toNatClampNeg).toNatClampNeg = b.toNatClampNeg := by rw [← eb]
    rw [cl] at hd
    refine c_misOn hO hb ?_
    rw [← hd]
    simp only [tl_some, e224_0, e224_1, e224_2, e224_5, e224_8, e224_9, e224_12, e224_13, e224_14, e224_15, e224_16, e224_19, e224_22, e224_23, e224_26, e224_27, bI_eq0]
    cases hc : sCor P (nI b.toNatClampNeg) x y with
    | none => rw [hc] at hQ; exact ⟨fun _ => hQ, fun z => absurd rfl z⟩
    | some c => rw [hc] at hQ; exact ⟨fun z => (by cases z), fun _ => hQ⟩
  · rw [if_neg (by simpa using z)] at hQ
    exact hQ
theorem c_m_on (hV : InvM q P (n, K, FI, FL, FR, AI, AL, AR)) {b x y : Int32} (hQ : ∀ μ', InvM q (rs P (sp_on P b x y)) μ' → FrM q (n, K, FI, FL, FR, AI, AL, AR) μ' → Q (some (.int (rv (sp_on P b x y)))) μ') : EV sa (d + 4) 225 [.ref q, .int b, .int x, .int y] (n, K, FI, FL, FR, AI, AL, AR) Q := by
  have hI0 : MInv q P n K FR FI AI AL := hV
  have k0 := hI0.1.1
  refine n225 k0 ?_
  simp only [e225_0, e225_1, e225_2, e225_5, e225_6, e225_7, e225_8, e225_9, e225_12, e225_14, e225_16, e225_19, e225_20, e225_22, e225_25, e225_28, e225_29, e225_30, e225_31, e225_34, e225_35, e225_38, e225_39, e225_40, e225_41, e225_42, e225_45, e225_48, e225_51, e225_54, k0, true_and]
  have hI := hI0.th (v := 0)
  have hF : FrM q (n, K, FI, FL, FR, AI, AL, AR) (n, K, mj_u2 FI 640 q 0, FL, FR, AI, AL, AR) := FrM.f
  generalize mj_u2 FI 640 q 0 = F at hI hF ⊢
  refine ⟨by simp, c_mrefPlace hI ?_⟩
  have esp : sp_on P b x y = (if isB P b then (match sCor P b x y with
    | none => .inl 2
    | some c => .inr (nI (lies (pW P) (pHs P) (pM P) b.toNatClampNeg (c % wW (pW P)) (c / wW (pW P)) (wB (pW P))))) else .inl 1) := rfl
  unfold rpN
  by_cases hb1 : isB P b = true
  · rw [if_pos hb1] at esp ⊢
    obtain ⟨s, es, eb, hb, p1, p2, p3, p4⟩ := misB hI hb1
    obtain ⟨a, hO, ha1, ha2⟩ := hI.mo es
    cases hc : sCor P b x y with
    | none =>
      rw [hc] at esp
      simp only [tl_some, e225_0, e225_1, e225_2, e225_5, e225_6, e225_7, e225_8, e225_9, e225_12, e225_14, e225_16, e225_19, e225_20, e225_22, e225_25, e225_28, e225_29, e225_30, e225_31, e225_34, e225_35, e225_38, e225_39, e225_40, e225_41, e225_42, e225_45, e225_48, e225_51, e225_54, mj_kl]
      refine ⟨fun z => absurd z (by decide), fun _ => ⟨by simp, c_mrefused k0 ?_⟩⟩
      simp only [tl_some, e225_0, e225_1, e225_2, e225_5, e225_6, e225_7, e225_8, e225_9, e225_12, e225_14, e225_16, e225_19, e225_20, e225_22, e225_25, e225_28, e225_29, e225_30, e225_31, e225_34, e225_35, e225_38, e225_39, e225_40, e225_41, e225_42, e225_45, e225_48, e225_51, e225_54]
      exact mrefQ hI hF hQ (k := 2) (by decide) esp
    | some c =>
      rw [hc] at esp
      obtain ⟨e1, e2, e3, e4, -⟩ := sCor_at es hO.ok hb hc
      generalize hbb : b.toNatClampNeg = B at *
      subst eb
      subst e1
      subst e2
      have w8 := hO.1.2.2.2.1.1.2.2.2.2.2.2.2
      simp only [tl_some, e225_0, e225_1, e225_2, e225_5, e225_6, e225_7, e225_8, e225_9, e225_12, e225_14, e225_16, e225_19, e225_20, e225_22, e225_25, e225_28, e225_29, e225_30, e225_31, e225_34, e225_35, e225_38, e225_39, e225_40, e225_41, e225_42, e225_45, e225_48, e225_51, e225_54, mj_kl, k0, hO.2.1, hO.2.2, hO.1.2.1.1, rf_some, w8, true_and]
      refine ⟨fun _ => ⟨by simp, c_mliesOn hO.1 e3 fun A g1 g2 => ?_⟩, fun z => absurd (by decide) z⟩
      simp only [tl_some, e225_0, e225_1, e225_2, e225_5, e225_6, e225_7, e225_8, e225_9, e225_12, e225_14, e225_16, e225_19, e225_20, e225_22, e225_25, e225_28, e225_29, e225_30, e225_31, e225_34, e225_35, e225_38, e225_39, e225_40, e225_41, e225_42, e225_45, e225_48, e225_51, e225_54]
      refine ⟨by simp, c_mgood k0 ?_⟩
      simp only [tl_some, e225_0, e225_1, e225_2, e225_5, e225_6, e225_7, e225_8, e225_9, e225_12, e225_14, e225_16, e225_19, e225_20, e225_22, e225_25, e225_28, e225_29, e225_30, e225_31, e225_34, e225_35, e225_38, e225_39, e225_40, e225_41, e225_42, e225_45, e225_48, e225_51, e225_54]
      exact mansQ (hI.qq es hO.2.1 g2.toMQ (hO.ofX g1).mh) (hF.trans (g2.toMQ.frm ha1)) hQ (by rw [esp, p1, p2, p3])
  · rw [if_neg hb1] at esp ⊢
    simp only [tl_some, e225_0, e225_1, e225_2, e225_5, e225_6, e225_7, e225_8, e225_9, e225_12, e225_14, e225_16, e225_19, e225_20, e225_22, e225_25, e225_28, e225_29, e225_30, e225_31, e225_34, e225_35, e225_38, e225_39, e225_40, e225_41, e225_42, e225_45, e225_48, e225_51, e225_54, mj_kl]
    refine ⟨fun z => absurd z (by decide), fun _ => ⟨by simp, c_mrefused k0 ?_⟩⟩
    simp only [tl_some, e225_0, e225_1, e225_2, e225_5, e225_6, e225_7, e225_8, e225_9, e225_12, e225_14, e225_16, e225_19, e225_20, e225_22, e225_25, e225_28, e225_29, e225_30, e225_31, e225_34, e225_35, e225_38, e225_39, e225_40, e225_41, e225_42, e225_45, e225_48, e225_51, e225_54]
    exact mrefQ hI hF hQ (k := 1) (by decide) esp
theorem c_m_may (hV : InvM q P (n, K, FI, FL, FR, AI, AL, AR)) {b x y : Int32} (hQ : ∀ μ', InvM q (rs P (sp_may P b x y)) μ' → FrM q (n, K, FI, FL, FR, AI, AL, AR) μ' → Q (some (.int (rv (sp_may P b x y)))) μ') : EV sa (d + 7) 226 [.ref q, .int b, .int x, .int y] (n, K, FI, FL, FR, AI, AL, AR) Q := by
  have hI0 : MInv q P n K FR FI AI AL := hV
  have k0 := hI0.1.1
  refine n226 k0 ?_
  simp only [e226_0, e226_1, e226_2, e226_5, e226_6, e226_7, e226_8, e226_9, e226_12, e226_14, e226_16, e226_19, e226_20, e226_22, e226_25, e226_28, e226_29, e226_30, e226_31, e226_34, e226_35, e226_38, e226_39, e226_40, e226_41, e226_44, e226_47, e226_48, e226_51, e226_52, e226_55, k0, true_and]
  have hI := hI0.th (v := 0)
  have hF : FrM q (n, K, FI, FL, FR, AI, AL, AR) (n, K, mj_u2 FI 640 q 0, FL, FR, AI, AL, AR) := FrM.f
  generalize mj_u2 FI 640 q 0 = F at hI hF ⊢
  refine ⟨by simp, c_mrefPlace hI ?_⟩
  have esp : sp_may P b x y = (if isB P b then (match sCor P b x y with
    | none => .inl 2
    | some c => .inr (bI (mayAt (pW P) (pHs P) (pM P) b.toNatClampNeg c))) else .inl 1) := rfl
  unfold rpN
  by_cases hb1 : isB P b = true
  · rw [if_pos hb1] at esp ⊢
    obtain ⟨s, es, eb, hb, p1, p2, p3, p4⟩ := misB hI hb1
    obtain ⟨a, hO, ha1, ha2⟩ := hI.mo es
    cases hc : sCor P b x y with
    | none =>
      rw [hc] at esp
      simp only [tl_some, e226_0, e226_1, e226_2, e226_5, e226_6, e226_7, e226_8, e226_9, e226_12, e226_14, e226_16, e226_19, e226_20, e226_22, e226_25, e226_28, e226_29, e226_30, e226_31, e226_34, e226_35, e226_38, e226_39, e226_40, e226_41, e226_44, e226_47, e226_48, e226_51, e226_52, e226_55, mj_kl]
      refine ⟨fun z => absurd z (by decide), fun _ => ⟨by simp, c_mrefused k0 ?_⟩⟩
      simp only [tl_some, e226_0, e226_1, e226_2, e226_5, e226_6, e226_7, e226_8, e226_9, e226_12, e226_14, e226_16, e226_19, e226_20, e226_22, e226_25, e226_28, e226_29, e226_30, e226_31, e226_34, e226_35, e226_38, e226_39, e226_40, e226_41, e226_44, e226_47, e226_48, e226_51, e226_52, e226_55]
      exact mrefQ hI hF hQ (k := 2) (by decide) esp
    | some c =>
      rw [hc] at esp
      obtain ⟨e1, e2, e3, e4, e5⟩ := sCor_at es hO.ok hb hc
      generalize hbb : b.toNatClampNeg = B at *
      subst eb
      subst e1
      subst e2
      simp only [tl_some, e226_0, e226_1, e226_2, e226_5, e226_6, e226_7, e226_8, e226_9, e226_12, e226_14, e226_16, e226_19, e226_20, e226_22, e226_25, e226_28, e226_29, e226_30, e226_31, e226_34, e226_35, e226_38, e226_39, e226_40, e226_41, e226_44, e226_47, e226_48, e226_51, e226_52, e226_55, mj_kl, k0, hO.2.1, hO.2.2, rf_some, true_and]
      refine ⟨fun _ => ⟨by simp, c_mmayGo hO.1 e3 fun A L g1 g2 => ?_⟩, fun z => absurd (by decide) z⟩
      have em : mayAt s.1 s.2.1.1 s.2.1.2.1 B c = may s.1 s.2.1.1 s.2.1.2.1 B (c % wW s.1) (c / wW s.1) := by unfold mayAt; rw [e5, Bool.true_and]
      have fin : ∀ bb, bb = may s.1 s.2.1.1 s.2.1.2.1 B (c % wW s.1) (c / wW s.1) → EV sa (d + 6) 165 [.ref q, .int (bI bb)] (n, K, F, FL, FR, A, L, AR) (fun v μ' => WP sa (EV sa (d + 6)) 226 Q 0 0 55 [.ref q, .int (nI B), .int (nI (c % wW s.1)), .int (nI (c / wW s.1)), .int (nI 0)] (v.toList ++ []) μ') := by
        rintro bb rfl
        refine c_mgood k0 ?_
        simp only [tl_some, e226_0, e226_1, e226_2, e226_5, e226_6, e226_7, e226_8, e226_9, e226_12, e226_14, e226_16, e226_19, e226_20, e226_22, e226_25, e226_28, e226_29, e226_30, e226_31, e226_34, e226_35, e226_38, e226_39, e226_40, e226_41, e226_44, e226_47, e226_48, e226_51, e226_52, e226_55]
        exact mansQ (hI.qq es hO.2.1 g2.toMQ (hO.ofX g1).mh) (hF.trans (g2.toMQ.frm ha1)) hQ (by rw [esp, p1, p2, p3, ← em])
      simp only [tl_some, e226_0, e226_1, e226_2, e226_5, e226_6, e226_7, e226_8, e226_9, e226_12, e226_14, e226_16, e226_19, e226_20, e226_22, e226_25, e226_28, e226_29, e226_30, e226_31, e226_34, e226_35, e226_38, e226_39, e226_40, e226_41, e226_44, e226_47, e226_48, e226_51, e226_52, e226_55, bI_eq0]
      exact ⟨fun z => ⟨by simp, fin false z.symm⟩, fun z => ⟨by simp, fin true (ts_nf z).symm⟩⟩
  · rw [if_neg hb1] at esp ⊢
    simp only [tl_some, e226_0, e226_1, e226_2, e226_5, e226_6, e226_7, e226_8, e226_9, e226_12, e226_14, e226_16, e226_19, e226_20, e226_22, e226_25, e226_28, e226_29, e226_30, e226_31, e226_34, e226_35, e226_38, e226_39, e226_40, e226_41, e226_44, e226_47, e226_48, e226_51, e226_52, e226_55, mj_kl]
    refine ⟨fun z => absurd z (by decide), fun _ => ⟨by simp, c_mrefused k0 ?_⟩⟩
    simp only [tl_some, e226_0, e226_1, e226_2, e226_5, e226_6, e226_7, e226_8, e226_9, e226_12, e226_14, e226_16, e226_19, e226_20, e226_22, e226_25, e226_28, e226_29, e226_30, e226_31, e226_34, e226_35, e226_38, e226_39, e226_40, e226_41, e226_44, e226_47, e226_48, e226_51, e226_52, e226_55]
    exact mrefQ hI hF hQ (k := 1) (by decide) esp
theorem c_m_reads (hV : InvM q P (n, K, FI, FL, FR, AI, AL, AR)) {v : Int32} (hQ : ∀ μ', InvM q (rs P (sp_reads P v)) μ' → FrM q (n, K, FI, FL, FR, AI, AL, AR) μ' → Q (some (.int (rv (sp_reads P v)))) μ') : EV sa (d + 4) 242 [.ref q, .int v] (n, K, FI, FL, FR, AI, AL, AR) Q := by
  have hI0 : MInv q P n K FR FI AI AL := hV
  have k0 := hI0.1.1
  refine n242 k0 ?_
  simp only [e242_0, e242_1, e242_2, e242_5, e242_6, e242_7, e242_10, e242_13, e242_14, e242_15, e242_18, e242_19, e242_20, e242_21, e242_24, e242_25, e242_28, e242_31, e242_32, e242_33, e242_34, e242_37, e242_38, e242_41, e242_42, e242_45, e242_48, k0, true_and]
  have hI := hI0.th (v := 0)
  have hF : FrM q (n, K, FI, FL, FR, AI, AL, AR) (n, K, mj_u2 FI 640 q 0, FL, FR, AI, AL, AR) := FrM.f
  generalize mj_u2 FI 640 q 0 = F at hI hF ⊢
  refine ⟨by simp, c_misTold hI ?_⟩
  simp only [tl_some, e242_0, e242_1, e242_2, e242_5, e242_6, e242_7, e242_10, e242_13, e242_14, e242_15, e242_18, e242_19, e242_20, e242_21, e242_24, e242_25, e242_28, e242_31, e242_32, e242_33, e242_34, e242_37, e242_38, e242_41, e242_42, e242_45, e242_48, bI_eq0]
  refine ⟨fun z => ?_, fun z => ⟨by simp, c_mrefused k0 ?_⟩⟩
  · obtain ⟨s, es, eb, hb, p1, p2, p3, p4⟩ := misW hI (ts_nf z)
    obtain ⟨a, hO, ha1, ha2⟩ := hI.mo es
    generalize hbb : v.toNatClampNeg = V at *
    subst eb
    simp only [e242_0, e242_1, e242_2, e242_5, e242_6, e242_7, e242_10, e242_13, e242_14, e242_15, e242_18, e242_19, e242_20, e242_21, e242_24, e242_25, e242_28, e242_31, e242_32, e242_33, e242_34, e242_37, e242_38, e242_41, e242_42, e242_45, e242_48, k0, hO.2.1, hO.2.2, rf_some, true_and]
    refine ⟨by simp, c_looks hO.1.1 hO.1.2.2.2.2.1 (by omega) hO.mh fun A t x' => ?_⟩
    have hX : MX q (a + 13) AI A AL AL := ⟨fun z z1 _ _ => x' z (by omega), fun j _ => by rw [x' _ (by omega)], fun _ _ => rfl⟩
    have hR' := hO.mh.fr (AL' := AL) (x' _ (by omega)) rfl
    simp only [tl_none, e242_0, e242_1, e242_2, e242_5, e242_6, e242_7, e242_10, e242_13, e242_14, e242_15, e242_18, e242_19, e242_20, e242_21, e242_24, e242_25, e242_28, e242_31, e242_32, e242_33, e242_34, e242_37, e242_38, e242_41, e242_42, e242_45, e242_48, k0, hO.2.1, hO.2.2, rf_some, true_and]
    refine ⟨by simp, c_readsNow (hO.1.of hX hR') t hb ?_⟩
    simp only [tl_some, e242_0, e242_1, e242_2, e242_5, e242_6, e242_7, e242_10, e242_13, e242_14, e242_15, e242_18, e242_19, e242_20, e242_21, e242_24, e242_25, e242_28, e242_31, e242_32, e242_33, e242_34, e242_37, e242_38, e242_41, e242_42, e242_45, e242_48]
    refine ⟨by simp, c_mgood k0 ?_⟩
    simp only [tl_some, e242_0, e242_1, e242_2, e242_5, e242_6, e242_7, e242_10, e242_13, e242_14, e242_15, e242_18, e242_19, e242_20, e242_21, e242_24, e242_25, e242_28, e242_31, e242_32, e242_33, e242_34, e242_37, e242_38, e242_41, e242_42, e242_45, e242_48]
    exact mansQ (hI.qq es hO.2.1 hX.toMQ hR') (hF.trans (hX.toMQ.frm ha1)) hQ (by unfold sp_reads; rw [if_pos (ts_nf z), p1, p2, p3, hbb])
  · simp only [tl_some, e242_0, e242_1, e242_2, e242_5, e242_6, e242_7, e242_10, e242_13, e242_14, e242_15, e242_18, e242_19, e242_20, e242_21, e242_24, e242_25, e242_28, e242_31, e242_32, e242_33, e242_34, e242_37, e242_38, e242_41, e242_42, e242_45, e242_48]
    exact mrefQ hI hF hQ (k := 1) (by decide) (by unfold sp_reads; rw [if_neg (by simpa using z)])
theorem c_mreadFrom (hO : MO K FR FI AI AL q a w hs m) {v : Nat} (hv : v < wNW w) (hQ : ∀ AI' : Nat → Nat → Int32, MO K FR FI AI' AL q a w hs m → MX q (a + 13) AI AI' AL AL → TopR AI' q w hs m → Q (some (.int (oI (fnd (fun c => stand w hs m v c) (wW w * wH w)) (-2)))) (n, K, FI, FL, FR, AI', AL, AR)) : EV sa (d + 3) 243 [.ref q, .int (nI v)] (n, K, FI, FL, FR, AI, AL, AR) Q := by
  have k0 := hO.k
  have h32 := hO.c32
  refine n243 k0 ?_
  simp only [e243_0, e243_1, e243_2, e243_5, e243_6, e243_9, e243_12, e243_13, e243_15, e243_16, e243_19, e243_22, e243_23, e243_24, e243_27, e243_28, e243_31, e243_32, e243_33, e243_36, e243_39, e243_40, e243_41, e243_44, e243_47, e243_49, k0, hO.2.1, hO.2.2, rf_some, true_and]
  refine ⟨by simp, c_looks hO.1.1 hO.1.2.2.2.2.1 (by have := hO.1.2.2.2.2.2.2.1; omega) hO.mh fun A t x' => ?_⟩
  have hqa := hO.1.2.2.2.2.2.2.1
  have hX : MX q (a + 13) AI A AL AL := ⟨fun z z1 _ _ => x' z (by omega), fun j _ => by rw [x' _ (by omega)], fun _ _ => rfl⟩
  have hA := hO.ofX (hO.1.of hX (hO.mh.fr (AL' := AL) (x' _ (by omega)) rfl))
  have fin := hQ A hA hX t
  have loop : ∀ rr c, c + rr = wW w * wH w → fnd (fun c => stand w hs m v c) c = none → WP sa (EV sa (d + 2)) 243 Q 0 0 14 [.ref q, .int (nI v), .int (nI c)] [] (n, K, FI, FL, FR, A, AL, AR) := by
    intro rr
    induction rr with
    | zero =>
      intro c hc hf
      have hc' : c = wW w * wH w := by omega
      subst hc'
      rw [hf] at fin
      rw [e243_14]
      simp only [e243_0, e243_1, e243_2, e243_5, e243_6, e243_9, e243_12, e243_13, e243_15, e243_16, e243_19, e243_22, e243_23, e243_24, e243_27, e243_28, e243_31, e243_32, e243_33, e243_36, e243_39, e243_40, e243_41, e243_44, e243_47, e243_49]
      refine ⟨by simp, c_mOcells hA ?_⟩
      simp only [tl_some, e243_0, e243_1, e243_2, e243_5, e243_6, e243_9, e243_12, e243_13, e243_15, e243_16, e243_19, e243_22, e243_23, e243_24, e243_27, e243_28, e243_31, e243_32, e243_33, e243_36, e243_39, e243_40, e243_41, e243_44, e243_47, e243_49]
      exact ⟨fun _ => fin, fun z => absurd (nI_le (Nat.le_refl _) (by omega)) z⟩
    | succ rr ih =>
      intro c hc hf
      rw [e243_14]
      simp only [e243_0, e243_1, e243_2, e243_5, e243_6, e243_9, e243_12, e243_13, e243_15, e243_16, e243_19, e243_22, e243_23, e243_24, e243_27, e243_28, e243_31, e243_32, e243_33, e243_36, e243_39, e243_40, e243_41, e243_44, e243_47, e243_49]
      refine ⟨by simp, c_mOcells hA ?_⟩
      simp only [tl_some, e243_0, e243_1, e243_2, e243_5, e243_6, e243_9, e243_12, e243_13, e243_15, e243_16, e243_19, e243_22, e243_23, e243_24, e243_27, e243_28, e243_31, e243_32, e243_33, e243_36, e243_39, e243_40, e243_41, e243_44, e243_47, e243_49, k0, hO.2.1, hO.2.2, rf_some, true_and]
      refine ⟨fun z => absurd z (nI_ge (by omega) (by omega)), fun _ => ⟨by simp, c_stands hA.1 t hv (by omega) ?_⟩⟩
      simp only [tl_some, e243_0, e243_1, e243_2, e243_5, e243_6, e243_9, e243_12, e243_13, e243_15, e243_16, e243_19, e243_22, e243_23, e243_24, e243_27, e243_28, e243_31, e243_32, e243_33, e243_36, e243_39, e243_40, e243_41, e243_44, e243_47, e243_49, bI_eq0, nI_1, mj_kl]
      refine ⟨fun z => ih (c + 1) (by omega) (fnd_no hf z), fun z => ?_⟩
      rw [fnd_yes hf (ts_nf z) (by omega)] at fin
      exact fin
  simp only [tl_none, e243_0, e243_1, e243_2, e243_5, e243_6, e243_9, e243_12, e243_13, e243_15, e243_16, e243_19, e243_22, e243_23, e243_24, e243_27, e243_28, e243_31, e243_32, e243_33, e243_36, e243_39, e243_40, e243_41, e243_44, e243_47, e243_49, mj_kl]
  have := loop (wW w * wH w) 0 (by omega) rfl
  simpa [nI_0, mj_u, mj_kl] using this
theorem c_m_readAt (hV : InvM q P (n, K, FI, FL, FR, AI, AL, AR)) {v : Int32} (hQ : ∀ μ', InvM q (rs P (sp_readAt P v)) μ' → FrM q (n, K, FI, FL, FR, AI, AL, AR) μ' → Q (some (.int (rv (sp_readAt P v)))) μ') : EV sa (d + 4) 244 [.ref q, .int v] (n, K, FI, FL, FR, AI, AL, AR) Q := by
  have hI0 : MInv q P n K FR FI AI AL := hV
  have k0 := hI0.1.1
  refine n244 k0 ?_
  simp only [e244_0, e244_1, e244_2, e244_5, e244_6, e244_7, e244_10, e244_13, e244_14, e244_15, e244_16, e244_19, e244_22, e244_25, e244_26, e244_27, e244_30, k0, true_and]
  have hI := hI0.th (v := 0)
  have hF : FrM q (n, K, FI, FL, FR, AI, AL, AR) (n, K, mj_u2 FI 640 q 0, FL, FR, AI, AL, AR) := FrM.f
  generalize mj_u2 FI 640 q 0 = F at hI hF ⊢
  refine ⟨by simp, c_misTold hI ?_⟩
  simp only [tl_some, e244_0, e244_1, e244_2, e244_5, e244_6, e244_7, e244_10, e244_13, e244_14, e244_15, e244_16, e244_19, e244_22, e244_25, e244_26, e244_27, e244_30, bI_eq0]
  refine ⟨fun z => ⟨by simp, c_mrefused k0 ?_⟩, fun z => ⟨by simp, ?_⟩⟩
  · simp only [tl_some, e244_0, e244_1, e244_2, e244_5, e244_6, e244_7, e244_10, e244_13, e244_14, e244_15, e244_16, e244_19, e244_22, e244_25, e244_26, e244_27, e244_30]
    exact mrefQ hI hF hQ (k := 1) (by decide) (by unfold sp_readAt; rw [if_neg (by simp [z])])
  · obtain ⟨s, es, eb, hb, p1, p2, p3, p4⟩ := misW hI (ts_nf z)
    obtain ⟨a, hO, ha1, ha2⟩ := hI.mo es
    generalize hbb : v.toNatClampNeg = V at *
    subst eb
    refine c_mreadFrom hO hb fun A g1 g2 g3 => ?_
    simp only [tl_some, e244_0, e244_1, e244_2, e244_5, e244_6, e244_7, e244_10, e244_13, e244_14, e244_15, e244_16, e244_19, e244_22, e244_25, e244_26, e244_27, e244_30]
    refine ⟨by simp, c_mgood k0 ?_⟩
    simp only [tl_some, e244_0, e244_1, e244_2, e244_5, e244_6, e244_7, e244_10, e244_13, e244_14, e244_15, e244_16, e244_19, e244_22, e244_25, e244_26, e244_27, e244_30]
    exact mansQ (hI.qq es hO.2.1 g2.toMQ g1.mh) (hF.trans (g2.toMQ.frm ha1)) hQ (by unfold sp_readAt rdAt; rw [if_pos (ts_nf z), p1, p2, p3, hbb])
theorem c_m_readBy (hV : InvM q P (n, K, FI, FL, FR, AI, AL, AR)) {v i : Int32} (hQ : ∀ μ', InvM q (rs P (sp_readBy P v i)) μ' → FrM q (n, K, FI, FL, FR, AI, AL, AR) μ' → Q (some (.int (rv (sp_readBy P v i)))) μ') : EV sa (d + 4) 245 [.ref q, .int v, .int i] (n, K, FI, FL, FR, AI, AL, AR) Q := by
  have hI0 : MInv q P n K FR FI AI AL := hV
  have k0 := hI0.1.1
  refine n245 k0 ?_
  simp only [e245_0, e245_1, e245_2, e245_5, e245_6, e245_7, e245_10, e245_13, e245_14, e245_17, e245_18, e245_19, e245_22, e245_25, e245_26, e245_27, e245_30, e245_31, e245_32, e245_35, e245_36, e245_37, e245_38, e245_41, e245_42, e245_43, e245_45, e245_48, e245_49, e245_51, e245_54, e245_57, e245_58, e245_59, e245_62, e245_63, e245_64, e245_65, e245_66, e245_69, k0, true_and]
  have hI := hI0.th (v := 0)
  have hF : FrM q (n, K, FI, FL, FR, AI, AL, AR) (n, K, mj_u2 FI 640 q 0, FL, FR, AI, AL, AR) := FrM.f
  generalize mj_u2 FI 640 q 0 = F at hI hF ⊢
  refine ⟨by simp, c_misTold hI ?_⟩
  simp only [tl_some, e245_0, e245_1, e245_2, e245_5, e245_6, e245_7, e245_10, e245_13, e245_14, e245_17, e245_18, e245_19, e245_22, e245_25, e245_26, e245_27, e245_30, e245_31, e245_32, e245_35, e245_36, e245_37, e245_38, e245_41, e245_42, e245_43, e245_45, e245_48, e245_49, e245_51, e245_54, e245_57, e245_58, e245_59, e245_62, e245_63, e245_64, e245_65, e245_66, e245_69, bI_eq0]
  have no : ¬ (isWo P v = true ∧ 0 ≤ i ∧ i < nI (wWL (pW P) v.toNatClampNeg)) → EV sa (d + 3) 163 [.ref q, .int 1] (n, K, F, FL, FR, AI, AL, AR) (fun r μ' => WP sa (EV sa (d + 3)) 245 Q 0 0 35 [.ref q, .int v, .int i, mj_u] (r.toList ++ []) μ') := fun hn => by
    refine c_mrefused k0 ?_
    simp only [tl_some, e245_0, e245_1, e245_2, e245_5, e245_6, e245_7, e245_10, e245_13, e245_14, e245_17, e245_18, e245_19, e245_22, e245_25, e245_26, e245_27, e245_30, e245_31, e245_32, e245_35, e245_36, e245_37, e245_38, e245_41, e245_42, e245_43, e245_45, e245_48, e245_49, e245_51, e245_54, e245_57, e245_58, e245_59, e245_62, e245_63, e245_64, e245_65, e245_66, e245_69]
    exact mrefQ hI hF hQ (k := 1) (by decide) (by unfold sp_readBy; rw [if_neg hn])
  refine ⟨fun z => ⟨by simp, no (fun y => by rw [z] at y; cases y.1)⟩, fun z => ⟨fun z2 => ⟨by simp, no (fun y => absurd z2 (Int32.not_lt.mpr y.2.1))⟩, fun z2 => ?_⟩⟩
  obtain ⟨s, es, eb, hb, p1, p2, p3, p4⟩ := misW hI (ts_nf z)
  obtain ⟨a, hO, ha1, ha2⟩ := hI.mo es
  have h32 := hO.c32
  have hw := hO.ok
  have hW := hw.1
  have hn6 := hw.2.2.2.2.2.1
  obtain ⟨ka, -, -, -, -, -, ⟨g6, ka6⟩, -⟩ := hO.1.2.1
  have v1 := (hO.1.2.2.2.1.2.2 _ hb).1
  obtain ⟨hl, -⟩ := hw.2.2.2.2.2.2.2 _ hb
  rw [p1] at no
  generalize hbb : v.toNatClampNeg = V at *
  subst eb
  have iv' : vp_in (nI V) 6 := vp_in_nI (by omega) (by decide)
  simp only [e245_0, e245_1, e245_2, e245_5, e245_6, e245_7, e245_10, e245_13, e245_14, e245_17, e245_18, e245_19, e245_22, e245_25, e245_26, e245_27, e245_30, e245_31, e245_32, e245_35, e245_36, e245_37, e245_38, e245_41, e245_42, e245_43, e245_45, e245_48, e245_49, e245_51, e245_54, e245_57, e245_58, e245_59, e245_62, e245_63, e245_64, e245_65, e245_66, e245_69, k0, hO.2.1, rf_some, ka, g6, ka6, iv', hbb, v1, true_and, true_or]
  refine ⟨fun z3 => ⟨by simp, ?_⟩, fun z3 => ⟨by simp, no (fun y => z3 y.2.2)⟩⟩
  obtain ⟨j, hj, rfl⟩ := nI_of z2
  have hjl := (nI_ltI hj (by omega)).mp z3
  refine c_mreadFrom hO hb fun A g1 g2 g3 => ?_
  have hIA := hI.qq es hO.2.1 g2.toMQ g1.mh
  have esp : sp_readBy P (nI V) (nI j) = (match fnd (fun c => stand s.1 s.2.1.1 s.2.1.2.1 V c) (wW s.1 * wH s.1) with
    | none => .inl 6
    | some c => .inr (oI (tp s.1 s.2.1.1 s.2.1.2.1 (c + j)) (-2))) := by
    unfold sp_readBy rdAt
    rw [p1, p2, p3, hbb, nI_clamp hj, if_pos ⟨ts_nf z, nI0_le hj, z3⟩]
    cases fnd (fun c => stand s.1 s.2.1.1 s.2.1.2.1 V c) (wW s.1 * wH s.1) <;> rfl
  cases hf : fnd (fun c => stand s.1 s.2.1.1 s.2.1.2.1 V c) (wW s.1 * wH s.1) with
  | none =>
    rw [hf] at esp
    simp only [oI, tl_some, e245_0, e245_1, e245_2, e245_5, e245_6, e245_7, e245_10, e245_13, e245_14, e245_17, e245_18, e245_19, e245_22, e245_25, e245_26, e245_27, e245_30, e245_31, e245_32, e245_35, e245_36, e245_37, e245_38, e245_41, e245_42, e245_43, e245_45, e245_48, e245_49, e245_51, e245_54, e245_57, e245_58, e245_59, e245_62, e245_63, e245_64, e245_65, e245_66, e245_69, mj_kl]
    refine ⟨fun z => absurd trivial z, fun _ => ⟨by simp, c_mrefused k0 ?_⟩⟩
    simp only [tl_some, e245_0, e245_1, e245_2, e245_5, e245_6, e245_7, e245_10, e245_13, e245_14, e245_17, e245_18, e245_19, e245_22, e245_25, e245_26, e245_27, e245_30, e245_31, e245_32, e245_35, e245_36, e245_37, e245_38, e245_41, e245_42, e245_43, e245_45, e245_48, e245_49, e245_51, e245_54, e245_57, e245_58, e245_59, e245_62, e245_63, e245_64, e245_65, e245_66, e245_69]
    exact mrefQ hIA (hF.trans (g2.toMQ.frm ha1)) hQ (k := 6) (by decide) esp
  | some c =>
    rw [hf] at esp
    obtain ⟨f1, f2, -⟩ := fnd_some hf
    have hcj : c + j < wW s.1 * wH s.1 ∧ ∃ l, letr s.1 s.2.1.1 s.2.1.2.1 (c + j) = some l := by
      unfold stand at f2
      obtain ⟨f3, f4⟩ := Bool.and_eq_true_iff.mp f2
      rw [decide_eq_true_eq] at f3
      rw [Bool.not_eq_true', ex_false] at f4
      have f5 := f4 j hjl
      have hy : c / wW s.1 < wH s.1 := Nat.div_lt_of_lt_mul f1
      have e1 : wW s.1 * (c / wW s.1 + 1) ≤ wW s.1 * wH s.1 := Nat.mul_le_mul_left _ hy
      have e2 := Nat.div_add_mod c (wW s.1)
      rw [Nat.mul_add] at e1
      exact ⟨by omega, _, by simpa using f5⟩
    obtain ⟨hcl, l, hl2⟩ := hcj
    have htp : ∃ k, tp s.1 s.2.1.1 s.2.1.2.1 (c + j) = some k := by
      unfold letr at hl2
      cases e : tp s.1 s.2.1.1 s.2.1.2.1 (c + j) with
      | none => rw [e] at hl2; cases hl2
      | some k => exact ⟨k, rfl⟩
    obtain ⟨k, hk⟩ := htp
    replace esp : sp_readBy P (nI V) (nI j) = .inr (oI (tp s.1 s.2.1.1 s.2.1.2.1 (c + j)) (-2)) := esp
    rw [hk] at esp
    have hin : vp_in (nI (c + j)) 32 := vp_in_nI (by omega) (by decide)
    have hcl' : (nI (c + j)).toNatClampNeg = c + j := nI_clamp (by omega)
    obtain ⟨-, ⟨f0, k1⟩, -⟩ := hO.1.1
    have ht := g3 (c + j) (by omega)
    rw [hk] at ht
    simp only [oI] at ht
    simp only [oI, tl_some, e245_0, e245_1, e245_2, e245_5, e245_6, e245_7, e245_10, e245_13, e245_14, e245_17, e245_18, e245_19, e245_22, e245_25, e245_26, e245_27, e245_30, e245_31, e245_32, e245_35, e245_36, e245_37, e245_38, e245_41, e245_42, e245_43, e245_45, e245_48, e245_49, e245_51, e245_54, e245_57, e245_58, e245_59, e245_62, e245_63, e245_64, e245_65, e245_66, e245_69, mj_kl, k0, f0, k1, rf_some, nI_add, hin, hcl', ht, true_and, true_or]
    refine ⟨fun _ => ⟨by simp, c_mgood k0 ?_⟩, fun z => absurd (fun e2 => ?_) z⟩
    · simp only [tl_some, e245_0, e245_1, e245_2, e245_5, e245_6, e245_7, e245_10, e245_13, e245_14, e245_17, e245_18, e245_19, e245_22, e245_25, e245_26, e245_27, e245_30, e245_31, e245_32, e245_35, e245_36, e245_37, e245_38, e245_41, e245_42, e245_43, e245_45, e245_48, e245_49, e245_51, e245_54, e245_57, e245_58, e245_59, e245_62, e245_63, e245_64, e245_65, e245_66, e245_69]
      exact mansQ hIA (hF.trans (g2.toMQ.frm ha1)) hQ esp
    · have h3 : nI c < 0 := by rw [e2]; decide
      exact absurd h3 (nI_pos (by omega))
end
