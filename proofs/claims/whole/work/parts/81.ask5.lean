def shN (P : PG) (r : Int32) : Nat := ((pE P).2.2.1 r.toNatClampNeg).toNatClampNeg
def sp_close (P : PG) (r D : Int32) : Nat ⊕ Int32 := if isRv P r then (match rowsR P D (min (dN D) (shN P r)) with
  | some k => .inl k
  | none => .inr (shrt P r (min (dN D) (shN P r)))) else .inl 1
def sp_orders (P : PG) : Nat ⊕ Int32 := if (gW P).isSome then (if pM P - wF (pW P) ≤ 7 then .inr (nI (OT (pW P) (pHs P) (pM P) (pM P - wF (pW P)) (fun _ => false) (fun _ => false) (pHs P) (wF (pW P)))) else .inl 3) else .inl 1
def sp_ahead (P : PG) (i j : Int32) : Nat ⊕ Int32 := if isHg P i = true ∧ isHg P j = true ∧ i ≠ j then (if i.toNatClampNeg < wF (pW P) ∨ j.toNatClampNeg < wF (pW P) then .inl 5 else if pM P - wF (pW P) ≤ 7 then .inr (nI (OA (pW P) (pHs P) (pM P) i.toNatClampNeg j.toNatClampNeg (pM P - wF (pW P)) (fun _ => false) (fun _ => false) false (pHs P) (wF (pW P)))) else .inl 3) else .inl 1
section
variable {sa : Nat → Nat} {d n t h m : Nat} {Q : mj_Q} {K : Nat → Nat × Nat} {FI : Nat → Nat → Int32} {FL : Nat → Nat → Int64} {FR : Nat → Nat → Option Nat} {AI : Nat → Nat → Int32} {AL : Nat → Nat → Int64} {AR : Nat → Nat → Option Nat} {w : Wl} {hs : Nat → Hg}
variable {x : Nat} {P : PG}
theorem isR_wall {o : Nat} (hI : CInv x o P K FR AR FI AI AL) {r : Int32} (hr : isRv P r = true) : ∃ s, gW P = some s ∧ r = nI r.toNatClampNeg ∧ r.toNatClampNeg < wNR s.1 ∧ r.toNatClampNeg < 3 ∧ pW P = s.1 ∧ pE P = s.2.1 := by
  have h3 := hI.told.2.2.2.2.2.1
  obtain ⟨e1, e2⟩ := rng_of (N := wNR (pW P)) (by omega) (by simpa [isRv] using hr)
  cases e : gW P with
  | none =>
    have : wNR (pW P) = 0 := by unfold pW; rw [e]; rfl
    omega
  | some s =>
    obtain ⟨p1, p2⟩ := pW_some e
    exact ⟨s, rfl, e1, by rw [← p1]; exact e2, by omega, p1, p2⟩
theorem c_close (hV : InvC x P (n, K, FI, FL, FR, AI, AL, AR)) {r D : Int32} (hQ : ∀ μ', InvC x (rs P (sp_close P r D)) μ' → FrC x (n, K, FI, FL, FR, AI, AL, AR) μ' → Q (some (.int (rv (sp_close P r D)))) μ') : EV sa (d + 12) 133 [.ref x, .int r, .int D] (n, K, FI, FL, FR, AI, AL, AR) Q := by
  obtain ⟨o, h, hS, hI⟩ := hV
  replace hS : CSt K FR AR x o h := hS
  replace hI : CInv x o P K FR AR FI AI AL := hI
  obtain ⟨k0, -, f450, -, -, -, f454, f455, -, ⟨hH, hT, ht⟩, -, -, -, hRow, hOrd⟩ := id hS
  have hno := hS.now
  refine n133 k0 ?_
  simp only [e133_0, e133_1, e133_2, e133_5, e133_8, e133_9, e133_10, e133_13, e133_14, e133_15, e133_16, e133_19, e133_22, e133_23, e133_24, e133_27, e133_28, e133_29, e133_32, e133_33, e133_36, e133_37, e133_38, e133_41, e133_43, e133_45, e133_48, e133_49, e133_51, e133_54, e133_57, e133_58, e133_59, e133_62, e133_63, e133_66, e133_67, e133_68, e133_71, e133_74]
  refine ⟨by simp, c_isRival hS hI ?_⟩
  obtain ⟨-, -, -, -, -, -, ⟨f9, k20⟩, -⟩ := id hH
  simp only [tl_some, e133_0, e133_1, e133_2, e133_5, e133_8, e133_9, e133_10, e133_13, e133_14, e133_15, e133_16, e133_19, e133_22, e133_23, e133_24, e133_27, e133_28, e133_29, e133_32, e133_33, e133_36, e133_37, e133_38, e133_41, e133_43, e133_45, e133_48, e133_49, e133_51, e133_54, e133_57, e133_58, e133_59, e133_62, e133_63, e133_66, e133_67, e133_68, e133_71, e133_74, k0, f450, f454, hH.1, f9, k20, rf_some, true_and, true_or, bI_eq0, List.length_nil, Nat.zero_le]
  refine ⟨fun z => ?_, fun z => c_refuse hS ?_⟩
  · have hr := ts_nf z
    obtain ⟨s, es, er, hrn, hr3, p1, p2⟩ := isR_wall hI hr
    obtain ⟨hC, hSP, hE, -⟩ := hI.hc es
    obtain ⟨j, hj, ej⟩ := hE.2.2.2 _ hr3
    have xs : AI (o + 20) r.toNatClampNeg = nI j := by rw [(hSP _ hr3).1]; exact ej
    have hsh : shN P r = j := by unfold shN; rw [p2, ej]; exact nI_clamp (by omega)
    have hin : vp_in r 3 := by rw [er]; exact vp_in_nI hr3 (by decide)
    have hne2 : r ≠ -2 := fun e => by
      have h0 : (0 : Int32) ≤ r := by rw [er]; exact nI_pos' (by omega)
      rw [e] at h0
      exact absurd h0 (by decide)
    generalize hM : (if nI j < D then nI j else D) = M
    have k4 : min (dN D) j ≤ 4 := Nat.le_trans (Nat.min_le_left _ _) dN_4
    have eM : ¬ (D < 1 ∨ 4 < D) → M = nI (min (dN D) j) := fun q => by
      have eD := dN_ok q
      have d4 := dN_4 (D := D)
      rw [← hM, eD]
      have ee : dN (nI (dN D)) = dN D := by rw [← eD]
      rw [ee]
      by_cases y : j < dN D
      · rw [if_pos (nI_lt y (by omega)), Nat.min_eq_right (by omega)]
      · rw [if_neg (nI_nlt (by omega) (by omega)), Nat.min_eq_left (by omega)]
    simp only [e133_0, e133_1, e133_2, e133_5, e133_8, e133_9, e133_10, e133_13, e133_14, e133_15, e133_16, e133_19, e133_22, e133_23, e133_24, e133_27, e133_28, e133_29, e133_32, e133_33, e133_36, e133_37, e133_38, e133_41, e133_43, e133_45, e133_48, e133_49, e133_51, e133_54, e133_57, e133_58, e133_59, e133_62, e133_63, e133_66, e133_67, e133_68, e133_71, e133_74, hin, xs, hM, k0, f450, f454, rf_some, true_and, mj_kl]
    refine ⟨by simp, c_refusalP hS hI (k := min (dN D) j) k4 eM (fun e => ?_) (fun s' e q => ?_) (fun s' e q F A L b1 b2 b3 => ?_)⟩
    · rw [es] at e; cases e
    · simp only [tl_some, e133_0, e133_1, e133_2, e133_5, e133_8, e133_9, e133_10, e133_13, e133_14, e133_15, e133_16, e133_19, e133_22, e133_23, e133_24, e133_27, e133_28, e133_29, e133_32, e133_33, e133_36, e133_37, e133_38, e133_41, e133_43, e133_45, e133_48, e133_49, e133_51, e133_54, e133_57, e133_58, e133_59, e133_62, e133_63, e133_66, e133_67, e133_68, e133_71, e133_74, mj_kl]
      refine ⟨fun z => absurd z (by decide), fun _ => ⟨by simp, c_refuse hS ?_⟩⟩
      simp only [tl_some, e133_0, e133_1, e133_2, e133_5, e133_8, e133_9, e133_10, e133_13, e133_14, e133_15, e133_16, e133_19, e133_22, e133_23, e133_24, e133_27, e133_28, e133_29, e133_32, e133_33, e133_36, e133_37, e133_38, e133_41, e133_43, e133_45, e133_48, e133_49, e133_51, e133_54, e133_57, e133_58, e133_59, e133_62, e133_63, e133_66, e133_67, e133_68, e133_71, e133_74]
      exact refQ hS hI hQ (k := 2) (by decide) (by unfold sp_close rowsR; rw [if_pos hr, e]; simp only [Option.isSome_some, if_true]; rw [if_pos q])
    · rw [es] at e
      cases e
      have fq := FRQ.u (v := some (o + 1)) hRow hOrd
      have hS' := hS.q fq
      obtain ⟨-, -, f450', -, -, -, f454', -⟩ := id hS'
      have er2 : rowsR P D (min (dN D) (shN P r)) = if NRw s.1 (min (dN D) j) s.2.1.1 s.2.1.2.1 ≤ 20000 then none else some 3 := by
        unfold rowsR pHs pM
        rw [hsh, es, p1, p2]
        simp only [Option.isSome_some, if_true]
        rw [if_neg q]
      simp only [tl_some, e133_0, e133_1, e133_2, e133_5, e133_8, e133_9, e133_10, e133_13, e133_14, e133_15, e133_16, e133_19, e133_22, e133_23, e133_24, e133_27, e133_28, e133_29, e133_32, e133_33, e133_36, e133_37, e133_38, e133_41, e133_43, e133_45, e133_48, e133_49, e133_51, e133_54, e133_57, e133_58, e133_59, e133_62, e133_63, e133_66, e133_67, e133_68, e133_71, e133_74, mj_kl]
      by_cases y : NRw s.1 (min (dN D) j) s.2.1.1 s.2.1.2.1 ≤ 20000
      · rw [if_pos y] at er2 ⊢
        simp only [e133_0, e133_1, e133_2, e133_5, e133_8, e133_9, e133_10, e133_13, e133_14, e133_15, e133_16, e133_19, e133_22, e133_23, e133_24, e133_27, e133_28, e133_29, e133_32, e133_33, e133_36, e133_37, e133_38, e133_41, e133_43, e133_45, e133_48, e133_49, e133_51, e133_54, e133_57, e133_58, e133_59, e133_62, e133_63, e133_66, e133_67, e133_68, e133_71, e133_74, k0, f450', f454', rf_some, true_and]
        refine ⟨fun _ => ⟨by simp, ?_⟩, fun z => absurd trivial z⟩
        have fq2 := fq.trans (FRQ.u (v := some (o + 1)) fq.2.1 fq.2.2)
        have sr := c_shortestRow (sa := sa) (d := d + 4 - min (dN D) j) (n := n) (FL := FL) (AR := AR) (Q := fun v μ => WP sa (EV sa (d + 11)) 133 Q 0 0 71 [.ref x, .int r, .int D, .int M, .int 0] (v.toList ++ [.ref x]) μ) fq.2.1 b1 (by omega) (by omega) (r := r) (k := min (dN D) j) k4 fun F2 A2 L2 c1 c2 => by
          simp only [tl_some, e133_0, e133_1, e133_2, e133_5, e133_8, e133_9, e133_10, e133_13, e133_14, e133_15, e133_16, e133_19, e133_22, e133_23, e133_24, e133_27, e133_28, e133_29, e133_32, e133_33, e133_36, e133_37, e133_38, e133_41, e133_43, e133_45, e133_48, e133_49, e133_51, e133_54, e133_57, e133_58, e133_59, e133_62, e133_63, e133_66, e133_67, e133_68, e133_71, e133_74]
          refine ⟨by simp, c_answer (hS.q fq2) ?_⟩
          simp only [tl_some, e133_0, e133_1, e133_2, e133_5, e133_8, e133_9, e133_10, e133_13, e133_14, e133_15, e133_16, e133_19, e133_22, e133_23, e133_24, e133_27, e133_28, e133_29, e133_32, e133_33, e133_36, e133_37, e133_38, e133_41, e133_43, e133_45, e133_48, e133_49, e133_51, e133_54, e133_57, e133_58, e133_59, e133_62, e133_63, e133_66, e133_67, e133_68, e133_71, e133_74]
          exact ansR hS hI es fq2 c1 (b2.trans ((c2.toQX).wide (by omega) (by omega))) hQ (by unfold sp_close shrt pHs pM; rw [if_pos hr, er2, hsh, p1, p2])
        rw [← eM q, show d + 4 - min (dN D) j + min (dN D) j + 7 = d + 11 by omega] at sr
        exact sr
      · rw [if_neg y] at er2 ⊢
        refine ⟨fun z => absurd z (by decide), fun _ => ⟨by simp, c_refuse hS' ?_⟩⟩
        simp only [tl_some, e133_0, e133_1, e133_2, e133_5, e133_8, e133_9, e133_10, e133_13, e133_14, e133_15, e133_16, e133_19, e133_22, e133_23, e133_24, e133_27, e133_28, e133_29, e133_32, e133_33, e133_36, e133_37, e133_38, e133_41, e133_43, e133_45, e133_48, e133_49, e133_51, e133_54, e133_57, e133_58, e133_59, e133_62, e133_63, e133_66, e133_67, e133_68, e133_71, e133_74]
        exact refR hS hI es fq b1 b2 hQ (k := 3) (by decide) (by unfold sp_close; rw [if_pos hr, er2])
  · simp only [tl_some, e133_0, e133_1, e133_2, e133_5, e133_8, e133_9, e133_10, e133_13, e133_14, e133_15, e133_16, e133_19, e133_22, e133_23, e133_24, e133_27, e133_28, e133_29, e133_32, e133_33, e133_36, e133_37, e133_38, e133_41, e133_43, e133_45, e133_48, e133_49, e133_51, e133_54, e133_57, e133_58, e133_59, e133_62, e133_63, e133_66, e133_67, e133_68, e133_71, e133_74]
    exact refQ hS hI hQ (k := 1) (by decide) (by unfold sp_close; rw [if_neg (by simpa using z)])
theorem c_stays (hV : InvC x P (n, K, FI, FL, FR, AI, AL, AR)) {b u v : Int32} (hQ : ∀ μ', InvC x (rs P (sp_stays P b u v)) μ' → FrC x (n, K, FI, FL, FR, AI, AL, AR) μ' → Q (some (.int (rv (sp_stays P b u v)))) μ') : EV sa (d + 6) 128 [.ref x, .int b, .int u, .int v] (n, K, FI, FL, FR, AI, AL, AR) Q := by
  obtain ⟨o, h, hS, hI⟩ := hV
  replace hS : CSt K FR AR x o h := hS
  replace hI : CInv x o P K FR AR FI AI AL := hI
  obtain ⟨k0, -, f450, -, -, -, f454, f455, -, ⟨hH, hT, ht⟩, -, -, -, hRow, hOrd⟩ := id hS
  have hno := hS.now
  obtain ⟨-, -, -, -, -, -, -, h8, h4⟩ := hI.told
  refine n128 k0 ?_
  simp only [e128_0, e128_1, e128_2, e128_5, e128_8, e128_9, e128_10, e128_13, e128_14, e128_15, e128_18, e128_21, e128_22, e128_23, e128_24, e128_27, e128_29, e128_31, e128_34, e128_35, e128_36, e128_39, e128_40, e128_41, e128_44, e128_45, e128_47, e128_50, e128_53, e128_54, e128_55, e128_58, e128_59, e128_60, e128_61, e128_64, e128_65, e128_68, e128_69, e128_71, e128_74, e128_77]
  refine ⟨by simp, c_isBill hS hI ?_⟩
  simp only [tl_some, e128_0, e128_1, e128_2, e128_5, e128_8, e128_9, e128_10, e128_13, e128_14, e128_15, e128_18, e128_21, e128_22, e128_23, e128_24, e128_27, e128_29, e128_31, e128_34, e128_35, e128_36, e128_39, e128_40, e128_41, e128_44, e128_45, e128_47, e128_50, e128_53, e128_54, e128_55, e128_58, e128_59, e128_60, e128_61, e128_64, e128_65, e128_68, e128_69, e128_71, e128_74, e128_77, k0, f450, hH.1, ht, rf_some, true_and, bI_eq0]
  refine ⟨fun z => ⟨by simp, ?_⟩, fun z => ⟨by simp, c_refuse hS ?_⟩⟩
  · have hb := ts_nf z
    obtain ⟨s, es, eb, hb4, p1, p2, p3⟩ := isB_wall hI hb
    have hC := (hI.hc es).1
    refine c_cornerAtP hS hI hb ?_
    simp only [tl_some, e128_0, e128_1, e128_2, e128_5, e128_8, e128_9, e128_10, e128_13, e128_14, e128_15, e128_18, e128_21, e128_22, e128_23, e128_24, e128_27, e128_29, e128_31, e128_34, e128_35, e128_36, e128_39, e128_40, e128_41, e128_44, e128_45, e128_47, e128_50, e128_53, e128_54, e128_55, e128_58, e128_59, e128_60, e128_61, e128_64, e128_65, e128_68, e128_69, e128_71, e128_74, e128_77, k0, f450, rf_some, true_and, mj_kl]
    cases hc : sCor P b u v with
    | none =>
      simp only [oI]
      refine ⟨fun y => absurd y (by decide), fun _ => ⟨by simp, c_refuse hS ?_⟩⟩
      simp only [tl_some, e128_0, e128_1, e128_2, e128_5, e128_8, e128_9, e128_10, e128_13, e128_14, e128_15, e128_18, e128_21, e128_22, e128_23, e128_24, e128_27, e128_29, e128_31, e128_34, e128_35, e128_36, e128_39, e128_40, e128_41, e128_44, e128_45, e128_47, e128_50, e128_53, e128_54, e128_55, e128_58, e128_59, e128_60, e128_61, e128_64, e128_65, e128_68, e128_69, e128_71, e128_74, e128_77]
      exact refQ hS hI hQ (k := 2) (by decide) (by unfold sp_stays; rw [if_pos hb, hc])
    | some c =>
      have c32 := (sCell_lt h8 h4 (sCor_some hc).1).2
      simp only [oI]
      refine ⟨fun _ => ⟨by simp, ?_⟩, fun y => absurd (nI_pos' (by omega)) y⟩
      have mg := c_mayGo (sa := sa) (d := d + 1) (n := n) (FL := FL) (AR := AR) (Q := fun v' μ => WP sa (EV sa (d + 5)) 128 Q 0 0 50 [.ref x, .int b, .int u, .int v, .int (nI c)] (v'.toList ++ []) μ) hC hb4 c32 fun F' L' a1 a2 => by
        simp only [tl_some, e128_0, e128_1, e128_2, e128_5, e128_8, e128_9, e128_10, e128_13, e128_14, e128_15, e128_18, e128_21, e128_22, e128_23, e128_24, e128_27, e128_29, e128_31, e128_34, e128_35, e128_36, e128_39, e128_40, e128_41, e128_44, e128_45, e128_47, e128_50, e128_53, e128_54, e128_55, e128_58, e128_59, e128_60, e128_61, e128_64, e128_65, e128_68, e128_69, e128_71, e128_74, e128_77, k0, f450, f454, rf_some, true_and, bI_eq0]
        refine ⟨fun y => ⟨by simp, ?_⟩, fun y => ⟨by simp, c_refuse hS ?_⟩⟩
        · have fq := FRQ.u (v := some (o + 1)) hRow hOrd
          have st := c_staysSeen (sa := sa) (d := d) (n := n) (FL := FL) (AR := AR) (Q := fun v' μ => WP sa (EV sa (d + 5)) 128 Q 0 0 74 [.ref x, .int b, .int u, .int v, .int (nI c)] (v'.toList ++ [.ref x]) μ) hRow a1 (by omega) (by omega) (ts_nf y) hb4 c32 fun F2 A2 L2 c1 c2 => by
            simp only [tl_some, e128_0, e128_1, e128_2, e128_5, e128_8, e128_9, e128_10, e128_13, e128_14, e128_15, e128_18, e128_21, e128_22, e128_23, e128_24, e128_27, e128_29, e128_31, e128_34, e128_35, e128_36, e128_39, e128_40, e128_41, e128_44, e128_45, e128_47, e128_50, e128_53, e128_54, e128_55, e128_58, e128_59, e128_60, e128_61, e128_64, e128_65, e128_68, e128_69, e128_71, e128_74, e128_77]
            refine ⟨by simp, c_answer (hS.q fq) ?_⟩
            simp only [tl_some, e128_0, e128_1, e128_2, e128_5, e128_8, e128_9, e128_10, e128_13, e128_14, e128_15, e128_18, e128_21, e128_22, e128_23, e128_24, e128_27, e128_29, e128_31, e128_34, e128_35, e128_36, e128_39, e128_40, e128_41, e128_44, e128_45, e128_47, e128_50, e128_53, e128_54, e128_55, e128_58, e128_59, e128_60, e128_61, e128_64, e128_65, e128_68, e128_69, e128_71, e128_74, e128_77]
            exact ansR hS hI es fq c1 (a2.toQX.trans ((c2.toQX).wide (by omega) (by omega))) hQ (by unfold sp_stays; rw [if_pos hb, hc, p1, p2, p3]; simp only []; rw [if_pos (ts_nf y)])
          rw [← eb] at st
          exact st
        · simp only [tl_some, e128_0, e128_1, e128_2, e128_5, e128_8, e128_9, e128_10, e128_13, e128_14, e128_15, e128_18, e128_21, e128_22, e128_23, e128_24, e128_27, e128_29, e128_31, e128_34, e128_35, e128_36, e128_39, e128_40, e128_41, e128_44, e128_45, e128_47, e128_50, e128_53, e128_54, e128_55, e128_58, e128_59, e128_60, e128_61, e128_64, e128_65, e128_68, e128_69, e128_71, e128_74, e128_77]
          exact refL hS hI es a1 a2 hQ (k := 5) (by decide) (by unfold sp_stays; rw [if_pos hb, hc, p1, p2, p3]; simp only []; rw [if_neg (by simpa using y)])
      rw [← eb] at mg
      exact mg
  · simp only [tl_some, e128_0, e128_1, e128_2, e128_5, e128_8, e128_9, e128_10, e128_13, e128_14, e128_15, e128_18, e128_21, e128_22, e128_23, e128_24, e128_27, e128_29, e128_31, e128_34, e128_35, e128_36, e128_39, e128_40, e128_41, e128_44, e128_45, e128_47, e128_50, e128_53, e128_54, e128_55, e128_58, e128_59, e128_60, e128_61, e128_64, e128_65, e128_68, e128_69, e128_71, e128_74, e128_77]
    exact refQ hS hI hQ (k := 1) (by decide) (by unfold sp_stays; rw [if_neg (by simpa using z)])
theorem c_best (hV : InvC x P (n, K, FI, FL, FR, AI, AL, AR)) {b : Int32} (hQ : ∀ μ', InvC x (rs P (sp_best P b)) μ' → FrC x (n, K, FI, FL, FR, AI, AL, AR) μ' → Q (some (.int (rv (sp_best P b)))) μ') : EV sa (d + 7) 129 [.ref x, .int b] (n, K, FI, FL, FR, AI, AL, AR) Q := by
  obtain ⟨o, h, hS, hI⟩ := hV
  replace hS : CSt K FR AR x o h := hS
  replace hI : CInv x o P K FR AR FI AI AL := hI
  obtain ⟨k0, -, f450, -, -, -, f454, f455, -, ⟨hH, hT, ht⟩, -, -, -, hRow, hOrd⟩ := id hS
  have hno := hS.now
  refine n129 k0 ?_
  simp only [e129_0, e129_1, e129_2, e129_5, e129_8, e129_9, e129_10, e129_13, e129_14, e129_15, e129_18, e129_19, e129_22, e129_23, e129_26, e129_27, e129_28, e129_31, e129_32, e129_34, e129_37, e129_40, e129_41, e129_42, e129_45]
  refine ⟨by simp, c_isBill hS hI ?_⟩
  simp only [tl_some, e129_0, e129_1, e129_2, e129_5, e129_8, e129_9, e129_10, e129_13, e129_14, e129_15, e129_18, e129_19, e129_22, e129_23, e129_26, e129_27, e129_28, e129_31, e129_32, e129_34, e129_37, e129_40, e129_41, e129_42, e129_45, k0, f450, f454, rf_some, true_and, bI_eq0]
  refine ⟨fun z => ⟨by simp, ?_⟩, fun z => ⟨by simp, c_refuse hS ?_⟩⟩
  · have hb := ts_nf z
    obtain ⟨s, es, eb, hb4, p1, p2, p3⟩ := isB_wall hI hb
    have hC := (hI.hc es).1
    have h32 := hC.cells.2
    have bc := c_bestCorner (sa := sa) (d := d) (n := n) (FL := FL) (AR := AR) (Q := fun v' μ => WP sa (EV sa (d + 6)) 129 Q 0 0 26 [.ref x, .int b, mj_u] (v'.toList ++ []) μ) hRow hC (by omega) (by omega) hb4 fun F2 A2 L2 R hR c1 c2 => by
      have fq : FRQ K FR R x := hR.elim (fun e => by rw [e]; exact FRQ.same hRow hOrd) (fun e => by rw [e]; exact FRQ.u hRow hOrd)
      have qx := c2.wide (lo' := x + 72) (hi' := x + 119) (by omega) (by omega)
      simp only [tl_some, e129_0, e129_1, e129_2, e129_5, e129_8, e129_9, e129_10, e129_13, e129_14, e129_15, e129_18, e129_19, e129_22, e129_23, e129_26, e129_27, e129_28, e129_31, e129_32, e129_34, e129_37, e129_40, e129_41, e129_42, e129_45, mj_kl]
      cases hf : bestN s.1 s.2.1.1 s.2.1.2.1 b.toNatClampNeg (wW s.1 * wH s.1) with
      | none =>
        simp only [Option.map_none, oI]
        refine ⟨fun y => absurd y (by decide), fun _ => ⟨by simp, c_refuse (hS.q fq) ?_⟩⟩
        simp only [tl_some, e129_0, e129_1, e129_2, e129_5, e129_8, e129_9, e129_10, e129_13, e129_14, e129_15, e129_18, e129_19, e129_22, e129_23, e129_26, e129_27, e129_28, e129_31, e129_32, e129_34, e129_37, e129_40, e129_41, e129_42, e129_45]
        exact refR hS hI es fq c1 qx hQ (k := 6) (by decide) (by unfold sp_best; rw [if_pos hb, p1, p2, p3, hf])
      | some g =>
        have hg := (bestN_lt hf).1
        simp only [Option.map_some, oI]
        refine ⟨fun _ => ⟨by simp, c_answer (hS.q fq) ?_⟩, fun y => absurd (nI_pos' (by omega)) y⟩
        simp only [tl_some, e129_0, e129_1, e129_2, e129_5, e129_8, e129_9, e129_10, e129_13, e129_14, e129_15, e129_18, e129_19, e129_22, e129_23, e129_26, e129_27, e129_28, e129_31, e129_32, e129_34, e129_37, e129_40, e129_41, e129_42, e129_45]
        exact ansR hS hI es fq c1 qx hQ (by unfold sp_best; rw [if_pos hb, p1, p2, p3, hf])
    rw [← eb] at bc
    exact bc
  · simp only [tl_some, e129_0, e129_1, e129_2, e129_5, e129_8, e129_9, e129_10, e129_13, e129_14, e129_15, e129_18, e129_19, e129_22, e129_23, e129_26, e129_27, e129_28, e129_31, e129_32, e129_34, e129_37, e129_40, e129_41, e129_42, e129_45]
    exact refQ hS hI hQ (k := 1) (by decide) (by unfold sp_best; rw [if_neg (by simpa using z)])
theorem c_life (hV : InvC x P (n, K, FI, FL, FR, AI, AL, AR)) {k : Int32} {hang : Bool} (hQ : ∀ μ', InvC x (rs P (sp_life P k hang)) μ' → FrC x (n, K, FI, FL, FR, AI, AL, AR) μ' → Q (some (.int (rv (sp_life P k hang)))) μ') : EV sa (d + 6) 134 [.ref x, .int k, .int (bI hang)] (n, K, FI, FL, FR, AI, AL, AR) Q := by
  obtain ⟨o, h, hS, hI⟩ := hV
  replace hS : CSt K FR AR x o h := hS
  replace hI : CInv x o P K FR AR FI AI AL := hI
  obtain ⟨k0, -, f450, -, -, -, f454, f455, -, ⟨hH, hT, ht⟩, -, -, -, hRow, hOrd⟩ := id hS
  have hno := hS.now
  refine n134 k0 ?_
  simp only [e134_0, e134_1, e134_4, e134_7, e134_8, e134_9, e134_12, e134_13, e134_14, e134_17, e134_18, e134_19, e134_22, e134_23, e134_24, e134_27, e134_28, e134_29, e134_30, e134_33, e134_34, e134_37, e134_38, e134_39, e134_42, e134_45]
  refine ⟨by simp, c_hasWall hS hI ?_⟩
  simp only [tl_some, e134_0, e134_1, e134_4, e134_7, e134_8, e134_9, e134_12, e134_13, e134_14, e134_17, e134_18, e134_19, e134_22, e134_23, e134_24, e134_27, e134_28, e134_29, e134_30, e134_33, e134_34, e134_37, e134_38, e134_39, e134_42, e134_45, k0, f450, f454, rf_some, true_and, bI_eq0]
  refine ⟨fun z => ?_, fun z => ⟨by simp, c_refuse hS ?_⟩⟩
  · obtain ⟨s, es⟩ := Option.isSome_iff_exists.mp (ts_nf z)
    have hC := (hI.hc es).1
    obtain ⟨p1, p2⟩ := pW_some es
    refine ⟨fun y => ⟨by simp, c_refuse hS ?_⟩, fun y => ⟨fun y2 => ⟨by simp, ?_⟩, fun y2 => ⟨by simp, c_refuse hS ?_⟩⟩⟩
    · simp only [tl_some, e134_0, e134_1, e134_4, e134_7, e134_8, e134_9, e134_12, e134_13, e134_14, e134_17, e134_18, e134_19, e134_22, e134_23, e134_24, e134_27, e134_28, e134_29, e134_30, e134_33, e134_34, e134_37, e134_38, e134_39, e134_42, e134_45]
      exact refQ hS hI hQ (k := 2) (by decide) (by unfold sp_life; rw [if_pos (ts_nf z), if_neg (fun q => absurd y (Int32.not_lt.mpr q.1))])
    · have hk : 0 ≤ k ∧ k ≤ 5 := ⟨Int32.not_lt.mp y, y2⟩
      obtain ⟨j, hj, ej⟩ := nI_of2 (M := 5) (n := 5) (by decide) y y2
      have ek : k.toNatClampNeg = j := by rw [ej]; exact nI_clamp (by omega)
      have fq := FRQ.u (v := some (o + 1)) hRow hOrd
      rw [ej]
      refine c_liveBy hRow hC (by omega) (by omega) (by omega) fun F2 A2 L2 c1 c2 => ?_
      simp only [tl_some, e134_0, e134_1, e134_4, e134_7, e134_8, e134_9, e134_12, e134_13, e134_14, e134_17, e134_18, e134_19, e134_22, e134_23, e134_24, e134_27, e134_28, e134_29, e134_30, e134_33, e134_34, e134_37, e134_38, e134_39, e134_42, e134_45]
      refine ⟨by simp, c_answer (hS.q fq) ?_⟩
      simp only [tl_some, e134_0, e134_1, e134_4, e134_7, e134_8, e134_9, e134_12, e134_13, e134_14, e134_17, e134_18, e134_19, e134_22, e134_23, e134_24, e134_27, e134_28, e134_29, e134_30, e134_33, e134_34, e134_37, e134_38, e134_39, e134_42, e134_45]
      exact ansR hS hI es fq c1 ((c2.toQX).wide (by omega) (by omega)) hQ (by unfold sp_life pHs pM; rw [if_pos (ts_nf z), if_pos hk, p1, p2, ek])
    · simp only [tl_some, e134_0, e134_1, e134_4, e134_7, e134_8, e134_9, e134_12, e134_13, e134_14, e134_17, e134_18, e134_19, e134_22, e134_23, e134_24, e134_27, e134_28, e134_29, e134_30, e134_33, e134_34, e134_37, e134_38, e134_39, e134_42, e134_45]
      exact refQ hS hI hQ (k := 2) (by decide) (by unfold sp_life; rw [if_pos (ts_nf z), if_neg (fun q => y2 q.2)])
  · simp only [tl_some, e134_0, e134_1, e134_4, e134_7, e134_8, e134_9, e134_12, e134_13, e134_14, e134_17, e134_18, e134_19, e134_22, e134_23, e134_24, e134_27, e134_28, e134_29, e134_30, e134_33, e134_34, e134_37, e134_38, e134_39, e134_42, e134_45]
    exact refQ hS hI hQ (k := 1) (by decide) (by unfold sp_life; rw [if_neg (by simpa using z)])
theorem RowS.fld {q k a : Nat} {v : Option Nat} (hk : 11 < k) (hk2 : k ≠ 128) (hS : RowS K FR q) : RowS K (mj_u2 FR k a v) q := ⟨hS.1, by rw [mj_u2_1 (by omega)]; exact hS.2.1, hS.2.2.fld hk⟩
theorem OrdS.fld {q k a : Nat} {v : Option Nat} (hk : 11 < k) (hk2 : k ≠ 64) (hS : OrdS K FR q) : OrdS K (mj_u2 FR k a v) q := ⟨hS.1, by rw [mj_u2_1 (by omega)]; exact hS.2.1, hS.2.2.fld hk⟩
theorem FRQ.o {v v' : Option Nat} (h1 : RowS K FR (x + 72)) (h2 : OrdS K FR (x + 96)) : FRQ K FR (mj_u2 (mj_u2 FR 65 (x + 96) v) 0 (x + 96 + 1) v') x := ⟨fun k a ha => by rw [mj_u2_2 (by omega), mj_u2_2 (by omega)], (h1.fld (by decide) (by decide)).told, (h2.fld (by decide) (by decide)).told⟩
theorem c_orders (hV : InvC x P (n, K, FI, FL, FR, AI, AL, AR)) (hQ : ∀ μ', InvC x (rs P (sp_orders P)) μ' → FrC x (n, K, FI, FL, FR, AI, AL, AR) μ' → Q (some (.int (rv (sp_orders P)))) μ') : EV sa (d + 15) 135 [.ref x] (n, K, FI, FL, FR, AI, AL, AR) Q := by
  obtain ⟨o, h, hS, hI⟩ := hV
  replace hS : CSt K FR AR x o h := hS
  replace hI : CInv x o P K FR AR FI AI AL := hI
  obtain ⟨k0, -, f450, -, -, -, f454, f455, -, ⟨hH, hT, ht⟩, -, -, -, hRow, hOrd⟩ := id hS
  have hno := hS.now
  refine n135 k0 ?_
  simp only [e135_0, e135_1, e135_4, e135_7, e135_8, e135_9, e135_12, e135_13, e135_14, e135_17, e135_20, e135_21, e135_24, e135_27, e135_28, e135_30, e135_33, e135_34, e135_35, e135_38, e135_39, e135_40, e135_43, e135_44, e135_47, e135_48, e135_49, e135_52, e135_53, e135_54, e135_57, e135_60, e135_63]
  refine ⟨by simp, c_hasWall hS hI ?_⟩
  obtain ⟨-, x1, x2, h30, -⟩ := hI.told
  simp only [tl_some, e135_0, e135_1, e135_4, e135_7, e135_8, e135_9, e135_12, e135_13, e135_14, e135_17, e135_20, e135_21, e135_24, e135_27, e135_28, e135_30, e135_33, e135_34, e135_35, e135_38, e135_39, e135_40, e135_43, e135_44, e135_47, e135_48, e135_49, e135_52, e135_53, e135_54, e135_57, e135_60, e135_63, k0, f450, f455, hH.1, rf_some, x1, x2, true_and, bI_eq0]
  refine ⟨fun z => ?_, fun z => ⟨by simp, c_refuse hS ?_⟩⟩
  · obtain ⟨s, es⟩ := Option.isSome_iff_exists.mp (ts_nf z)
    obtain ⟨hC, -, hE, -⟩ := hI.hc es
    obtain ⟨p1, p2⟩ := pW_some es
    have em : pM P = s.2.1.2.1 := by unfold pM; rw [p2]
    have hF : wF (pW P) ≤ pM P := by rw [em, p1]; exact hE.1
    rw [nq_sub hF]
    refine ⟨fun y => ⟨by simp, ?_⟩, fun y => ⟨by simp, c_refuse hS ?_⟩⟩
    · have y' : pM P - wF (pW P) ≤ 7 := (nI_leI (b := 7) (by omega) (by decide)).mp y
      have fq := FRQ.o (v := some o) (v' := some (o + 1)) hRow hOrd
      rw [em, p1] at y' hF
      refine c_countAll (a := 0) (b := 0) hOrd hC (by omega) (by omega) (by decide) (by decide) hF y' fun F2 A2 L2 c1 c2 c3 c4 => ?_
      obtain ⟨-, -, -, -, -, -, -, f455', -⟩ := id (hS.q fq)
      simp only [tl_none, e135_0, e135_1, e135_4, e135_7, e135_8, e135_9, e135_12, e135_13, e135_14, e135_17, e135_20, e135_21, e135_24, e135_27, e135_28, e135_30, e135_33, e135_34, e135_35, e135_38, e135_39, e135_40, e135_43, e135_44, e135_47, e135_48, e135_49, e135_52, e135_53, e135_54, e135_57, e135_60, e135_63, k0, f455', hOrd.1, rf_some, c3, true_and]
      refine ⟨by simp, c_answer (hS.q fq) ?_⟩
      simp only [tl_some, e135_0, e135_1, e135_4, e135_7, e135_8, e135_9, e135_12, e135_13, e135_14, e135_17, e135_20, e135_21, e135_24, e135_27, e135_28, e135_30, e135_33, e135_34, e135_35, e135_38, e135_39, e135_40, e135_43, e135_44, e135_47, e135_48, e135_49, e135_52, e135_53, e135_54, e135_57, e135_60, e135_63]
      exact ansR hS hI es fq c1 ((c2.toQX).wide (by omega) (by omega)) hQ (by unfold sp_orders; rw [if_pos (ts_nf z), em, p1, if_pos y']; unfold pHs; rw [p2])
    · simp only [tl_some, e135_0, e135_1, e135_4, e135_7, e135_8, e135_9, e135_12, e135_13, e135_14, e135_17, e135_20, e135_21, e135_24, e135_27, e135_28, e135_30, e135_33, e135_34, e135_35, e135_38, e135_39, e135_40, e135_43, e135_44, e135_47, e135_48, e135_49, e135_52, e135_53, e135_54, e135_57, e135_60, e135_63]
      exact refQ hS hI hQ (k := 3) (by decide) (by unfold sp_orders; rw [if_pos (ts_nf z), if_neg (fun q => y (nI_le (b := 7) q (by decide)))])
  · simp only [tl_some, e135_0, e135_1, e135_4, e135_7, e135_8, e135_9, e135_12, e135_13, e135_14, e135_17, e135_20, e135_21, e135_24, e135_27, e135_28, e135_30, e135_33, e135_34, e135_35, e135_38, e135_39, e135_40, e135_43, e135_44, e135_47, e135_48, e135_49, e135_52, e135_53, e135_54, e135_57, e135_60, e135_63]
    exact refQ hS hI hQ (k := 1) (by decide) (by unfold sp_orders; rw [if_neg (by simpa using z)])
theorem c_ahead (hV : InvC x P (n, K, FI, FL, FR, AI, AL, AR)) {i j : Int32} (hQ : ∀ μ', InvC x (rs P (sp_ahead P i j)) μ' → FrC x (n, K, FI, FL, FR, AI, AL, AR) μ' → Q (some (.int (rv (sp_ahead P i j)))) μ') : EV sa (d + 15) 136 [.ref x, .int i, .int j] (n, K, FI, FL, FR, AI, AL, AR) Q := by
  obtain ⟨o, h, hS, hI⟩ := hV
  replace hS : CSt K FR AR x o h := hS
  replace hI : CInv x o P K FR AR FI AI AL := hI
  obtain ⟨k0, -, f450, -, -, -, f454, f455, -, ⟨hH, hT, ht⟩, -, -, -, hRow, hOrd⟩ := id hS
  have hno := hS.now
  obtain ⟨-, x1, x2, h30, -⟩ := hI.told
  have bad : ¬ (isHg P i = true ∧ isHg P j = true ∧ i ≠ j) → Q (some (.int (-1))) (n, K, mj_u2 FI 456 x 1, FL, FR, AI, AL, AR) := fun q => refQ hS hI hQ (k := 1) (by decide) (by unfold sp_ahead; rw [if_neg q])
  refine n136 k0 ?_
  simp only [e136_0, e136_1, e136_2, e136_5, e136_8, e136_9, e136_10, e136_13, e136_16, e136_17, e136_18, e136_21, e136_22, e136_23, e136_26, e136_27, e136_28, e136_29, e136_32, e136_35, e136_38, e136_39, e136_40, e136_43, e136_46, e136_49, e136_50, e136_51, e136_54, e136_55, e136_56, e136_59, e136_62, e136_63, e136_66, e136_69, e136_70, e136_72, e136_75, e136_76, e136_77, e136_80, e136_81, e136_82, e136_85, e136_86, e136_89, e136_90, e136_91, e136_94, e136_95, e136_96, e136_99, e136_102, e136_105]
  refine ⟨by simp, c_hangs hS hI ?_⟩
  simp only [tl_some, e136_0, e136_1, e136_2, e136_5, e136_8, e136_9, e136_10, e136_13, e136_16, e136_17, e136_18, e136_21, e136_22, e136_23, e136_26, e136_27, e136_28, e136_29, e136_32, e136_35, e136_38, e136_39, e136_40, e136_43, e136_46, e136_49, e136_50, e136_51, e136_54, e136_55, e136_56, e136_59, e136_62, e136_63, e136_66, e136_69, e136_70, e136_72, e136_75, e136_76, e136_77, e136_80, e136_81, e136_82, e136_85, e136_86, e136_89, e136_90, e136_91, e136_94, e136_95, e136_96, e136_99, e136_102, e136_105, bI_eq0]
  refine ⟨fun z => ⟨by simp, c_refuse hS ?_⟩, fun z => ⟨by simp, c_hangs hS hI ?_⟩⟩
  · simp only [tl_some, e136_0, e136_1, e136_2, e136_5, e136_8, e136_9, e136_10, e136_13, e136_16, e136_17, e136_18, e136_21, e136_22, e136_23, e136_26, e136_27, e136_28, e136_29, e136_32, e136_35, e136_38, e136_39, e136_40, e136_43, e136_46, e136_49, e136_50, e136_51, e136_54, e136_55, e136_56, e136_59, e136_62, e136_63, e136_66, e136_69, e136_70, e136_72, e136_75, e136_76, e136_77, e136_80, e136_81, e136_82, e136_85, e136_86, e136_89, e136_90, e136_91, e136_94, e136_95, e136_96, e136_99, e136_102, e136_105]
    exact bad (fun q => by rw [z] at q; cases q.1)
  simp only [tl_some, e136_0, e136_1, e136_2, e136_5, e136_8, e136_9, e136_10, e136_13, e136_16, e136_17, e136_18, e136_21, e136_22, e136_23, e136_26, e136_27, e136_28, e136_29, e136_32, e136_35, e136_38, e136_39, e136_40, e136_43, e136_46, e136_49, e136_50, e136_51, e136_54, e136_55, e136_56, e136_59, e136_62, e136_63, e136_66, e136_69, e136_70, e136_72, e136_75, e136_76, e136_77, e136_80, e136_81, e136_82, e136_85, e136_86, e136_89, e136_90, e136_91, e136_94, e136_95, e136_96, e136_99, e136_102, e136_105, k0, f450, f455, hH.1, rf_some, x1, x2, true_and, bI_eq0]
  refine ⟨fun z2 => ⟨by simp, c_refuse hS ?_⟩, fun z2 => ⟨fun z3 => ?_, fun z3 => ⟨by simp, c_refuse hS ?_⟩⟩⟩
  · simp only [tl_some, e136_0, e136_1, e136_2, e136_5, e136_8, e136_9, e136_10, e136_13, e136_16, e136_17, e136_18, e136_21, e136_22, e136_23, e136_26, e136_27, e136_28, e136_29, e136_32, e136_35, e136_38, e136_39, e136_40, e136_43, e136_46, e136_49, e136_50, e136_51, e136_54, e136_55, e136_56, e136_59, e136_62, e136_63, e136_66, e136_69, e136_70, e136_72, e136_75, e136_76, e136_77, e136_80, e136_81, e136_82, e136_85, e136_86, e136_89, e136_90, e136_91, e136_94, e136_95, e136_96, e136_99, e136_102, e136_105]
    exact bad (fun q => by rw [z2] at q; cases q.2.1)
  · have hi := ts_nf z
    have hj := ts_nf z2
    have hc : isHg P i = true ∧ isHg P j = true ∧ i ≠ j := ⟨hi, hj, z3⟩
    obtain ⟨ei, i2⟩ := rng_of (N := pM P) (by omega) (by simpa [isHg] using hi)
    obtain ⟨ej, j2⟩ := rng_of (N := pM P) (by omega) (by simpa [isHg] using hj)
    obtain ⟨s, es⟩ := wall_of (P := P) (Or.inr (Or.inr (Or.inl (by omega))))
    obtain ⟨hC, -, hE, -⟩ := hI.hc es
    obtain ⟨p1, p2⟩ := pW_some es
    have em : pM P = s.2.1.2.1 := by unfold pM; rw [p2]
    have hF : wF (pW P) ≤ pM P := by rw [em, p1]; exact hE.1
    rw [nq_sub hF]
    generalize hki : i.toNatClampNeg = ki at *
    generalize hkj : j.toNatClampNeg = kj at *
    have fi : i < nI (wF (pW P)) ↔ ki < wF (pW P) := by rw [ei]; exact nI_ltI (by omega) (by omega)
    have fj : j < nI (wF (pW P)) ↔ kj < wF (pW P) := by rw [ej]; exact nI_ltI (by omega) (by omega)
    have r5 : (ki < wF (pW P) ∨ kj < wF (pW P)) → Q (some (.int (-1))) (n, K, mj_u2 FI 456 x 5, FL, FR, AI, AL, AR) := fun q => refQ hS hI hQ (k := 5) (by decide) (by unfold sp_ahead; rw [if_pos hc, hki, hkj, if_pos q])
    refine ⟨fun y => ⟨by simp, c_refuse hS ?_⟩, fun y => ⟨fun y2 => ⟨fun y3 => ⟨by simp, ?_⟩, fun y3 => ⟨by simp, c_refuse hS ?_⟩⟩, fun y2 => ⟨by simp, c_refuse hS ?_⟩⟩⟩
    · simp only [tl_some, e136_0, e136_1, e136_2, e136_5, e136_8, e136_9, e136_10, e136_13, e136_16, e136_17, e136_18, e136_21, e136_22, e136_23, e136_26, e136_27, e136_28, e136_29, e136_32, e136_35, e136_38, e136_39, e136_40, e136_43, e136_46, e136_49, e136_50, e136_51, e136_54, e136_55, e136_56, e136_59, e136_62, e136_63, e136_66, e136_69, e136_70, e136_72, e136_75, e136_76, e136_77, e136_80, e136_81, e136_82, e136_85, e136_86, e136_89, e136_90, e136_91, e136_94, e136_95, e136_96, e136_99, e136_102, e136_105]
      exact r5 (Or.inl (fi.mp y))
    · have nf : ¬ (ki < wF (pW P) ∨ kj < wF (pW P)) := fun q => q.elim (fun q => y (fi.mpr q)) (fun q => absurd y2 (Int32.not_le.mpr (fj.mpr q)))
      have y' : pM P - wF (pW P) ≤ 7 := (nI_leI (b := 7) (by omega) (by decide)).mp y3
      have fq := FRQ.o (v := some o) (v' := some (o + 1)) hRow hOrd
      have y'' := y'
      have hF' := hF
      rw [em, p1] at y'' hF'
      rw [ei, ej]
      refine c_countAll (a := ki) (b := kj) hOrd hC (by omega) (by omega) (by omega) (by omega) hF' y'' fun F2 A2 L2 c1 c2 c3 c4 => ?_
      obtain ⟨-, -, -, -, -, -, -, f455', -⟩ := id (hS.q fq)
      simp only [tl_none, e136_0, e136_1, e136_2, e136_5, e136_8, e136_9, e136_10, e136_13, e136_16, e136_17, e136_18, e136_21, e136_22, e136_23, e136_26, e136_27, e136_28, e136_29, e136_32, e136_35, e136_38, e136_39, e136_40, e136_43, e136_46, e136_49, e136_50, e136_51, e136_54, e136_55, e136_56, e136_59, e136_62, e136_63, e136_66, e136_69, e136_70, e136_72, e136_75, e136_76, e136_77, e136_80, e136_81, e136_82, e136_85, e136_86, e136_89, e136_90, e136_91, e136_94, e136_95, e136_96, e136_99, e136_102, e136_105, k0, f455', hOrd.1, rf_some, c4, true_and]
      refine ⟨by simp, c_answer (hS.q fq) ?_⟩
      simp only [tl_some, e136_0, e136_1, e136_2, e136_5, e136_8, e136_9, e136_10, e136_13, e136_16, e136_17, e136_18, e136_21, e136_22, e136_23, e136_26, e136_27, e136_28, e136_29, e136_32, e136_35, e136_38, e136_39, e136_40, e136_43, e136_46, e136_49, e136_50, e136_51, e136_54, e136_55, e136_56, e136_59, e136_62, e136_63, e136_66, e136_69, e136_70, e136_72, e136_75, e136_76, e136_77, e136_80, e136_81, e136_82, e136_85, e136_86, e136_89, e136_90, e136_91, e136_94, e136_95, e136_96, e136_99, e136_102, e136_105]
      exact ansR hS hI es fq c1 ((c2.toQX).wide (by omega) (by omega)) hQ (by unfold sp_ahead; rw [if_pos hc, hki, hkj, if_neg nf, if_pos y', em, p1]; unfold pHs; rw [p2])
    · have nf : ¬ (ki < wF (pW P) ∨ kj < wF (pW P)) := fun q => q.elim (fun q => y (fi.mpr q)) (fun q => absurd y2 (Int32.not_le.mpr (fj.mpr q)))
      simp only [tl_some, e136_0, e136_1, e136_2, e136_5, e136_8, e136_9, e136_10, e136_13, e136_16, e136_17, e136_18, e136_21, e136_22, e136_23, e136_26, e136_27, e136_28, e136_29, e136_32, e136_35, e136_38, e136_39, e136_40, e136_43, e136_46, e136_49, e136_50, e136_51, e136_54, e136_55, e136_56, e136_59, e136_62, e136_63, e136_66, e136_69, e136_70, e136_72, e136_75, e136_76, e136_77, e136_80, e136_81, e136_82, e136_85, e136_86, e136_89, e136_90, e136_91, e136_94, e136_95, e136_96, e136_99, e136_102, e136_105]
      exact refQ hS hI hQ (k := 3) (by decide) (by unfold sp_ahead; rw [if_pos hc, hki, hkj, if_neg nf, if_neg (fun q => y3 (nI_le (b := 7) q (by decide)))])
    · simp only [tl_some, e136_0, e136_1, e136_2, e136_5, e136_8, e136_9, e136_10, e136_13, e136_16, e136_17, e136_18, e136_21, e136_22, e136_23, e136_26, e136_27, e136_28, e136_29, e136_32, e136_35, e136_38, e136_39, e136_40, e136_43, e136_46, e136_49, e136_50, e136_51, e136_54, e136_55, e136_56, e136_59, e136_62, e136_63, e136_66, e136_69, e136_70, e136_72, e136_75, e136_76, e136_77, e136_80, e136_81, e136_82, e136_85, e136_86, e136_89, e136_90, e136_91, e136_94, e136_95, e136_96, e136_99, e136_102, e136_105]
      exact r5 (Or.inr (fj.mp (Int32.not_le.mp y2)))
  · simp only [tl_some, e136_0, e136_1, e136_2, e136_5, e136_8, e136_9, e136_10, e136_13, e136_16, e136_17, e136_18, e136_21, e136_22, e136_23, e136_26, e136_27, e136_28, e136_29, e136_32, e136_35, e136_38, e136_39, e136_40, e136_43, e136_46, e136_49, e136_50, e136_51, e136_54, e136_55, e136_56, e136_59, e136_62, e136_63, e136_66, e136_69, e136_70, e136_72, e136_75, e136_76, e136_77, e136_80, e136_81, e136_82, e136_85, e136_86, e136_89, e136_90, e136_91, e136_94, e136_95, e136_96, e136_99, e136_102, e136_105]
    exact bad (fun q => z3 q.2.2)
end
