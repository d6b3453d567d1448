theorem could_may {w : Wl} {hs : Nat → Hg} {m b : Nat} : (fun c => couldAt w hs m b c (wL w + if wK w b = 1 then 1 else 0) (wB w)) = fun c => mayAt w hs m b c := rfl
section
variable {sa : Nat → Nat} {d n t h m : Nat} {Q : mj_Q} {K : Nat → Nat × Nat} {FI : Nat → Nat → Int32} {FL : Nat → Nat → Int64} {FR : Nat → Nat → Option Nat} {AI : Nat → Nat → Int32} {AL : Nat → Nat → Int64} {AR : Nat → Nat → Option Nat} {w : Wl} {hs : Nat → Hg}
variable {x : Nat} {P : PG}
theorem c_lawOfP {o : Nat} {s : WS} (hT : ToldS K FR (o + 1)) (hC : HC K FR FI AI AL o (o + 1) s.1 s.2.1.1 s.2.1.2.1) {b : Nat} (hb : b < wNB s.1) (hQ : Q (some (.int (nI (wL s.1 + if wK s.1 b = 1 then 1 else 0)))) (n, K, FI, FL, FR, AI, AL, AR)) : EV sa (d + 1) 93 [.ref (o + 1), .int (nI b)] (n, K, FI, FL, FR, AI, AL, AR) Q := by
  have hw := hC.2.2.2.1
  have hn4 := hw.2.2.2.1
  have hk3 := (hw.2.2.2.2.2.2.1 b hb).1
  have hbin : vp_in (nI b) 4 := vp_in_nI (by omega) (by decide)
  have hbcl : (nI b).toNatClampNeg = b := nI_clamp (by omega)
  obtain ⟨⟨-, -, l1, l2, -⟩, b0, -⟩ := hC.2.2.2.2.1
  refine c_lawOf hT hbin fun r hr => ?_
  rw [hbcl, (b0 b hb).1, l1] at hr
  have k1 : (nI (wK s.1 b) = 1) ↔ wK s.1 b = 1 := by rw [show (1 : Int32) = nI 1 from rfl, nI_eq (by omega) (by decide)]
  have hr' : r = nI (wL s.1 + if wK s.1 b = 1 then 1 else 0) := by
    rw [hr]
    by_cases q : wK s.1 b = 1
    · rw [if_pos (k1.mpr q), if_pos q, nI_succ]
    · rw [if_neg (fun e => q (k1.mp e)), if_neg q, Nat.add_zero]
  rw [hr']
  exact hQ
theorem c_places (hV : InvC x P (n, K, FI, FL, FR, AI, AL, AR)) {b : Int32} (hQ : ∀ μ', InvC x (rs P (sp_places P b)) μ' → FrC x (n, K, FI, FL, FR, AI, AL, AR) μ' → Q (some (.int (rv (sp_places P b)))) μ') : EV sa (d + 5) 113 [.ref x, .int b] (n, K, FI, FL, FR, AI, AL, AR) Q := by
  obtain ⟨o, h, hS, hI⟩ := hV
  replace hS : CSt K FR AR x o h := hS
  replace hI : CInv x o P K FR AR FI AI AL := hI
  obtain ⟨k0, -, f450, -, -, -, f454, f455, -, ⟨hH, hT, ht⟩, -, -, -, hRow, hOrd⟩ := id hS
  refine n113 k0 ?_
  simp only [e113_0, e113_1, e113_2, e113_5, e113_8, e113_9, e113_10, e113_13, e113_14, e113_15, e113_16, e113_19, e113_20, e113_21, e113_24, e113_27, e113_28, e113_31, e113_32, e113_35, e113_38, e113_41, e113_44, e113_47]
  refine ⟨by simp, c_isBill hS hI ?_⟩
  simp only [tl_some, e113_0, e113_1, e113_2, e113_5, e113_8, e113_9, e113_10, e113_13, e113_14, e113_15, e113_16, e113_19, e113_20, e113_21, e113_24, e113_27, e113_28, e113_31, e113_32, e113_35, e113_38, e113_41, e113_44, e113_47, k0, f450, hH.1, ht, rf_some, true_and, bI_eq0]
  refine ⟨fun z => ⟨by simp, ?_⟩, fun z => ⟨by simp, c_refuse hS ?_⟩⟩
  · have hb := ts_nf z
    obtain ⟨s, es, eb, hb4, p1, p2, p3⟩ := isB_wall hI hb
    have hC := (hI.hc es).1
    have hw := hC.2.2.2.1
    have xB : FI 387 (o + 1) = bI (wB s.1) := hC.2.2.2.2.1.1.2.2.2.1
    generalize hk : b.toNatClampNeg = k at *
    rw [eb]
    refine c_lawOfP hT hC hb4 ?_
    simp only [tl_some, e113_0, e113_1, e113_2, e113_5, e113_8, e113_9, e113_10, e113_13, e113_14, e113_15, e113_16, e113_19, e113_20, e113_21, e113_24, e113_27, e113_28, e113_31, e113_32, e113_35, e113_38, e113_41, e113_44, e113_47, k0, f450, hH.1, ht, hT.1, rf_some, xB, true_and]
    have hl4 := hw.2.2.1
    refine ⟨by simp, c_countPlaces hC hb4 (by split <;> omega) fun F' L' a1 a2 => ?_⟩
    simp only [tl_some, e113_0, e113_1, e113_2, e113_5, e113_8, e113_9, e113_10, e113_13, e113_14, e113_15, e113_16, e113_19, e113_20, e113_21, e113_24, e113_27, e113_28, e113_31, e113_32, e113_35, e113_38, e113_41, e113_44, e113_47]
    refine ⟨by simp, c_answer hS ?_⟩
    simp only [tl_some, e113_0, e113_1, e113_2, e113_5, e113_8, e113_9, e113_10, e113_13, e113_14, e113_15, e113_16, e113_19, e113_20, e113_21, e113_24, e113_27, e113_28, e113_31, e113_32, e113_35, e113_38, e113_41, e113_44, e113_47]
    exact ansL hS hI es a1 a2 hQ (by unfold sp_places; rw [if_pos hb, p1, p2, p3, hk]; rfl)
  · simp only [tl_some, e113_0, e113_1, e113_2, e113_5, e113_8, e113_9, e113_10, e113_13, e113_14, e113_15, e113_16, e113_19, e113_20, e113_21, e113_24, e113_27, e113_28, e113_31, e113_32, e113_35, e113_38, e113_41, e113_44, e113_47]
    exact refQ hS hI hQ (k := 1) (by decide) (by unfold sp_places; rw [if_neg (by simpa using z)])
theorem c_place (hV : InvC x P (n, K, FI, FL, FR, AI, AL, AR)) {b i : Int32} (hQ : ∀ μ', InvC x (rs P (sp_place P b i)) μ' → FrC x (n, K, FI, FL, FR, AI, AL, AR) μ' → Q (some (.int (rv (sp_place P b i)))) μ') : EV sa (d + 5) 114 [.ref x, .int b, .int i] (n, K, FI, FL, FR, AI, AL, AR) Q := by
  obtain ⟨o, h, hS, hI⟩ := hV
  replace hS : CSt K FR AR x o h := hS
  replace hI : CInv x o P K FR AR FI AI AL := hI
  obtain ⟨k0, -, f450, -, -, -, f454, f455, -, ⟨hH, hT, ht⟩, -, -, -, hRow, hOrd⟩ := id hS
  refine n114 k0 ?_
  simp only [e114_0, e114_1, e114_2, e114_5, e114_8, e114_9, e114_10, e114_13, e114_14, e114_15, e114_18, e114_19, e114_20, e114_21, e114_24, e114_27, e114_28, e114_31, e114_32, e114_35, e114_38, e114_41, e114_44, e114_45, e114_46, e114_49, e114_50, e114_51, e114_54, e114_57, e114_58, e114_59, e114_62]
  refine ⟨by simp, c_isBill hS hI ?_⟩
  simp only [tl_some, e114_0, e114_1, e114_2, e114_5, e114_8, e114_9, e114_10, e114_13, e114_14, e114_15, e114_18, e114_19, e114_20, e114_21, e114_24, e114_27, e114_28, e114_31, e114_32, e114_35, e114_38, e114_41, e114_44, e114_45, e114_46, e114_49, e114_50, e114_51, e114_54, e114_57, e114_58, e114_59, e114_62, k0, f450, hH.1, ht, rf_some, true_and, bI_eq0]
  refine ⟨fun z => ⟨by simp, ?_⟩, fun z => ⟨by simp, c_refuse hS ?_⟩⟩
  · have hb := ts_nf z
    obtain ⟨s, es, eb, hb4, p1, p2, p3⟩ := isB_wall hI hb
    have hC := (hI.hc es).1
    have hw := hC.2.2.2.1
    have h32 := hC.cells.2
    have xB : FI 387 (o + 1) = bI (wB s.1) := hC.2.2.2.2.1.1.2.2.2.1
    generalize hk : b.toNatClampNeg = k at *
    rw [eb]
    refine c_lawOfP hT hC hb4 ?_
    simp only [tl_some, e114_0, e114_1, e114_2, e114_5, e114_8, e114_9, e114_10, e114_13, e114_14, e114_15, e114_18, e114_19, e114_20, e114_21, e114_24, e114_27, e114_28, e114_31, e114_32, e114_35, e114_38, e114_41, e114_44, e114_45, e114_46, e114_49, e114_50, e114_51, e114_54, e114_57, e114_58, e114_59, e114_62, k0, f450, hH.1, ht, hT.1, rf_some, xB, true_and]
    have hl4 := hw.2.2.1
    refine ⟨by simp, c_findPlace hC hb4 (by split <;> omega) fun F' L' a1 a2 => ?_⟩
    have ef : fnd (fun c => couldAt s.1 s.2.1.1 s.2.1.2.1 k c (wL s.1 + if wK s.1 k = 1 then 1 else 0) (wB s.1) && decide (i = nI (ct (fun c => couldAt s.1 s.2.1.1 s.2.1.2.1 k c (wL s.1 + if wK s.1 k = 1 then 1 else 0) (wB s.1)) c))) (wW s.1 * wH s.1) = fnd (fun c => mayAt s.1 s.2.1.1 s.2.1.2.1 k c && decide (i = nI (ct (fun c => mayAt s.1 s.2.1.1 s.2.1.2.1 k c) c))) (wW s.1 * wH s.1) := rfl
    rw [ef]
    simp only [tl_some, e114_0, e114_1, e114_2, e114_5, e114_8, e114_9, e114_10, e114_13, e114_14, e114_15, e114_18, e114_19, e114_20, e114_21, e114_24, e114_27, e114_28, e114_31, e114_32, e114_35, e114_38, e114_41, e114_44, e114_45, e114_46, e114_49, e114_50, e114_51, e114_54, e114_57, e114_58, e114_59, e114_62, mj_kl]
    cases hf : fnd (fun c => mayAt s.1 s.2.1.1 s.2.1.2.1 k c && decide (i = nI (ct (fun c => mayAt s.1 s.2.1.1 s.2.1.2.1 k c) c))) (wW s.1 * wH s.1) with
    | none =>
      simp only [oI]
      refine ⟨fun y => absurd y (by decide), fun _ => ⟨by simp, c_refuse hS ?_⟩⟩
      simp only [tl_some, e114_0, e114_1, e114_2, e114_5, e114_8, e114_9, e114_10, e114_13, e114_14, e114_15, e114_18, e114_19, e114_20, e114_21, e114_24, e114_27, e114_28, e114_31, e114_32, e114_35, e114_38, e114_41, e114_44, e114_45, e114_46, e114_49, e114_50, e114_51, e114_54, e114_57, e114_58, e114_59, e114_62]
      exact refL hS hI es a1 a2 hQ (k := 1) (by decide) (by unfold sp_place; rw [if_pos hb, p1, p2, p3, hk, hf])
    | some c =>
      have hc := fnd_lt hf
      simp only [oI]
      refine ⟨fun _ => ⟨by simp, c_answer hS ?_⟩, fun y => absurd (nI_pos' (by omega)) y⟩
      simp only [tl_some, e114_0, e114_1, e114_2, e114_5, e114_8, e114_9, e114_10, e114_13, e114_14, e114_15, e114_18, e114_19, e114_20, e114_21, e114_24, e114_27, e114_28, e114_31, e114_32, e114_35, e114_38, e114_41, e114_44, e114_45, e114_46, e114_49, e114_50, e114_51, e114_54, e114_57, e114_58, e114_59, e114_62]
      exact ansL hS hI es a1 a2 hQ (by unfold sp_place; rw [if_pos hb, p1, p2, p3, hk, hf])
  · simp only [tl_some, e114_0, e114_1, e114_2, e114_5, e114_8, e114_9, e114_10, e114_13, e114_14, e114_15, e114_18, e114_19, e114_20, e114_21, e114_24, e114_27, e114_28, e114_31, e114_32, e114_35, e114_38, e114_41, e114_44, e114_45, e114_46, e114_49, e114_50, e114_51, e114_54, e114_57, e114_58, e114_59, e114_62]
    exact refQ hS hI hQ (k := 1) (by decide) (by unfold sp_place; rw [if_neg (by simpa using z)])
theorem c_table (hV : InvC x P (n, K, FI, FL, FR, AI, AL, AR)) {b k : Int32} {hang : Bool} (hQ : ∀ μ', InvC x (rs P (sp_table P b k hang)) μ' → FrC x (n, K, FI, FL, FR, AI, AL, AR) μ' → Q (some (.int (rv (sp_table P b k hang)))) μ') : EV sa (d + 5) 116 [.ref x, .int b, .int k, .int (bI hang)] (n, K, FI, FL, FR, AI, AL, AR) Q := by
  obtain ⟨o, h, hS, hI⟩ := hV
  replace hS : CSt K FR AR x o h := hS
  replace hI : CInv x o P K FR AR FI AI AL := hI
  obtain ⟨k0, -, f450, -, -, -, f454, f455, -, ⟨hH, hT, ht⟩, -, -, -, hRow, hOrd⟩ := id hS
  refine n116 k0 ?_
  simp only [e116_0, e116_1, e116_2, e116_5, e116_8, e116_9, e116_10, e116_13, e116_14, e116_15, e116_18, e116_19, e116_20, e116_23, e116_24, e116_25, e116_28, e116_29, e116_30, e116_31, e116_34, e116_35, e116_36, e116_37, e116_40, e116_43]
  refine ⟨by simp, c_isBill hS hI ?_⟩
  simp only [tl_some, e116_0, e116_1, e116_2, e116_5, e116_8, e116_9, e116_10, e116_13, e116_14, e116_15, e116_18, e116_19, e116_20, e116_23, e116_24, e116_25, e116_28, e116_29, e116_30, e116_31, e116_34, e116_35, e116_36, e116_37, e116_40, e116_43, k0, f450, rf_some, true_and, bI_eq0]
  refine ⟨fun z => ?_, fun z => ⟨by simp, c_refuse hS ?_⟩⟩
  · have hb := ts_nf z
    obtain ⟨s, es, eb, hb4, p1, p2, p3⟩ := isB_wall hI hb
    have hC := (hI.hc es).1
    refine ⟨fun y => ⟨by simp, c_refuse hS ?_⟩, fun y => ⟨fun y2 => ⟨by simp, ?_⟩, fun y2 => ⟨by simp, c_refuse hS ?_⟩⟩⟩
    · simp only [tl_some, e116_0, e116_1, e116_2, e116_5, e116_8, e116_9, e116_10, e116_13, e116_14, e116_15, e116_18, e116_19, e116_20, e116_23, e116_24, e116_25, e116_28, e116_29, e116_30, e116_31, e116_34, e116_35, e116_36, e116_37, e116_40, e116_43]
      exact refQ hS hI hQ (k := 2) (by decide) (by unfold sp_table; rw [if_pos hb, if_neg (fun q => absurd y (Int32.not_lt.mpr q.1))])
    · have hk : 0 ≤ k ∧ k ≤ 5 := ⟨Int32.not_lt.mp y, y2⟩
      obtain ⟨j, hj, ej⟩ := nI_of2 (M := 5) (n := 5) (by decide) y y2
      have ek : k.toNatClampNeg = j := by rw [ej]; exact nI_clamp (by omega)
      generalize hkb : b.toNatClampNeg = kb at *
      rw [eb, ej]
      refine c_countPlaces hC hb4 (by omega) fun F' L' a1 a2 => ?_
      simp only [tl_some, e116_0, e116_1, e116_2, e116_5, e116_8, e116_9, e116_10, e116_13, e116_14, e116_15, e116_18, e116_19, e116_20, e116_23, e116_24, e116_25, e116_28, e116_29, e116_30, e116_31, e116_34, e116_35, e116_36, e116_37, e116_40, e116_43]
      refine ⟨by simp, c_answer hS ?_⟩
      simp only [tl_some, e116_0, e116_1, e116_2, e116_5, e116_8, e116_9, e116_10, e116_13, e116_14, e116_15, e116_18, e116_19, e116_20, e116_23, e116_24, e116_25, e116_28, e116_29, e116_30, e116_31, e116_34, e116_35, e116_36, e116_37, e116_40, e116_43]
      exact ansL hS hI es a1 a2 hQ (by unfold sp_table; rw [if_pos hb, if_pos hk, p1, p2, p3, hkb, ek])
    · simp only [tl_some, e116_0, e116_1, e116_2, e116_5, e116_8, e116_9, e116_10, e116_13, e116_14, e116_15, e116_18, e116_19, e116_20, e116_23, e116_24, e116_25, e116_28, e116_29, e116_30, e116_31, e116_34, e116_35, e116_36, e116_37, e116_40, e116_43]
      exact refQ hS hI hQ (k := 2) (by decide) (by unfold sp_table; rw [if_pos hb, if_neg (fun q => y2 q.2)])
  · simp only [tl_some, e116_0, e116_1, e116_2, e116_5, e116_8, e116_9, e116_10, e116_13, e116_14, e116_15, e116_18, e116_19, e116_20, e116_23, e116_24, e116_25, e116_28, e116_29, e116_30, e116_31, e116_34, e116_35, e116_36, e116_37, e116_40, e116_43]
    exact refQ hS hI hQ (k := 1) (by decide) (by unfold sp_table; rw [if_neg (by simpa using z)])
theorem c_readBy (hV : InvC x P (n, K, FI, FL, FR, AI, AL, AR)) {v i : Int32} (hQ : ∀ μ', InvC x (rs P (sp_readBy P v i)) μ' → FrC x (n, K, FI, FL, FR, AI, AL, AR) μ' → Q (some (.int (rv (sp_readBy P v i)))) μ') : EV sa (d + 4) 126 [.ref x, .int v, .int i] (n, K, FI, FL, FR, AI, AL, AR) Q := by
  obtain ⟨o, h, hS, hI⟩ := hV
  replace hS : CSt K FR AR x o h := hS
  replace hI : CInv x o P K FR AR FI AI AL := hI
  obtain ⟨k0, -, f450, -, -, -, f454, f455, -, ⟨hH, hT, ht⟩, -, -, -, hRow, hOrd⟩ := id hS
  refine n126 k0 ?_
  simp only [e126_0, e126_1, e126_2, e126_5, e126_8, e126_9, e126_12, e126_13, e126_14, e126_17, e126_20, e126_23, e126_24, e126_25, e126_28, e126_29, e126_30, e126_33, e126_34, e126_35, e126_38, e126_39, e126_42, e126_43, e126_44, e126_47, e126_48, e126_50, e126_53, e126_56, e126_57, e126_58, e126_61, e126_62, e126_63, e126_64, e126_67, e126_70]
  refine ⟨by simp, c_isWord hS hI ?_⟩
  have bad : ¬ (isWo P v = true ∧ 0 ≤ i ∧ i < nI (wWL (pW P) v.toNatClampNeg)) → Q (some (.int (-1))) (n, K, mj_u2 FI 456 x 1, FL, FR, AI, AL, AR) := fun q => refQ hS hI hQ (k := 1) (by decide) (by unfold sp_readBy; rw [if_neg q])
  obtain ⟨-, -, -, -, -, -, -, -, -, -, -, ⟨f11, k11⟩, -⟩ := id hT
  simp only [tl_some, e126_0, e126_1, e126_2, e126_5, e126_8, e126_9, e126_12, e126_13, e126_14, e126_17, e126_20, e126_23, e126_24, e126_25, e126_28, e126_29, e126_30, e126_33, e126_34, e126_35, e126_38, e126_39, e126_42, e126_43, e126_44, e126_47, e126_48, e126_50, e126_53, e126_56, e126_57, e126_58, e126_61, e126_62, e126_63, e126_64, e126_67, e126_70, k0, f450, hH.1, ht, hT.1, f11, k11, rf_some, true_and, bI_eq0, true_or]
  refine ⟨fun z => ⟨by simp, c_refuse hS ?_⟩, fun z => ⟨fun y => ⟨by simp, c_refuse hS ?_⟩, fun y => ?_⟩⟩
  · simp only [tl_some, e126_0, e126_1, e126_2, e126_5, e126_8, e126_9, e126_12, e126_13, e126_14, e126_17, e126_20, e126_23, e126_24, e126_25, e126_28, e126_29, e126_30, e126_33, e126_34, e126_35, e126_38, e126_39, e126_42, e126_43, e126_44, e126_47, e126_48, e126_50, e126_53, e126_56, e126_57, e126_58, e126_61, e126_62, e126_63, e126_64, e126_67, e126_70]
    exact bad (fun q => by rw [z] at q; cases q.1)
  · simp only [tl_some, e126_0, e126_1, e126_2, e126_5, e126_8, e126_9, e126_12, e126_13, e126_14, e126_17, e126_20, e126_23, e126_24, e126_25, e126_28, e126_29, e126_30, e126_33, e126_34, e126_35, e126_38, e126_39, e126_42, e126_43, e126_44, e126_47, e126_48, e126_50, e126_53, e126_56, e126_57, e126_58, e126_61, e126_62, e126_63, e126_64, e126_67, e126_70]
    exact bad (fun q => absurd y (Int32.not_lt.mpr q.2.1))
  · have hb := ts_nf z
    obtain ⟨s, es, eb, hb4, p1, p2, p3⟩ := isW_wall hI hb
    have hC := (hI.hc es).1
    have hw := hC.2.2.2.1
    have h32 := hC.cells.2
    have hn6 := hw.2.2.2.2.2.1
    obtain ⟨⟨l1, l8⟩, -⟩ := hw.2.2.2.2.2.2.2 _ hb4
    generalize hk : v.toNatClampNeg = k at *
    subst eb
    have hin : vp_in (nI k) 6 := vp_in_nI (by omega) (by decide)
    have xl : AI (o + 1 + 11) k = nI (wWL s.1 k) := (hC.2.2.2.2.1.2.2.1 k hb4).1
    simp only [hin, hk, xl, true_and]
    refine ⟨fun y2 => ⟨by simp, ?_⟩, fun y2 => ⟨by simp, c_refuse hS ?_⟩⟩
    · have hi : 0 ≤ i ∧ i < nI (wWL s.1 k) := ⟨Int32.not_lt.mp y, y2⟩
      obtain ⟨e1, e2⟩ := rng_of (N := wWL s.1 k) (by omega) hi
      have hcond : isWo P (nI k) = true ∧ 0 ≤ i ∧ i < nI (wWL (pW P) (nI k).toNatClampNeg) := by rw [p1, hk]; exact ⟨hb, hi⟩
      refine c_firstRead hC hb4 fun F' L' a1 a2 => ?_
      have er : fnd (fun c => stand s.1 s.2.1.1 s.2.1.2.1 k c) (wW s.1 * wH s.1) = rdAt P k := by unfold rdAt; rw [p1, p2, p3]
      rw [er]
      simp only [tl_some, e126_0, e126_1, e126_2, e126_5, e126_8, e126_9, e126_12, e126_13, e126_14, e126_17, e126_20, e126_23, e126_24, e126_25, e126_28, e126_29, e126_30, e126_33, e126_34, e126_35, e126_38, e126_39, e126_42, e126_43, e126_44, e126_47, e126_48, e126_50, e126_53, e126_56, e126_57, e126_58, e126_61, e126_62, e126_63, e126_64, e126_67, e126_70, k0, f450, rf_some, true_and, mj_kl]
      cases hf : rdAt P k with
      | none =>
        simp only [oI]
        refine ⟨fun q => absurd q (by decide), fun _ => ⟨by simp, c_refuse hS ?_⟩⟩
        simp only [tl_some, e126_0, e126_1, e126_2, e126_5, e126_8, e126_9, e126_12, e126_13, e126_14, e126_17, e126_20, e126_23, e126_24, e126_25, e126_28, e126_29, e126_30, e126_33, e126_34, e126_35, e126_38, e126_39, e126_42, e126_43, e126_44, e126_47, e126_48, e126_50, e126_53, e126_56, e126_57, e126_58, e126_61, e126_62, e126_63, e126_64, e126_67, e126_70]
        exact refL hS hI es a1 a2 hQ (k := 6) (by decide) (by unfold sp_readBy; rw [if_pos hcond, hk, hf])
      | some c =>
        rw [← er] at hf
        obtain ⟨f1, f2, -⟩ := fnd_some hf
        have fit : c % wW s.1 + wWL s.1 k ≤ wW s.1 := by
          simp only [stand, Bool.and_eq_true, decide_eq_true_eq] at f2
          exact f2.1
        have hci : c + i.toNatClampNeg < wW s.1 * wH s.1 := by
          have hW : 0 < wW s.1 := by have := hw.1.1; omega
          have d1 := Nat.div_add_mod c (wW s.1)
          have d2 : c / wW s.1 < wH s.1 := Nat.div_lt_of_lt_mul f1
          have d3 : wW s.1 * (c / wW s.1 + 1) ≤ wW s.1 * wH s.1 := Nat.mul_le_mul_left _ d2
          rw [Nat.mul_add] at d3
          omega
        rw [er] at hf
        simp only [oI]
        refine ⟨fun _ => ⟨by simp, ?_⟩, fun q => absurd (nI_pos' (by omega)) q⟩
        have ec : nI c + i = nI (c + i.toNatClampNeg) := by rw [← nI_add, ← e1]
        rw [ec]
        refine c_latestAt a1.1 a1.2.2.2.2.2.1 (by omega) ?_
        simp only [tl_some, e126_0, e126_1, e126_2, e126_5, e126_8, e126_9, e126_12, e126_13, e126_14, e126_17, e126_20, e126_23, e126_24, e126_25, e126_28, e126_29, e126_30, e126_33, e126_34, e126_35, e126_38, e126_39, e126_42, e126_43, e126_44, e126_47, e126_48, e126_50, e126_53, e126_56, e126_57, e126_58, e126_61, e126_62, e126_63, e126_64, e126_67, e126_70]
        refine ⟨by simp, c_answer hS ?_⟩
        simp only [tl_some, e126_0, e126_1, e126_2, e126_5, e126_8, e126_9, e126_12, e126_13, e126_14, e126_17, e126_20, e126_23, e126_24, e126_25, e126_28, e126_29, e126_30, e126_33, e126_34, e126_35, e126_38, e126_39, e126_42, e126_43, e126_44, e126_47, e126_48, e126_50, e126_53, e126_56, e126_57, e126_58, e126_61, e126_62, e126_63, e126_64, e126_67, e126_70]
        exact ansL hS hI es a1 a2 hQ (by unfold sp_readBy; rw [if_pos hcond, hk, hf, p1, p2, p3])
    · simp only [tl_some, e126_0, e126_1, e126_2, e126_5, e126_8, e126_9, e126_12, e126_13, e126_14, e126_17, e126_20, e126_23, e126_24, e126_25, e126_28, e126_29, e126_30, e126_33, e126_34, e126_35, e126_38, e126_39, e126_42, e126_43, e126_44, e126_47, e126_48, e126_50, e126_53, e126_56, e126_57, e126_58, e126_61, e126_62, e126_63, e126_64, e126_67, e126_70]
      exact bad (fun q => by rw [p1] at q; exact y2 q.2.2)
end
