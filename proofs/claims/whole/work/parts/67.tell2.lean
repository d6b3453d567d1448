section
variable {sa : Nat → Nat} {d n t h m : Nat} {Q : mj_Q} {K : Nat → Nat × Nat} {FI : Nat → Nat → Int32} {FL : Nat → Nat → Int64} {FR : Nat → Nat → Option Nat} {AI : Nat → Nat → Int32} {AL : Nat → Nat → Int64} {AR : Nat → Nat → Option Nat} {w : Wl} {hs : Nat → Hg}
variable {te ta E p : Nat}
theorem c_takeKind (hS : TelS K FR te h ta) (hR : TokR FI FL (te + 1) (AI ta) E p) (hE : E ≤ 900) (hno : ∀ f a, pKind (AI ta) E p = .inl (f, a) → ∀ FI' : Nat → Nat → Int32, FI' 262 te = nI f → FI' 263 te = nI a → TE FI FI' FL FL te → Q (some (.int 0)) (n, K, FI', FL, FR, AI, AL, AR)) (hok : ∀ k p', pKind (AI ta) E p = .inr (k, p') → k ≤ 3 → ∀ (FI' : Nat → Nat → Int32) (FL' : Nat → Nat → Int64), TokR FI' FL' (te + 1) (AI ta) E p' → FI' 264 te = nI k → TG FI FI' FL FL' te → Q (some (.int 1)) (n, K, FI', FL', FR, AI, AL, AR)) : EV sa (d + 11) 66 [.ref te] (n, K, FI, FL, FR, AI, AL, AR) Q := by
  obtain ⟨k0, f0, hTk, -⟩ := id hS
  have yes : ∀ (k : Nat), k ≤ 3 → pKind (AI ta) E p = .inr (k, stp (AI ta) E p) → WP sa (EV sa (d + 10)) 66 Q 0 0 66 [.ref te] [.int (nI k), .ref te] (n, K, FI, FL, FR, AI, AL, AR) := by
    intro k hk e
    have u : mj_u2 FI 264 te (nI k) 264 te = nI k := mj_u2_s
    simp only [e66_0, e66_1, e66_2, e66_5, e66_7, e66_10, e66_13, e66_14, e66_17, e66_18, e66_21, e66_23, e66_26, e66_29, e66_30, e66_33, e66_34, e66_37, e66_39, e66_42, e66_45, e66_46, e66_49, e66_50, e66_53, e66_55, e66_58, e66_61, e66_62, e66_65, e66_66, e66_69, e66_70, e66_73, e66_76, e66_77, e66_78, e66_81, e66_82, e66_83, e66_86, e66_89, e66_90, k0, f0, rf_some, u, true_and]
    have hR2 : TokR (mj_u2 FI 264 te (nI k)) FL (te + 1) (AI ta) E p := hR.fx (fun f => mj_u2_2 (by omega)) (fun _ => rfl)
    refine ⟨fun _ => ⟨by simp, c_stepT hS hR2 hE fun F' G' a1 a2 => ?_⟩, fun z => absurd (nI_pos' (by omega)) z⟩
    simp only [tl_none, e66_0, e66_1, e66_2, e66_5, e66_7, e66_10, e66_13, e66_14, e66_17, e66_18, e66_21, e66_23, e66_26, e66_29, e66_30, e66_33, e66_34, e66_37, e66_39, e66_42, e66_45, e66_46, e66_49, e66_50, e66_53, e66_55, e66_58, e66_61, e66_62, e66_65, e66_66, e66_69, e66_70, e66_73, e66_76, e66_77, e66_78, e66_81, e66_82, e66_83, e66_86, e66_89, e66_90, or_true, true_and]
    refine hok k _ e hk F' G' a1 ?_ ?_
    · rw [a2.1 264 te (Or.inl (by omega)), mj_u2_s]
    · exact TG.trans ((FIx_u2 (fs := [264]) (by simp)).toTG (by simp)) a2.toTG
  refine n66 k0 ?_
  simp only [e66_0, e66_1, e66_2, e66_5, e66_7, e66_10, e66_13, e66_14, e66_17, e66_18, e66_21, e66_23, e66_26, e66_29, e66_30, e66_33, e66_34, e66_37, e66_39, e66_42, e66_45, e66_46, e66_49, e66_50, e66_53, e66_55, e66_58, e66_61, e66_62, e66_65, e66_69, e66_70, e66_73, e66_76, e66_77, e66_78, e66_81, e66_82, e66_83, e66_86, e66_89, e66_90, k0, f0, rf_some, true_and]
  refine ⟨by simp, c_isThe hTk hR hE (by decide) ?_⟩
  simp only [tl_some, e66_0, e66_1, e66_2, e66_5, e66_7, e66_10, e66_13, e66_14, e66_17, e66_18, e66_21, e66_23, e66_26, e66_29, e66_30, e66_33, e66_34, e66_37, e66_39, e66_42, e66_45, e66_46, e66_49, e66_50, e66_53, e66_55, e66_58, e66_61, e66_62, e66_65, e66_69, e66_70, e66_73, e66_76, e66_77, e66_78, e66_81, e66_82, e66_83, e66_86, e66_89, e66_90, k0, f0, rf_some, true_and, bI_eq0]
  refine ⟨fun z0 => ⟨by simp, c_isThe hTk hR hE (by decide) ?_⟩, fun z => yes 0 (by omega) (by simp [pKind, show isK (AI ta) E p 14 = true by simpa using z])⟩
  simp only [tl_some, e66_0, e66_1, e66_2, e66_5, e66_7, e66_10, e66_13, e66_14, e66_17, e66_18, e66_21, e66_23, e66_26, e66_29, e66_30, e66_33, e66_34, e66_37, e66_39, e66_42, e66_45, e66_46, e66_49, e66_50, e66_53, e66_55, e66_58, e66_61, e66_62, e66_65, e66_69, e66_70, e66_73, e66_76, e66_77, e66_78, e66_81, e66_82, e66_83, e66_86, e66_89, e66_90, k0, f0, rf_some, true_and, bI_eq0]
  refine ⟨fun z1 => ⟨by simp, c_isThe hTk hR hE (by decide) ?_⟩, fun z => yes 1 (by omega) (by simp [pKind, z0, show isK (AI ta) E p 15 = true by simpa using z])⟩
  simp only [tl_some, e66_0, e66_1, e66_2, e66_5, e66_7, e66_10, e66_13, e66_14, e66_17, e66_18, e66_21, e66_23, e66_26, e66_29, e66_30, e66_33, e66_34, e66_37, e66_39, e66_42, e66_45, e66_46, e66_49, e66_50, e66_53, e66_55, e66_58, e66_61, e66_62, e66_65, e66_69, e66_70, e66_73, e66_76, e66_77, e66_78, e66_81, e66_82, e66_83, e66_86, e66_89, e66_90, k0, f0, rf_some, true_and, bI_eq0]
  refine ⟨fun z2 => ⟨by simp, c_isThe hTk hR hE (by decide) ?_⟩, fun z => yes 2 (by omega) (by simp [pKind, z0, z1, show isK (AI ta) E p 16 = true by simpa using z])⟩
  simp only [tl_some, e66_0, e66_1, e66_2, e66_5, e66_7, e66_10, e66_13, e66_14, e66_17, e66_18, e66_21, e66_23, e66_26, e66_29, e66_30, e66_33, e66_34, e66_37, e66_39, e66_42, e66_45, e66_46, e66_49, e66_50, e66_53, e66_55, e66_58, e66_61, e66_62, e66_65, e66_69, e66_70, e66_73, e66_76, e66_77, e66_78, e66_81, e66_82, e66_83, e66_86, e66_89, e66_90, k0, f0, rf_some, true_and, bI_eq0]
  refine ⟨fun z3 => ?_, fun z => yes 3 (by omega) (by simp [pKind, z0, z1, z2, show isK (AI ta) E p 17 = true by simpa using z])⟩
  have u : mj_u2 FI 264 te (-1) 264 te = -1 := mj_u2_s
  simp only [e66_0, e66_1, e66_2, e66_5, e66_7, e66_10, e66_13, e66_14, e66_17, e66_18, e66_21, e66_23, e66_26, e66_29, e66_30, e66_33, e66_34, e66_37, e66_39, e66_42, e66_45, e66_46, e66_49, e66_50, e66_53, e66_55, e66_58, e66_61, e66_62, e66_65, e66_66, e66_69, e66_70, e66_73, e66_76, e66_77, e66_78, e66_81, e66_82, e66_83, e66_86, e66_89, e66_90, k0, u, true_and]
  have hR2 : TokR (mj_u2 FI 264 te (-1)) FL (te + 1) (AI ta) E p := hR.fx (fun f => mj_u2_2 (by omega)) (fun _ => rfl)
  refine ⟨fun z => absurd z (by decide), fun _ => ⟨by simp, ?_⟩⟩
  refine c_wrong (f := 1) hS hR2 fun F' a1 a2 a3 => ?_
  simp only [tl_some, e66_0, e66_1, e66_2, e66_5, e66_7, e66_10, e66_13, e66_14, e66_17, e66_18, e66_21, e66_23, e66_26, e66_29, e66_30, e66_33, e66_34, e66_37, e66_39, e66_42, e66_45, e66_46, e66_49, e66_50, e66_53, e66_55, e66_58, e66_61, e66_62, e66_65, e66_66, e66_69, e66_70, e66_73, e66_76, e66_77, e66_78, e66_81, e66_82, e66_83, e66_86, e66_89, e66_90, true_or, true_and]
  exact hno 1 p (by simp [pKind, z0, z1, z2, z3]) F' a1 a2 (TE.trans ((FIx_u2 (fs := [264]) (by simp)).toTE (by simp)) (a3.toTE (by simp)))
theorem TokR.name {T : Nat → Int32} {tk : Nat} (hR : TokR FI FL tk T E p) (h1 : srt T E p = 1) : PkN (FL 326 tk) (wd T E p) := by
  obtain ⟨-, -, -, h8, -, hl⟩ := srt_let h1
  exact PkN.of h8 hl (hR.2.2.2.2.2.1 h1).2
theorem c_find (hS : TelS K FR te h ta) (hR : TokR FI FL (te + 1) (AI ta) E p) (h1 : srt (AI ta) E p = 1) {arr L cnt : Nat} {names : Nat → List Nat} (ha : K arr = (4, L)) (hc : cnt ≤ L) (hL : L < 100) (hn : ∀ i, i < cnt → PkN (AL arr i) (names i)) (hQ : Q (some (.int (oI (fndL names cnt (wd (AI ta) E p)) (-1)))) (n, K, FI, FL, FR, AI, AL, AR)) : EV sa (d + 1) 70 [.ref te, .ref arr, .int (nI cnt)] (n, K, FI, FL, FR, AI, AL, AR) Q := by
  obtain ⟨k0, f0, ⟨kt, -⟩, -⟩ := id hS
  have hN := hR.name h1
  have isA : mj_isA 4 := Or.inr (Or.inr (Or.inl rfl))
  unfold fndL at hQ
  have loop : ∀ rr i, i + rr = cnt → fnd (fun i => decide (names i = wd (AI ta) E p)) i = none → WP sa (EV sa d) 70 Q 0 0 2 [.ref te, .ref arr, .int (nI cnt), .int (nI i)] [] (n, K, FI, FL, FR, AI, AL, AR) := by
    intro rr
    induction rr with
    | zero =>
      intro i hi hf
      have hi' : i = cnt := by omega
      subst hi'
      rw [hf] at hQ
      rw [e70_2]
      simp only [e70_0, e70_1, e70_3, e70_4, e70_7, e70_8, e70_9, e70_10, e70_13, e70_14, e70_15, e70_16, e70_17, e70_20, e70_23, e70_24, e70_27, e70_28, e70_29, e70_32, e70_35, e70_36]
      exact ⟨fun _ => hQ, fun z => absurd (nI_le (Nat.le_refl _) (by omega)) z⟩
    | succ rr ih =>
      intro i hi hf
      have hin : vp_in (nI i) L := vp_in_nI (by omega) (by omega)
      have hcl : (nI i).toNatClampNeg = i := nI_clamp (by omega)
      have e := PkN.inj (hn i (by omega)) hN
      rw [e70_2]
      simp only [e70_0, e70_1, e70_3, e70_4, e70_7, e70_8, e70_9, e70_10, e70_13, e70_14, e70_15, e70_16, e70_17, e70_20, e70_23, e70_24, e70_27, e70_28, e70_29, e70_32, e70_35, e70_36, k0, f0, kt, ha, rf_some, isA, nI_ofNat, hin, hcl, lg_cmp_0, e, nI_1, true_and, mj_kl]
      refine ⟨fun z => absurd z (nI_ge (by omega) (by omega)), fun _ => ⟨fun z => absurd z (nI_ge (by omega) (by omega)), fun _ => ⟨fun z => ?_, fun z => ?_⟩⟩⟩
      · exact ih (i + 1) (by omega) (fnd_no hf (by simpa using z))
      · rw [fnd_yes hf (by simpa using z) (show i < cnt by omega)] at hQ
        exact hQ
  refine n70 k0 ?_
  simp only [e70_0, e70_1, e70_3, e70_4, e70_7, e70_8, e70_9, e70_10, e70_13, e70_14, e70_15, e70_16, e70_17, e70_20, e70_23, e70_24, e70_27, e70_28, e70_29, e70_32, e70_35, e70_36, mj_kl, mj_u]
  simpa [nI_0] using loop cnt 0 (by omega) rfl
theorem fnd_lt {q : Nat → Bool} {n k : Nat} (h : fnd q n = some k) : k < n := (fnd_some h).1
theorem isNm_1 {T : Nat → Int32} (h : isNm T E p = true) : srt T E p = 1 := by
  simp only [isNm, Bool.and_eq_true, decide_eq_true_eq] at h
  exact h.1.1.1.1.1.1
theorem c_takeNewName (hS : TelS K FR te h ta) (hR : TokR FI FL (te + 1) (AI ta) E p) (hE : E ≤ 900) {S : PS} (hW1 : FI 388 (h + 1) = nI (wNB (sW S))) (hW2 : FI 389 (h + 1) = nI (wNR (sW S))) (hb4 : wNB (sW S) ≤ 4) (hr3 : wNR (sW S) ≤ 3) (hbn : ∀ b, b < wNB (sW S) → PkN (AL (te + 3) b) (sBn S b)) (hrn : ∀ r, r < wNR (sW S) → PkN (AL (te + 4) r) (sRn S r)) (hno : ∀ f a, pNew (AI ta) E S p = .inl (f, a) → ∀ FI' : Nat → Nat → Int32, FI' 262 te = nI f → FI' 263 te = nI a → TE FI FI' FL FL te → Q (some (.int 0)) (n, K, FI', FL, FR, AI, AL, AR)) (hok : ∀ p', pNew (AI ta) E S p = .inr p' → srt (AI ta) E p = 1 → ∀ (FI' : Nat → Nat → Int32) (FL' : Nat → Nat → Int64), TokR FI' FL' (te + 1) (AI ta) E p' → PkN (FL' 265 te) (wd (AI ta) E p) → TG FI FI' FL FL' te → Q (some (.int 1)) (n, K, FI', FL', FR, AI, AL, AR)) : EV sa (d + 12) 67 [.ref te] (n, K, FI, FL, FR, AI, AL, AR) Q := by
  obtain ⟨k0, f0, hTk, ⟨f257, k257⟩, ⟨f258, k258⟩, -, f260, hH, hT, -⟩ := id hS
  refine n67 k0 ?_
  simp only [e67_0, e67_1, e67_4, e67_7, e67_10, e67_11, e67_12, e67_15, e67_16, e67_17, e67_18, e67_21, e67_22, e67_25, e67_28, e67_31, e67_34, e67_35, e67_36, e67_39, e67_40, e67_43, e67_46, e67_49, e67_52, e67_53, e67_54, e67_57, e67_58, e67_59, e67_62, k0, f0, rf_some, true_and]
  refine ⟨by simp, c_isName hTk hR hE ?_⟩
  simp only [tl_some, e67_0, e67_1, e67_4, e67_7, e67_10, e67_11, e67_12, e67_15, e67_16, e67_17, e67_18, e67_21, e67_22, e67_25, e67_28, e67_31, e67_34, e67_35, e67_36, e67_39, e67_40, e67_43, e67_46, e67_49, e67_52, e67_53, e67_54, e67_57, e67_58, e67_59, e67_62, k0, f257, f258, f260, rf_some, true_and, bI_eq0, hT.1, hW1, hW2]
  refine ⟨fun z => ?_, fun z => ⟨by simp, ?_⟩⟩
  · have z' : isNm (AI ta) E p = true := by simpa using z
    have s1 := isNm_1 z'
    refine ⟨by simp, c_find hS hR s1 k257 hb4 (by omega) hbn ?_⟩
    have dup : (fndL (sBn S) (wNB (sW S)) (wd (AI ta) E p)).isSome = true ∨ (fndL (sRn S) (wNR (sW S)) (wd (AI ta) E p)).isSome = true → pNew (AI ta) E S p = .inl (3, p) := fun y => by
      unfold pNew
      rw [if_pos z', if_pos (by simpa using y)]
    have w3 : (fndL (sBn S) (wNB (sW S)) (wd (AI ta) E p)).isSome = true ∨ (fndL (sRn S) (wNR (sW S)) (wd (AI ta) E p)).isSome = true → EV sa (d + 11) 54 [.ref te, .int 3] (n, K, FI, FL, FR, AI, AL, AR) (fun v μ => WP sa (EV sa (d + 11)) 67 Q 0 0 57 [.ref te] (v.toList ++ []) μ) := fun y => by
      refine c_wrong (f := 3) hS hR fun F' a1 a2 a3 => ?_
      simp only [tl_some, e67_0, e67_1, e67_4, e67_7, e67_10, e67_11, e67_12, e67_15, e67_16, e67_17, e67_18, e67_21, e67_22, e67_25, e67_28, e67_31, e67_34, e67_35, e67_36, e67_39, e67_40, e67_43, e67_46, e67_49, e67_52, e67_53, e67_54, e67_57, e67_58, e67_59, e67_62, true_or, true_and]
      exact hno 3 p (dup y) F' a1 a2 (a3.toTE (by simp))
    simp only [tl_some, e67_0, e67_1, e67_4, e67_7, e67_10, e67_11, e67_12, e67_15, e67_16, e67_17, e67_18, e67_21, e67_22, e67_25, e67_28, e67_31, e67_34, e67_35, e67_36, e67_39, e67_40, e67_43, e67_46, e67_49, e67_52, e67_53, e67_54, e67_58, e67_59, e67_62, k0, f258, f260, rf_some, true_and, hT.1, hW2]
    cases hf : fndL (sBn S) (wNB (sW S)) (wd (AI ta) E p) with
    | some i =>
      have := fnd_lt hf
      simp only [oI]
      exact ⟨fun _ => ⟨by simp, w3 (Or.inl (by rw [hf]; rfl))⟩, fun y => absurd (nI_pos' (by omega)) y⟩
    | none =>
      simp only [oI]
      refine ⟨fun y => absurd y (by decide), fun _ => ⟨by simp, c_find hS hR s1 k258 hr3 (by omega) hrn ?_⟩⟩
      simp only [tl_some, e67_0, e67_1, e67_4, e67_7, e67_10, e67_11, e67_12, e67_15, e67_16, e67_17, e67_18, e67_21, e67_22, e67_25, e67_28, e67_31, e67_34, e67_35, e67_36, e67_39, e67_40, e67_43, e67_46, e67_49, e67_52, e67_53, e67_54, e67_58, e67_59]
      cases hg : fndL (sRn S) (wNR (sW S)) (wd (AI ta) E p) with
      | some i =>
        have := fnd_lt hg
        simp only [oI]
        exact ⟨fun y => absurd y (nI_pos (by omega)), fun _ => ⟨by simp, w3 (Or.inr (by rw [hg]; rfl))⟩⟩
      | none =>
        simp only [oI]
        refine ⟨fun _ => ⟨by simp, ?_⟩, fun y => absurd (by decide) y⟩
        refine c_takeWord hS hR hE (fun f a e => ?_) (fun p' e _ F' G' a1 a2 a3 a4 => ?_)
        · unfold pWd at e
          rw [if_pos s1] at e
          cases e
        · simp only [tl_some, e67_0, e67_1, e67_4, e67_7, e67_10, e67_11, e67_12, e67_15, e67_16, e67_17, e67_18, e67_21, e67_22, e67_25, e67_28, e67_31, e67_34, e67_35, e67_36, e67_39, e67_40, e67_43, e67_46, e67_49, e67_52, e67_53, e67_54, e67_57, e67_58, e67_59, e67_62, or_true, true_and]
          refine hok p' ?_ s1 F' G' a1 (PkN.of (srt_let s1).2.2.2.1 (srt_let s1).2.2.2.2.2 a3) a4
          unfold pWd at e
          rw [if_pos s1] at e
          unfold pNew
          rw [if_pos z', hf, hg]
          simpa using e
  · refine c_wrong (f := 1) hS hR fun F' a1 a2 a3 => ?_
    simp only [tl_some, e67_0, e67_1, e67_4, e67_7, e67_10, e67_11, e67_12, e67_15, e67_16, e67_17, e67_18, e67_21, e67_22, e67_25, e67_28, e67_31, e67_34, e67_35, e67_36, e67_39, e67_40, e67_43, e67_46, e67_49, e67_52, e67_53, e67_54, e67_57, e67_58, e67_59, e67_62, true_or, true_and]
    exact hno 1 p (by unfold pNew; rw [if_neg (by simpa using z)]) F' a1 a2 (a3.toTE (by simp))
theorem c_takeOldName (hS : TelS K FR te h ta) (hR : TokR FI FL (te + 1) (AI ta) E p) (hE : E ≤ 900) {arr L cnt : Nat} {names : Nat → List Nat} (ha : K arr = (4, L)) (hc : cnt ≤ L) (hL : L < 100) (hn : ∀ i, i < cnt → PkN (AL arr i) (names i)) (hno : ∀ f a, pOld (AI ta) E names cnt p = .inl (f, a) → ∀ FI' : Nat → Nat → Int32, FI' 262 te = nI f → FI' 263 te = nI a → TE FI FI' FL FL te → Q (some (.int 0)) (n, K, FI', FL, FR, AI, AL, AR)) (hok : ∀ i p', pOld (AI ta) E names cnt p = .inr (i, p') → i < cnt → ∀ (FI' : Nat → Nat → Int32) (FL' : Nat → Nat → Int64), TokR FI' FL' (te + 1) (AI ta) E p' → FI' 264 te = nI i → TG FI FI' FL FL' te → Q (some (.int 1)) (n, K, FI', FL', FR, AI, AL, AR)) : EV sa (d + 12) 68 [.ref te, .ref arr, .int (nI cnt)] (n, K, FI, FL, FR, AI, AL, AR) Q := by
  obtain ⟨k0, f0, hTk, -⟩ := id hS
  refine n68 k0 ?_
  simp only [e68_0, e68_1, e68_4, e68_7, e68_10, e68_11, e68_12, e68_15, e68_16, e68_17, e68_18, e68_19, e68_20, e68_23, e68_26, e68_27, e68_30, e68_33, e68_34, e68_35, e68_38, e68_39, e68_40, e68_43, e68_46, e68_47, k0, f0, rf_some, true_and]
  refine ⟨by simp, c_isName hTk hR hE ?_⟩
  simp only [tl_some, e68_0, e68_1, e68_4, e68_7, e68_10, e68_11, e68_12, e68_15, e68_16, e68_17, e68_18, e68_19, e68_20, e68_23, e68_26, e68_27, e68_30, e68_33, e68_34, e68_35, e68_38, e68_39, e68_40, e68_43, e68_46, e68_47, k0, f0, rf_some, true_and, bI_eq0]
  refine ⟨fun z => ?_, fun z => ⟨by simp, ?_⟩⟩
  · have z' : isNm (AI ta) E p = true := by simpa using z
    have s1 := isNm_1 z'
    refine ⟨by simp, c_find hS hR s1 ha hc hL hn ?_⟩
    have u : ∀ v : Int32, mj_u2 FI 264 te v 264 te = v := fun v => mj_u2_s
    have hR2 : ∀ v : Int32, TokR (mj_u2 FI 264 te v) FL (te + 1) (AI ta) E p := fun v => hR.fx (fun f => mj_u2_2 (by omega)) (fun _ => rfl)
    simp only [tl_some, e68_0, e68_1, e68_4, e68_7, e68_10, e68_11, e68_12, e68_15, e68_16, e68_17, e68_18, e68_19, e68_20, e68_23, e68_26, e68_27, e68_30, e68_33, e68_34, e68_35, e68_38, e68_39, e68_40, e68_43, e68_46, e68_47, k0, f0, rf_some, true_and, u]
    cases hf : fndL names cnt (wd (AI ta) E p) with
    | some i =>
      have hi := fnd_lt hf
      simp only [oI]
      refine ⟨fun _ => ⟨by simp, c_stepT hS (hR2 _) hE fun F' G' a1 a2 => ?_⟩, fun y => absurd (nI_pos' (by omega)) y⟩
      simp only [tl_none, e68_0, e68_1, e68_4, e68_7, e68_10, e68_11, e68_12, e68_15, e68_16, e68_17, e68_18, e68_19, e68_20, e68_23, e68_26, e68_27, e68_30, e68_33, e68_34, e68_35, e68_38, e68_39, e68_40, e68_43, e68_46, e68_47, or_true, true_and]
      refine hok i _ (by unfold pOld; rw [if_pos z', hf]) hi F' G' a1 ?_ ?_
      · rw [a2.1 264 te (Or.inl (by omega)), mj_u2_s]
      · exact TG.trans ((FIx_u2 (fs := [264]) (by simp)).toTG (by simp)) a2.toTG
    | none =>
      simp only [oI]
      refine ⟨fun y => absurd y (by decide), fun _ => ⟨by simp, ?_⟩⟩
      refine c_wrong (f := 2) hS (hR2 _) fun F' a1 a2 a3 => ?_
      simp only [tl_some, e68_0, e68_1, e68_4, e68_7, e68_10, e68_11, e68_12, e68_15, e68_16, e68_17, e68_18, e68_19, e68_20, e68_23, e68_26, e68_27, e68_30, e68_33, e68_34, e68_35, e68_38, e68_39, e68_40, e68_43, e68_46, e68_47, true_or, true_and]
      exact hno 2 p (by unfold pOld; rw [if_pos z', hf]) F' a1 a2 (TE.trans ((FIx_u2 (fs := [264]) (by simp)).toTE (by simp)) (a3.toTE (by simp)))
  · refine c_wrong (f := 1) hS hR fun F' a1 a2 a3 => ?_
    simp only [tl_some, e68_0, e68_1, e68_4, e68_7, e68_10, e68_11, e68_12, e68_15, e68_16, e68_17, e68_18, e68_19, e68_20, e68_23, e68_26, e68_27, e68_30, e68_33, e68_34, e68_35, e68_38, e68_39, e68_40, e68_43, e68_46, e68_47, true_or, true_and]
    exact hno 1 p (by unfold pOld; rw [if_neg (by simpa using z)]) F' a1 a2 (a3.toTE (by simp))
theorem c_takeCorner (hS : TelS K FR te h ta) (hR : TokR FI FL (te + 1) (AI ta) E p) (hE : E ≤ 900) {w : Wl} {b : Nat} (hw : ToldW FI AI AL (h + 1) w) (hb : b < wNB w) (hb4 : wNB w ≤ 4) (hw8 : wW w ≤ 8) (hh4 : wH w ≤ 4) (hbw : wBW w b ≤ wW w) (hbh : wBH w b ≤ wH w) (hno : ∀ f a, pCor (AI ta) E w b p = .inl (f, a) → ∀ (FI' : Nat → Nat → Int32) (FL' : Nat → Nat → Int64), FI' 262 te = nI f → FI' 263 te = nI a → TE FI FI' FL FL' te → Q (some (.int 0)) (n, K, FI', FL', FR, AI, AL, AR)) (hok : ∀ x y p', pCor (AI ta) E w b p = .inr (x, y, p') → x + wBW w b ≤ wW w → y + wBH w b ≤ wH w → ∀ (FI' : Nat → Nat → Int32) (FL' : Nat → Nat → Int64), TokR FI' FL' (te + 1) (AI ta) E p' → FI' 264 te = nI (wW w * y + x) → TG FI FI' FL FL' te → Q (some (.int 1)) (n, K, FI', FL', FR, AI, AL, AR)) : EV sa (d + 12) 69 [.ref te, .int (nI b)] (n, K, FI, FL, FR, AI, AL, AR) Q := by
  obtain ⟨k0, f0, ⟨kt, -⟩, -, -, -, f260, hH, hT, -, sep, -⟩ := id hS
  obtain ⟨kT, -, ⟨t2, kt2⟩, ⟨t3, kt3⟩, -⟩ := id hT
  have hbin : vp_in (nI b) 4 := vp_in_nI (by omega) (by decide)
  have hbcl : (nI b).toNatClampNeg = b := nI_clamp (by omega)
  obtain ⟨w1, w2, -⟩ := hw.1
  obtain ⟨-, b2, b3, -⟩ := hw.2.1 b hb
  have tld : ∀ {F' : Nat → Nat → Int32} {G' : Nat → Nat → Int64}, TG FI F' FL G' te → F' 384 (h + 1) = nI (wW w) ∧ F' 385 (h + 1) = nI (wH w) := fun a => ⟨by rw [a.1 384 (h + 1) (by omega) (by omega)]; exact w1, by rw [a.1 385 (h + 1) (by omega) (by omega)]; exact w2⟩
  refine n69 k0 ?_
  simp only [e69_0, e69_1, e69_3, e69_6, e69_9, e69_10, e69_11, e69_12, e69_15, e69_18, e69_19, e69_22, e69_25, e69_26, e69_27, e69_28, e69_31, e69_34, e69_35, e69_36, e69_37, e69_40, e69_41, e69_42, e69_45, e69_48, e69_49, e69_52, e69_53, e69_54, e69_57, e69_58, e69_59, e69_62, e69_65, e69_66, e69_67, e69_68, e69_71, e69_74, e69_75, e69_78, e69_81, e69_82, e69_83, e69_84, e69_87, e69_90, e69_91, e69_92, e69_93, e69_94, e69_97, e69_100, e69_101, e69_104, e69_105, e69_106, e69_107, e69_110, e69_111]
  refine ⟨by simp, c_takeKey hS hR hE (by decide) (fun f a e F1 a1 a2 a3 => ?_) (fun p1 e F1 G1 a1 a2 => ?_)⟩
  · simp only [tl_some, e69_0, e69_1, e69_3, e69_6, e69_9, e69_10, e69_11, e69_12, e69_15, e69_18, e69_19, e69_22, e69_25, e69_26, e69_27, e69_28, e69_31, e69_34, e69_35, e69_36, e69_37, e69_40, e69_41, e69_42, e69_45, e69_48, e69_49, e69_52, e69_53, e69_54, e69_57, e69_58, e69_59, e69_62, e69_65, e69_66, e69_67, e69_68, e69_71, e69_74, e69_75, e69_78, e69_81, e69_82, e69_83, e69_84, e69_87, e69_90, e69_91, e69_92, e69_93, e69_94, e69_97, e69_100, e69_101, e69_104, e69_105, e69_106, e69_107, e69_110, e69_111, true_or, true_and]
    exact ⟨fun _ => hno f a (by unfold pCor; rw [e]; rfl) F1 FL a1 a2 a3, fun z => absurd trivial z⟩
  have te1 := a2.toTG
  obtain ⟨x1, x2⟩ := tld te1
  have es1 : nI (wW w) - nI (wBW w b) = nI (wW w - wBW w b) := nq_sub hbw
  simp only [tl_some, e69_0, e69_1, e69_3, e69_6, e69_9, e69_10, e69_11, e69_12, e69_15, e69_18, e69_19, e69_22, e69_25, e69_26, e69_27, e69_28, e69_31, e69_34, e69_35, e69_36, e69_37, e69_40, e69_41, e69_42, e69_45, e69_48, e69_49, e69_52, e69_53, e69_54, e69_57, e69_58, e69_59, e69_62, e69_65, e69_66, e69_67, e69_68, e69_71, e69_74, e69_75, e69_78, e69_81, e69_82, e69_83, e69_84, e69_87, e69_90, e69_91, e69_92, e69_93, e69_94, e69_97, e69_100, e69_101, e69_104, e69_105, e69_106, e69_107, e69_110, e69_111, k0, f260, kT, t2, kt2, rf_some, x1, b2, hbin, hbcl, es1, true_and, true_or]
  refine ⟨fun z => absurd z (by decide), fun _ => ⟨by simp, c_takeWhole (lo := 0) hS a1 hE (by decide) (by omega) (fun f a e2 F2 c1 c2 c3 => ?_) (fun x p2 e2 _ hx F2 G2 c1 c2 c3 => ?_)⟩⟩
  · simp only [tl_some, e69_0, e69_1, e69_3, e69_6, e69_9, e69_10, e69_11, e69_12, e69_15, e69_18, e69_19, e69_22, e69_25, e69_26, e69_27, e69_28, e69_31, e69_34, e69_35, e69_36, e69_37, e69_40, e69_41, e69_42, e69_45, e69_48, e69_49, e69_52, e69_53, e69_54, e69_57, e69_58, e69_59, e69_62, e69_65, e69_66, e69_67, e69_68, e69_71, e69_74, e69_75, e69_78, e69_81, e69_82, e69_83, e69_84, e69_87, e69_90, e69_91, e69_92, e69_93, e69_94, e69_97, e69_100, e69_101, e69_104, e69_105, e69_106, e69_107, e69_110, e69_111, true_or, true_and]
    exact ⟨fun z => absurd trivial z, fun _ => hno f a (by unfold pCor; rw [e]; simp only [bd]; rw [e2]) F2 G1 c1 c2 (te1.toTE.trans c3)⟩
  have te2 := te1.trans c3
  obtain ⟨y1, y2⟩ := tld te2
  have r3 := c1.2.2.2.1
  have h5 := srt_5 (T := AI ta) (E := E) (p := p2)
  have es : (nI (srt (AI ta) E p2) = 4) ↔ srt (AI ta) E p2 = 4 := by rw [show (4 : Int32) = nI 4 from rfl, nI_eq (by omega) (by decide)]
  have es2 : nI (wH w) - nI (wBH w b) = nI (wH w - wBH w b) := nq_sub hbh
  simp only [tl_some, e69_0, e69_1, e69_3, e69_6, e69_9, e69_10, e69_11, e69_12, e69_15, e69_18, e69_19, e69_22, e69_25, e69_26, e69_27, e69_28, e69_31, e69_34, e69_35, e69_36, e69_37, e69_40, e69_41, e69_42, e69_45, e69_48, e69_49, e69_52, e69_53, e69_54, e69_57, e69_58, e69_59, e69_62, e69_65, e69_66, e69_67, e69_68, e69_71, e69_74, e69_75, e69_78, e69_81, e69_82, e69_83, e69_84, e69_87, e69_90, e69_91, e69_92, e69_93, e69_94, e69_97, e69_100, e69_101, e69_104, e69_105, e69_106, e69_107, e69_110, e69_111, k0, f0, kt, rf_some, c2, r3, es, true_and, mj_kl]
  refine ⟨fun _ => ⟨fun z => ⟨by simp, c_stepT hS c1 hE fun F3 G3 d1 d2 => ?_⟩, fun z => ⟨by simp, ?_⟩⟩, fun z => absurd (by decide) z⟩
  · have te3 := te2.trans d2.toTG
    obtain ⟨z1, z2⟩ := tld te3
    simp only [tl_none, e69_0, e69_1, e69_3, e69_6, e69_9, e69_10, e69_11, e69_12, e69_15, e69_18, e69_19, e69_22, e69_25, e69_26, e69_27, e69_28, e69_31, e69_34, e69_35, e69_36, e69_37, e69_40, e69_41, e69_42, e69_45, e69_48, e69_49, e69_52, e69_53, e69_54, e69_57, e69_58, e69_59, e69_62, e69_65, e69_66, e69_67, e69_68, e69_71, e69_74, e69_75, e69_78, e69_81, e69_82, e69_83, e69_84, e69_87, e69_90, e69_91, e69_92, e69_93, e69_94, e69_97, e69_100, e69_101, e69_104, e69_105, e69_106, e69_107, e69_110, e69_111, k0, f260, kT, t3, kt3, rf_some, z2, b3, hbin, hbcl, es2, true_and, true_or]
    refine ⟨by simp, c_takeWhole (lo := 0) hS d1 hE (by decide) (by omega) (fun f a e3 F4 c1 c2 c3 => ?_) (fun y p4 e3 _ hy F4 G4 c1 c2 c3 => ?_)⟩
    · simp only [tl_some, e69_0, e69_1, e69_3, e69_6, e69_9, e69_10, e69_11, e69_12, e69_15, e69_18, e69_19, e69_22, e69_25, e69_26, e69_27, e69_28, e69_31, e69_34, e69_35, e69_36, e69_37, e69_40, e69_41, e69_42, e69_45, e69_48, e69_49, e69_52, e69_53, e69_54, e69_57, e69_58, e69_59, e69_62, e69_65, e69_66, e69_67, e69_68, e69_71, e69_74, e69_75, e69_78, e69_81, e69_82, e69_83, e69_84, e69_87, e69_90, e69_91, e69_92, e69_93, e69_94, e69_97, e69_100, e69_101, e69_104, e69_105, e69_106, e69_107, e69_110, e69_111, true_or, true_and]
      exact ⟨fun y => absurd trivial y, fun _ => hno f a (by unfold pCor; rw [e]; simp only [bd]; rw [e2]; simp only []; rw [if_pos z, e3]) F4 G3 c1 c2 (te3.toTE.trans c3)⟩
    · have te4 := te3.trans c3
      obtain ⟨v1, v2⟩ := tld te4
      simp only [tl_some, e69_0, e69_1, e69_3, e69_6, e69_9, e69_10, e69_11, e69_12, e69_15, e69_18, e69_19, e69_22, e69_25, e69_26, e69_27, e69_28, e69_31, e69_34, e69_35, e69_36, e69_37, e69_40, e69_41, e69_42, e69_45, e69_48, e69_49, e69_52, e69_53, e69_54, e69_57, e69_58, e69_59, e69_62, e69_65, e69_66, e69_67, e69_68, e69_71, e69_74, e69_75, e69_78, e69_81, e69_82, e69_83, e69_84, e69_87, e69_90, e69_91, e69_92, e69_93, e69_94, e69_97, e69_100, e69_101, e69_104, e69_105, e69_106, e69_107, e69_110, e69_111, k0, f260, kT, rf_some, c2, v1, pk_mul, nI_add, true_and, or_true]
      refine ⟨fun _ => ?_, fun y => absurd (by decide) y⟩
      refine hok x y p4 (by unfold pCor; rw [e]; simp only [bd]; rw [e2]; simp only []; rw [if_pos z, e3]) (by omega) (by omega) _ G4 (c1.fx (fun f => mj_u2_2 (by omega)) (fun _ => rfl)) mj_u2_s ?_
      exact te4.trans ((FIx_u2 (fs := [264]) (by simp)).toTG (by simp))
  · refine c_wrong (f := 1) hS c1 fun F' a1 a2 a3 => ?_
    simp only [tl_some, e69_0, e69_1, e69_3, e69_6, e69_9, e69_10, e69_11, e69_12, e69_15, e69_18, e69_19, e69_22, e69_25, e69_26, e69_27, e69_28, e69_31, e69_34, e69_35, e69_36, e69_37, e69_40, e69_41, e69_42, e69_45, e69_48, e69_49, e69_52, e69_53, e69_54, e69_57, e69_58, e69_59, e69_62, e69_65, e69_66, e69_67, e69_68, e69_71, e69_74, e69_75, e69_78, e69_81, e69_82, e69_83, e69_84, e69_87, e69_90, e69_91, e69_92, e69_93, e69_94, e69_97, e69_100, e69_101, e69_104, e69_105, e69_106, e69_107, e69_110, e69_111, true_or, true_and]
    exact hno 1 p2 (by unfold pCor; rw [e]; simp only [bd]; rw [e2]; simp only []; rw [if_neg z]) F' G2 a1 a2 (te2.toTE.trans (a3.toTE (by simp)))
end
