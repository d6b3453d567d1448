section
variable {sa : Nat → Nat} {d n t h m : Nat} {Q : mj_Q} {K : Nat → Nat × Nat} {FI : Nat → Nat → Int32} {FL : Nat → Nat → Int64} {FR : Nat → Nat → Option Nat} {AI : Nat → Nat → Int32} {AL : Nat → Nat → Int64} {AR : Nat → Nat → Option Nat} {w : Wl} {hs : Nat → Hg}
variable {tk ta : Nat}
theorem c_takeWholeT (hS : TokS K FR tk ta) {E p : Nat} (hE : E ≤ 900) (hp : p ≤ E) (h1 : FI 321 tk = nI E) (h2 : FI 322 tk = nI p) (h5 : FI 325 tk = nI 0) (hQ : ∀ (FI' : Nat → Nat → Int32), FI' 322 tk = nI (rn isDig (AI ta) E p) → FI' 323 tk = nI (if rn isDig (AI ta) E p - p ≤ 3 then 2 else 5) → (rn isDig (AI ta) E p - p ≤ 3 → FI' 327 tk = nI (nv (AI ta) p (rn isDig (AI ta) E p - p))) → FIx FI FI' tk [322, 323, 325, 327] → Q none (n, K, FI', FL, FR, AI, AL, AR)) : EV sa (d + 2) 77 [.ref tk] (n, K, FI, FL, FR, AI, AL, AR) Q := by
  obtain ⟨k0, f0, ka⟩ := id hS
  have loop : ∀ rr k, p + k + rr = E → rn isDig (AI ta) E p = rn isDig (AI ta) E (p + k) → ∀ (F : Nat → Nat → Int32), F 322 tk = nI (p + k) → F 325 tk = nI k → F 327 tk = nI (nv (AI ta) p (min k 3)) → FIx FI F tk [322, 323, 325, 327] → WP sa (EV sa (d + 1)) 77 Q 0 0 5 [.ref tk] [] (n, K, F, FL, FR, AI, AL, AR) := by
    intro rr
    have fin : ∀ k, rn isDig (AI ta) E p = p + k → p + k ≤ E → ∀ (F : Nat → Nat → Int32), F 322 tk = nI (p + k) → F 325 tk = nI k → F 327 tk = nI (nv (AI ta) p (min k 3)) → FIx FI F tk [322, 323, 325, 327] → WP sa (EV sa (d + 1)) 77 Q 0 0 82 [.ref tk] [] (n, K, F, FL, FR, AI, AL, AR) := by
      intro k hk hkE F b1 b2 b3 b4
      rw [hk, show p + k - p = k by omega] at hQ
      have fin2 : ∀ v : Int32, v = nI (if k ≤ 3 then 2 else 5) → Q none (n, K, mj_u2 F 323 tk v, FL, FR, AI, AL, AR) := by
        intro v hv
        refine hQ _ ?_ ?_ (fun h3 => ?_) (b4.same (FIx_u2 (by simp)))
        · rw [mj_u2_1 (by decide)]; exact b1
        · rw [mj_u2_s]; exact hv
        · rw [mj_u2_1 (by decide), b3, Nat.min_eq_left h3]
      simp only [e77_0, e77_1, e77_2, e77_6, e77_9, e77_10, e77_13, e77_16, e77_17, e77_18, e77_21, e77_24, e77_27, e77_28, e77_31, e77_32, e77_35, e77_36, e77_37, e77_40, e77_42, e77_43, e77_44, e77_47, e77_48, e77_51, e77_52, e77_53, e77_55, e77_56, e77_59, e77_60, e77_60i, e77_61, e77_64, e77_65, e77_66, e77_69, e77_70, e77_70i, e77_71, e77_74, e77_75, e77_76, e77_79, e77_82, e77_83, e77_84, e77_87, e77_88, e77_91, e77_92, e77_95, e77_96, e77_99, k0, b2, true_and]
      refine ⟨fun z => fin2 _ ?_, fun z => fin2 _ ?_⟩
      · have : ¬ k ≤ 3 := fun q => absurd z (nI_nlt (a := 3) (b := k) q (by decide))
        rw [if_neg this]; rfl
      · have : k ≤ 3 := by
          rcases Nat.lt_or_ge 3 k with q | q
          · exact absurd (nI_lt q (by omega)) z
          · exact q
        rw [if_pos this]; rfl
    induction rr with
    | zero =>
      intro k hk hr F b1 b2 b3 b4
      have e321 : F 321 tk = nI E := by rw [b4 321 tk (by simp)]; exact h1
      rw [e77_5]
      simp only [e77_0, e77_1, e77_2, e77_6, e77_9, e77_10, e77_13, e77_16, e77_17, e77_18, e77_21, e77_24, e77_27, e77_28, e77_31, e77_32, e77_35, e77_36, e77_37, e77_40, e77_42, e77_43, e77_44, e77_47, e77_48, e77_51, e77_52, e77_53, e77_55, e77_56, e77_59, e77_60, e77_60i, e77_61, e77_64, e77_65, e77_66, e77_69, e77_70, e77_70i, e77_71, e77_74, e77_75, e77_76, e77_79, e77_83, e77_84, e77_87, e77_88, e77_91, e77_92, e77_95, e77_96, e77_99, k0, b1, e321, true_and]
      refine ⟨fun _ => fin k (by rw [hr, rn_end (by omega)]) (by omega) F b1 b2 b3 b4, fun z => absurd (nI_le (by omega) (by omega)) z⟩
    | succ rr ih =>
      intro k hk hr F b1 b2 b3 b4
      have e321 : F 321 tk = nI E := by rw [b4 321 tk (by simp)]; exact h1
      rw [e77_5]
      simp only [e77_0, e77_1, e77_2, e77_6, e77_9, e77_10, e77_13, e77_16, e77_17, e77_18, e77_21, e77_24, e77_27, e77_28, e77_31, e77_32, e77_35, e77_36, e77_37, e77_40, e77_42, e77_43, e77_44, e77_47, e77_48, e77_51, e77_52, e77_53, e77_55, e77_56, e77_59, e77_60, e77_60i, e77_61, e77_64, e77_65, e77_66, e77_69, e77_70, e77_70i, e77_71, e77_74, e77_75, e77_76, e77_79, e77_83, e77_84, e77_87, e77_88, e77_91, e77_92, e77_95, e77_96, e77_99, k0, b1, e321, true_and]
      refine ⟨fun z => absurd z (nI_ge (by omega) (by omega)), fun _ => ⟨by simp, c_isDigit hS (by omega) ?_⟩⟩
      have hin : vp_in (nI (p + k)) 900 := vp_in_nI (by omega) (by decide)
      have hcl : (nI (p + k)).toNatClampNeg = p + k := nI_clamp (by omega)
      have u1 : ∀ x : Int32, mj_u2 F 325 tk x 322 tk = nI (p + k) := fun x => by rw [mj_u2_1 (by decide)]; exact b1
      have u2 : ∀ x : Int32, mj_u2 F 327 tk x 325 tk = nI k := fun x => by rw [mj_u2_1 (by decide)]; exact b2
      have u3 : ∀ x y : Int32, mj_u2 (mj_u2 F 327 tk y) 325 tk x 322 tk = nI (p + k) := fun x y => by rw [mj_u2_1 (by decide), mj_u2_1 (by decide)]; exact b1
      simp only [tl_some, e77_0, e77_1, e77_2, e77_6, e77_9, e77_10, e77_13, e77_16, e77_17, e77_18, e77_21, e77_24, e77_27, e77_28, e77_31, e77_32, e77_35, e77_36, e77_37, e77_40, e77_42, e77_43, e77_44, e77_47, e77_48, e77_51, e77_52, e77_53, e77_55, e77_56, e77_59, e77_60, e77_60i, e77_61, e77_64, e77_65, e77_66, e77_69, e77_70, e77_70i, e77_71, e77_74, e77_75, e77_76, e77_79, e77_83, e77_84, e77_87, e77_88, e77_91, e77_92, e77_95, e77_96, e77_99, k0, f0, ka, rf_some, hin, hcl, b1, b2, b3, u1, u2, u3, nI_1, true_and, bI_eq0]
      refine ⟨fun z => fin k (by rw [hr, rn_no z]) (by omega) F b1 b2 b3 b4, fun z => ?_⟩
      have z' : isDig (AI ta (p + k)) = true := by simpa using z
      obtain ⟨v1, v2⟩ := isDig_v z'
      have hr' : rn isDig (AI ta) E p = rn isDig (AI ta) E (p + (k + 1)) := by rw [hr, rn_yes (by omega) z', Nat.add_assoc]
      refine ⟨fun y => ?_, fun y => ?_⟩
      · have h8 : 3 ≤ k := (nI_leI (a := 3) (by decide) (by omega)).mp y
        refine ih (k + 1) (by omega) hr' _ mj_u2_s (by rw [mj_u2_1 (by decide), mj_u2_s]) ?_ ((b4.same (FIx_u2 (by simp))).same (FIx_u2 (by simp)))
        rw [mj_u2_1 (by decide), mj_u2_1 (by decide), b3, Nat.min_eq_right h8, Nat.min_eq_right (by omega)]
      · have h8 : k < 3 := by
          rcases Nat.lt_or_ge k 3 with q | q
          · exact q
          · exact absurd (nI_le (a := 3) q (by omega)) y
        refine ih (k + 1) (by omega) hr' _ mj_u2_s (by rw [mj_u2_1 (by decide), mj_u2_s]) ?_ (((b4.same (FIx_u2 (by simp))).same (FIx_u2 (by simp))).same (FIx_u2 (by simp)))
        rw [mj_u2_1 (by decide), mj_u2_1 (by decide), mj_u2_s, Nat.min_eq_left (by omega), Nat.min_eq_left (by omega)]
        simp only [nv]
        have v1' : AI ta (p + k) = nI (48 + ((AI ta (p + k)).toNatClampNeg - 48)) := v1
        generalize (AI ta (p + k)).toNatClampNeg - 48 = g at v1' v2 ⊢
        rw [v1', show (10 : Int32) = nI 10 from rfl, show (48 : Int32) = nI 48 from rfl, pk_mul, nI_add, nq_sub (by omega)]
        congr 1
        omega
  refine n77 k0 ?_
  simp only [e77_0, e77_1, e77_2, e77_6, e77_9, e77_10, e77_13, e77_16, e77_17, e77_18, e77_21, e77_24, e77_27, e77_28, e77_31, e77_32, e77_35, e77_36, e77_37, e77_40, e77_42, e77_43, e77_44, e77_47, e77_48, e77_51, e77_52, e77_53, e77_55, e77_56, e77_59, e77_60, e77_60i, e77_61, e77_64, e77_65, e77_66, e77_69, e77_70, e77_70i, e77_71, e77_74, e77_75, e77_76, e77_79, e77_83, e77_84, e77_87, e77_88, e77_91, e77_92, e77_95, e77_96, e77_99, k0, true_and]
  exact loop (E - p) 0 (by omega) rfl _ (by rw [mj_u2_1 (by decide)]; exact h2) (by rw [mj_u2_1 (by decide)]; exact h5) (by rw [mj_u2_s]; rfl) (FIx_u2 (by simp))
theorem c_takeSign (hS : TokS K FR tk ta) {p : Nat} (hp : p < 900) (h2 : FI 322 tk = nI p) (hQ : ∀ (FI' : Nat → Nat → Int32), FI' 322 tk = nI (p + 1) → FI' 323 tk = nI (if AI ta p = 59 then 3 else if AI ta p = 44 then 4 else 5) → FIx FI FI' tk [322, 323] → Q none (n, K, FI', FL, FR, AI, AL, AR)) : EV sa (d + 1) 78 [.ref tk] (n, K, FI, FL, FR, AI, AL, AR) Q := by
  obtain ⟨k0, f0, ka⟩ := id hS
  have hin : vp_in (nI p) 900 := vp_in_nI (by omega) (by decide)
  have hcl : (nI p).toNatClampNeg = p := nI_clamp (by omega)
  refine n78 k0 ?_
  have u1 : ∀ x : Int32, mj_u2 FI 323 tk x 322 tk = nI p := fun x => by rw [mj_u2_1 (by decide)]; exact h2
  simp only [e78_0, e78_1, e78_2, e78_5, e78_6, e78_9, e78_10, e78_12, e78_15, e78_16, e78_19, e78_20, e78_23, e78_24, e78_27, e78_28, e78_30, e78_33, e78_34, e78_37, e78_38, e78_41, e78_42, e78_42i, e78_43, e78_46, e78_47, e78_48, e78_51, k0, f0, ka, rf_some, hin, hcl, h2, u1, nI_1, true_and]
  have fin : ∀ v : Int32, v = nI (if AI ta p = 59 then 3 else if AI ta p = 44 then 4 else 5) → Q none (n, K, mj_u2 (mj_u2 FI 323 tk v) 322 tk (nI (p + 1)), FL, FR, AI, AL, AR) := by
    intro v hv
    exact hQ _ mj_u2_s (by rw [mj_u2_1 (by decide), mj_u2_s]; exact hv) ((FIx_u2 (by simp)).same (FIx_u2 (by simp)))
  refine ⟨fun z => ⟨fun z2 => fin _ ?_, fun z2 => fin _ ?_⟩, fun z => fin _ ?_⟩
  · rw [if_neg z, if_neg z2]; rfl
  · rw [if_neg z, if_pos (by simpa using z2)]; rfl
  · rw [if_pos (by simpa using z)]; rfl
theorem c_step (hS : TokS K FR tk ta) {E i : Nat} (hE : E ≤ 900) (hi : i ≤ E) (h1 : FI 321 tk = nI E) (h2 : FI 322 tk = nI i) (hQ : ∀ (FI' : Nat → Nat → Int32) (FL' : Nat → Nat → Int64), TokR FI' FL' tk (AI ta) E (rn isSp (AI ta) E i) → FIx FI FI' tk [322, 323, 324, 325, 327] → FLx FL FL' tk [326] → Q none (n, K, FI', FL', FR, AI, AL, AR)) : EV sa (d + 3) 73 [.ref tk] (n, K, FI, FL, FR, AI, AL, AR) Q := by
  obtain ⟨k0, f0, ka⟩ := id hS
  obtain ⟨p, hp⟩ : ∃ p, rn isSp (AI ta) E i = p := ⟨_, rfl⟩
  have hpE : p ≤ E := by rw [← hp]; exact rn_le hi
  rw [hp] at hQ
  have body : ∀ (F : Nat → Nat → Int32), F 322 tk = nI p → FIx FI F tk [322, 323, 324, 325, 327] → WP sa (EV sa (d + 2)) 73 Q 0 0 38 [.ref tk] [] (n, K, F, FL, FR, AI, AL, AR) := by
    intro F b1 b2
    have e321 : F 321 tk = nI E := by rw [b2 321 tk (by simp)]; exact h1
    have u1 : ∀ x : Int32, mj_u2 F 324 tk x 322 tk = nI p := fun x => by rw [mj_u2_1 (by decide)]; exact b1
    generalize hF2 : mj_u2 (mj_u2 F 324 tk (nI p)) 325 tk 0 = F2
    have v321 : F2 321 tk = nI E := by rw [← hF2, mj_u2_1 (by decide), mj_u2_1 (by decide)]; exact e321
    have v322 : F2 322 tk = nI p := by rw [← hF2, mj_u2_1 (by decide), mj_u2_1 (by decide)]; exact b1
    have v324 : F2 324 tk = nI p := by rw [← hF2, mj_u2_1 (by decide), mj_u2_s]
    have v325 : F2 325 tk = nI 0 := by rw [← hF2, mj_u2_s]; rfl
    have x2 : FIx FI F2 tk [322, 323, 324, 325, 327] := by rw [← hF2]; exact (b2.same (FIx_u2 (by simp))).same (FIx_u2 (by simp))
    simp only [e73_1, e73_4, e73_5, e73_8, e73_11, e73_12, e73_15, e73_16, e73_19, e73_20, e73_22, e73_25, e73_26, e73_26i, e73_27, e73_30, e73_31, e73_32, e73_35, e73_38, e73_39, e73_40, e73_43, e73_46, e73_47, e73_48, e73_51, e73_52, e73_55, e73_56, e73_59, e73_62, e73_63, e73_64, e73_67, e73_70, e73_71, e73_72, e73_75, e73_78, e73_81, e73_82, e73_85, e73_88, e73_89, e73_90, e73_93, e73_96, e73_99, e73_100, e73_103, e73_106, e73_107, e73_110, k0, b1, u1, hF2, v321, v322, true_and]
    refine ⟨fun z => ⟨by simp, ?_⟩, fun z => ?_⟩
    · have hlt : p < E := (nI_ltI (by omega) (by omega)).mp z
      refine c_isLetter hS (by omega) ?_
      simp only [tl_some, e73_1, e73_4, e73_5, e73_8, e73_11, e73_12, e73_15, e73_16, e73_19, e73_20, e73_22, e73_25, e73_26, e73_26i, e73_27, e73_30, e73_31, e73_32, e73_35, e73_38, e73_39, e73_40, e73_43, e73_46, e73_47, e73_48, e73_51, e73_52, e73_55, e73_56, e73_59, e73_62, e73_63, e73_64, e73_67, e73_70, e73_71, e73_72, e73_75, e73_78, e73_81, e73_82, e73_85, e73_88, e73_89, e73_90, e73_93, e73_96, e73_99, e73_100, e73_103, e73_106, e73_107, e73_110, bI_eq0, k0, v322, true_and]
      refine ⟨fun y => ⟨by simp, c_isDigit hS (by omega) ?_⟩, fun y => ⟨by simp, ?_⟩⟩
      · simp only [tl_some, e73_1, e73_4, e73_5, e73_8, e73_11, e73_12, e73_15, e73_16, e73_19, e73_20, e73_22, e73_25, e73_26, e73_26i, e73_27, e73_30, e73_31, e73_32, e73_35, e73_38, e73_39, e73_40, e73_43, e73_46, e73_47, e73_48, e73_51, e73_52, e73_55, e73_56, e73_59, e73_62, e73_63, e73_64, e73_67, e73_70, e73_71, e73_72, e73_75, e73_78, e73_81, e73_82, e73_85, e73_88, e73_89, e73_90, e73_93, e73_96, e73_99, e73_100, e73_103, e73_106, e73_107, e73_110, bI_eq0]
        refine ⟨fun x => ⟨by simp, c_takeSign hS (by omega) v322 fun F3 c1 c2 c3 => ?_⟩, fun x => ⟨by simp, c_takeWholeT hS hE hpE v321 v322 v325 fun F3 c1 c2 c3 c4 => ?_⟩⟩
        · have en : nxt (AI ta) E p = p + 1 := by
            unfold nxt
            rw [if_neg (by omega), y, x]
            rfl
          have es : srt (AI ta) E p = if AI ta p = 59 then 3 else if AI ta p = 44 then 4 else 5 := by
            unfold srt
            rw [if_neg (by omega), y, x]
            rfl
          simp only [tl_none, e73_1, e73_4, e73_5, e73_8, e73_11, e73_12, e73_15, e73_16, e73_19, e73_20, e73_22, e73_25, e73_26, e73_26i, e73_27, e73_30, e73_31, e73_32, e73_35, e73_38, e73_39, e73_40, e73_43, e73_46, e73_47, e73_48, e73_51, e73_52, e73_55, e73_56, e73_59, e73_62, e73_63, e73_64, e73_67, e73_70, e73_71, e73_72, e73_75, e73_78, e73_81, e73_82, e73_85, e73_88, e73_89, e73_90, e73_93, e73_96, e73_99, e73_100, e73_103, e73_106, e73_107, e73_110]
          refine hQ F3 FL ⟨?_, hpE, by rw [en]; exact c1, by rw [es]; exact c2, ?_, fun h => ?_, fun h => ?_⟩ (x2.same (c3.sub (by simp))) FLx.rfl'
          · rw [c3 321 tk (by simp)]; exact v321
          · rw [c3 324 tk (by simp)]; exact v324
          · rw [es] at h
            repeat' split at h
            all_goals omega
          · rw [es] at h
            repeat' split at h
            all_goals omega
        · have x' : isDig (AI ta p) = true := by simpa using x
          have en : nxt (AI ta) E p = rn isDig (AI ta) E p := by
            unfold nxt
            rw [if_neg (by omega), y, x']
            rfl
          have es : srt (AI ta) E p = if rn isDig (AI ta) E p - p ≤ 3 then 2 else 5 := by
            unfold srt wl
            rw [if_neg (by omega), y, x', en]
            rfl
          simp only [tl_none, e73_1, e73_4, e73_5, e73_8, e73_11, e73_12, e73_15, e73_16, e73_19, e73_20, e73_22, e73_25, e73_26, e73_26i, e73_27, e73_30, e73_31, e73_32, e73_35, e73_38, e73_39, e73_40, e73_43, e73_46, e73_47, e73_48, e73_51, e73_52, e73_55, e73_56, e73_59, e73_62, e73_63, e73_64, e73_67, e73_70, e73_71, e73_72, e73_75, e73_78, e73_81, e73_82, e73_85, e73_88, e73_89, e73_90, e73_93, e73_96, e73_99, e73_100, e73_103, e73_106, e73_107, e73_110]
          refine hQ F3 FL ⟨?_, hpE, by rw [en]; exact c1, by rw [es]; exact c2, ?_, fun h => ?_, fun h => ?_⟩ (x2.same (c4.sub (by simp))) FLx.rfl'
          · rw [c4 321 tk (by simp)]; exact v321
          · rw [c4 324 tk (by simp)]; exact v324
          · rw [es] at h
            split at h <;> omega
          · have h3 : rn isDig (AI ta) E p - p ≤ 3 := by
              rw [es] at h
              split at h
              · assumption
              · omega
            unfold nmv wl
            rw [en]
            exact c3 h3
      · have y' : isLet (AI ta p) = true := by simpa using y
        refine c_takeWordT hS hE hpE v321 v322 v325 fun F3 G3 c1 c2 c3 c4 c5 c6 => ?_
        have en : nxt (AI ta) E p = rn isLet (AI ta) E p := by
          unfold nxt
          rw [if_neg (by omega), y']
          rfl
        have es : srt (AI ta) E p = if rn isLet (AI ta) E p - p ≤ 8 then 1 else 5 := by
          unfold srt wl
          rw [if_neg (by omega), y', en]
          rfl
        simp only [tl_none, e73_1, e73_4, e73_5, e73_8, e73_11, e73_12, e73_15, e73_16, e73_19, e73_20, e73_22, e73_25, e73_26, e73_26i, e73_27, e73_30, e73_31, e73_32, e73_35, e73_38, e73_39, e73_40, e73_43, e73_46, e73_47, e73_48, e73_51, e73_52, e73_55, e73_56, e73_59, e73_62, e73_63, e73_64, e73_67, e73_70, e73_71, e73_72, e73_75, e73_78, e73_81, e73_82, e73_85, e73_88, e73_89, e73_90, e73_93, e73_96, e73_99, e73_100, e73_103, e73_106, e73_107, e73_110]
        refine hQ F3 G3 ⟨?_, hpE, by rw [en]; exact c1, by rw [es]; exact c2, ?_, fun h => ?_, fun h => ?_⟩ (x2.same (c5.sub (by simp))) c6
        · rw [c5 321 tk (by simp)]; exact v321
        · rw [c5 324 tk (by simp)]; exact v324
        · have h8 : rn isLet (AI ta) E p - p ≤ 8 := by
            rw [es] at h
            split at h
            · assumption
            · omega
          unfold wl
          rw [en]
          exact ⟨c3, c4 h8⟩
        · rw [es] at h
          split at h <;> omega
    · have hge : E ≤ p := by
        rcases Nat.lt_or_ge p E with q | q
        · exact absurd (nI_lt q (by omega)) z
        · exact q
      have en : nxt (AI ta) E p = p := if_pos hge
      have es : srt (AI ta) E p = 0 := if_pos hge
      refine hQ _ FL ⟨?_, hpE, ?_, ?_, ?_, fun h => ?_, fun h => ?_⟩ (x2.same (FIx_u2 (by simp))) FLx.rfl'
      · rw [mj_u2_1 (by decide)]; exact v321
      · rw [mj_u2_1 (by decide), en]; exact v322
      · rw [mj_u2_s, es]; rfl
      · rw [mj_u2_1 (by decide)]; exact v324
      · rw [es] at h; omega
      · rw [es] at h; omega
  have loop : ∀ rr j, j + rr = E → rn isSp (AI ta) E j = p → ∀ (F : Nat → Nat → Int32), F 322 tk = nI j → FIx FI F tk [322, 323, 324, 325, 327] → WP sa (EV sa (d + 2)) 73 Q 0 0 0 [.ref tk] [] (n, K, F, FL, FR, AI, AL, AR) := by
    intro rr
    induction rr with
    | zero =>
      intro j hj hr F b1 b2
      have e321 : F 321 tk = nI E := by rw [b2 321 tk (by simp)]; exact h1
      have hjp : j = p := by rw [← hr, rn_end (by omega)]
      rw [e73_0]
      simp only [e73_1, e73_4, e73_5, e73_8, k0, b1, e321, true_and]
      refine ⟨fun _ => body F (by rw [← hjp]; exact b1) b2, fun z => absurd (nI_le (by omega) (by omega)) z⟩
    | succ rr ih =>
      intro j hj hr F b1 b2
      have e321 : F 321 tk = nI E := by rw [b2 321 tk (by simp)]; exact h1
      have hin : vp_in (nI j) 900 := vp_in_nI (by omega) (by decide)
      have hcl : (nI j).toNatClampNeg = j := nI_clamp (by omega)
      rw [e73_0]
      simp only [e73_1, e73_4, e73_5, e73_8, e73_11, e73_12, e73_15, e73_16, e73_19, e73_20, e73_22, e73_25, e73_26, e73_27, e73_30, e73_31, e73_32, e73_35, k0, f0, ka, rf_some, hin, hcl, b1, e321, true_and, nI_1]
      refine ⟨fun z => absurd z (nI_ge (by omega) (by omega)), fun _ => ⟨fun z => ?_, fun z => ?_⟩⟩
      · have hs : isSp (AI ta j) = false := by simp [isSp, z]
        have hjp : j = p := by rw [← hr, rn_no hs]
        exact body F (by rw [← hjp]; exact b1) b2
      · have hs : isSp (AI ta j) = true := by simp only [isSp, decide_eq_true_eq]; simpa using z
        exact ih (j + 1) (by omega) (by rw [← rn_yes (by omega) hs]; exact hr) _ mj_u2_s (b2.same (FIx_u2 (by simp)))
  refine n73 k0 ?_
  exact loop (E - i) i (by omega) hp FI h2 (fun _ _ _ => rfl)
end
