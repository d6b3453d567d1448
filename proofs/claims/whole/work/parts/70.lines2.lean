section
variable {sa : Nat → Nat} {d n t h m : Nat} {Q : mj_Q} {K : Nat → Nat × Nat} {FI : Nat → Nat → Int32} {FL : Nat → Nat → Int64} {FR : Nat → Nat → Option Nat} {AI : Nat → Nat → Int32} {AL : Nat → Nat → Int64} {AR : Nat → Nat → Option Nat} {w : Wl} {hs : Nat → Hg}
variable {te ta E p : Nat} {S : PS}
theorem dec_lt {a b : Nat} (hb : b < 1000) (h : ¬ nI b ≤ nI a) (ha : a < 1000) : decide (a < b) = true := decide_eq_true (by
  rcases Nat.lt_or_ge a b with q | q
  · exact q
  · exact absurd (nI_le q (by omega)) h)
theorem dec_ge {a b : Nat} (hb : b < 1000) (h : nI b ≤ nI a) (ha : a < 1000) : decide (a < b) = false := decide_eq_false (by have := (nI_leI (by omega) (by omega)).mp h; omega)
theorem dec_pos {a : Nat} (h : ¬ nI a ≤ 0) : decide (0 < a) = true := decide_eq_true (by
  rcases Nat.eq_zero_or_pos a with q | q
  · exact absurd (by rw [q]; decide) h
  · exact q)
theorem dec_zero {a : Nat} (h : nI a ≤ 0) (ha : a < 1000) : decide (0 < a) = false := decide_eq_false (fun q => absurd h (nI_nle q (by omega)))
theorem c_readRival (hS : TelS K FR te h ta) (hR : TokR FI FL (te + 1) (AI ta) E p) (hP : PR K FR FI AI AL te h S) (hE : E ≤ 900) (hno : ∀ f a, pRival (AI ta) E p S = .inl (f, a) → ∀ (FI' AI' : Nat → Nat → Int32) (FL' AL' : Nat → Nat → Int64), FI' 262 te = nI f → FI' 263 te = nI a → TF te h FI FI' FL FL' AI AI' AL AL' → Q (some (.int 0)) (n, K, FI', FL', FR, AI', AL', AR)) (hok : ∀ p' S', pRival (AI ta) E p S = .inr (p', S') → ∀ (FI' AI' : Nat → Nat → Int32) (FL' AL' : Nat → Nat → Int64), TokR FI' FL' (te + 1) (AI ta) E p' → PR K FR FI' AI' AL' te h S' → FI' 262 te = FI 262 te → TF te h FI FI' FL FL' AI AI' AL AL' → Q (some (.int 1)) (n, K, FI', FL', FR, AI', AL', AR)) : EV sa (d + 13) 58 [.ref te] (n, K, FI, FL, FR, AI, AL, AR) Q := by
  obtain ⟨k0, f0, hTk, ⟨f257, k257⟩, ⟨f258, k258⟩, f259, f260, hH, hT, h0, sep, sta, stb⟩ := id hS
  have tw := hP.told
  obtain ⟨w1, w2, w3, w4, w5, w6, w7⟩ := tw.1
  obtain ⟨bd1, bd2, bd3, bd4, bd5⟩ := hP.bounds
  have kT := hT.1
  have main : ∀ room : Bool, room = decide (wNR (sW S) < 3) → EV sa (d + 12) 62 [.ref te, .int (bI room), .int (bI true)] (n, K, FI, FL, FR, AI, AL, AR) (fun v μ => WP sa (EV sa (d + 12)) 58 Q 0 0 21 [.ref te, mj_u, mj_u] (v.toList ++ []) μ) := by
    intro room hroom
    subst hroom
    refine c_takeFirst hS hR hE (fun f a e F' b1 b2 b3 => ?_) (fun p1 e1 F1 G1 c1 c2 => ?_)
    · simp only [tl_some, e58_0, e58_1, e58_2, e58_5, e58_8, e58_9, e58_12, e58_13, e58_16, e58_17, e58_18, e58_21, e58_24, e58_25, e58_28, e58_31, e58_32, e58_33, e58_34, e58_37, e58_38, e58_39, e58_41, e58_44, e58_47, e58_48, e58_49, e58_51, e58_54, e58_57, e58_58, e58_59, e58_60, e58_63, e58_64, e58_67, e58_70, e58_71, e58_72, e58_73, e58_76, e58_79, e58_80, e58_83, e58_86, e58_87, e58_90, e58_91, e58_92, e58_95, e58_95i, e58_96, e58_99, e58_100, e58_101, e58_104, e58_105, true_or, true_and]
      exact ⟨fun _ => hno f a (by simp only [pRival, bd, e]) F' AI FL AL b1 b2 b3.toTF, fun y => absurd trivial y⟩
    have t1 := c2.toTG
    have hP1 := hP.tell hS t1
    have hn3 : wNR (sW S) < 3 := by
      by_cases q : wNR (sW S) < 3
      · exact q
      · simp [pFirst, q] at e1
    simp only [tl_some, e58_0, e58_1, e58_2, e58_5, e58_8, e58_9, e58_12, e58_13, e58_16, e58_17, e58_18, e58_21, e58_24, e58_25, e58_28, e58_31, e58_32, e58_33, e58_34, e58_37, e58_38, e58_39, e58_41, e58_44, e58_47, e58_48, e58_49, e58_51, e58_54, e58_57, e58_58, e58_59, e58_60, e58_63, e58_64, e58_67, e58_70, e58_71, e58_72, e58_73, e58_76, e58_79, e58_80, e58_83, e58_86, e58_87, e58_90, e58_91, e58_92, e58_95, e58_95i, e58_96, e58_99, e58_100, e58_101, e58_104, e58_105]
    refine ⟨fun y => absurd y (by decide), fun _ => ⟨by simp, c_takeNewName hS c1 hE (S := S) hP1.told.1.2.2.2.2.1 hP1.told.1.2.2.2.2.2.1 bd1 bd2 hP.2.1 hP.2.2.1 (fun f a e F' b1 b2 b3 => ?_) (fun p2 e2 s1 F2 G2 d1 d2 d3 => ?_)⟩⟩
    · simp only [tl_some, e58_0, e58_1, e58_2, e58_5, e58_8, e58_9, e58_12, e58_13, e58_16, e58_17, e58_18, e58_21, e58_24, e58_25, e58_28, e58_31, e58_32, e58_33, e58_34, e58_37, e58_38, e58_39, e58_41, e58_44, e58_47, e58_48, e58_49, e58_51, e58_54, e58_57, e58_58, e58_59, e58_60, e58_63, e58_64, e58_67, e58_70, e58_71, e58_72, e58_73, e58_76, e58_79, e58_80, e58_83, e58_86, e58_87, e58_90, e58_91, e58_92, e58_95, e58_95i, e58_96, e58_99, e58_100, e58_101, e58_104, e58_105, true_or, true_and]
      exact ⟨fun y => absurd trivial y, fun _ => hno f a (by simp only [pRival, bd, e1, e]) F' AI G1 AL b1 b2 (t1.toTE.trans b3).toTF⟩
    have t2 := t1.trans d3
    simp only [tl_some, e58_0, e58_1, e58_2, e58_5, e58_8, e58_9, e58_12, e58_13, e58_16, e58_17, e58_18, e58_21, e58_24, e58_25, e58_28, e58_31, e58_32, e58_33, e58_34, e58_37, e58_38, e58_39, e58_41, e58_44, e58_47, e58_48, e58_49, e58_51, e58_54, e58_57, e58_58, e58_59, e58_60, e58_63, e58_64, e58_67, e58_70, e58_71, e58_72, e58_73, e58_76, e58_79, e58_80, e58_83, e58_86, e58_87, e58_90, e58_91, e58_92, e58_95, e58_95i, e58_96, e58_99, e58_100, e58_101, e58_104, e58_105, k0, true_and, mj_kl, mj_u]
    refine ⟨fun _ => ⟨by simp, c_takeKey hS d1 hE (by decide) (fun f a e F' b1 b2 b3 => ?_) (fun p3 e3 F3 G3 c3 c4 => ?_)⟩, fun y => absurd (by decide) y⟩
    · simp only [tl_some, e58_0, e58_1, e58_2, e58_5, e58_8, e58_9, e58_12, e58_13, e58_16, e58_17, e58_18, e58_21, e58_24, e58_25, e58_28, e58_31, e58_32, e58_33, e58_34, e58_37, e58_38, e58_39, e58_41, e58_44, e58_47, e58_48, e58_49, e58_51, e58_54, e58_57, e58_58, e58_59, e58_60, e58_63, e58_64, e58_67, e58_70, e58_71, e58_72, e58_73, e58_76, e58_79, e58_80, e58_83, e58_86, e58_87, e58_90, e58_91, e58_92, e58_95, e58_95i, e58_96, e58_99, e58_100, e58_101, e58_104, e58_105, true_or, true_and]
      exact ⟨fun _ => hno f a (by simp only [pRival, bd, e1, e2, e]) F' AI G2 AL b1 b2 (t2.toTE.trans b3).toTF, fun y => absurd trivial y⟩
    have t3 := t2.trans c4.toTG
    simp only [tl_some, e58_0, e58_1, e58_2, e58_5, e58_8, e58_9, e58_12, e58_13, e58_16, e58_17, e58_18, e58_21, e58_24, e58_25, e58_28, e58_31, e58_32, e58_33, e58_34, e58_37, e58_38, e58_39, e58_41, e58_44, e58_47, e58_48, e58_49, e58_51, e58_54, e58_57, e58_58, e58_59, e58_60, e58_63, e58_64, e58_67, e58_70, e58_71, e58_72, e58_73, e58_76, e58_79, e58_80, e58_83, e58_86, e58_87, e58_90, e58_91, e58_92, e58_95, e58_95i, e58_96, e58_99, e58_100, e58_101, e58_104, e58_105]
    refine ⟨fun y => absurd y (by decide), fun _ => ⟨by simp, c_takeWhole (lo := 0) (hi := 20) hS c3 hE (by decide) (by decide) (fun f a e F' b1 b2 b3 => ?_) (fun v p4 e4 l4 u4 F4 G4 d4 d5 d6 => ?_)⟩⟩
    · simp only [tl_some, e58_0, e58_1, e58_2, e58_5, e58_8, e58_9, e58_12, e58_13, e58_16, e58_17, e58_18, e58_21, e58_24, e58_25, e58_28, e58_31, e58_32, e58_33, e58_34, e58_37, e58_38, e58_39, e58_41, e58_44, e58_47, e58_48, e58_49, e58_51, e58_54, e58_57, e58_58, e58_59, e58_60, e58_63, e58_64, e58_67, e58_70, e58_71, e58_72, e58_73, e58_76, e58_79, e58_80, e58_83, e58_86, e58_87, e58_90, e58_91, e58_92, e58_95, e58_95i, e58_96, e58_99, e58_100, e58_101, e58_104, e58_105, true_or, true_and]
      exact ⟨fun y => absurd trivial y, fun _ => hno f a (by simp only [pRival, bd, e1, e2, e3, e]) F' AI G3 AL b1 b2 (t3.toTE.trans b3).toTF⟩
    have t4 := t3.trans d6
    have hP4 := hP.tell hS t4
    have x389 : F4 389 (h + 1) = nI (wNR (sW S)) := hP4.told.1.2.2.2.2.2.1
    obtain ⟨-, -, -, -, -, -, ⟨f9, k20⟩, -⟩ := id hH
    have hin : vp_in (nI (wNR (sW S))) 3 := vp_in_nI hn3 (by decide)
    have hcl : (nI (wNR (sW S))).toNatClampNeg = wNR (sW S) := nI_clamp (by omega)
    simp only [tl_some, e58_0, e58_1, e58_2, e58_5, e58_8, e58_9, e58_12, e58_13, e58_16, e58_17, e58_18, e58_21, e58_24, e58_25, e58_28, e58_31, e58_32, e58_33, e58_34, e58_37, e58_38, e58_39, e58_41, e58_44, e58_47, e58_48, e58_49, e58_51, e58_54, e58_57, e58_58, e58_59, e58_60, e58_63, e58_64, e58_67, e58_70, e58_71, e58_72, e58_73, e58_76, e58_79, e58_80, e58_83, e58_86, e58_87, e58_90, e58_91, e58_92, e58_95, e58_95i, e58_96, e58_99, e58_100, e58_101, e58_104, e58_105, k0, f258, k258, f260, kT, rf_some, x389, hin, hcl, f259, hH.1, f9, k20, d5, nI_1, or_true, true_and, true_or]
    refine ⟨fun _ => ?_, fun y => absurd (by decide) y⟩
    generalize hF5 : mj_u2 F4 389 (h + 1) (nI (wNR (sW S) + 1)) = F5
    generalize hA5 : mj_u2 AI (h + 20) (wNR (sW S)) (nI v) = A5
    generalize hL5 : mj_u2 AL (te + 4) (wNR (sW S)) (G2 265 te) = L5
    have x2 : FIx F4 F5 (h + 1) [389] := by rw [← hF5]; exact FIx_u2 (by simp)
    have aA : ∀ q, q ≠ h + 20 → A5 q = AI q := fun q hq => by rw [← hA5]; funext z; exact mj_u2_1 hq
    have aL : ∀ q, q ≠ te + 4 → L5 q = AL q := fun q hq => by rw [← hL5]; funext z; exact mj_u2_1 hq
    have tf : TF te h F4 F5 G4 G4 AI A5 AL L5 := fun z y1 y2 => ⟨fun f => x2 f z (Or.inl (by omega)), fun _ => rfl, aA z (by omega), aL z (by omega)⟩
    refine hok p4 (w_riv (sW S), sHs S, sM S, upN (sSh S) (wNR (sW S)) v, sNp S, sBn S, upN (sRn S) (wNR (sW S)) (wd (AI ta) E p1)) (by simp only [pRival, bd, e1, e2, e3, e4]) F5 A5 G4 L5 (d4.fx (fun f => x2 f (te + 1) (Or.inl (by omega))) (fun _ => rfl)) ?_ (by rw [x2 262 te (Or.inl (by omega))]; exact t4.fault) (t4.toTE.toTF.trans tf)
    obtain ⟨⟨q1, q2, q3, q4⟩, qb, qc, ⟨qe, qe'⟩, qg, qr⟩ := hP4
    have fh : ∀ f, F5 f h = F4 f h := fun f => x2 f h (Or.inl (by omega))
    have ft : ∀ f, f ≠ 389 → F5 f (h + 1) = F4 f (h + 1) := fun f hf => x2 f (h + 1) (Or.inr (by simpa using hf))
    have tw5 : ToldW F4 AI AL (h + 1) (sW S) → ToldW F5 A5 L5 (h + 1) (w_riv (sW S)) := fun y => by
      obtain ⟨⟨y1, y2, y3, y4, y5, y6, y7⟩, yb, yw⟩ := y
      refine ⟨⟨by rw [ft _ (by decide)]; exact y1, by rw [ft _ (by decide)]; exact y2, by rw [ft _ (by decide)]; exact y3, by rw [ft _ (by decide)]; exact y4, by rw [ft _ (by decide)]; exact y5, by rw [← hF5, mj_u2_s]; rfl, by rw [ft _ (by decide)]; exact y7⟩, fun b hb => ?_, fun u hu => ?_⟩
      · rw [aA _ (by omega), aA _ (by omega), aA _ (by omega), aA _ (by omega), aA _ (by omega), aA _ (by omega), aL _ (by omega), aL _ (by omega)]
        exact yb b hb
      · rw [aA _ (by omega), aL _ (by omega), aL _ (by omega)]
        exact yw u hu
    refine ⟨⟨by rw [x2 261 te (Or.inl (by omega))]; exact q1, q2, q3, q4⟩, fun b hb => ?_, fun r hr => ?_, ⟨fun r hr => ?_, fun r hr => ?_⟩, qg, ?_⟩
    · rw [aL _ (by omega)]; exact qb b hb
    · have hr' : r < wNR (sW S) + 1 := hr
      show PkN (L5 (te + 4) r) (upN (sRn S) (wNR (sW S)) (wd (AI ta) E p1) r)
      rw [← hL5]
      by_cases q : r = wNR (sW S)
      · subst q
        rw [upN_s, mj_u2_s]
        exact d2
      · rw [upN_o q, mj_u2_2 q]
        exact qc r (by omega)
    · show A5 (h + 20) r = nI (upN (sSh S) (wNR (sW S)) v r) ∧ A5 (h + 21) r = 0
      rw [aA (h + 21) (by omega), ← hA5]
      by_cases q : r = wNR (sW S)
      · subst q
        rw [upN_s, mj_u2_s]
        exact ⟨rfl, (qe _ hr).2⟩
      · rw [upN_o q, mj_u2_2 q]
        exact qe r hr
    · show upN (sSh S) (wNR (sW S)) v r ≤ 20
      by_cases q : r = wNR (sW S)
      · subst q; rw [upN_s]; exact u4
      · rw [upN_o q]; exact qe' r hr
    · rcases qr with ⟨r1, r2, r3, r4, r5⟩ | r
      · refine Or.inl ⟨⟨r1.1, by show wNR (sW S) + 1 ≤ 3; omega, r1.2.2⟩, tw5 r2, ⟨by rw [fh]; exact r3.1, r3.2.1, by rw [fh]; exact r3.2.2.1, by rw [fh]; exact r3.2.2.2.1, fun k hk => absurd hk (Nat.not_lt_zero k)⟩, by rw [fh]; exact r4, r5⟩
      · have hw := r.2.2.2.1
        refine Or.inr (r.wc (w' := w_riv (sW S)) ⟨hw.1, hw.2.1, hw.2.2.1, hw.2.2.2.1, by show wNR (sW S) + 1 ≤ 3; omega, hw.2.2.2.2.2⟩ ((tw5 r.2.2.2.2.1.toW).toR fun c hc => ?_) rfl rfl (Nat.le_refl _) (fun b hb => ⟨rfl, rfl, rfl, rfl, rfl⟩) (fh 1) (by rw [fh]; exact r.2.2.2.2.2.1.2.2.1) (fh 3) (fh 12) (fun j j1 j2 => aA _ (by omega)) (aL _ (by omega)))
        rw [aA _ (by omega), aA _ (by omega)]
        exact r.2.2.2.2.1.2.2.2 c hc
  refine n58 k0 ?_
  simp only [e58_0, e58_1, e58_2, e58_5, e58_8, e58_9, e58_12, e58_13, e58_16, e58_17, e58_18, e58_24, e58_25, e58_28, e58_31, e58_32, e58_33, e58_34, e58_37, e58_38, e58_39, e58_41, e58_44, e58_47, e58_48, e58_49, e58_51, e58_54, e58_57, e58_58, e58_59, e58_60, e58_63, e58_64, e58_67, e58_70, e58_71, e58_72, e58_73, e58_76, e58_79, e58_80, e58_83, e58_86, e58_87, e58_90, e58_91, e58_92, e58_95, e58_95i, e58_96, e58_99, e58_100, e58_101, e58_104, e58_105, k0, f260, kT, rf_some, w6, true_and]
  refine ⟨fun z => ⟨by simp, main false (dec_ge (b := 3) (by decide) z (by omega)).symm⟩, fun z => ⟨by simp, main true (dec_lt (b := 3) (by decide) z (by omega)).symm⟩⟩
theorem c_readWord (hS : TelS K FR te h ta) (hR : TokR FI FL (te + 1) (AI ta) E p) (hP : PR K FR FI AI AL te h S) (hE : E ≤ 900) (hno : ∀ f a, pWord (AI ta) E p S = .inl (f, a) → ∀ (FI' AI' : Nat → Nat → Int32) (FL' AL' : Nat → Nat → Int64), FI' 262 te = nI f → FI' 263 te = nI a → TF te h FI FI' FL FL' AI AI' AL AL' → Q (some (.int 0)) (n, K, FI', FL', FR, AI', AL', AR)) (hok : ∀ p' S', pWord (AI ta) E p S = .inr (p', S') → ∀ (FI' AI' : Nat → Nat → Int32) (FL' AL' : Nat → Nat → Int64), TokR FI' FL' (te + 1) (AI ta) E p' → PR K FR FI' AI' AL' te h S' → FI' 262 te = FI 262 te → TF te h FI FI' FL FL' AI AI' AL AL' → Q (some (.int 1)) (n, K, FI', FL', FR, AI', AL', AR)) : EV sa (d + 6) 59 [.ref te] (n, K, FI, FL, FR, AI, AL, AR) Q := by
  obtain ⟨k0, f0, hTk, ⟨f257, k257⟩, ⟨f258, k258⟩, f259, f260, hH, hT, h0, sep, sta, stb⟩ := id hS
  have tw := hP.told
  obtain ⟨w1, w2, w3, w4, w5, w6, w7⟩ := tw.1
  obtain ⟨bd1, bd2, bd3, bd4, bd5⟩ := hP.bounds
  have kT := hT.1
  have main : ∀ room : Bool, room = decide (wNW (sW S) < 6) → EV sa (d + 5) 62 [.ref te, .int (bI room), .int (bI true)] (n, K, FI, FL, FR, AI, AL, AR) (fun v μ => WP sa (EV sa (d + 5)) 59 Q 0 0 22 [.ref te] (v.toList ++ []) μ) := by
    intro room hroom
    subst hroom
    refine c_takeFirst hS hR hE (fun f a e F' b1 b2 b3 => ?_) (fun p1 e1 F1 G1 c1 c2 => ?_)
    · simp only [tl_some, e59_0, e59_1, e59_2, e59_5, e59_8, e59_10, e59_13, e59_14, e59_17, e59_18, e59_19, e59_22, e59_25, e59_26, e59_27, e59_28, e59_31, e59_34, e59_35, e59_38, e59_39, e59_40, e59_43, e59_46, e59_47, e59_50, e59_53, e59_56, e59_59, e59_60, e59_61, e59_64, e59_65, e59_66, e59_69, e59_72, e59_73, e59_74, e59_75, e59_78, e59_79, e59_82, e59_83, e59_86, e59_89, e59_90, true_or, true_and]
      exact ⟨fun y => absurd trivial y, fun _ => hno f a (by simp only [pWord, bd, e]) F' AI FL AL b1 b2 b3.toTF⟩
    have t1 := c2.toTG
    have hP1 := hP.tell hS t1
    have hn3 : wNW (sW S) < 6 := by
      by_cases q : wNW (sW S) < 6
      · exact q
      · simp [pFirst, q] at e1
    have r3 := c1.2.2.2.1
    have h5 := srt_5 (T := AI ta) (E := E) (p := p1)
    have es : (nI (srt (AI ta) E p1) = 1) ↔ srt (AI ta) E p1 = 1 := by rw [show (1 : Int32) = nI 1 from rfl, nI_eq (by omega) (by decide)]
    have x390 : F1 390 (h + 1) = nI (wNW (sW S)) := hP1.told.1.2.2.2.2.2.2
    obtain ⟨-, -, -, -, -, -, -, -, -, ⟨f9, k9⟩, -⟩ := id hT
    have tail : ¬ (srt (AI ta) E p1 = 1 ∧ (fndL (wordL (sW S)) (wNW (sW S)) (wd (AI ta) E p1)).isSome = true) → EV sa (d + 5) 65 [.ref te] (n, K, F1, G1, FR, AI, AL, AR) (fun v μ => WP sa (EV sa (d + 5)) 59 Q 0 0 69 [.ref te] (v.toList ++ []) μ) := by
      intro hnd
      refine c_takeWord hS c1 hE (fun f a e F' b1 b2 b3 => ?_) (fun p2 e2 s1 F2 G2 d1 d2 d3 d4 => ?_)
      · simp only [tl_some, e59_0, e59_1, e59_2, e59_5, e59_8, e59_10, e59_13, e59_14, e59_17, e59_18, e59_19, e59_22, e59_25, e59_26, e59_27, e59_28, e59_31, e59_34, e59_35, e59_38, e59_39, e59_40, e59_43, e59_46, e59_47, e59_50, e59_53, e59_56, e59_59, e59_60, e59_61, e59_64, e59_65, e59_66, e59_69, e59_72, e59_73, e59_74, e59_75, e59_78, e59_79, e59_82, e59_83, e59_86, e59_89, e59_90, true_or, true_and]
        exact ⟨fun y => absurd trivial y, fun _ => hno f a (by simp only [pWord, bd, e1]; rw [if_neg hnd, e]) F' AI G1 AL b1 b2 (t1.toTE.trans b3).toTF⟩
      have t2 := t1.trans d4
      have hP2 := hP.tell hS t2
      obtain ⟨-, -, -, s8, s1', sl⟩ := srt_let s1
      simp only [tl_some, e59_0, e59_1, e59_2, e59_5, e59_8, e59_10, e59_13, e59_14, e59_17, e59_18, e59_19, e59_22, e59_25, e59_26, e59_27, e59_28, e59_31, e59_34, e59_35, e59_38, e59_39, e59_40, e59_43, e59_46, e59_47, e59_50, e59_53, e59_56, e59_59, e59_60, e59_61, e59_64, e59_65, e59_66, e59_69, e59_72, e59_73, e59_74, e59_75, e59_78, e59_79, e59_82, e59_83, e59_86, e59_89, e59_90, k0, f260, rf_some, d2, true_and]
      refine ⟨fun _ => ⟨by simp, c_addWord hT hP2.told hn3 (by omega) d3 fun F3 A3 L3 x1 x2 x3 x4 => ?_⟩, fun y => absurd (by decide) y⟩
      simp only [tl_none, e59_0, e59_1, e59_2, e59_5, e59_8, e59_10, e59_13, e59_14, e59_17, e59_18, e59_19, e59_22, e59_25, e59_26, e59_27, e59_28, e59_31, e59_34, e59_35, e59_38, e59_39, e59_40, e59_43, e59_46, e59_47, e59_50, e59_53, e59_56, e59_59, e59_60, e59_61, e59_64, e59_65, e59_66, e59_69, e59_72, e59_73, e59_74, e59_75, e59_78, e59_79, e59_82, e59_83, e59_86, e59_89, e59_90, or_true, true_and]
      have tf : TF te h F2 F3 G2 G2 AI A3 AL L3 := fun z y1 y2 => ⟨fun f => x2 f z (Or.inl (by omega)), fun _ => rfl, x3 z (by omega), x4 z (by omega)⟩
      refine hok p2 (w_word (sW S) (wl (AI ta) E p1) (lt (AI ta) p1), S.2) (by simp only [pWord, bd, e1]; rw [if_neg hnd, e2]) F3 A3 G2 L3 (d1.fx (fun f => x2 f (te + 1) (Or.inl (by omega))) (fun _ => rfl)) ?_ (by rw [x2 262 te (Or.inl (by omega))]; exact t2.fault) (t2.toTE.toTF.trans tf)
      obtain ⟨⟨q1, q2, q3, q4⟩, qb, qc, ⟨qe, qe'⟩, qg, qr⟩ := hP2
      have fh : ∀ f, F3 f h = F2 f h := fun f => x2 f h (Or.inl (by omega))
      have wok : (∀ v, v < wNW (sW S) → (1 ≤ wWL (sW S) v ∧ wWL (sW S) v ≤ 8) ∧ ∀ j, j < wWL (sW S) v → wWT (sW S) v j < 26) → ∀ v, v < wNW (sW S) + 1 → (1 ≤ upN (wWL (sW S)) (wNW (sW S)) (wl (AI ta) E p1) v ∧ upN (wWL (sW S)) (wNW (sW S)) (wl (AI ta) E p1) v ≤ 8) ∧ ∀ j, j < upN (wWL (sW S)) (wNW (sW S)) (wl (AI ta) E p1) v → upN (wWT (sW S)) (wNW (sW S)) (lt (AI ta) p1) v j < 26 := fun y v hv => by
        by_cases q : v = wNW (sW S)
        · subst q
          rw [upN_s, upN_s]
          exact ⟨⟨s1', s8⟩, sl⟩
        · rw [upN_o q, upN_o q]
          exact y v (by omega)
      refine ⟨⟨by rw [x2 261 te (Or.inl (by omega))]; exact q1, q2, q3, q4⟩, fun b hb => ?_, fun r hr => ?_, ⟨fun r hr => ?_, qe'⟩, qg, ?_⟩
      · rw [x4 _ (by omega)]; exact qb b hb
      · rw [x4 _ (by omega)]; exact qc r hr
      · rw [x3 (h + 20) (by omega), x3 (h + 21) (by omega)]
        exact qe r hr
      · rcases qr with ⟨r1, r2, r3, r4, r5⟩ | r
        · refine Or.inl ⟨⟨r1.1, r1.2.1, by show wNW (sW S) + 1 ≤ 6; omega, wok r1.2.2.2⟩, x1, ⟨by rw [fh]; exact r3.1, r3.2.1, by rw [fh]; exact r3.2.2.1, by rw [fh]; exact r3.2.2.2.1, fun k hk => absurd hk (Nat.not_lt_zero k)⟩, by rw [fh]; exact r4, r5⟩
        · have hw := r.2.2.2.1
          refine Or.inr (r.wc (w' := w_word (sW S) (wl (AI ta) E p1) (lt (AI ta) p1)) ⟨hw.1, hw.2.1, hw.2.2.1, hw.2.2.2.1, hw.2.2.2.2.1, by show wNW (sW S) + 1 ≤ 6; omega, hw.2.2.2.2.2.2.1, wok hw.2.2.2.2.2.2.2⟩ (x1.toR fun c hc => ?_) rfl rfl (Nat.le_refl _) (fun b hb => ⟨rfl, rfl, rfl, rfl, rfl⟩) (fh 1) (by rw [fh]; exact r.2.2.2.2.2.1.2.2.1) (fh 3) (fh 12) (fun j j1 j2 => x3 _ (by omega)) (x4 _ (by omega)))
          rw [x3 _ (by omega), x3 _ (by omega)]
          exact r.2.2.2.2.1.2.2.2 c hc
    simp only [tl_some, e59_0, e59_1, e59_2, e59_5, e59_8, e59_10, e59_13, e59_14, e59_17, e59_18, e59_19, e59_22, e59_25, e59_26, e59_27, e59_28, e59_31, e59_34, e59_35, e59_38, e59_39, e59_40, e59_43, e59_46, e59_47, e59_50, e59_53, e59_56, e59_59, e59_60, e59_61, e59_64, e59_65, e59_66, e59_72, e59_73, e59_74, e59_75, e59_78, e59_79, e59_82, e59_83, e59_86, e59_89, e59_90, k0, f0, hTk.1, f260, kT, f9, rf_some, r3, es, x390, true_and]
    refine ⟨fun _ => ⟨fun z => ⟨by simp, tail (fun y => z y.1)⟩, fun z => ?_⟩, fun y => absurd (by decide) y⟩
    have z' : srt (AI ta) E p1 = 1 := by simpa using z
    refine ⟨by simp, c_find hS c1 z' k9 bd3 (by decide) hP.words ?_⟩
    simp only [tl_some, e59_0, e59_1, e59_2, e59_5, e59_8, e59_10, e59_13, e59_14, e59_17, e59_18, e59_19, e59_22, e59_25, e59_26, e59_27, e59_28, e59_31, e59_34, e59_35, e59_38, e59_39, e59_40, e59_43, e59_46, e59_47, e59_50, e59_53, e59_56, e59_59, e59_60, e59_61, e59_64, e59_65, e59_66, e59_72, e59_73, e59_74, e59_75, e59_78, e59_79, e59_82, e59_83, e59_86, e59_89, e59_90]
    cases hf : fndL (wordL (sW S)) (wNW (sW S)) (wd (AI ta) E p1) with
    | none =>
      simp only [oI]
      exact ⟨fun _ => ⟨by simp, tail (fun y => by rw [hf] at y; cases y.2)⟩, fun y => absurd (by decide) y⟩
    | some i =>
      have hi := fnd_lt hf
      simp only [oI]
      refine ⟨fun y => absurd y (nI_pos (by omega)), fun _ => ⟨by simp, c_wrong (f := 3) hS c1 fun F' a1 a2 a3 => ?_⟩⟩
      simp only [tl_some, e59_0, e59_1, e59_2, e59_5, e59_8, e59_10, e59_13, e59_14, e59_17, e59_18, e59_19, e59_22, e59_25, e59_26, e59_27, e59_28, e59_31, e59_34, e59_35, e59_38, e59_39, e59_40, e59_43, e59_46, e59_47, e59_50, e59_53, e59_56, e59_59, e59_60, e59_61, e59_64, e59_65, e59_66, e59_69, e59_72, e59_73, e59_74, e59_75, e59_78, e59_79, e59_82, e59_83, e59_86, e59_89, e59_90, true_or, true_and]
      exact hno 3 p1 (by simp only [pWord, bd, e1]; rw [if_pos ⟨z', by rw [hf]; rfl⟩]) F' AI G1 AL a1 a2 (t1.toTE.trans (a3.toTE (by simp))).toTF
  refine n59 k0 ?_
  simp only [e59_0, e59_1, e59_2, e59_5, e59_8, e59_10, e59_13, e59_14, e59_17, e59_18, e59_19, e59_25, e59_26, e59_27, e59_28, e59_31, e59_34, e59_35, e59_38, e59_39, e59_40, e59_43, e59_46, e59_47, e59_50, e59_53, e59_56, e59_59, e59_60, e59_61, e59_64, e59_65, e59_66, e59_69, e59_72, e59_73, e59_74, e59_75, e59_78, e59_79, e59_82, e59_83, e59_86, e59_89, e59_90, k0, f260, kT, rf_some, w7, true_and]
  refine ⟨fun z => ⟨by simp, main false (dec_ge (b := 6) (by decide) z (by omega)).symm⟩, fun z => ⟨by simp, main true (dec_lt (b := 6) (by decide) z (by omega)).symm⟩⟩
end
