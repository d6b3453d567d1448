section
variable {sa : Nat → Nat} {d n t h m : Nat} {Q : mj_Q} {K : Nat → Nat × Nat} {FI : Nat → Nat → Int32} {FL : Nat → Nat → Int64} {FR : Nat → Nat → Option Nat} {AI : Nat → Nat → Int32} {AL : Nat → Nat → Int64} {AR : Nat → Nat → Option Nat} {w : Wl} {hs : Nat → Hg}
variable {te ta E p : Nat} {S : PS}
theorem LX.toTF {FI F1 AI : Nat → Nat → Int32} {G AL L1 : Nat → Nat → Int64} {h te : Nat} (a : LX FI F1 AL L1 h) : TF te h FI F1 G G AI AI AL L1 := fun z _ h2 => ⟨fun f => a.1 f z (Or.inl (by omega)), fun _ => rfl, rfl, a.2 z (by omega)⟩
theorem c_readPaste (hS : TelS K FR te h ta) (hR : TokR FI FL (te + 1) (AI ta) E p) (hP : PR K FR FI AI AL te h S) (hE : E ≤ 900) (hno : ∀ f a, pPaste (AI ta) E p S = .inl (f, a) → ∀ (FI' AI' : Nat → Nat → Int32) (FL' AL' : Nat → Nat → Int64), FI' 262 te = nI f → FI' 263 te = nI a → TF te h FI FI' FL FL' AI AI' AL AL' → Q (some (.int 0)) (n, K, FI', FL', FR, AI', AL', AR)) (hok : ∀ p' S', pPaste (AI ta) E p S = .inr (p', S') → ∀ (FI' AI' : Nat → Nat → Int32) (FL' AL' : Nat → Nat → Int64), TokR FI' FL' (te + 1) (AI ta) E p' → PR K FR FI' AI' AL' te h S' → FI' 262 te = FI 262 te → TF te h FI FI' FL FL' AI AI' AL AL' → Q (some (.int 1)) (n, K, FI', FL', FR, AI', AL', AR)) : EV sa (d + 14) 61 [.ref te] (n, K, FI, FL, FR, AI, AL, AR) Q := by
  obtain ⟨k0, f0, hTk, ⟨f257, k257⟩, ⟨f258, k258⟩, f259, f260, hH, hT, h0, sep, sta, stb⟩ := id hS
  have tw := hP.told
  obtain ⟨w1, w2, w3, w4, w5, w6, w7⟩ := tw.1
  obtain ⟨bd1, bd2, bd3, bd4, bd5⟩ := hP.bounds
  have kT := hT.1
  have main : ∀ room time : Bool, room = decide (sNp S < 10) → time = decide (0 < wW (sW S)) → EV sa (d + 13) 62 [.ref te, .int (bI room), .int (bI time)] (n, K, FI, FL, FR, AI, AL, AR) (fun v μ => WP sa (EV sa (d + 13)) 61 Q 0 0 33 [.ref te, mj_u, mj_u, mj_u] (v.toList ++ []) μ) := by
    intro room time hroom htime
    subst hroom
    subst htime
    refine c_takeFirst hS hR hE (fun f a e F' b1 b2 b3 => ?_) (fun p1 e1 F1 G1 c1 c2 => ?_)
    · simp only [tl_some, e61_0, e61_1, e61_2, e61_5, e61_7, e61_10, e61_11, e61_14, e61_15, e61_16, e61_19, e61_22, e61_25, e61_26, e61_29, e61_30, e61_33, e61_36, e61_37, e61_38, e61_41, e61_42, e61_45, e61_48, e61_51, e61_54, e61_55, e61_56, e61_57, e61_60, e61_61, e61_62, e61_63, e61_66, e61_69, e61_70, e61_71, e61_72, e61_75, e61_76, e61_77, e61_79, e61_82, e61_85, e61_86, e61_87, e61_88, e61_91, e61_94, e61_95, e61_96, e61_97, e61_100, e61_101, e61_104, e61_107, e61_110, e61_113, e61_114, e61_115, e61_116, e61_119, e61_122, e61_123, e61_126, e61_127, e61_130, e61_131, e61_134, e61_135, e61_136, e61_139, e61_142, e61_143, e61_145, e61_148, e61_149, e61_150, e61_153, e61_154, e61_155, e61_156, e61_159, e61_160, e61_161, e61_162, e61_165, e61_168, e61_169, e61_172, e61_175, e61_176, e61_179, e61_180, e61_181, e61_182, e61_183, e61_184, e61_185, e61_185i, e61_186, e61_189, e61_190, e61_191, e61_194, e61_195, true_or, true_and]
      exact ⟨fun _ => hno f a (by simp only [pPaste, bd, e]) F' AI FL AL b1 b2 b3.toTF, fun y => absurd trivial y⟩
    have t1 := c2.toTG
    have hP1 := hP.tell hS t1
    have hn10 : sNp S < 10 := by
      by_cases q : sNp S < 10
      · exact q
      · simp [pFirst, q] at e1
    have hW0 : 0 < wW (sW S) := by
      by_cases q : 0 < wW (sW S)
      · exact q
      · simp [pFirst, q, hn10] at e1
    have x388 : F1 388 (h + 1) = nI (wNB (sW S)) := hP1.told.1.2.2.2.2.1
    simp only [tl_some, e61_0, e61_1, e61_2, e61_5, e61_7, e61_10, e61_11, e61_14, e61_15, e61_16, e61_19, e61_22, e61_25, e61_26, e61_29, e61_30, e61_33, e61_36, e61_37, e61_38, e61_41, e61_42, e61_45, e61_48, e61_51, e61_54, e61_55, e61_56, e61_57, e61_60, e61_61, e61_62, e61_63, e61_66, e61_69, e61_70, e61_71, e61_72, e61_75, e61_76, e61_77, e61_79, e61_82, e61_85, e61_86, e61_87, e61_88, e61_91, e61_94, e61_95, e61_96, e61_97, e61_100, e61_101, e61_104, e61_107, e61_110, e61_113, e61_114, e61_115, e61_116, e61_119, e61_122, e61_123, e61_126, e61_127, e61_130, e61_131, e61_134, e61_135, e61_136, e61_139, e61_142, e61_143, e61_145, e61_148, e61_149, e61_150, e61_153, e61_154, e61_155, e61_156, e61_159, e61_160, e61_161, e61_162, e61_165, e61_168, e61_169, e61_172, e61_175, e61_176, e61_179, e61_180, e61_181, e61_182, e61_183, e61_184, e61_185, e61_185i, e61_186, e61_189, e61_190, e61_191, e61_194, e61_195, k0, f257, f260, kT, rf_some, x388, true_and]
    refine ⟨fun y => absurd y (by decide), fun _ => ⟨by simp, c_takeOldName hS c1 hE k257 bd1 (by decide) hP.2.1 (fun f a e F' b1 b2 b3 => ?_) (fun b p2 e2 hb F2 G2 d1 d2 d3 => ?_)⟩⟩
    · simp only [tl_some, e61_0, e61_1, e61_2, e61_5, e61_7, e61_10, e61_11, e61_14, e61_15, e61_16, e61_19, e61_22, e61_25, e61_26, e61_29, e61_30, e61_33, e61_36, e61_37, e61_38, e61_41, e61_42, e61_45, e61_48, e61_51, e61_54, e61_55, e61_56, e61_57, e61_60, e61_61, e61_62, e61_63, e61_66, e61_69, e61_70, e61_71, e61_72, e61_75, e61_76, e61_77, e61_79, e61_82, e61_85, e61_86, e61_87, e61_88, e61_91, e61_94, e61_95, e61_96, e61_97, e61_100, e61_101, e61_104, e61_107, e61_110, e61_113, e61_114, e61_115, e61_116, e61_119, e61_122, e61_123, e61_126, e61_127, e61_130, e61_131, e61_134, e61_135, e61_136, e61_139, e61_142, e61_143, e61_145, e61_148, e61_149, e61_150, e61_153, e61_154, e61_155, e61_156, e61_159, e61_160, e61_161, e61_162, e61_165, e61_168, e61_169, e61_172, e61_175, e61_176, e61_179, e61_180, e61_181, e61_182, e61_183, e61_184, e61_185, e61_185i, e61_186, e61_189, e61_190, e61_191, e61_194, e61_195, true_or, true_and]
      exact ⟨fun y => absurd trivial y, fun _ => hno f a (by simp only [pPaste, bd, e1, e]) F' AI G1 AL b1 b2 (t1.toTE.trans b3).toTF⟩
    have t2 := t1.trans d3
    have hP2 := hP.tell hS t2
    have hw := (hP2.hc hW0).2.2.2.1
    have hbb := hw.2.2.2.2.2.2.1 b hb
    simp only [tl_some, e61_0, e61_1, e61_2, e61_5, e61_7, e61_10, e61_11, e61_14, e61_15, e61_16, e61_19, e61_22, e61_25, e61_26, e61_29, e61_30, e61_33, e61_36, e61_37, e61_38, e61_41, e61_42, e61_45, e61_48, e61_51, e61_54, e61_55, e61_56, e61_57, e61_60, e61_61, e61_62, e61_63, e61_66, e61_69, e61_70, e61_71, e61_72, e61_75, e61_76, e61_77, e61_79, e61_82, e61_85, e61_86, e61_87, e61_88, e61_91, e61_94, e61_95, e61_96, e61_97, e61_100, e61_101, e61_104, e61_107, e61_110, e61_113, e61_114, e61_115, e61_116, e61_119, e61_122, e61_123, e61_126, e61_127, e61_130, e61_131, e61_134, e61_135, e61_136, e61_139, e61_142, e61_143, e61_145, e61_148, e61_149, e61_150, e61_153, e61_154, e61_155, e61_156, e61_159, e61_160, e61_161, e61_162, e61_165, e61_168, e61_169, e61_172, e61_175, e61_176, e61_179, e61_180, e61_181, e61_182, e61_183, e61_184, e61_185, e61_185i, e61_186, e61_189, e61_190, e61_191, e61_194, e61_195, k0, d2, true_and, mj_kl, mj_u]
    refine ⟨fun _ => ⟨by simp, c_takeCorner hS d1 hE hP2.told hb bd1 bd4 bd5 hbb.2.1.2 hbb.2.2.1.2 (fun f a e F' G' b1 b2 b3 => ?_) (fun x y p3 e3 hx hy F3 G3 c3 c4 c5 => ?_)⟩, fun y => absurd (by decide) y⟩
    · simp only [tl_some, e61_0, e61_1, e61_2, e61_5, e61_7, e61_10, e61_11, e61_14, e61_15, e61_16, e61_19, e61_22, e61_25, e61_26, e61_29, e61_30, e61_33, e61_36, e61_37, e61_38, e61_41, e61_42, e61_45, e61_48, e61_51, e61_54, e61_55, e61_56, e61_57, e61_60, e61_61, e61_62, e61_63, e61_66, e61_69, e61_70, e61_71, e61_72, e61_75, e61_76, e61_77, e61_79, e61_82, e61_85, e61_86, e61_87, e61_88, e61_91, e61_94, e61_95, e61_96, e61_97, e61_100, e61_101, e61_104, e61_107, e61_110, e61_113, e61_114, e61_115, e61_116, e61_119, e61_122, e61_123, e61_126, e61_127, e61_130, e61_131, e61_134, e61_135, e61_136, e61_139, e61_142, e61_143, e61_145, e61_148, e61_149, e61_150, e61_153, e61_154, e61_155, e61_156, e61_159, e61_160, e61_161, e61_162, e61_165, e61_168, e61_169, e61_172, e61_175, e61_176, e61_179, e61_180, e61_181, e61_182, e61_183, e61_184, e61_185, e61_185i, e61_186, e61_189, e61_190, e61_191, e61_194, e61_195, true_or, true_and]
      exact ⟨fun y => absurd trivial y, fun _ => hno f a (by simp only [pPaste, bd, e1, e2, e]) F' AI G' AL b1 b2 (t2.toTE.trans b3).toTF⟩
    have t3 := t2.trans c5
    have ho : onW (sW S) b x y := ⟨hb, hx, hy⟩
    simp only [tl_some, e61_0, e61_1, e61_2, e61_5, e61_7, e61_10, e61_11, e61_14, e61_15, e61_16, e61_19, e61_22, e61_25, e61_26, e61_29, e61_30, e61_33, e61_36, e61_37, e61_38, e61_41, e61_42, e61_45, e61_48, e61_51, e61_54, e61_55, e61_56, e61_57, e61_60, e61_61, e61_62, e61_63, e61_66, e61_69, e61_70, e61_71, e61_72, e61_75, e61_76, e61_77, e61_79, e61_82, e61_85, e61_86, e61_87, e61_88, e61_91, e61_94, e61_95, e61_96, e61_97, e61_100, e61_101, e61_104, e61_107, e61_110, e61_113, e61_114, e61_115, e61_116, e61_119, e61_122, e61_123, e61_126, e61_127, e61_130, e61_131, e61_134, e61_135, e61_136, e61_139, e61_142, e61_143, e61_145, e61_148, e61_149, e61_150, e61_153, e61_154, e61_155, e61_156, e61_159, e61_160, e61_161, e61_162, e61_165, e61_168, e61_169, e61_172, e61_175, e61_176, e61_179, e61_180, e61_181, e61_182, e61_183, e61_184, e61_185, e61_185i, e61_186, e61_189, e61_190, e61_191, e61_194, e61_195, k0, c4, true_and, mj_kl, mj_u]
    refine ⟨fun _ => ⟨by simp, c_takeKey hS c3 hE (by decide) (fun f a e F' b1 b2 b3 => ?_) (fun p4 e4 F4 G4 d4 d5 => ?_)⟩, fun y => absurd (by decide) y⟩
    · simp only [tl_some, e61_0, e61_1, e61_2, e61_5, e61_7, e61_10, e61_11, e61_14, e61_15, e61_16, e61_19, e61_22, e61_25, e61_26, e61_29, e61_30, e61_33, e61_36, e61_37, e61_38, e61_41, e61_42, e61_45, e61_48, e61_51, e61_54, e61_55, e61_56, e61_57, e61_60, e61_61, e61_62, e61_63, e61_66, e61_69, e61_70, e61_71, e61_72, e61_75, e61_76, e61_77, e61_79, e61_82, e61_85, e61_86, e61_87, e61_88, e61_91, e61_94, e61_95, e61_96, e61_97, e61_100, e61_101, e61_104, e61_107, e61_110, e61_113, e61_114, e61_115, e61_116, e61_119, e61_122, e61_123, e61_126, e61_127, e61_130, e61_131, e61_134, e61_135, e61_136, e61_139, e61_142, e61_143, e61_145, e61_148, e61_149, e61_150, e61_153, e61_154, e61_155, e61_156, e61_159, e61_160, e61_161, e61_162, e61_165, e61_168, e61_169, e61_172, e61_175, e61_176, e61_179, e61_180, e61_181, e61_182, e61_183, e61_184, e61_185, e61_185i, e61_186, e61_189, e61_190, e61_191, e61_194, e61_195, true_or, true_and]
      exact ⟨fun y => absurd trivial y, fun _ => hno f a (by simp only [pPaste, bd, e1, e2, e3, e]) F' AI G3 AL b1 b2 (t3.toTE.trans b3).toTF⟩
    have t4 := t3.trans d5.toTG
    have hP4 := hP.tell hS t4
    have x389 : F4 389 (h + 1) = nI (wNR (sW S)) := hP4.told.1.2.2.2.2.2.1
    have xpl : F4 324 (te + 1) = nI p4 := d4.2.2.2.2.1
    simp only [tl_some, e61_0, e61_1, e61_2, e61_5, e61_7, e61_10, e61_11, e61_14, e61_15, e61_16, e61_19, e61_22, e61_25, e61_26, e61_29, e61_30, e61_33, e61_36, e61_37, e61_38, e61_41, e61_42, e61_45, e61_48, e61_51, e61_54, e61_55, e61_56, e61_57, e61_60, e61_61, e61_62, e61_63, e61_66, e61_69, e61_70, e61_71, e61_72, e61_75, e61_76, e61_77, e61_79, e61_82, e61_85, e61_86, e61_87, e61_88, e61_91, e61_94, e61_95, e61_96, e61_97, e61_100, e61_101, e61_104, e61_107, e61_110, e61_113, e61_114, e61_115, e61_116, e61_119, e61_122, e61_123, e61_126, e61_127, e61_130, e61_131, e61_134, e61_135, e61_136, e61_139, e61_142, e61_143, e61_145, e61_148, e61_149, e61_150, e61_153, e61_154, e61_155, e61_156, e61_159, e61_160, e61_161, e61_162, e61_165, e61_168, e61_169, e61_172, e61_175, e61_176, e61_179, e61_180, e61_181, e61_182, e61_183, e61_184, e61_185, e61_185i, e61_186, e61_189, e61_190, e61_191, e61_194, e61_195, k0, f0, hTk.1, f258, f260, kT, rf_some, x389, xpl, true_and, mj_kl]
    refine ⟨fun _ => ⟨by simp, c_takeOldName hS d4 hE k258 bd2 (by decide) hP.2.2.1 (fun f a e F' b1 b2 b3 => ?_) (fun r p5 e5 hr F5 G5 c6 c7 c8 => ?_)⟩, fun y => absurd (by decide) y⟩
    · simp only [tl_some, e61_0, e61_1, e61_2, e61_5, e61_7, e61_10, e61_11, e61_14, e61_15, e61_16, e61_19, e61_22, e61_25, e61_26, e61_29, e61_30, e61_33, e61_36, e61_37, e61_38, e61_41, e61_42, e61_45, e61_48, e61_51, e61_54, e61_55, e61_56, e61_57, e61_60, e61_61, e61_62, e61_63, e61_66, e61_69, e61_70, e61_71, e61_72, e61_75, e61_76, e61_77, e61_79, e61_82, e61_85, e61_86, e61_87, e61_88, e61_91, e61_94, e61_95, e61_96, e61_97, e61_100, e61_101, e61_104, e61_107, e61_110, e61_113, e61_114, e61_115, e61_116, e61_119, e61_122, e61_123, e61_126, e61_127, e61_130, e61_131, e61_134, e61_135, e61_136, e61_139, e61_142, e61_143, e61_145, e61_148, e61_149, e61_150, e61_153, e61_154, e61_155, e61_156, e61_159, e61_160, e61_161, e61_162, e61_165, e61_168, e61_169, e61_172, e61_175, e61_176, e61_179, e61_180, e61_181, e61_182, e61_183, e61_184, e61_185, e61_185i, e61_186, e61_189, e61_190, e61_191, e61_194, e61_195, true_or, true_and]
      exact ⟨fun y => absurd trivial y, fun _ => hno f a (by simp only [pPaste, bd, e1, e2, e3, e4, e]) F' AI G4 AL b1 b2 (t4.toTE.trans b3).toTF⟩
    have t5 := t4.trans c8
    have hP5 := hP.tell hS t5
    have hC5 := hP5.hc hW0
    obtain ⟨-, -, -, -, -, -, ⟨f9, k20⟩, -⟩ := id hH
    have hin : vp_in (nI r) 3 := vp_in_nI (by omega) (by decide)
    have hcl : (nI r).toNatClampNeg = r := nI_clamp (by omega)
    have xs : AI (h + 20) r = nI (sSh S r) := (hP.2.2.2.1.1 r (by omega)).1
    have xs20 : sSh S r ≤ 20 := hP.2.2.2.1.2 r (by omega)
    obtain ⟨c32a, c32b⟩ := corner_lt hw ho
    have emay : mayAt (sW S) (sHs S) (sM S) b (wW (sW S) * y + x) = may (sW S) (sHs S) (sM S) b x y := by
      have hxW : x < wW (sW S) := by have := hbb.2.1.1; omega
      obtain ⟨q1, q2⟩ := cellxy (y := y) hxW
      unfold mayAt onAt
      rw [q1, q2, decide_eq_true ⟨hx, hy⟩, Bool.true_and]
    have bad : sSh S r = 0 ∨ may (sW S) (sHs S) (sM S) b x y = false → pPaste (AI ta) E p S = .inl (7, p4) := fun q => by
      simp only [pPaste, bd, e1, e2, e3, e4, e5]
      rw [if_pos q]
    have u263 : ∀ (F : Nat → Nat → Int32) (y : Int32), mj_u2 (mj_u2 F 262 te 7) 263 te y 262 te = nI 7 := fun F y => by rw [mj_u2_1 (by decide), mj_u2_s]; rfl
    simp only [tl_some, e61_0, e61_1, e61_2, e61_5, e61_7, e61_10, e61_11, e61_14, e61_15, e61_16, e61_19, e61_22, e61_25, e61_26, e61_29, e61_30, e61_33, e61_36, e61_37, e61_38, e61_41, e61_42, e61_45, e61_48, e61_51, e61_54, e61_55, e61_56, e61_57, e61_60, e61_61, e61_62, e61_63, e61_66, e61_69, e61_70, e61_71, e61_72, e61_75, e61_76, e61_77, e61_79, e61_82, e61_85, e61_86, e61_87, e61_88, e61_91, e61_94, e61_95, e61_96, e61_97, e61_100, e61_101, e61_104, e61_107, e61_110, e61_113, e61_114, e61_115, e61_116, e61_119, e61_122, e61_123, e61_126, e61_127, e61_130, e61_131, e61_134, e61_135, e61_136, e61_139, e61_142, e61_143, e61_145, e61_148, e61_149, e61_150, e61_153, e61_154, e61_155, e61_156, e61_159, e61_160, e61_161, e61_162, e61_165, e61_168, e61_169, e61_172, e61_175, e61_176, e61_179, e61_180, e61_181, e61_182, e61_183, e61_184, e61_185, e61_185i, e61_186, e61_189, e61_190, e61_191, e61_194, e61_195, k0, f259, hH.1, f9, k20, rf_some, c7, hin, hcl, xs, true_and, true_or]
    refine ⟨fun _ => ⟨fun z => ?_, fun z => ⟨by simp, c_mayGo hC5 hb (by omega) fun F6 L6 g1 g2 => ?_⟩⟩, fun y => absurd (by decide) y⟩
    · have z' : sSh S r = 0 := by
        rcases Nat.eq_zero_or_pos (sSh S r) with q | q
        · exact q
        · exact absurd z (nI_nle q (by omega))
      refine hno 7 p4 (bad (Or.inl z')) _ AI G5 AL (u263 _ _) mj_u2_s ?_
      exact t5.toTE.toTF.trans (TE.toTF (((FIx_u2 (fs := [262, 263]) (by simp)).same (FIx_u2 (by simp))).toTE (by simp)))
    · rw [emay]
      have z' : ¬ sSh S r = 0 := fun q => z (by rw [q]; decide)
      have y264 : F6 264 te = nI r := by rw [g2.1 264 te (Or.inl (by omega))]; exact c7
      have y261 : F6 261 te = nI (sNp S) := by rw [g2.1 261 te (Or.inl (by omega))]; exact hP5.1.1
      simp only [tl_some, e61_0, e61_1, e61_2, e61_5, e61_7, e61_10, e61_11, e61_14, e61_15, e61_16, e61_19, e61_22, e61_25, e61_26, e61_29, e61_30, e61_33, e61_36, e61_37, e61_38, e61_41, e61_42, e61_45, e61_48, e61_51, e61_54, e61_55, e61_56, e61_57, e61_60, e61_61, e61_62, e61_63, e61_66, e61_69, e61_70, e61_71, e61_72, e61_75, e61_76, e61_77, e61_79, e61_82, e61_85, e61_86, e61_87, e61_88, e61_91, e61_94, e61_95, e61_96, e61_97, e61_100, e61_101, e61_104, e61_107, e61_110, e61_113, e61_114, e61_115, e61_116, e61_119, e61_122, e61_123, e61_126, e61_127, e61_130, e61_131, e61_134, e61_135, e61_136, e61_139, e61_142, e61_143, e61_145, e61_148, e61_149, e61_150, e61_153, e61_154, e61_155, e61_156, e61_159, e61_160, e61_161, e61_162, e61_165, e61_168, e61_169, e61_172, e61_175, e61_176, e61_179, e61_180, e61_181, e61_182, e61_183, e61_184, e61_185, e61_185i, e61_186, e61_189, e61_190, e61_191, e61_194, e61_195, k0, f259, rf_some, y264, true_and, true_or, bI_eq0]
      refine ⟨fun v => ?_, fun v => ?_⟩
      · have v' : may (sW S) (sHs S) (sM S) b x y = true := by simpa using v
        have m30 : sM S < 30 := by have := hP.1; omega
        refine ⟨by simp, C_put g1 m30 ho fun F7 A7 i1 i2 i3 => ?_⟩
        have z264 : F7 264 te = nI r := by rw [i2 264 te (Or.inl (by omega))]; exact y264
        have z261 : F7 261 te = nI (sNp S) := by rw [i2 261 te (Or.inl (by omega))]; exact y261
        have zs : A7 (h + 20) r = nI (sSh S r) := by rw [i3 (h + 20) (by omega)]; exact xs
        obtain ⟨s', hs'⟩ : ∃ s', sSh S r = s' + 1 := ⟨sSh S r - 1, by omega⟩
        have zm : nI (sSh S r) - 1 = nI s' := by rw [hs', nI_pred]
        simp only [tl_none, e61_0, e61_1, e61_2, e61_5, e61_7, e61_10, e61_11, e61_14, e61_15, e61_16, e61_19, e61_22, e61_25, e61_26, e61_29, e61_30, e61_33, e61_36, e61_37, e61_38, e61_41, e61_42, e61_45, e61_48, e61_51, e61_54, e61_55, e61_56, e61_57, e61_60, e61_61, e61_62, e61_63, e61_66, e61_69, e61_70, e61_71, e61_72, e61_75, e61_76, e61_77, e61_79, e61_82, e61_85, e61_86, e61_87, e61_88, e61_91, e61_94, e61_95, e61_96, e61_97, e61_100, e61_101, e61_104, e61_107, e61_110, e61_113, e61_114, e61_115, e61_116, e61_119, e61_122, e61_123, e61_126, e61_127, e61_130, e61_131, e61_134, e61_135, e61_136, e61_139, e61_142, e61_143, e61_145, e61_148, e61_149, e61_150, e61_153, e61_154, e61_155, e61_156, e61_159, e61_160, e61_161, e61_162, e61_165, e61_168, e61_169, e61_172, e61_175, e61_176, e61_179, e61_180, e61_181, e61_182, e61_183, e61_184, e61_185, e61_185i, e61_186, e61_189, e61_190, e61_191, e61_194, e61_195, k0, f259, hH.1, f9, k20, rf_some, z264, z261, hin, hcl, zs, zm, nI_1, or_true, true_or, true_and]
        generalize hA8 : mj_u2 A7 (h + 20) r (nI s') = A8
        generalize hF8 : mj_u2 F7 261 te (nI (sNp S + 1)) = F8
        have aA : ∀ q, q ≠ h + 20 → A8 q = A7 q := fun q hq => by rw [← hA8]; funext z; exact mj_u2_1 hq
        have xF : FIx F7 F8 te [261] := by rw [← hF8]; exact FIx_u2 (by simp)
        have tf : TF te h F5 F8 G5 G5 AI A8 AL L6 := fun q q1 q2 => ⟨fun f => by rw [xF f q (Or.inl (by omega)), i2 f q (Or.inl (by omega)), g2.1 f q (Or.inl (by omega))], fun _ => rfl, by rw [aA q (by omega), i3 q (by omega)], g2.2 q (by omega)⟩
        have ftk : ∀ f, F8 f (te + 1) = F5 f (te + 1) := fun f => by rw [xF f (te + 1) (Or.inl (by omega)), i2 f (te + 1) (Or.inl (by omega)), g2.1 f (te + 1) (Or.inl (by omega))]
        refine hok p5 (sW S, puth (sHs S) (sM S) (b, x, y, nI r), sM S + 1, upN (sSh S) r (sSh S r - 1), sNp S + 1, sBn S, sRn S) (by simp only [pPaste, bd, e1, e2, e3, e4, e5]; rw [if_neg (by rw [v']; simp [z'])]) F8 A8 G5 L6 (c6.fx ftk (fun _ => rfl)) ?_ (by rw [xF 262 te (Or.inr (by simp)), i2 262 te (Or.inl (by omega)), g2.1 262 te (Or.inl (by omega))]; exact t5.fault) (t5.toTE.toTF.trans tf)
        obtain ⟨⟨q1, q2, q3, q4⟩, qb, qc, ⟨qe, qe'⟩, qg, qr⟩ := hP5
        refine ⟨⟨by rw [← hF8, mj_u2_s]; rfl, by show sNp S + 1 ≤ 10; omega, q3, by show sM S + 1 = wF (sW S) + (sNp S + 1); omega⟩, fun b hb => ?_, fun r hr => ?_, ⟨fun s hs => ?_, fun s hs => ?_⟩, fun k hk => ?_, Or.inr ?_⟩
        · rw [g2.2 _ (by omega)]; exact qb b hb
        · rw [g2.2 _ (by omega)]; exact qc r hr
        · show A8 (h + 20) s = nI (upN (sSh S) r (sSh S r - 1) s) ∧ A8 (h + 21) s = 0
          rw [aA (h + 21) (by omega), i3 (h + 21) (by omega), ← hA8]
          refine ⟨?_, (qe s hs).2⟩
          by_cases q : s = r
          · subst q
            rw [upN_s, mj_u2_s]
            congr 1
            omega
          · rw [upN_o q, mj_u2_2 q, i3 (h + 20) (by omega)]
            exact (qe s hs).1
        · show upN (sSh S) r (sSh S r - 1) s ≤ 20
          by_cases q : s = r
          · subst q; rw [upN_s]; omega
          · rw [upN_o q]; exact qe' s hs
        · have hk' : k < sM S + 1 := hk
          show byOK (gR (puth (sHs S) (sM S) (b, x, y, nI r) k))
          by_cases q : k = sM S
          · subst q
            rw [puth_eq]
            refine ⟨r + 2, by omega, ?_⟩
            show nI r = nI (r + 2) - 2
            rw [show (2 : Int32) = nI 2 from rfl, nq_sub (by omega)]
            congr 1
          · rw [puth_lt (by omega)]
            exact qg k (by omega)
        · show HC K FR F8 A8 L6 h (h + 1) (sW S) (puth (sHs S) (sM S) (b, x, y, nI r)) (sM S + 1)
          have i1' : HC K FR F8 A7 L6 h (h + 1) (sW S) (puth (sHs S) (sM S) (b, x, y, nI r)) (sM S + 1) := i1.fx (fun f => xF f h (Or.inl (by omega))) (fun f => xF f (h + 1) (Or.inl (by omega)))
          exact i1'.wc i1'.2.2.2.1 (by
            obtain ⟨z1, z2, z3, z4⟩ := i1'.2.2.2.2.1
            refine ⟨z1, fun b hb => ?_, fun u hu => ?_, fun c hc => ?_⟩
            · rw [aA _ (by omega), aA _ (by omega), aA _ (by omega), aA _ (by omega), aA _ (by omega), aA _ (by omega)]
              exact z2 b hb
            · rw [aA _ (by omega)]; exact z3 u hu
            · rw [aA _ (by omega), aA _ (by omega)]; exact z4 c hc) rfl rfl (Nat.le_refl _) (fun b hb => ⟨rfl, rfl, rfl, rfl, rfl⟩) rfl i1'.2.2.2.2.2.1.2.2.1 rfl rfl (fun j j1 j2 => aA _ (by omega)) rfl
      · have v' : may (sW S) (sHs S) (sM S) b x y = false := by simpa using v
        refine hno 7 p4 (bad (Or.inr v')) _ AI G5 L6 (u263 _ _) mj_u2_s ?_
        exact t5.toTE.toTF.trans (g2.toTF.trans (TE.toTF (((FIx_u2 (fs := [262, 263]) (by simp)).same (FIx_u2 (by simp))).toTE (by simp))))
  have x261 : FI 261 te = nI (sNp S) := hP.1.1
  have hnp : sNp S ≤ 10 := hP.1.2.1
  refine n61 k0 ?_
  simp only [e61_0, e61_1, e61_2, e61_5, e61_7, e61_10, e61_11, e61_14, e61_15, e61_16, e61_19, e61_22, e61_25, e61_26, e61_29, e61_30, e61_36, e61_37, e61_38, e61_41, e61_42, e61_45, e61_48, e61_51, e61_54, e61_55, e61_56, e61_57, e61_60, e61_61, e61_62, e61_63, e61_66, e61_69, e61_70, e61_71, e61_72, e61_75, e61_76, e61_77, e61_79, e61_82, e61_85, e61_86, e61_87, e61_88, e61_91, e61_94, e61_95, e61_96, e61_97, e61_100, e61_101, e61_104, e61_107, e61_110, e61_113, e61_114, e61_115, e61_116, e61_119, e61_122, e61_123, e61_126, e61_127, e61_130, e61_131, e61_134, e61_135, e61_136, e61_139, e61_142, e61_143, e61_145, e61_148, e61_149, e61_150, e61_153, e61_154, e61_155, e61_156, e61_159, e61_160, e61_161, e61_162, e61_165, e61_168, e61_169, e61_172, e61_175, e61_176, e61_179, e61_180, e61_181, e61_182, e61_183, e61_184, e61_185, e61_185i, e61_186, e61_189, e61_190, e61_191, e61_194, e61_195, k0, f260, kT, rf_some, w1, x261, true_and]
  refine ⟨fun z => ⟨fun z2 => ⟨by simp, ?_⟩, fun z2 => ⟨by simp, ?_⟩⟩, fun z => ⟨fun z2 => ⟨by simp, ?_⟩, fun z2 => ⟨by simp, ?_⟩⟩⟩
  · exact main false false (dec_ge (b := 10) (by decide) z (by omega)).symm (dec_zero z2 (by omega)).symm
  · exact main false true (dec_ge (b := 10) (by decide) z (by omega)).symm (dec_pos z2).symm
  · exact main true false (dec_lt (b := 10) (by decide) z (by omega)).symm (dec_zero z2 (by omega)).symm
  · exact main true true (dec_lt (b := 10) (by decide) z (by omega)).symm (dec_pos z2).symm
end
