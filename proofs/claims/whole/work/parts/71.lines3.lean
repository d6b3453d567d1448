section
variable {sa : Nat → Nat} {d n t h m : Nat} {Q : mj_Q} {K : Nat → Nat × Nat} {FI : Nat → Nat → Int32} {FL : Nat → Nat → Int64} {FR : Nat → Nat → Option Nat} {AI : Nat → Nat → Int32} {AL : Nat → Nat → Int64} {AR : Nat → Nat → Option Nat} {w : Wl} {hs : Nat → Hg}
variable {te ta E p : Nat} {S : PS}
theorem c_readBill (hS : TelS K FR te h ta) (hR : TokR FI FL (te + 1) (AI ta) E p) (hP : PR K FR FI AI AL te h S) (hE : E ≤ 900) (hno : ∀ f a, pBill (AI ta) E p S = .inl (f, a) → ∀ (FI' AI' : Nat → Nat → Int32) (FL' AL' : Nat → Nat → Int64), FI' 262 te = nI f → FI' 263 te = nI a → TF te h FI FI' FL FL' AI AI' AL AL' → Q (some (.int 0)) (n, K, FI', FL', FR, AI', AL', AR)) (hok : ∀ p' S', pBill (AI ta) E p S = .inr (p', S') → ∀ (FI' AI' : Nat → Nat → Int32) (FL' AL' : Nat → Nat → Int64), TokR FI' FL' (te + 1) (AI ta) E p' → PR K FR FI' AI' AL' te h S' → FI' 262 te = FI 262 te → TF te h FI FI' FL FL' AI AI' AL AL' → Q (some (.int 1)) (n, K, FI', FL', FR, AI', AL', AR)) : EV sa (d + 14) 57 [.ref te] (n, K, FI, FL, FR, AI, AL, AR) Q := by
  obtain ⟨k0, f0, hTk, ⟨f257, k257⟩, ⟨f258, k258⟩, f259, f260, hH, hT, h0, sep, sta, stb⟩ := id hS
  have tw := hP.told
  obtain ⟨w1, w2, w3, w4, w5, w6, w7⟩ := tw.1
  obtain ⟨bd1, bd2, bd3, bd4, bd5⟩ := hP.bounds
  have kT := hT.1
  have main : ∀ room time : Bool, room = decide (wNB (sW S) < 4) → time = decide (0 < wW (sW S)) → EV sa (d + 13) 62 [.ref te, .int (bI room), .int (bI time)] (n, K, FI, FL, FR, AI, AL, AR) (fun v μ => WP sa (EV sa (d + 13)) 57 Q 0 0 35 [.ref te, mj_u, mj_u, mj_u, mj_u, mj_u] (v.toList ++ []) μ) := by
    intro room time hroom htime
    subst hroom
    subst htime
    refine c_takeFirst hS hR hE (fun f a e F' b1 b2 b3 => ?_) (fun p1 e1 F1 G1 c1 c2 => ?_)
    · simp only [tl_some, e57_0, e57_1, e57_2, e57_5, e57_8, e57_9, e57_12, e57_13, e57_16, e57_17, e57_18, e57_21, e57_24, e57_27, e57_28, e57_31, e57_32, e57_35, e57_38, e57_39, e57_42, e57_45, e57_46, e57_47, e57_48, e57_51, e57_52, e57_53, e57_56, e57_59, e57_60, e57_61, e57_62, e57_65, e57_66, e57_67, e57_69, e57_72, e57_75, e57_76, e57_77, e57_78, e57_81, e57_84, e57_87, e57_90, e57_91, e57_92, e57_93, e57_96, e57_98, e57_99, e57_101, e57_104, e57_107, e57_108, e57_109, e57_110, e57_113, e57_116, e57_119, e57_122, e57_123, e57_124, e57_125, e57_128, e57_130, e57_131, e57_133, e57_136, e57_139, e57_140, e57_143, e57_146, e57_147, e57_148, e57_149, e57_152, e57_153, e57_156, e57_159, e57_160, e57_161, e57_162, e57_165, e57_166, e57_168, e57_170, e57_171, e57_174, e57_175, e57_178, e57_181, e57_182, true_or, true_and]
      exact ⟨fun _ => hno f a (by simp only [pBill, bd, e]) F' AI FL AL b1 b2 b3.toTF, fun y => absurd trivial y⟩
    have t1 := c2.toTG
    have hP1 := hP.tell hS t1
    have hn4 : wNB (sW S) < 4 := by
      by_cases q : wNB (sW S) < 4
      · exact q
      · simp [pFirst, q] at e1
    have hW0 : 0 < wW (sW S) := by
      by_cases q : 0 < wW (sW S)
      · exact q
      · simp [pFirst, q, hn4] at e1
    simp only [tl_some, e57_0, e57_1, e57_2, e57_5, e57_8, e57_9, e57_12, e57_13, e57_16, e57_17, e57_18, e57_21, e57_24, e57_27, e57_28, e57_31, e57_32, e57_35, e57_38, e57_39, e57_42, e57_45, e57_46, e57_47, e57_48, e57_51, e57_52, e57_53, e57_56, e57_59, e57_60, e57_61, e57_62, e57_65, e57_66, e57_67, e57_69, e57_72, e57_75, e57_76, e57_77, e57_78, e57_81, e57_84, e57_87, e57_90, e57_91, e57_92, e57_93, e57_96, e57_98, e57_99, e57_101, e57_104, e57_107, e57_108, e57_109, e57_110, e57_113, e57_116, e57_119, e57_122, e57_123, e57_124, e57_125, e57_128, e57_130, e57_131, e57_133, e57_136, e57_139, e57_140, e57_143, e57_146, e57_147, e57_148, e57_149, e57_152, e57_153, e57_156, e57_159, e57_160, e57_161, e57_162, e57_165, e57_166, e57_168, e57_170, e57_171, e57_174, e57_175, e57_178, e57_181, e57_182]
    refine ⟨fun y => absurd y (by decide), fun _ => ⟨by simp, c_takeNewName hS c1 hE (S := S) hP1.told.1.2.2.2.2.1 hP1.told.1.2.2.2.2.2.1 bd1 bd2 hP.2.1 hP.2.2.1 (fun f a e F' b1 b2 b3 => ?_) (fun p2 e2 s1 F2 G2 d1 d2 d3 => ?_)⟩⟩
    · simp only [tl_some, e57_0, e57_1, e57_2, e57_5, e57_8, e57_9, e57_12, e57_13, e57_16, e57_17, e57_18, e57_21, e57_24, e57_27, e57_28, e57_31, e57_32, e57_35, e57_38, e57_39, e57_42, e57_45, e57_46, e57_47, e57_48, e57_51, e57_52, e57_53, e57_56, e57_59, e57_60, e57_61, e57_62, e57_65, e57_66, e57_67, e57_69, e57_72, e57_75, e57_76, e57_77, e57_78, e57_81, e57_84, e57_87, e57_90, e57_91, e57_92, e57_93, e57_96, e57_98, e57_99, e57_101, e57_104, e57_107, e57_108, e57_109, e57_110, e57_113, e57_116, e57_119, e57_122, e57_123, e57_124, e57_125, e57_128, e57_130, e57_131, e57_133, e57_136, e57_139, e57_140, e57_143, e57_146, e57_147, e57_148, e57_149, e57_152, e57_153, e57_156, e57_159, e57_160, e57_161, e57_162, e57_165, e57_166, e57_168, e57_170, e57_171, e57_174, e57_175, e57_178, e57_181, e57_182, true_or, true_and]
      exact ⟨fun y => absurd trivial y, fun _ => hno f a (by simp only [pBill, bd, e1, e]) F' AI G1 AL b1 b2 (t1.toTE.trans b3).toTF⟩
    have t2 := t1.trans d3
    simp only [tl_some, e57_0, e57_1, e57_2, e57_5, e57_8, e57_9, e57_12, e57_13, e57_16, e57_17, e57_18, e57_21, e57_24, e57_27, e57_28, e57_31, e57_32, e57_35, e57_38, e57_39, e57_42, e57_45, e57_46, e57_47, e57_48, e57_51, e57_52, e57_53, e57_56, e57_59, e57_60, e57_61, e57_62, e57_65, e57_66, e57_67, e57_69, e57_72, e57_75, e57_76, e57_77, e57_78, e57_81, e57_84, e57_87, e57_90, e57_91, e57_92, e57_93, e57_96, e57_98, e57_99, e57_101, e57_104, e57_107, e57_108, e57_109, e57_110, e57_113, e57_116, e57_119, e57_122, e57_123, e57_124, e57_125, e57_128, e57_130, e57_131, e57_133, e57_136, e57_139, e57_140, e57_143, e57_146, e57_147, e57_148, e57_149, e57_152, e57_153, e57_156, e57_159, e57_160, e57_161, e57_162, e57_165, e57_166, e57_168, e57_170, e57_171, e57_174, e57_175, e57_178, e57_181, e57_182, k0, true_and, mj_kl, mj_u]
    refine ⟨fun _ => ⟨by simp, c_takeKind hS d1 hE (fun f a e F' b1 b2 b3 => ?_) (fun kd p3 e3 hkd F3 G3 c3 c4 c5 => ?_)⟩, fun y => absurd (by decide) y⟩
    · simp only [tl_some, e57_0, e57_1, e57_2, e57_5, e57_8, e57_9, e57_12, e57_13, e57_16, e57_17, e57_18, e57_21, e57_24, e57_27, e57_28, e57_31, e57_32, e57_35, e57_38, e57_39, e57_42, e57_45, e57_46, e57_47, e57_48, e57_51, e57_52, e57_53, e57_56, e57_59, e57_60, e57_61, e57_62, e57_65, e57_66, e57_67, e57_69, e57_72, e57_75, e57_76, e57_77, e57_78, e57_81, e57_84, e57_87, e57_90, e57_91, e57_92, e57_93, e57_96, e57_98, e57_99, e57_101, e57_104, e57_107, e57_108, e57_109, e57_110, e57_113, e57_116, e57_119, e57_122, e57_123, e57_124, e57_125, e57_128, e57_130, e57_131, e57_133, e57_136, e57_139, e57_140, e57_143, e57_146, e57_147, e57_148, e57_149, e57_152, e57_153, e57_156, e57_159, e57_160, e57_161, e57_162, e57_165, e57_166, e57_168, e57_170, e57_171, e57_174, e57_175, e57_178, e57_181, e57_182, true_or, true_and]
      exact ⟨fun y => absurd trivial y, fun _ => hno f a (by simp only [pBill, bd, e1, e2, e]) F' AI G2 AL b1 b2 (t2.toTE.trans b3).toTF⟩
    have t3 := t2.trans c5
    simp only [tl_some, e57_0, e57_1, e57_2, e57_5, e57_8, e57_9, e57_12, e57_13, e57_16, e57_17, e57_18, e57_21, e57_24, e57_27, e57_28, e57_31, e57_32, e57_35, e57_38, e57_39, e57_42, e57_45, e57_46, e57_47, e57_48, e57_51, e57_52, e57_53, e57_56, e57_59, e57_60, e57_61, e57_62, e57_65, e57_66, e57_67, e57_69, e57_72, e57_75, e57_76, e57_77, e57_78, e57_81, e57_84, e57_87, e57_90, e57_91, e57_92, e57_93, e57_96, e57_98, e57_99, e57_101, e57_104, e57_107, e57_108, e57_109, e57_110, e57_113, e57_116, e57_119, e57_122, e57_123, e57_124, e57_125, e57_128, e57_130, e57_131, e57_133, e57_136, e57_139, e57_140, e57_143, e57_146, e57_147, e57_148, e57_149, e57_152, e57_153, e57_156, e57_159, e57_160, e57_161, e57_162, e57_165, e57_166, e57_168, e57_170, e57_171, e57_174, e57_175, e57_178, e57_181, e57_182, k0, c4, true_and, mj_kl, mj_u]
    refine ⟨fun _ => ⟨by simp, c_takeKey hS c3 hE (by decide) (fun f a e F' b1 b2 b3 => ?_) (fun p4 e4 F4 G4 d4 d5 => ?_)⟩, fun y => absurd (by decide) y⟩
    · simp only [tl_some, e57_0, e57_1, e57_2, e57_5, e57_8, e57_9, e57_12, e57_13, e57_16, e57_17, e57_18, e57_21, e57_24, e57_27, e57_28, e57_31, e57_32, e57_35, e57_38, e57_39, e57_42, e57_45, e57_46, e57_47, e57_48, e57_51, e57_52, e57_53, e57_56, e57_59, e57_60, e57_61, e57_62, e57_65, e57_66, e57_67, e57_69, e57_72, e57_75, e57_76, e57_77, e57_78, e57_81, e57_84, e57_87, e57_90, e57_91, e57_92, e57_93, e57_96, e57_98, e57_99, e57_101, e57_104, e57_107, e57_108, e57_109, e57_110, e57_113, e57_116, e57_119, e57_122, e57_123, e57_124, e57_125, e57_128, e57_130, e57_131, e57_133, e57_136, e57_139, e57_140, e57_143, e57_146, e57_147, e57_148, e57_149, e57_152, e57_153, e57_156, e57_159, e57_160, e57_161, e57_162, e57_165, e57_166, e57_168, e57_170, e57_171, e57_174, e57_175, e57_178, e57_181, e57_182, true_or, true_and]
      exact ⟨fun _ => hno f a (by simp only [pBill, bd, e1, e2, e3, e]) F' AI G3 AL b1 b2 (t3.toTE.trans b3).toTF, fun y => absurd trivial y⟩
    have t4 := t3.trans d5.toTG
    have x384 : F4 384 (h + 1) = nI (wW (sW S)) := (hP.tell hS t4).told.1.1
    simp only [tl_some, e57_0, e57_1, e57_2, e57_5, e57_8, e57_9, e57_12, e57_13, e57_16, e57_17, e57_18, e57_21, e57_24, e57_27, e57_28, e57_31, e57_32, e57_35, e57_38, e57_39, e57_42, e57_45, e57_46, e57_47, e57_48, e57_51, e57_52, e57_53, e57_56, e57_59, e57_60, e57_61, e57_62, e57_65, e57_66, e57_67, e57_69, e57_72, e57_75, e57_76, e57_77, e57_78, e57_81, e57_84, e57_87, e57_90, e57_91, e57_92, e57_93, e57_96, e57_98, e57_99, e57_101, e57_104, e57_107, e57_108, e57_109, e57_110, e57_113, e57_116, e57_119, e57_122, e57_123, e57_124, e57_125, e57_128, e57_130, e57_131, e57_133, e57_136, e57_139, e57_140, e57_143, e57_146, e57_147, e57_148, e57_149, e57_152, e57_153, e57_156, e57_159, e57_160, e57_161, e57_162, e57_165, e57_166, e57_168, e57_170, e57_171, e57_174, e57_175, e57_178, e57_181, e57_182, k0, f260, kT, rf_some, x384, true_and]
    refine ⟨fun y => absurd y (by decide), fun _ => ⟨by simp, c_takeWhole (lo := 1) (hi := wW (sW S)) hS d4 hE (by decide) (by omega) (fun f a e F' b1 b2 b3 => ?_) (fun bw p5 e5 l5 u5 F5 G5 c6 c7 c8 => ?_)⟩⟩
    · simp only [tl_some, e57_0, e57_1, e57_2, e57_5, e57_8, e57_9, e57_12, e57_13, e57_16, e57_17, e57_18, e57_21, e57_24, e57_27, e57_28, e57_31, e57_32, e57_35, e57_38, e57_39, e57_42, e57_45, e57_46, e57_47, e57_48, e57_51, e57_52, e57_53, e57_56, e57_59, e57_60, e57_61, e57_62, e57_65, e57_66, e57_67, e57_69, e57_72, e57_75, e57_76, e57_77, e57_78, e57_81, e57_84, e57_87, e57_90, e57_91, e57_92, e57_93, e57_96, e57_98, e57_99, e57_101, e57_104, e57_107, e57_108, e57_109, e57_110, e57_113, e57_116, e57_119, e57_122, e57_123, e57_124, e57_125, e57_128, e57_130, e57_131, e57_133, e57_136, e57_139, e57_140, e57_143, e57_146, e57_147, e57_148, e57_149, e57_152, e57_153, e57_156, e57_159, e57_160, e57_161, e57_162, e57_165, e57_166, e57_168, e57_170, e57_171, e57_174, e57_175, e57_178, e57_181, e57_182, true_or, true_and]
      exact ⟨fun y => absurd trivial y, fun _ => hno f a (by simp only [pBill, bd, e1, e2, e3, e4, e]) F' AI G4 AL b1 b2 (t4.toTE.trans b3).toTF⟩
    have t5 := t4.trans c8
    simp only [tl_some, e57_0, e57_1, e57_2, e57_5, e57_8, e57_9, e57_12, e57_13, e57_16, e57_17, e57_18, e57_21, e57_24, e57_27, e57_28, e57_31, e57_32, e57_35, e57_38, e57_39, e57_42, e57_45, e57_46, e57_47, e57_48, e57_51, e57_52, e57_53, e57_56, e57_59, e57_60, e57_61, e57_62, e57_65, e57_66, e57_67, e57_69, e57_72, e57_75, e57_76, e57_77, e57_78, e57_81, e57_84, e57_87, e57_90, e57_91, e57_92, e57_93, e57_96, e57_98, e57_99, e57_101, e57_104, e57_107, e57_108, e57_109, e57_110, e57_113, e57_116, e57_119, e57_122, e57_123, e57_124, e57_125, e57_128, e57_130, e57_131, e57_133, e57_136, e57_139, e57_140, e57_143, e57_146, e57_147, e57_148, e57_149, e57_152, e57_153, e57_156, e57_159, e57_160, e57_161, e57_162, e57_165, e57_166, e57_168, e57_170, e57_171, e57_174, e57_175, e57_178, e57_181, e57_182, k0, c7, true_and, mj_kl, mj_u]
    refine ⟨fun _ => ⟨by simp, c_takeKey hS c6 hE (by decide) (fun f a e F' b1 b2 b3 => ?_) (fun p6 e6 F6 G6 d6 d7 => ?_)⟩, fun y => absurd (by decide) y⟩
    · simp only [tl_some, e57_0, e57_1, e57_2, e57_5, e57_8, e57_9, e57_12, e57_13, e57_16, e57_17, e57_18, e57_21, e57_24, e57_27, e57_28, e57_31, e57_32, e57_35, e57_38, e57_39, e57_42, e57_45, e57_46, e57_47, e57_48, e57_51, e57_52, e57_53, e57_56, e57_59, e57_60, e57_61, e57_62, e57_65, e57_66, e57_67, e57_69, e57_72, e57_75, e57_76, e57_77, e57_78, e57_81, e57_84, e57_87, e57_90, e57_91, e57_92, e57_93, e57_96, e57_98, e57_99, e57_101, e57_104, e57_107, e57_108, e57_109, e57_110, e57_113, e57_116, e57_119, e57_122, e57_123, e57_124, e57_125, e57_128, e57_130, e57_131, e57_133, e57_136, e57_139, e57_140, e57_143, e57_146, e57_147, e57_148, e57_149, e57_152, e57_153, e57_156, e57_159, e57_160, e57_161, e57_162, e57_165, e57_166, e57_168, e57_170, e57_171, e57_174, e57_175, e57_178, e57_181, e57_182, true_or, true_and]
      exact ⟨fun _ => hno f a (by simp only [pBill, bd, e1, e2, e3, e4, e5, e]) F' AI G5 AL b1 b2 (t5.toTE.trans b3).toTF, fun y => absurd trivial y⟩
    have t6 := t5.trans d7.toTG
    have x385 : F6 385 (h + 1) = nI (wH (sW S)) := (hP.tell hS t6).told.1.2.1
    simp only [tl_some, e57_0, e57_1, e57_2, e57_5, e57_8, e57_9, e57_12, e57_13, e57_16, e57_17, e57_18, e57_21, e57_24, e57_27, e57_28, e57_31, e57_32, e57_35, e57_38, e57_39, e57_42, e57_45, e57_46, e57_47, e57_48, e57_51, e57_52, e57_53, e57_56, e57_59, e57_60, e57_61, e57_62, e57_65, e57_66, e57_67, e57_69, e57_72, e57_75, e57_76, e57_77, e57_78, e57_81, e57_84, e57_87, e57_90, e57_91, e57_92, e57_93, e57_96, e57_98, e57_99, e57_101, e57_104, e57_107, e57_108, e57_109, e57_110, e57_113, e57_116, e57_119, e57_122, e57_123, e57_124, e57_125, e57_128, e57_130, e57_131, e57_133, e57_136, e57_139, e57_140, e57_143, e57_146, e57_147, e57_148, e57_149, e57_152, e57_153, e57_156, e57_159, e57_160, e57_161, e57_162, e57_165, e57_166, e57_168, e57_170, e57_171, e57_174, e57_175, e57_178, e57_181, e57_182, k0, f260, kT, rf_some, x385, true_and]
    refine ⟨fun y => absurd y (by decide), fun _ => ⟨by simp, c_takeWhole (lo := 1) (hi := wH (sW S)) hS d6 hE (by decide) (by omega) (fun f a e F' b1 b2 b3 => ?_) (fun bh p7 e7 l7 u7 F7 G7 c9 c10 c11 => ?_)⟩⟩
    · simp only [tl_some, e57_0, e57_1, e57_2, e57_5, e57_8, e57_9, e57_12, e57_13, e57_16, e57_17, e57_18, e57_21, e57_24, e57_27, e57_28, e57_31, e57_32, e57_35, e57_38, e57_39, e57_42, e57_45, e57_46, e57_47, e57_48, e57_51, e57_52, e57_53, e57_56, e57_59, e57_60, e57_61, e57_62, e57_65, e57_66, e57_67, e57_69, e57_72, e57_75, e57_76, e57_77, e57_78, e57_81, e57_84, e57_87, e57_90, e57_91, e57_92, e57_93, e57_96, e57_98, e57_99, e57_101, e57_104, e57_107, e57_108, e57_109, e57_110, e57_113, e57_116, e57_119, e57_122, e57_123, e57_124, e57_125, e57_128, e57_130, e57_131, e57_133, e57_136, e57_139, e57_140, e57_143, e57_146, e57_147, e57_148, e57_149, e57_152, e57_153, e57_156, e57_159, e57_160, e57_161, e57_162, e57_165, e57_166, e57_168, e57_170, e57_171, e57_174, e57_175, e57_178, e57_181, e57_182, true_or, true_and]
      exact ⟨fun y => absurd trivial y, fun _ => hno f a (by simp only [pBill, bd, e1, e2, e3, e4, e5, e6, e]) F' AI G6 AL b1 b2 (t6.toTE.trans b3).toTF⟩
    have t7 := t6.trans c11
    simp only [tl_some, e57_0, e57_1, e57_2, e57_5, e57_8, e57_9, e57_12, e57_13, e57_16, e57_17, e57_18, e57_21, e57_24, e57_27, e57_28, e57_31, e57_32, e57_35, e57_38, e57_39, e57_42, e57_45, e57_46, e57_47, e57_48, e57_51, e57_52, e57_53, e57_56, e57_59, e57_60, e57_61, e57_62, e57_65, e57_66, e57_67, e57_69, e57_72, e57_75, e57_76, e57_77, e57_78, e57_81, e57_84, e57_87, e57_90, e57_91, e57_92, e57_93, e57_96, e57_98, e57_99, e57_101, e57_104, e57_107, e57_108, e57_109, e57_110, e57_113, e57_116, e57_119, e57_122, e57_123, e57_124, e57_125, e57_128, e57_130, e57_131, e57_133, e57_136, e57_139, e57_140, e57_143, e57_146, e57_147, e57_148, e57_149, e57_152, e57_153, e57_156, e57_159, e57_160, e57_161, e57_162, e57_165, e57_166, e57_168, e57_170, e57_171, e57_174, e57_175, e57_178, e57_181, e57_182, k0, c10, true_and, mj_kl, mj_u]
    refine ⟨fun _ => ⟨by simp, c_takeKey hS c9 hE (by decide) (fun f a e F' b1 b2 b3 => ?_) (fun p8 e8 F8 G8 d8 d9 => ?_)⟩, fun y => absurd (by decide) y⟩
    · simp only [tl_some, e57_0, e57_1, e57_2, e57_5, e57_8, e57_9, e57_12, e57_13, e57_16, e57_17, e57_18, e57_21, e57_24, e57_27, e57_28, e57_31, e57_32, e57_35, e57_38, e57_39, e57_42, e57_45, e57_46, e57_47, e57_48, e57_51, e57_52, e57_53, e57_56, e57_59, e57_60, e57_61, e57_62, e57_65, e57_66, e57_67, e57_69, e57_72, e57_75, e57_76, e57_77, e57_78, e57_81, e57_84, e57_87, e57_90, e57_91, e57_92, e57_93, e57_96, e57_98, e57_99, e57_101, e57_104, e57_107, e57_108, e57_109, e57_110, e57_113, e57_116, e57_119, e57_122, e57_123, e57_124, e57_125, e57_128, e57_130, e57_131, e57_133, e57_136, e57_139, e57_140, e57_143, e57_146, e57_147, e57_148, e57_149, e57_152, e57_153, e57_156, e57_159, e57_160, e57_161, e57_162, e57_165, e57_166, e57_168, e57_170, e57_171, e57_174, e57_175, e57_178, e57_181, e57_182, true_or, true_and]
      exact ⟨fun _ => hno f a (by simp only [pBill, bd, e1, e2, e3, e4, e5, e6, e7, e]) F' AI G7 AL b1 b2 (t7.toTE.trans b3).toTF, fun y => absurd trivial y⟩
    have t8 := t7.trans d9.toTG
    simp only [tl_some, e57_0, e57_1, e57_2, e57_5, e57_8, e57_9, e57_12, e57_13, e57_16, e57_17, e57_18, e57_21, e57_24, e57_27, e57_28, e57_31, e57_32, e57_35, e57_38, e57_39, e57_42, e57_45, e57_46, e57_47, e57_48, e57_51, e57_52, e57_53, e57_56, e57_59, e57_60, e57_61, e57_62, e57_65, e57_66, e57_67, e57_69, e57_72, e57_75, e57_76, e57_77, e57_78, e57_81, e57_84, e57_87, e57_90, e57_91, e57_92, e57_93, e57_96, e57_98, e57_99, e57_101, e57_104, e57_107, e57_108, e57_109, e57_110, e57_113, e57_116, e57_119, e57_122, e57_123, e57_124, e57_125, e57_128, e57_130, e57_131, e57_133, e57_136, e57_139, e57_140, e57_143, e57_146, e57_147, e57_148, e57_149, e57_152, e57_153, e57_156, e57_159, e57_160, e57_161, e57_162, e57_165, e57_166, e57_168, e57_170, e57_171, e57_174, e57_175, e57_178, e57_181, e57_182]
    refine ⟨fun y => absurd y (by decide), fun _ => ⟨by simp, c_takeWord hS d8 hE (fun f a e F' b1 b2 b3 => ?_) (fun p9 e9 s9 F9 G9 g1 g2 g3 g4 => ?_)⟩⟩
    · simp only [tl_some, e57_0, e57_1, e57_2, e57_5, e57_8, e57_9, e57_12, e57_13, e57_16, e57_17, e57_18, e57_21, e57_24, e57_27, e57_28, e57_31, e57_32, e57_35, e57_38, e57_39, e57_42, e57_45, e57_46, e57_47, e57_48, e57_51, e57_52, e57_53, e57_56, e57_59, e57_60, e57_61, e57_62, e57_65, e57_66, e57_67, e57_69, e57_72, e57_75, e57_76, e57_77, e57_78, e57_81, e57_84, e57_87, e57_90, e57_91, e57_92, e57_93, e57_96, e57_98, e57_99, e57_101, e57_104, e57_107, e57_108, e57_109, e57_110, e57_113, e57_116, e57_119, e57_122, e57_123, e57_124, e57_125, e57_128, e57_130, e57_131, e57_133, e57_136, e57_139, e57_140, e57_143, e57_146, e57_147, e57_148, e57_149, e57_152, e57_153, e57_156, e57_159, e57_160, e57_161, e57_162, e57_165, e57_166, e57_168, e57_170, e57_171, e57_174, e57_175, e57_178, e57_181, e57_182, true_or, true_and]
      exact ⟨fun y => absurd trivial y, fun _ => hno f a (by simp only [pBill, bd, e1, e2, e3, e4, e5, e6, e7, e8, e]) F' AI G8 AL b1 b2 (t8.toTE.trans b3).toTF⟩
    have t9 := t8.trans g4
    have hP9 := hP.tell hS t9
    have hC9 := hP9.hc hW0
    have hw := hC9.2.2.2.1
    obtain ⟨-, -, -, s8, s1', sl⟩ := srt_let s9
    have x388 : F9 388 (h + 1) = nI (wNB (sW S)) := hP9.told.1.2.2.2.2.1
    have hin : vp_in (nI (wNB (sW S))) 4 := vp_in_nI hn4 (by decide)
    have hcl : (nI (wNB (sW S))).toNatClampNeg = wNB (sW S) := nI_clamp (by omega)
    simp only [tl_some, e57_0, e57_1, e57_2, e57_5, e57_8, e57_9, e57_12, e57_13, e57_16, e57_17, e57_18, e57_21, e57_24, e57_27, e57_28, e57_31, e57_32, e57_35, e57_38, e57_39, e57_42, e57_45, e57_46, e57_47, e57_48, e57_51, e57_52, e57_53, e57_56, e57_59, e57_60, e57_61, e57_62, e57_65, e57_66, e57_67, e57_69, e57_72, e57_75, e57_76, e57_77, e57_78, e57_81, e57_84, e57_87, e57_90, e57_91, e57_92, e57_93, e57_96, e57_98, e57_99, e57_101, e57_104, e57_107, e57_108, e57_109, e57_110, e57_113, e57_116, e57_119, e57_122, e57_123, e57_124, e57_125, e57_128, e57_130, e57_131, e57_133, e57_136, e57_139, e57_140, e57_143, e57_146, e57_147, e57_148, e57_149, e57_152, e57_153, e57_156, e57_159, e57_160, e57_161, e57_162, e57_165, e57_166, e57_168, e57_170, e57_171, e57_174, e57_175, e57_178, e57_181, e57_182, k0, f257, k257, f260, kT, rf_some, x388, hin, hcl, g2, true_and, true_or]
    refine ⟨fun _ => ⟨by simp, ?_⟩, fun y => absurd (by decide) y⟩
    generalize hL5 : mj_u2 AL (te + 3) (wNB (sW S)) (G2 265 te) = L5
    have aL : ∀ q, q ≠ te + 3 → L5 q = AL q := fun q hq => by rw [← hL5]; funext z; exact mj_u2_1 hq
    have tw9 : ToldW F9 AI L5 (h + 1) (sW S) := by
      obtain ⟨y1, yb, yw⟩ := hP9.told
      refine ⟨y1, fun b hb => ?_, fun u hu => ?_⟩
      · rw [aL _ (by omega), aL _ (by omega)]
        exact yb b hb
      · rw [aL _ (by omega), aL _ (by omega)]
        exact yw u hu
    refine c_addBill hT tw9 hn4 (fun b hb => Nat.le_trans (hw.2.2.2.2.2.2.1 b hb).2.2.1.2 hw.2.1.2) hw.1.1 hw.1.2 hw.2.1.2 l5 u5 l7 u7 s1' (by omega) sl g3 fun F10 A10 L10 x1 x2 x3 x4 => ?_
    simp only [tl_none, e57_0, e57_1, e57_2, e57_5, e57_8, e57_9, e57_12, e57_13, e57_16, e57_17, e57_18, e57_21, e57_24, e57_27, e57_28, e57_31, e57_32, e57_35, e57_38, e57_39, e57_42, e57_45, e57_46, e57_47, e57_48, e57_51, e57_52, e57_53, e57_56, e57_59, e57_60, e57_61, e57_62, e57_65, e57_66, e57_67, e57_69, e57_72, e57_75, e57_76, e57_77, e57_78, e57_81, e57_84, e57_87, e57_90, e57_91, e57_92, e57_93, e57_96, e57_98, e57_99, e57_101, e57_104, e57_107, e57_108, e57_109, e57_110, e57_113, e57_116, e57_119, e57_122, e57_123, e57_124, e57_125, e57_128, e57_130, e57_131, e57_133, e57_136, e57_139, e57_140, e57_143, e57_146, e57_147, e57_148, e57_149, e57_152, e57_153, e57_156, e57_159, e57_160, e57_161, e57_162, e57_165, e57_166, e57_168, e57_170, e57_171, e57_174, e57_175, e57_178, e57_181, e57_182, or_true, true_and]
    have tf : TF te h F9 F10 G9 G9 AI A10 AL L10 := fun z y1 y2 => ⟨fun f => x2 f z (Or.inl (by omega)), fun _ => rfl, x3 z (by omega), by rw [x4 z (by omega), aL z (by omega)]⟩
    refine hok p9 (w_bill (sW S) kd bw bh (wl (AI ta) E p8) (lt (AI ta) p8), sHs S, sM S, sSh S, sNp S, upN (sBn S) (wNB (sW S)) (wd (AI ta) E p1), sRn S) (by simp only [pBill, bd, e1, e2, e3, e4, e5, e6, e7, e8, e9]) F10 A10 G9 L10 (g1.fx (fun f => x2 f (te + 1) (Or.inl (by omega))) (fun _ => rfl)) ?_ (by rw [x2 262 te (Or.inl (by omega))]; exact t9.fault) (t9.toTE.toTF.trans tf)
    obtain ⟨⟨q1, q2, q3, q4⟩, qb, qc, ⟨qe, qe'⟩, qg, qr⟩ := hP9
    have fh : ∀ f, F10 f h = F9 f h := fun f => x2 f h (Or.inl (by omega))
    refine ⟨⟨by rw [x2 261 te (Or.inl (by omega))]; exact q1, q2, q3, q4⟩, fun b hb => ?_, fun r hr => ?_, ⟨fun r hr => ?_, qe'⟩, qg, Or.inr ?_⟩
    · have hb' : b < wNB (sW S) + 1 := hb
      show PkN (L10 (te + 3) b) (upN (sBn S) (wNB (sW S)) (wd (AI ta) E p1) b)
      rw [x4 _ (by omega), ← hL5]
      by_cases q : b = wNB (sW S)
      · subst q
        rw [upN_s, mj_u2_s]
        exact d2
      · rw [upN_o q, mj_u2_2 q]
        exact qb b (by omega)
    · rw [x4 _ (by omega), aL _ (by omega)]; exact qc r hr
    · rw [x3 (h + 20) (by omega), x3 (h + 21) (by omega)]
      exact qe r hr
    · refine hC9.wc (w' := w_bill (sW S) kd bw bh (wl (AI ta) E p8) (lt (AI ta) p8)) ⟨hw.1, hw.2.1, hw.2.2.1, by show wNB (sW S) + 1 ≤ 4; omega, hw.2.2.2.2.1, hw.2.2.2.2.2.1, fun b hb => ?_, hw.2.2.2.2.2.2.2⟩ (x1.toR fun c hc => ?_) rfl rfl (by show wNB (sW S) ≤ wNB (sW S) + 1; omega) (fun b hb => ⟨upN_o (by omega), upN_o (by omega), upN_o (by omega), upN_o (by omega), upN_o (by omega)⟩) (fh 1) (by rw [fh]; exact hC9.2.2.2.2.2.1.2.2.1) (fh 3) (fh 12) (fun j j1 j2 => x3 _ (by omega)) (by rw [x4 _ (by omega), aL _ (by omega)])
      · have hb' : b < wNB (sW S) + 1 := hb
        show upN (wK (sW S)) (wNB (sW S)) kd b ≤ 3 ∧ (1 ≤ upN (wBW (sW S)) (wNB (sW S)) bw b ∧ upN (wBW (sW S)) (wNB (sW S)) bw b ≤ wW (sW S)) ∧ (1 ≤ upN (wBH (sW S)) (wNB (sW S)) bh b ∧ upN (wBH (sW S)) (wNB (sW S)) bh b ≤ wH (sW S)) ∧ (1 ≤ upN (wTL (sW S)) (wNB (sW S)) (wl (AI ta) E p8) b ∧ upN (wTL (sW S)) (wNB (sW S)) (wl (AI ta) E p8) b ≤ 8) ∧ ∀ j, j < upN (wTL (sW S)) (wNB (sW S)) (wl (AI ta) E p8) b → upN (wTX (sW S)) (wNB (sW S)) (lt (AI ta) p8) b j < 26
        by_cases q : b = wNB (sW S)
        · subst q
          rw [upN_s, upN_s, upN_s, upN_s, upN_s]
          exact ⟨hkd, ⟨l5, u5⟩, ⟨l7, u7⟩, ⟨s1', s8⟩, sl⟩
        · rw [upN_o q, upN_o q, upN_o q, upN_o q, upN_o q]
          exact hw.2.2.2.2.2.2.1 b (by omega)
      · rw [x3 _ (by omega), x3 _ (by omega)]
        exact hC9.2.2.2.2.1.2.2.2 c hc
  refine n57 k0 ?_
  simp only [e57_0, e57_1, e57_2, e57_5, e57_8, e57_9, e57_12, e57_13, e57_16, e57_17, e57_18, e57_21, e57_24, e57_27, e57_28, e57_31, e57_32, e57_38, e57_39, e57_42, e57_45, e57_46, e57_47, e57_48, e57_51, e57_52, e57_53, e57_56, e57_59, e57_60, e57_61, e57_62, e57_65, e57_66, e57_67, e57_69, e57_72, e57_75, e57_76, e57_77, e57_78, e57_81, e57_84, e57_87, e57_90, e57_91, e57_92, e57_93, e57_96, e57_98, e57_99, e57_101, e57_104, e57_107, e57_108, e57_109, e57_110, e57_113, e57_116, e57_119, e57_122, e57_123, e57_124, e57_125, e57_128, e57_130, e57_131, e57_133, e57_136, e57_139, e57_140, e57_143, e57_146, e57_147, e57_148, e57_149, e57_152, e57_153, e57_156, e57_159, e57_160, e57_161, e57_162, e57_165, e57_166, e57_168, e57_170, e57_171, e57_174, e57_175, e57_178, e57_181, e57_182, k0, f260, kT, rf_some, w1, w5, true_and]
  refine ⟨fun z => ⟨fun z2 => ⟨by simp, ?_⟩, fun z2 => ⟨by simp, ?_⟩⟩, fun z => ⟨fun z2 => ⟨by simp, ?_⟩, fun z2 => ⟨by simp, ?_⟩⟩⟩
  · exact main false false (dec_ge (b := 4) (by decide) z (by omega)).symm (dec_zero z2 (by omega)).symm
  · exact main false true (dec_ge (b := 4) (by decide) z (by omega)).symm (dec_pos z2).symm
  · exact main true false (dec_lt (b := 4) (by decide) z (by omega)).symm (dec_zero z2 (by omega)).symm
  · exact main true true (dec_lt (b := 4) (by decide) z (by omega)).symm (dec_pos z2).symm
theorem c_readFounder (hS : TelS K FR te h ta) (hR : TokR FI FL (te + 1) (AI ta) E p) (hP : PR K FR FI AI AL te h S) (hE : E ≤ 900) (hno : ∀ f a, pFound (AI ta) E p S = .inl (f, a) → ∀ (FI' AI' : Nat → Nat → Int32) (FL' AL' : Nat → Nat → Int64), FI' 262 te = nI f → FI' 263 te = nI a → TF te h FI FI' FL FL' AI AI' AL AL' → Q (some (.int 0)) (n, K, FI', FL', FR, AI', AL', AR)) (hok : ∀ p' S', pFound (AI ta) E p S = .inr (p', S') → ∀ (FI' AI' : Nat → Nat → Int32) (FL' AL' : Nat → Nat → Int64), TokR FI' FL' (te + 1) (AI ta) E p' → PR K FR FI' AI' AL' te h S' → FI' 262 te = FI 262 te → TF te h FI FI' FL FL' AI AI' AL AL' → Q (some (.int 1)) (n, K, FI', FL', FR, AI', AL', AR)) : EV sa (d + 14) 60 [.ref te] (n, K, FI, FL, FR, AI, AL, AR) Q := by
  obtain ⟨k0, f0, hTk, ⟨f257, k257⟩, ⟨f258, k258⟩, f259, f260, hH, hT, h0, sep, sta, stb⟩ := id hS
  have tw := hP.told
  obtain ⟨w1, w2, w3, w4, w5, w6, w7⟩ := tw.1
  obtain ⟨bd1, bd2, bd3, bd4, bd5⟩ := hP.bounds
  have kT := hT.1
  have main : ∀ room time : Bool, room = decide (wF (sW S) < 4) → time = decide (0 < wW (sW S) ∧ sNp S = 0) → ∀ x1 : Value, EV sa (d + 13) 62 [.ref te, .int (bI room), .int (bI time)] (n, K, FI, FL, FR, AI, AL, AR) (fun v μ => WP sa (EV sa (d + 13)) 60 Q 0 0 44 [.ref te, x1, mj_u] (v.toList ++ []) μ) := by
    intro room time hroom htime x1
    subst hroom
    subst htime
    refine c_takeFirst hS hR hE (fun f a e F' b1 b2 b3 => ?_) (fun p1 e1 F1 G1 c1 c2 => ?_)
    · simp only [tl_some, e60_0, e60_1, e60_4, e60_7, e60_10, e60_11, e60_14, e60_17, e60_18, e60_21, e60_22, e60_23, e60_24, e60_25, e60_28, e60_31, e60_32, e60_35, e60_36, e60_39, e60_40, e60_41, e60_44, e60_47, e60_48, e60_49, e60_52, e60_53, e60_56, e60_59, e60_62, e60_65, e60_66, e60_67, e60_68, e60_71, e60_72, e60_73, e60_74, e60_77, e60_80, e60_81, e60_82, e60_83, e60_86, e60_87, e60_88, e60_91, e60_93, e60_96, e60_97, e60_100, e60_100i, e60_101, e60_104, e60_105, e60_106, e60_109, e60_110, true_or, true_and]
      exact ⟨fun _ => hno f a (by simp only [pFound, bd, e]) F' AI FL AL b1 b2 b3.toTF, fun y => absurd trivial y⟩
    have t1 := c2.toTG
    have hP1 := hP.tell hS t1
    have hn4 : wF (sW S) < 4 := by
      by_cases q : wF (sW S) < 4
      · exact q
      · simp [pFirst, q] at e1
    have hWN : 0 < wW (sW S) ∧ sNp S = 0 := by
      by_cases q : 0 < wW (sW S) ∧ sNp S = 0
      · exact q
      · simp [pFirst, q, hn4] at e1
    have x388 : F1 388 (h + 1) = nI (wNB (sW S)) := hP1.told.1.2.2.2.2.1
    simp only [tl_some, e60_0, e60_1, e60_4, e60_7, e60_10, e60_11, e60_14, e60_17, e60_18, e60_21, e60_22, e60_23, e60_24, e60_25, e60_28, e60_31, e60_32, e60_35, e60_36, e60_39, e60_40, e60_41, e60_44, e60_47, e60_48, e60_49, e60_52, e60_53, e60_56, e60_59, e60_62, e60_65, e60_66, e60_67, e60_68, e60_71, e60_72, e60_73, e60_74, e60_77, e60_80, e60_81, e60_82, e60_83, e60_86, e60_87, e60_88, e60_91, e60_93, e60_96, e60_97, e60_100, e60_100i, e60_101, e60_104, e60_105, e60_106, e60_109, e60_110, k0, f257, f260, kT, rf_some, x388, true_and]
    refine ⟨fun y => absurd y (by decide), fun _ => ⟨by simp, c_takeOldName hS c1 hE k257 bd1 (by decide) hP.2.1 (fun f a e F' b1 b2 b3 => ?_) (fun b p2 e2 hb F2 G2 d1 d2 d3 => ?_)⟩⟩
    · simp only [tl_some, e60_0, e60_1, e60_4, e60_7, e60_10, e60_11, e60_14, e60_17, e60_18, e60_21, e60_22, e60_23, e60_24, e60_25, e60_28, e60_31, e60_32, e60_35, e60_36, e60_39, e60_40, e60_41, e60_44, e60_47, e60_48, e60_49, e60_52, e60_53, e60_56, e60_59, e60_62, e60_65, e60_66, e60_67, e60_68, e60_71, e60_72, e60_73, e60_74, e60_77, e60_80, e60_81, e60_82, e60_83, e60_86, e60_87, e60_88, e60_91, e60_93, e60_96, e60_97, e60_100, e60_100i, e60_101, e60_104, e60_105, e60_106, e60_109, e60_110, true_or, true_and]
      exact ⟨fun y => absurd trivial y, fun _ => hno f a (by simp only [pFound, bd, e1, e]) F' AI G1 AL b1 b2 (t1.toTE.trans b3).toTF⟩
    have t2 := t1.trans d3
    have hP2 := hP.tell hS t2
    have hw := (hP2.hc hWN.1).2.2.2.1
    have hbb := hw.2.2.2.2.2.2.1 b hb
    simp only [tl_some, e60_0, e60_1, e60_4, e60_7, e60_10, e60_11, e60_14, e60_17, e60_18, e60_21, e60_22, e60_23, e60_24, e60_25, e60_28, e60_31, e60_32, e60_35, e60_36, e60_39, e60_40, e60_41, e60_44, e60_47, e60_48, e60_49, e60_52, e60_53, e60_56, e60_59, e60_62, e60_65, e60_66, e60_67, e60_68, e60_71, e60_72, e60_73, e60_74, e60_77, e60_80, e60_81, e60_82, e60_83, e60_86, e60_87, e60_88, e60_91, e60_93, e60_96, e60_97, e60_100, e60_100i, e60_101, e60_104, e60_105, e60_106, e60_109, e60_110, k0, d2, true_and, mj_kl]
    refine ⟨fun _ => ⟨by simp, c_takeCorner hS d1 hE hP2.told hb bd1 bd4 bd5 hbb.2.1.2 hbb.2.2.1.2 (fun f a e F' G' b1 b2 b3 => ?_) (fun x y p3 e3 hx hy F3 G3 c3 c4 c5 => ?_)⟩, fun y => absurd (by decide) y⟩
    · simp only [tl_some, e60_0, e60_1, e60_4, e60_7, e60_10, e60_11, e60_14, e60_17, e60_18, e60_21, e60_22, e60_23, e60_24, e60_25, e60_28, e60_31, e60_32, e60_35, e60_36, e60_39, e60_40, e60_41, e60_44, e60_47, e60_48, e60_49, e60_52, e60_53, e60_56, e60_59, e60_62, e60_65, e60_66, e60_67, e60_68, e60_71, e60_72, e60_73, e60_74, e60_77, e60_80, e60_81, e60_82, e60_83, e60_86, e60_87, e60_88, e60_91, e60_93, e60_96, e60_97, e60_100, e60_100i, e60_101, e60_104, e60_105, e60_106, e60_109, e60_110, true_or, true_and]
      exact ⟨fun y => absurd trivial y, fun _ => hno f a (by simp only [pFound, bd, e1, e2, e]) F' AI G' AL b1 b2 (t2.toTE.trans b3).toTF⟩
    have t3 := t2.trans c5
    have hP3 := hP.tell hS t3
    have hC3 := hP3.hc hWN.1
    have m14 : sM S < 30 := by have := hP.1; omega
    simp only [tl_some, e60_0, e60_1, e60_4, e60_7, e60_10, e60_11, e60_14, e60_17, e60_18, e60_21, e60_22, e60_23, e60_24, e60_25, e60_28, e60_31, e60_32, e60_35, e60_36, e60_39, e60_40, e60_41, e60_44, e60_47, e60_48, e60_49, e60_52, e60_53, e60_56, e60_59, e60_62, e60_65, e60_66, e60_67, e60_68, e60_71, e60_72, e60_73, e60_74, e60_77, e60_80, e60_81, e60_82, e60_83, e60_86, e60_87, e60_88, e60_91, e60_93, e60_96, e60_97, e60_100, e60_100i, e60_101, e60_104, e60_105, e60_106, e60_109, e60_110, k0, f259, rf_some, c4, true_and]
    refine ⟨fun _ => ⟨by simp, C_put hC3 m14 ⟨hb, hx, hy⟩ fun F4 A4 g1 g2 g3 => ?_⟩, fun y => absurd (by decide) y⟩
    have x2 : F4 2 h = nI (wF (sW S)) := g1.2.2.2.2.2.1.2.2.1
    simp only [tl_none, e60_0, e60_1, e60_4, e60_7, e60_10, e60_11, e60_14, e60_17, e60_18, e60_21, e60_22, e60_23, e60_24, e60_25, e60_28, e60_31, e60_32, e60_35, e60_36, e60_39, e60_40, e60_41, e60_44, e60_47, e60_48, e60_49, e60_52, e60_53, e60_56, e60_59, e60_62, e60_65, e60_66, e60_67, e60_68, e60_71, e60_72, e60_73, e60_74, e60_77, e60_80, e60_81, e60_82, e60_83, e60_86, e60_87, e60_88, e60_91, e60_93, e60_96, e60_97, e60_100, e60_100i, e60_101, e60_104, e60_105, e60_106, e60_109, e60_110, k0, f259, hH.1, rf_some, x2, nI_1, or_true, true_and]
    generalize hF5 : mj_u2 F4 2 h (nI (wF (sW S) + 1)) = F5
    have y2 : FIx F4 F5 h [2] := by rw [← hF5]; exact FIx_u2 (by simp)
    have tf : TF te h F3 F5 G3 G3 AI A4 AL AL := fun z z1 z2 => ⟨fun f => by rw [y2 f z (Or.inl (by omega)), g2 f z (Or.inl (by omega))], fun _ => rfl, g3 z (by omega), rfl⟩
    have ftk : ∀ f, F5 f (te + 1) = F3 f (te + 1) := fun f => by rw [y2 f (te + 1) (Or.inl (by omega)), g2 f (te + 1) (Or.inl (by omega))]
    have fte : ∀ f, F5 f te = F3 f te := fun f => by rw [y2 f te (Or.inl (by omega)), g2 f te (Or.inl (by omega))]
    refine hok p3 (w_fnd (sW S), puth (sHs S) (sM S) (b, x, y, -2), sM S + 1, sSh S, sNp S, sBn S, sRn S) (by simp only [pFound, bd, e1, e2, e3]) F5 A4 G3 AL (c3.fx ftk (fun _ => rfl)) ?_ (by rw [fte]; exact t3.fault) (t3.toTE.toTF.trans tf)
    obtain ⟨⟨q1, q2, q3, q4⟩, qb, qc, ⟨qe, qe'⟩, qg, qr⟩ := hP3
    refine ⟨⟨by rw [fte]; exact q1, q2, by show wF (sW S) + 1 ≤ 4; omega, by show sM S + 1 = wF (sW S) + 1 + sNp S; omega⟩, qb, qc, ⟨fun r hr => ?_, qe'⟩, fun k hk => ?_, Or.inr ?_⟩
    · rw [g3 (h + 20) (by omega), g3 (h + 21) (by omega)]
      exact qe r hr
    · have hk' : k < sM S + 1 := hk
      show byOK (gR (puth (sHs S) (sM S) (b, x, y, -2) k))
      by_cases q : k = sM S
      · subst q
        rw [puth_eq]
        exact ⟨0, by omega, show (-2 : Int32) = nI 0 - 2 by decide⟩
      · rw [puth_lt (by omega)]
        exact qg k (by omega)
    · have hw4 := g1.2.2.2.1
      refine g1.wc (w' := w_fnd (sW S)) hw4 ?_ rfl rfl (Nat.le_refl _) (fun b hb => ⟨rfl, rfl, rfl, rfl, rfl⟩) (y2 1 h (by simp)) (by rw [← hF5, mj_u2_s]; rfl) (y2 3 h (by simp)) (y2 12 h (by simp)) (fun j j1 j2 => rfl) rfl
      have ft : ∀ f, F5 f (h + 1) = F4 f (h + 1) := fun f => y2 f (h + 1) (Or.inl (by omega))
      obtain ⟨z1, z2⟩ := g1.2.2.2.2.1
      exact ⟨by simp only [ft]; exact z1, z2⟩
  have x261 : FI 261 te = nI (sNp S) := hP.1.1
  have hnp : sNp S ≤ 10 := hP.1.2.1
  have hF4 : wF (sW S) ≤ 4 := hP.1.2.2.1
  have x2 : FI 2 h = nI (wF (sW S)) := by
    rcases hP.2.2.2.2.2 with r | r
    · exact r.2.2.1.2.2.1
    · exact r.2.2.2.2.2.1.2.2.1
  have np0 : (nI (sNp S) = 0) ↔ sNp S = 0 := by rw [show (0 : Int32) = nI 0 from rfl, nI_eq (by omega) (by decide)]
  refine n60 k0 ?_
  simp only [e60_0, e60_1, e60_4, e60_7, e60_10, e60_11, e60_14, e60_17, e60_18, e60_21, e60_22, e60_23, e60_24, e60_25, e60_28, e60_31, e60_32, e60_35, e60_36, e60_39, e60_40, e60_41, e60_47, e60_48, e60_49, e60_52, e60_53, e60_56, e60_59, e60_62, e60_65, e60_66, e60_67, e60_68, e60_71, e60_72, e60_73, e60_74, e60_77, e60_80, e60_81, e60_82, e60_83, e60_86, e60_87, e60_88, e60_91, e60_93, e60_96, e60_97, e60_100, e60_100i, e60_101, e60_104, e60_105, e60_106, e60_109, e60_110, k0, f260, f259, kT, hH.1, rf_some, w1, x261, x2, np0, true_and, mj_kl, mj_u]
  have roomF : nI 4 ≤ nI (wF (sW S)) → false = decide (wF (sW S) < 4) := fun z => (dec_ge (b := 4) (by decide) z (by omega)).symm
  have roomT : ¬ nI 4 ≤ nI (wF (sW S)) → true = decide (wF (sW S) < 4) := fun z => (dec_lt (b := 4) (by decide) z (by omega)).symm
  refine ⟨fun z => ?_, fun z => ⟨fun z2 => ?_, fun z2 => ?_⟩⟩
  · have ht : false = decide (0 < wW (sW S) ∧ sNp S = 0) := (decide_eq_false (fun q => absurd z (nI_nle q.1 (by omega)))).symm
    exact ⟨fun y => ⟨by simp, main false false (roomF y) ht _⟩, fun y => ⟨by simp, main true false (roomT y) ht _⟩⟩
  · have ht : false = decide (0 < wW (sW S) ∧ sNp S = 0) := (decide_eq_false (fun q => z2 q.2)).symm
    exact ⟨fun y => ⟨by simp, main false false (roomF y) ht _⟩, fun y => ⟨by simp, main true false (roomT y) ht _⟩⟩
  · have hp : 0 < wW (sW S) := of_decide_eq_true (dec_pos z)
    have ht : true = decide (0 < wW (sW S) ∧ sNp S = 0) := (decide_eq_true ⟨hp, by simpa using z2⟩).symm
    exact ⟨fun y => ⟨by simp, main false true (roomF y) ht _⟩, fun y => ⟨by simp, main true true (roomT y) ht _⟩⟩
end
