/-- Telling before its tokens have a text -/
def TelS0 (K : Nat → Nat × Nat) (FR : Nat → Nat → Option Nat) (te h : Nat) : Prop := K te = (1, 4) ∧ FR 256 te = some (te + 1) ∧ K (te + 1) = (1, 5) ∧ (FR 257 te = some (te + 3) ∧ K (te + 3) = (4, 4)) ∧ (FR 258 te = some (te + 4) ∧ K (te + 4) = (4, 3)) ∧ FR 259 te = some h ∧ FR 260 te = some (h + 1) ∧ HungS K FR h ∧ ToldS K FR (h + 1) ∧ FR 0 h = some (h + 1) ∧ (te + 4 < h ∨ h + 22 < te)
section
variable {sa : Nat → Nat} {d n t h m : Nat} {Q : mj_Q} {K : Nat → Nat × Nat} {FI : Nat → Nat → Int32} {FL : Nat → Nat → Int64} {FR : Nat → Nat → Option Nat} {AI : Nat → Nat → Int32} {AL : Nat → Nat → Int64} {AR : Nat → Nat → Option Nat} {w : Wl} {hs : Nat → Hg}
variable {te ta E p : Nat} {S : PS}
theorem TelS0.start (hS : TelS0 K FR te h) (hta : K ta = (3, 900)) (s1 : ta < te ∨ te + 4 < ta) (s2 : ta < h ∨ h + 22 < ta) : TelS K (mj_u2 FR 320 (te + 1) (some ta)) te h ta := by
  obtain ⟨k0, f0, kt, ⟨f257, k257⟩, ⟨f258, k258⟩, f259, f260, hH, hT, h0, sep⟩ := hS
  refine ⟨k0, by rw [mj_u2_1 (by decide)]; exact f0, ⟨kt, mj_u2_s, hta⟩, ⟨by rw [mj_u2_1 (by decide)]; exact f257, k257⟩, ⟨by rw [mj_u2_1 (by decide)]; exact f258, k258⟩, by rw [mj_u2_1 (by decide)]; exact f259, by rw [mj_u2_1 (by decide)]; exact f260, hH.fld (by decide), hT.fld (Or.inl (by decide)), by rw [mj_u2_1 (by decide)]; exact h0, sep, s1, s2⟩
theorem c_goesOn (hS : TelS K FR te h ta) (hR : TokR FI FL (te + 1) (AI ta) E p) (hP : PR K FR FI AI AL te h S) (hE : E ≤ 900) (hgo : srt (AI ta) E p = 3 → ∀ (FI' : Nat → Nat → Int32) (FL' : Nat → Nat → Int64), TokR FI' FL' (te + 1) (AI ta) E (stp (AI ta) E p) → TG FI FI' FL FL' te → Q (some (.int 1)) (n, K, FI', FL', FR, AI, AL, AR)) (hno : ∀ k, (srt (AI ta) E p ≠ 3 ∧ srt (AI ta) E p ≠ 0 ∧ k = 1 ∨ srt (AI ta) E p = 0 ∧ wNB (sW S) = 0 ∧ k = 6) → ∀ FI' : Nat → Nat → Int32, FI' 262 te = nI k → FI' 263 te = nI p → TE FI FI' FL FL te → Q (some (.int 0)) (n, K, FI', FL, FR, AI, AL, AR)) (hend : srt (AI ta) E p = 0 → wNB (sW S) ≠ 0 → Q (some (.int 0)) (n, K, FI, FL, FR, AI, AL, AR)) : EV sa (d + 4) 55 [.ref te] (n, K, FI, FL, FR, AI, AL, AR) Q := by
  obtain ⟨k0, f0, hTk, ⟨f257, k257⟩, ⟨f258, k258⟩, f259, f260, hH, hT, h0, sep, sta, stb⟩ := id hS
  have r3 := hR.2.2.2.1
  have h5 := srt_5 (T := AI ta) (E := E) (p := p)
  have w5 := hP.told.1.2.2.2.2.1
  have hb := hP.bounds.1
  have es3 : (nI (srt (AI ta) E p) = 3) ↔ srt (AI ta) E p = 3 := by rw [show (3 : Int32) = nI 3 from rfl, nI_eq (by omega) (by decide)]
  have es0 : (nI (srt (AI ta) E p) = 0) ↔ srt (AI ta) E p = 0 := by rw [show (0 : Int32) = nI 0 from rfl, nI_eq (by omega) (by decide)]
  have eb0 : (nI (wNB (sW S)) = 0) ↔ wNB (sW S) = 0 := by rw [show (0 : Int32) = nI 0 from rfl, nI_eq (by omega) (by decide)]
  refine n55 k0 ?_
  simp only [e55_0, e55_1, e55_4, e55_7, e55_8, e55_11, e55_12, e55_15, e55_18, e55_19, e55_20, e55_21, e55_24, e55_27, e55_30, e55_31, e55_32, e55_35, e55_36, e55_37, e55_40, e55_43, e55_46, e55_47, e55_49, e55_52, e55_53, e55_54, k0, f0, hTk.1, f260, hT.1, rf_some, r3, w5, es3, es0, eb0, true_and, true_or]
  refine ⟨fun z => ⟨fun z2 => ⟨fun z3 => hend z2 z3, fun z3 => ⟨by simp, c_wrong (f := 6) hS hR fun F' a1 a2 a3 => ?_⟩⟩, fun z2 => ⟨by simp, c_wrong (f := 1) hS hR fun F' a1 a2 a3 => ?_⟩⟩, fun z => ⟨by simp, c_stepT hS hR hE fun F' G' a1 a2 => ?_⟩⟩
  · simp only [tl_some, e55_0, e55_1, e55_4, e55_7, e55_8, e55_11, e55_12, e55_15, e55_18, e55_19, e55_20, e55_21, e55_24, e55_27, e55_30, e55_31, e55_32, e55_35, e55_36, e55_37, e55_40, e55_43, e55_46, e55_47, e55_49, e55_52, e55_53, e55_54, true_or, true_and]
    exact hno 6 (Or.inr ⟨z2, by simpa using z3, rfl⟩) F' a1 a2 (a3.toTE (by simp))
  · simp only [tl_some, e55_0, e55_1, e55_4, e55_7, e55_8, e55_11, e55_12, e55_15, e55_18, e55_19, e55_20, e55_21, e55_24, e55_27, e55_30, e55_31, e55_32, e55_35, e55_36, e55_37, e55_40, e55_43, e55_46, e55_47, e55_49, e55_52, e55_53, e55_54, true_or, true_and]
    exact hno 1 (Or.inl ⟨z, z2, rfl⟩) F' a1 a2 (a3.toTE (by simp))
  · simp only [tl_none, e55_0, e55_1, e55_4, e55_7, e55_8, e55_11, e55_12, e55_15, e55_18, e55_19, e55_20, e55_21, e55_24, e55_27, e55_30, e55_31, e55_32, e55_35, e55_36, e55_37, e55_40, e55_43, e55_46, e55_47, e55_49, e55_52, e55_53, e55_54, or_true, true_and]
    exact hgo (by simpa using z) F' G' a1 a2.toTG
theorem c_readText (hS0 : TelS0 K FR te h) (hta : K ta = (3, 900)) (s1 : ta < te ∨ te + 4 < ta) (s2 : ta < h ∨ h + 22 < ta) (hE : E ≤ 900) (hno : ∀ f a, pText (AI ta) E = .inl (f, a) → ∀ (FI' AI' : Nat → Nat → Int32) (FL' AL' : Nat → Nat → Int64), FI' 263 te = nI a → TF te h FI FI' FL FL' AI AI' AL AL' → Q (some (.int (nI f))) (n, K, FI', FL', mj_u2 FR 320 (te + 1) (some ta), AI', AL', AR)) (hok : ∀ S', pText (AI ta) E = .inr S' → ∀ (FI' AI' : Nat → Nat → Int32) (FL' AL' : Nat → Nat → Int64), PR K (mj_u2 FR 320 (te + 1) (some ta)) FI' AI' AL' te h S' → TF te h FI FI' FL FL' AI AI' AL AL' → Q (some (.int 0)) (n, K, FI', FL', mj_u2 FR 320 (te + 1) (some ta), AI', AL', AR)) : EV sa (d + 15) 52 [.ref te, .ref ta, .int (nI E)] (n, K, FI, FL, FR, AI, AL, AR) Q := by
  have hS := hS0.start hta s1 s2
  obtain ⟨k0, f0, kt, ⟨f257, k257⟩, ⟨f258, k258⟩, f259, f260, hH, hT, h0, sep⟩ := hS0
  generalize hFR : mj_u2 FR 320 (te + 1) (some ta) = R at *
  have g0 := hS.2.1
  have gTk := hS.2.2.1
  have loop : ∀ fu i, i + fu = E + 1 → ∀ (p : Nat) (S : PS) (F A : Nat → Nat → Int32) (G L : Nat → Nat → Int64), p ≤ E → TokR F G (te + 1) (AI ta) E p → PR K R F A L te h S → TF te h FI F FL G AI A AL L → F 262 te = 0 → pText (AI ta) E = pAll (AI ta) E fu p S → WP sa (EV sa (d + 14)) 52 Q 0 0 31 [.ref te, .ref ta, .int (nI E), .int 1, .int (nI i)] [] (n, K, F, G, R, A, L, AR) := by
    intro fu
    induction fu with
    | zero =>
      intro i hi p S F A G L hpE hR hP hTF h262 hpt
      rw [e52_31]
      simp only [e52_0, e52_1, e52_4, e52_7, e52_8, e52_9, e52_12, e52_13, e52_14, e52_17, e52_18, e52_21, e52_22, e52_23, e52_26, e52_27, e52_28, e52_29, e52_32, e52_35, e52_37, e52_38, e52_41, e52_42, e52_45, e52_47, e52_50, e52_53, e52_54, e52_57, e52_58, e52_61, e52_62, e52_65, e52_67, e52_70, e52_73, e52_74, e52_77, e52_78, e52_81, e52_82, e52_85, e52_87, e52_90, e52_93, e52_94, e52_97, e52_98, e52_101, e52_102, e52_105, e52_107, e52_110, e52_113, e52_114, e52_117, e52_118, e52_121, e52_122, e52_125, e52_127, e52_130, e52_133, e52_134, e52_137, e52_138, e52_141, e52_142, e52_145, e52_147, e52_150, e52_153, e52_154, e52_157, e52_158, e52_161, e52_162, e52_163, e52_166, e52_167, e52_168, e52_171, e52_172, e52_175, e52_178, e52_179, e52_182, e52_183, e52_184, e52_187, e52_190, e52_191, e52_194, k0, h262]
      refine ⟨fun y => absurd y (by decide), fun _ => ⟨fun _ => ?_, fun y => absurd (nI_lt (by omega) (by omega)) y⟩⟩
      exact ⟨trivial, hok S (by rw [hpt]; rfl) F A G L hP hTF⟩
    | succ fu IH =>
      intro i hi p S F A G L hpE hR hP hTF h262 hpt
      have eA : A ta = AI ta := (hTF ta s1 s2).2.2.1
      have hR' : TokR F G (te + 1) (A ta) E p := by rw [eA]; exact hR
      have stop : ∀ (F' A' : Nat → Nat → Int32) (G' L' : Nat → Nat → Int64) (x4 : Value), Q (some (.int (F' 262 te))) (n, K, F', G', R, A', L', AR) → WP sa (EV sa (d + 14)) 52 Q 0 0 31 [.ref te, .ref ta, .int (nI E), .int 0, x4] [] (n, K, F', G', R, A', L', AR) := by
        intro F' A' G' L' x4 hq
        rw [e52_31]
        simp only [e52_0, e52_1, e52_4, e52_7, e52_8, e52_9, e52_12, e52_13, e52_14, e52_17, e52_18, e52_21, e52_22, e52_23, e52_26, e52_27, e52_28, e52_29, e52_32, e52_35, e52_37, e52_38, e52_41, e52_42, e52_45, e52_47, e52_50, e52_53, e52_54, e52_57, e52_58, e52_61, e52_62, e52_65, e52_67, e52_70, e52_73, e52_74, e52_77, e52_78, e52_81, e52_82, e52_85, e52_87, e52_90, e52_93, e52_94, e52_97, e52_98, e52_101, e52_102, e52_105, e52_107, e52_110, e52_113, e52_114, e52_117, e52_118, e52_121, e52_122, e52_125, e52_127, e52_130, e52_133, e52_134, e52_137, e52_138, e52_141, e52_142, e52_145, e52_147, e52_150, e52_153, e52_154, e52_157, e52_158, e52_161, e52_162, e52_163, e52_166, e52_167, e52_168, e52_171, e52_172, e52_175, e52_178, e52_179, e52_182, e52_183, e52_184, e52_187, e52_190, e52_191, e52_194, k0, true_and]
        exact ⟨fun _ => hq, fun y => absurd trivial y⟩
      have bad : ∀ f a, pLine (AI ta) E p S = .inl (f, a) → ∀ (F' A' : Nat → Nat → Int32) (G' L' : Nat → Nat → Int64), F' 262 te = nI f → F' 263 te = nI a → TF te h F F' G G' A A' L L' → WP sa (EV sa (d + 14)) 52 Q 0 0 167 [.ref te, .ref ta, .int (nI E), .int 0, .int (nI i)] [] (n, K, F', G', R, A', L', AR) := by
        intro f a e F' A' G' L' b1 b2 b3
        simp only [e52_0, e52_1, e52_4, e52_7, e52_8, e52_9, e52_12, e52_13, e52_14, e52_17, e52_18, e52_21, e52_22, e52_23, e52_26, e52_27, e52_28, e52_29, e52_32, e52_35, e52_37, e52_38, e52_41, e52_42, e52_45, e52_47, e52_50, e52_53, e52_54, e52_57, e52_58, e52_61, e52_62, e52_65, e52_67, e52_70, e52_73, e52_74, e52_77, e52_78, e52_81, e52_82, e52_85, e52_87, e52_90, e52_93, e52_94, e52_97, e52_98, e52_101, e52_102, e52_105, e52_107, e52_110, e52_113, e52_114, e52_117, e52_118, e52_121, e52_122, e52_125, e52_127, e52_130, e52_133, e52_134, e52_137, e52_138, e52_141, e52_142, e52_145, e52_147, e52_150, e52_153, e52_154, e52_157, e52_158, e52_161, e52_162, e52_163, e52_166, e52_167, e52_168, e52_171, e52_172, e52_175, e52_178, e52_179, e52_182, e52_183, e52_184, e52_187, e52_190, e52_191, e52_194, mj_kl]
        refine ⟨fun _ => stop _ _ _ _ _ ?_, fun y => absurd trivial y⟩
        rw [b1]
        exact hno f a (by rw [hpt]; simp only [pAll, bd, e]) F' A' G' L' b2 (hTF.trans b3)
      have good : ∀ p' S', pLine (AI ta) E p S = .inr (p', S') → ∀ (F' A' : Nat → Nat → Int32) (G' L' : Nat → Nat → Int64), F' 262 te = 0 → TokR F' G' (te + 1) (AI ta) E p' → PR K R F' A' L' te h S' → TF te h F F' G G' A A' L L' → WP sa (EV sa (d + 14)) 52 Q 0 0 167 [.ref te, .ref ta, .int (nI E), .int 1, .int (nI i)] [] (n, K, F', G', R, A', L', AR) := by
        intro p' S' e F' A' G' L' b0 b1 b2 b3
        have tf' := hTF.trans b3
        have eA' : A' ta = AI ta := (tf' ta s1 s2).2.2.1
        have b1' : TokR F' G' (te + 1) (A' ta) E p' := by rw [eA']; exact b1
        have hp' := (ge_line e).2 hpE
        simp only [e52_0, e52_1, e52_4, e52_7, e52_8, e52_9, e52_12, e52_13, e52_14, e52_17, e52_18, e52_21, e52_22, e52_23, e52_26, e52_27, e52_28, e52_29, e52_32, e52_35, e52_37, e52_38, e52_41, e52_42, e52_45, e52_47, e52_50, e52_53, e52_54, e52_57, e52_58, e52_61, e52_62, e52_65, e52_67, e52_70, e52_73, e52_74, e52_77, e52_78, e52_81, e52_82, e52_85, e52_87, e52_90, e52_93, e52_94, e52_97, e52_98, e52_101, e52_102, e52_105, e52_107, e52_110, e52_113, e52_114, e52_117, e52_118, e52_121, e52_122, e52_125, e52_127, e52_130, e52_133, e52_134, e52_137, e52_138, e52_141, e52_142, e52_145, e52_147, e52_150, e52_153, e52_154, e52_157, e52_158, e52_161, e52_162, e52_163, e52_166, e52_167, e52_168, e52_171, e52_172, e52_175, e52_178, e52_179, e52_182, e52_183, e52_184, e52_187, e52_190, e52_191, e52_194, k0, mj_kl]
        refine ⟨fun y => absurd y (by decide), fun _ => ⟨by simp, c_goesOn hS b1' b2 hE (fun z F2 G2 c1 c2 => ?_) (fun k z F2 c1 c2 c3 => ?_) (fun z z2 => ?_)⟩⟩
        · rw [eA'] at z c1
          simp only [tl_some, e52_0, e52_1, e52_4, e52_7, e52_8, e52_9, e52_12, e52_13, e52_14, e52_17, e52_18, e52_21, e52_22, e52_23, e52_26, e52_27, e52_28, e52_29, e52_32, e52_35, e52_37, e52_38, e52_41, e52_42, e52_45, e52_47, e52_50, e52_53, e52_54, e52_57, e52_58, e52_61, e52_62, e52_65, e52_67, e52_70, e52_73, e52_74, e52_77, e52_78, e52_81, e52_82, e52_85, e52_87, e52_90, e52_93, e52_94, e52_97, e52_98, e52_101, e52_102, e52_105, e52_107, e52_110, e52_113, e52_114, e52_117, e52_118, e52_121, e52_122, e52_125, e52_127, e52_130, e52_133, e52_134, e52_137, e52_138, e52_141, e52_142, e52_145, e52_147, e52_150, e52_153, e52_154, e52_157, e52_158, e52_161, e52_162, e52_163, e52_166, e52_167, e52_168, e52_171, e52_172, e52_175, e52_178, e52_179, e52_182, e52_183, e52_184, e52_187, e52_190, e52_191, e52_194, mj_kl, nI_1]
          refine ⟨fun y => absurd y (by decide), fun _ => ?_⟩
          refine IH (i + 1) (by omega) _ S' F2 A' G2 L' (stp_le hp') c1 (b2.tell hS c2) (tf'.trans c2.toTE.toTF) (by rw [c2.fault]; exact b0) ?_
          rw [hpt]
          simp only [pAll, bd, e]
          rw [if_pos z]
        · rw [eA'] at z
          simp only [tl_some, e52_0, e52_1, e52_4, e52_7, e52_8, e52_9, e52_12, e52_13, e52_14, e52_17, e52_18, e52_21, e52_22, e52_23, e52_26, e52_27, e52_28, e52_29, e52_32, e52_35, e52_37, e52_38, e52_41, e52_42, e52_45, e52_47, e52_50, e52_53, e52_54, e52_57, e52_58, e52_61, e52_62, e52_65, e52_67, e52_70, e52_73, e52_74, e52_77, e52_78, e52_81, e52_82, e52_85, e52_87, e52_90, e52_93, e52_94, e52_97, e52_98, e52_101, e52_102, e52_105, e52_107, e52_110, e52_113, e52_114, e52_117, e52_118, e52_121, e52_122, e52_125, e52_127, e52_130, e52_133, e52_134, e52_137, e52_138, e52_141, e52_142, e52_145, e52_147, e52_150, e52_153, e52_154, e52_157, e52_158, e52_161, e52_162, e52_163, e52_166, e52_167, e52_168, e52_171, e52_172, e52_175, e52_178, e52_179, e52_182, e52_183, e52_184, e52_187, e52_190, e52_191, e52_194, mj_kl]
          refine ⟨fun _ => stop _ _ _ _ _ ?_, fun y => absurd trivial y⟩
          rw [c1]
          refine hno k p' ?_ F2 A' G' L' c2 (tf'.trans c3.toTF)
          rw [hpt]
          simp only [pAll, bd, e]
          rcases z with ⟨z1, z2, rfl⟩ | ⟨z1, z2, rfl⟩
          · rw [if_neg z1, if_neg z2]
          · rw [if_neg (by omega), if_pos z1, if_pos z2]
        · rw [eA'] at z
          simp only [tl_some, e52_0, e52_1, e52_4, e52_7, e52_8, e52_9, e52_12, e52_13, e52_14, e52_17, e52_18, e52_21, e52_22, e52_23, e52_26, e52_27, e52_28, e52_29, e52_32, e52_35, e52_37, e52_38, e52_41, e52_42, e52_45, e52_47, e52_50, e52_53, e52_54, e52_57, e52_58, e52_61, e52_62, e52_65, e52_67, e52_70, e52_73, e52_74, e52_77, e52_78, e52_81, e52_82, e52_85, e52_87, e52_90, e52_93, e52_94, e52_97, e52_98, e52_101, e52_102, e52_105, e52_107, e52_110, e52_113, e52_114, e52_117, e52_118, e52_121, e52_122, e52_125, e52_127, e52_130, e52_133, e52_134, e52_137, e52_138, e52_141, e52_142, e52_145, e52_147, e52_150, e52_153, e52_154, e52_157, e52_158, e52_161, e52_162, e52_163, e52_166, e52_167, e52_168, e52_171, e52_172, e52_175, e52_178, e52_179, e52_182, e52_183, e52_184, e52_187, e52_190, e52_191, e52_194, mj_kl]
          refine ⟨fun _ => stop _ _ _ _ _ ?_, fun y => absurd trivial y⟩
          rw [b0]
          refine hok S' ?_ F' A' G' L' b2 tf'
          rw [hpt]
          simp only [pAll, bd, e]
          rw [if_neg (by omega), if_pos z, if_neg z2]
      rw [e52_31]
      simp only [e52_0, e52_1, e52_4, e52_7, e52_8, e52_9, e52_12, e52_13, e52_14, e52_17, e52_18, e52_21, e52_22, e52_23, e52_26, e52_27, e52_28, e52_29, e52_32, e52_35, e52_37, e52_38, e52_41, e52_42, e52_45, e52_47, e52_50, e52_53, e52_54, e52_57, e52_58, e52_61, e52_62, e52_65, e52_67, e52_70, e52_73, e52_74, e52_77, e52_78, e52_81, e52_82, e52_85, e52_87, e52_90, e52_93, e52_94, e52_97, e52_98, e52_101, e52_102, e52_105, e52_107, e52_110, e52_113, e52_114, e52_117, e52_118, e52_121, e52_122, e52_125, e52_127, e52_130, e52_133, e52_134, e52_137, e52_138, e52_141, e52_142, e52_145, e52_147, e52_150, e52_153, e52_154, e52_157, e52_158, e52_161, e52_162, e52_163, e52_166, e52_168, e52_171, e52_172, e52_175, e52_178, e52_179, e52_182, e52_183, e52_184, e52_187, e52_190, e52_191, e52_194, k0, g0, rf_some, true_and]
      refine ⟨fun y => absurd y (by decide), fun _ => ⟨fun y => absurd y (nI_nlt (by omega) (by omega)), fun _ => ⟨by simp, c_isThe gTk hR hE (by decide) ?_⟩⟩⟩
      have brk : ∀ f a, pLine (AI ta) E p S = .inl (f, a) → ∀ (F' A' : Nat → Nat → Int32) (G' L' : Nat → Nat → Int64), F' 262 te = nI f → F' 263 te = nI a → TF te h F F' G G' A A' L L' → ∀ pc, (∀ μ, WP sa (EV sa (d + 14)) 52 Q 0 0 pc [.ref te, .ref ta, .int (nI E), .int 1, .int (nI i)] [.int 0] μ = WP sa (EV sa (d + 14)) 52 Q 0 0 167 [.ref te, .ref ta, .int (nI E), .int 0, .int (nI i)] [] μ) → WP sa (EV sa (d + 14)) 52 Q 0 0 pc [.ref te, .ref ta, .int (nI E), .int 1, .int (nI i)] ((some (Value.int 0)).toList ++ []) (n, K, F', G', R, A', L', AR) := by
        intro f a e F' A' G' L' b1 b2 b3 pc hpc
        rw [tl_some, hpc]
        exact bad f a e F' A' G' L' b1 b2 b3
      have go : ∀ p' S', pLine (AI ta) E p S = .inr (p', S') → ∀ (F' A' : Nat → Nat → Int32) (G' L' : Nat → Nat → Int64), TokR F' G' (te + 1) (AI ta) E p' → PR K R F' A' L' te h S' → F' 262 te = F 262 te → TF te h F F' G G' A A' L L' → ∀ pc, (∀ μ, WP sa (EV sa (d + 14)) 52 Q 0 0 pc [.ref te, .ref ta, .int (nI E), .int 1, .int (nI i)] [.int 1] μ = WP sa (EV sa (d + 14)) 52 Q 0 0 167 [.ref te, .ref ta, .int (nI E), .int 1, .int (nI i)] [] μ) → WP sa (EV sa (d + 14)) 52 Q 0 0 pc [.ref te, .ref ta, .int (nI E), .int 1, .int (nI i)] ((some (Value.int 1)).toList ++ []) (n, K, F', G', R, A', L', AR) := by
        intro p' S' e F' A' G' L' b1 b2 b0 b3 pc hpc
        rw [tl_some, hpc]
        exact good p' S' e F' A' G' L' (by rw [b0]; exact h262) b1 b2 b3
      simp only [tl_some, e52_50, e52_53, e52_54, e52_61, e52_62, e52_65, e52_67, k0, g0, rf_some, true_and, bI_eq0]
      refine ⟨fun z0 => ⟨by simp, c_isThe gTk hR hE (by decide) ?_⟩, fun z => ⟨by simp, c_readWall hS hR' hP hE (fun f a e F' A' G' L' b1 b2 b3 => ?_) (fun p' S' e F' A' G' L' b1 b2 b0 b3 => ?_)⟩⟩
      rotate_left
      · rw [eA] at e
        exact brk f a (by simp only [pLine]; rw [if_pos (by simpa using z)]; exact e) F' A' G' L' b1 b2 b3 57 (fun μ => by simp only [e52_57, e52_58, mj_kl])
      · rw [eA] at e b1
        exact go p' S' (by simp only [pLine]; rw [if_pos (by simpa using z)]; exact e) F' A' G' L' b1 b2 b0 b3 57 (fun μ => by simp only [e52_57, e52_58, mj_kl])
      have n0 : ¬ isK (AI ta) E p 0 = true := by simp [z0]
      simp only [tl_some, e52_70, e52_73, e52_74, e52_81, e52_82, e52_85, e52_87, k0, g0, rf_some, true_and, bI_eq0]
      refine ⟨fun z1 => ⟨by simp, c_isThe gTk hR hE (by decide) ?_⟩, fun z => ⟨by simp, c_readBill hS hR' hP hE (fun f a e F' A' G' L' b1 b2 b3 => ?_) (fun p' S' e F' A' G' L' b1 b2 b0 b3 => ?_)⟩⟩
      rotate_left
      · rw [eA] at e
        exact brk f a (by simp only [pLine]; rw [if_neg n0, if_pos (by simpa using z)]; exact e) F' A' G' L' b1 b2 b3 77 (fun μ => by simp only [e52_77, e52_78, mj_kl])
      · rw [eA] at e b1
        exact go p' S' (by simp only [pLine]; rw [if_neg n0, if_pos (by simpa using z)]; exact e) F' A' G' L' b1 b2 b0 b3 77 (fun μ => by simp only [e52_77, e52_78, mj_kl])
      have n1 : ¬ isK (AI ta) E p 1 = true := by simp [z1]
      simp only [tl_some, e52_90, e52_93, e52_94, e52_101, e52_102, e52_105, e52_107, k0, g0, rf_some, true_and, bI_eq0]
      refine ⟨fun z2 => ⟨by simp, c_isThe gTk hR hE (by decide) ?_⟩, fun z => ⟨by simp, c_readRival hS hR' hP hE (fun f a e F' A' G' L' b1 b2 b3 => ?_) (fun p' S' e F' A' G' L' b1 b2 b0 b3 => ?_)⟩⟩
      rotate_left
      · rw [eA] at e
        exact brk f a (by simp only [pLine]; rw [if_neg n0, if_neg n1, if_pos (by simpa using z)]; exact e) F' A' G' L' b1 b2 b3 97 (fun μ => by simp only [e52_97, e52_98, mj_kl])
      · rw [eA] at e b1
        exact go p' S' (by simp only [pLine]; rw [if_neg n0, if_neg n1, if_pos (by simpa using z)]; exact e) F' A' G' L' b1 b2 b0 b3 97 (fun μ => by simp only [e52_97, e52_98, mj_kl])
      have n2 : ¬ isK (AI ta) E p 2 = true := by simp [z2]
      simp only [tl_some, e52_110, e52_113, e52_114, e52_121, e52_122, e52_125, e52_127, k0, g0, rf_some, true_and, bI_eq0]
      refine ⟨fun z3 => ⟨by simp, c_isThe gTk hR hE (by decide) ?_⟩, fun z => ⟨by simp, c_readWord hS hR' hP hE (fun f a e F' A' G' L' b1 b2 b3 => ?_) (fun p' S' e F' A' G' L' b1 b2 b0 b3 => ?_)⟩⟩
      rotate_left
      · rw [eA] at e
        exact brk f a (by simp only [pLine]; rw [if_neg n0, if_neg n1, if_neg n2, if_pos (by simpa using z)]; exact e) F' A' G' L' b1 b2 b3 117 (fun μ => by simp only [e52_117, e52_118, mj_kl])
      · rw [eA] at e b1
        exact go p' S' (by simp only [pLine]; rw [if_neg n0, if_neg n1, if_neg n2, if_pos (by simpa using z)]; exact e) F' A' G' L' b1 b2 b0 b3 117 (fun μ => by simp only [e52_117, e52_118, mj_kl])
      have n3 : ¬ isK (AI ta) E p 3 = true := by simp [z3]
      simp only [tl_some, e52_130, e52_133, e52_134, e52_141, e52_142, e52_145, e52_147, k0, g0, rf_some, true_and, bI_eq0]
      refine ⟨fun z4 => ⟨by simp, c_isThe gTk hR hE (by decide) ?_⟩, fun z => ⟨by simp, c_readFounder hS hR' hP hE (fun f a e F' A' G' L' b1 b2 b3 => ?_) (fun p' S' e F' A' G' L' b1 b2 b0 b3 => ?_)⟩⟩
      rotate_left
      · rw [eA] at e
        exact brk f a (by simp only [pLine]; rw [if_neg n0, if_neg n1, if_neg n2, if_neg n3, if_pos (by simpa using z)]; exact e) F' A' G' L' b1 b2 b3 137 (fun μ => by simp only [e52_137, e52_138, mj_kl])
      · rw [eA] at e b1
        exact go p' S' (by simp only [pLine]; rw [if_neg n0, if_neg n1, if_neg n2, if_neg n3, if_pos (by simpa using z)]; exact e) F' A' G' L' b1 b2 b0 b3 137 (fun μ => by simp only [e52_137, e52_138, mj_kl])
      have n4 : ¬ isK (AI ta) E p 4 = true := by simp [z4]
      simp only [tl_some, e52_150, e52_153, e52_154, e52_161, e52_162, e52_163, k0, g0, rf_some, true_and, bI_eq0]
      refine ⟨fun z5 => ⟨by simp, ?_⟩, fun z => ⟨by simp, c_readPaste hS hR' hP hE (fun f a e F' A' G' L' b1 b2 b3 => ?_) (fun p' S' e F' A' G' L' b1 b2 b0 b3 => ?_)⟩⟩
      rotate_left
      · rw [eA] at e
        exact brk f a (by simp only [pLine]; rw [if_neg n0, if_neg n1, if_neg n2, if_neg n3, if_neg n4, if_pos (by simpa using z)]; exact e) F' A' G' L' b1 b2 b3 157 (fun μ => by simp only [e52_157, e52_158, mj_kl])
      · rw [eA] at e b1
        exact go p' S' (by simp only [pLine]; rw [if_neg n0, if_neg n1, if_neg n2, if_neg n3, if_neg n4, if_pos (by simpa using z)]; exact e) F' A' G' L' b1 b2 b0 b3 157 (fun μ => by simp only [e52_157, e52_158, mj_kl])
      have n5 : ¬ isK (AI ta) E p 5 = true := by simp [z5]
      refine c_wrong (f := 1) hS hR' fun F' a1 a2 a3 => ?_
      exact brk 1 p (by simp only [pLine]; rw [if_neg n0, if_neg n1, if_neg n2, if_neg n3, if_neg n4, if_neg n5]) F' A G L a1 a2 (TE.toTF (a3.toTE (by simp))) 166 (fun μ => by simp only [e52_166, mj_kl])
  refine n52 k0 ?_
  simp only [e52_0, e52_1, e52_4, e52_7, e52_8, e52_9, e52_12, e52_13, e52_14, e52_17, e52_18, e52_21, e52_22, e52_23, e52_26, e52_27, e52_28, e52_29, e52_32, e52_35, e52_37, e52_38, e52_41, e52_42, e52_45, e52_47, e52_50, e52_53, e52_54, e52_57, e52_58, e52_61, e52_62, e52_65, e52_67, e52_70, e52_73, e52_74, e52_77, e52_78, e52_81, e52_82, e52_85, e52_87, e52_90, e52_93, e52_94, e52_97, e52_98, e52_101, e52_102, e52_105, e52_107, e52_110, e52_113, e52_114, e52_117, e52_118, e52_121, e52_122, e52_125, e52_127, e52_130, e52_133, e52_134, e52_137, e52_138, e52_141, e52_142, e52_145, e52_147, e52_150, e52_153, e52_154, e52_157, e52_158, e52_161, e52_162, e52_163, e52_166, e52_167, e52_168, e52_171, e52_172, e52_175, e52_178, e52_179, e52_182, e52_183, e52_184, e52_187, e52_190, e52_191, e52_194, k0, f259, rf_some, true_and]
  refine ⟨by simp, c_hclear hH hT h0 fun F1 A1 b1 b2 b3 b4 b5 b6 => ?_⟩
  simp only [tl_none, e52_0, e52_1, e52_4, e52_7, e52_8, e52_9, e52_12, e52_13, e52_14, e52_17, e52_18, e52_21, e52_22, e52_23, e52_26, e52_27, e52_28, e52_29, e52_32, e52_35, e52_37, e52_38, e52_41, e52_42, e52_45, e52_47, e52_50, e52_53, e52_54, e52_57, e52_58, e52_61, e52_62, e52_65, e52_67, e52_70, e52_73, e52_74, e52_77, e52_78, e52_81, e52_82, e52_85, e52_87, e52_90, e52_93, e52_94, e52_97, e52_98, e52_101, e52_102, e52_105, e52_107, e52_110, e52_113, e52_114, e52_117, e52_118, e52_121, e52_122, e52_125, e52_127, e52_130, e52_133, e52_134, e52_137, e52_138, e52_141, e52_142, e52_145, e52_147, e52_150, e52_153, e52_154, e52_157, e52_158, e52_161, e52_162, e52_163, e52_166, e52_167, e52_168, e52_171, e52_172, e52_175, e52_178, e52_179, e52_182, e52_183, e52_184, e52_187, e52_190, e52_191, e52_194, k0, f0, rf_some, true_and, mj_kl]
  have eT : A1 ta = AI ta := b6 ta (by omega)
  refine ⟨by simp, c_start kt hta hE fun F2 G2 c1 c2 c3 => ?_⟩
  rw [hFR, eT] at *
  simp only [tl_none]
  generalize hFb : mj_u2 (mj_u2 F1 261 te 0) 262 te 0 = Fb at c2
  have d261 : Fb 261 te = 0 := by rw [← hFb, mj_u2_1 (by decide), mj_u2_s]
  have d262 : Fb 262 te = 0 := by rw [← hFb, mj_u2_s]
  have dx : ∀ a, a ≠ te → ∀ f, Fb f a = F1 f a := fun a ha f => by
    rw [← hFb]
    simp only [mj_u2]
    rw [if_neg (fun z => ha z.2), if_neg (fun z => ha z.2)]
  have fh : ∀ f, F2 f h = F1 f h := fun f => by rw [c2 f h (Or.inl (by omega)), dx h (by omega)]
  have ft : ∀ f, F2 f (h + 1) = F1 f (h + 1) := fun f => by rw [c2 f (h + 1) (Or.inl (by omega)), dx (h + 1) (by omega)]
  have hP0 : PR K R F2 A1 AL te h S_0 := by
    refine ⟨⟨by rw [c2 261 te (Or.inl (by omega)), d261]; rfl, by decide, by decide, rfl⟩, fun b hb => absurd hb (Nat.not_lt_zero b), fun b hb => absurd hb (Nat.not_lt_zero b), ⟨fun r hr => b4 r hr, fun r hr => by show (0 : Nat) ≤ 20; omega⟩, fun k hk => absurd hk (Nat.not_lt_zero k), Or.inl ⟨⟨⟨rfl, rfl, rfl, rfl, rfl, rfl⟩, by decide, by decide, fun v hv => absurd hv (Nat.not_lt_zero v)⟩, ⟨by simp only [ft]; exact b1.1, b1.2⟩, ?_, by rw [fh]; exact b3, rfl⟩⟩
    have := b2 (sHs S_0)
    exact ⟨by rw [fh]; exact this.1, this.2.1, by rw [fh]; exact this.2.2.1, by rw [fh]; exact this.2.2.2.1, this.2.2.2.2⟩
  have tf0 : TF te h FI F2 FL G2 AI A1 AL AL := fun z z1 z2 => ⟨fun f => by rw [c2 f z (Or.inl (by omega)), dx z (by omega), b5 f z (by omega) (by omega)], fun f => c3 f z (Or.inl (by omega)), b6 z (by omega), rfl⟩
  have := loop (E + 1) 0 (by omega) _ S_0 F2 A1 G2 AL (rn_le (Nat.zero_le _)) c1 hP0 tf0 (by rw [c2 262 te (Or.inl (by omega))]; exact d262) rfl
  simpa [nI_0] using this
theorem c_handOver {o t2 : Nat} (hS : TelS0 K FR te h) (hO : K o = (1, 0)) (ht : FR 0 o = some t2) (hQ : Q (some (.ref h)) (n, K, FI, FL, mj_u2 (mj_u2 FR 259 te (some o)) 260 te (some t2), AI, AL, AR)) : EV sa (d + 1) 53 [.ref te, .ref o] (n, K, FI, FL, FR, AI, AL, AR) Q := by
  have k0 := hS.1
  have f259 := hS.2.2.2.2.2.1
  have u : mj_u2 FR 259 te (some o) 0 o = some t2 := by rw [mj_u2_1 (by decide)]; exact ht
  refine n53 k0 ?_
  simp only [e53_0, e53_1, e53_4, e53_5, e53_6, e53_7, e53_10, e53_11, e53_12, e53_15, e53_18, e53_19, k0, f259, rf_some, hO, u, true_and, mj_kl]
  exact hQ
end
