section
variable {sa : Nat → Nat} {d n t h m : Nat} {Q : mj_Q} {K : Nat → Nat × Nat} {FI : Nat → Nat → Int32} {FL : Nat → Nat → Int64} {FR : Nat → Nat → Option Nat} {AI : Nat → Nat → Int32} {AL : Nat → Nat → Int64} {AR : Nat → Nat → Option Nat} {w : Wl} {hs : Nat → Hg}
variable {a u q : Nat} {P : PG} {ab : Option (Nat × Nat)}
theorem c_ordersNow (hSt : MStS K FR q) (hO : MO K FR FI AI AL q a w hs m) (hF : wF w ≤ m) (h7 : m - wF w ≤ 7) {bI' bJ : Int32} (hab : match ab with
  | none => bJ = -1
  | some x => bI' = nI (x.1 - wF w) ∧ bJ = nI (x.2 - wF w) ∧ wF w ≤ x.1 ∧ x.1 < m ∧ wF w ≤ x.2 ∧ x.2 < m) (hQ : ∀ (FI' AI' : Nat → Nat → Int32) (AL' : Nat → Nat → Int64), MO K FR FI' AI' AL' q a w hs m → MQx q (a + 13) FI FI' AI AI' AL AL' → Q (some (.int (nI (MC w hs m ab (m - wF w) (fun _ => false) (fun _ => 0) 0)))) (n, K, FI', FL, FR, AI', AL', AR)) : EV sa (d + 16) 265 [.ref q, .int bI', .int bJ] (n, K, FI, FL, FR, AI, AL, AR) Q := by
  have k0 := hO.k
  have s1 := hO.1.2.2.2.2.2.2.1
  have h30 := hO.mh.2.1
  obtain ⟨-, ⟨f0, k1⟩, -, -, -, -, -, ⟨f7, k7⟩, ⟨f8, k8⟩, ⟨f9, k9⟩, ⟨f10, k10⟩, ⟨f11, k11⟩, ⟨f12, k12⟩⟩ := id hSt
  obtain ⟨ku, ⟨g0, ku1⟩, -⟩ := hO.1.2.2.2.2.1
  have hH := hO.1.2.2.2.2.1
  have w7 := hO.1.2.2.2.1.1.2.2.2.2.2.2.1
  have ka := hO.1.2.1.1
  have in0 : vp_in (0 : Int32) 127 := vp_in_nI (n := 0) (by decide) (by decide)
  refine n265 k0 ?_
  simp only [e265_0, e265_1, e265_2, e265_5, e265_8, e265_9, e265_12, e265_15, e265_16, e265_19, e265_20, e265_21, e265_24, e265_25, e265_26, e265_29, e265_30, e265_31, e265_34, e265_35, e265_38, e265_41, e265_42, e265_44, e265_46, e265_49, e265_50, e265_53, e265_54, e265_55, e265_58, e265_59, e265_60, e265_61, e265_64, e265_67, e265_68, e265_70, e265_71, e265_74, e265_77, e265_78, e265_81, e265_82, e265_83, e265_86, e265_89, e265_90, e265_91, e265_94, e265_97, e265_98, e265_99, e265_100, e265_101, e265_102, e265_103, e265_106, e265_107, e265_108, e265_111, e265_114, e265_116, e265_117, e265_120, e265_123, e265_124, e265_125, e265_126, e265_127, e265_128, e265_129, e265_132, e265_133, e265_134, e265_137, e265_140, e265_142, e265_143, e265_146, e265_149, e265_150, e265_151, e265_152, e265_153, e265_154, e265_155, e265_158, e265_159, e265_160, e265_163, e265_166, e265_168, e265_169, e265_172, e265_175, e265_176, e265_177, e265_178, e265_179, e265_180, e265_183, e265_186, e265_187, e265_190, e265_193, e265_194, e265_195, e265_198, e265_201, e265_202, e265_203, e265_204, e265_207, e265_208, e265_209, e265_212, e265_215, e265_216, e265_217, e265_220, e265_223, e265_224, e265_225, e265_229, e265_230, e265_233, e265_236, e265_237, e265_240, e265_241, e265_244, e265_245, e265_248, e265_250, e265_251, e265_252, e265_255, e265_257, e265_258, e265_259, e265_262, e265_264, e265_265, e265_266, e265_269, e265_271, e265_272, e265_275, e265_278, e265_281, e265_282, k0, hO.2.2, rf_some, true_and]
  refine ⟨by simp, c_many hH ?_⟩
  rw [hO.mh.1]
  simp only [tl_some, e265_0, e265_1, e265_2, e265_5, e265_8, e265_9, e265_12, e265_15, e265_16, e265_19, e265_20, e265_21, e265_24, e265_25, e265_26, e265_29, e265_30, e265_31, e265_34, e265_35, e265_38, e265_41, e265_42, e265_44, e265_46, e265_49, e265_50, e265_53, e265_54, e265_55, e265_58, e265_59, e265_60, e265_61, e265_64, e265_67, e265_68, e265_70, e265_71, e265_74, e265_77, e265_78, e265_81, e265_82, e265_83, e265_86, e265_89, e265_90, e265_91, e265_94, e265_97, e265_98, e265_99, e265_100, e265_101, e265_102, e265_103, e265_106, e265_107, e265_108, e265_111, e265_114, e265_116, e265_117, e265_120, e265_123, e265_124, e265_125, e265_126, e265_127, e265_128, e265_129, e265_132, e265_133, e265_134, e265_137, e265_140, e265_142, e265_143, e265_146, e265_149, e265_150, e265_151, e265_152, e265_153, e265_154, e265_155, e265_158, e265_159, e265_160, e265_163, e265_166, e265_168, e265_169, e265_172, e265_175, e265_176, e265_177, e265_178, e265_179, e265_180, e265_183, e265_186, e265_187, e265_190, e265_193, e265_194, e265_195, e265_198, e265_201, e265_202, e265_203, e265_204, e265_207, e265_208, e265_209, e265_212, e265_215, e265_216, e265_217, e265_220, e265_223, e265_224, e265_225, e265_229, e265_230, e265_233, e265_236, e265_237, e265_240, e265_241, e265_244, e265_245, e265_248, e265_250, e265_251, e265_252, e265_255, e265_257, e265_258, e265_259, e265_262, e265_264, e265_265, e265_266, e265_269, e265_271, e265_272, e265_275, e265_278, e265_281, e265_282, k0, hO.2.1, hO.2.2, rf_some, ka, w7, pk_sub hF, true_and]
  generalize hF1 : mj_u2 (mj_u2 (mj_u2 FI 677 q (nI (m - wF w))) 678 q bI') 679 q bJ = F
  have hX : MQx q (a + 13) FI F AI AI AL AL := by rw [← hF1]; exact ((MQx.fi (by decide)).trans (MQx.fi (by decide))).trans (MQx.fi (by decide))
  have F7 : F 677 q = nI (m - wF w) := by rw [← hF1, mj_u2_1 (by decide), mj_u2_1 (by decide), mj_u2_s]
  have F8 : F 678 q = bI' := by rw [← hF1, mj_u2_1 (by decide), mj_u2_s]
  have F9 : F 679 q = bJ := by rw [← hF1, mj_u2_s]
  have hO1 := hO.ofQ hX hO.mh
  have w7' : F 582 a = nI (wF w) := hO1.1.2.2.2.1.1.2.2.2.2.2.2.1
  refine ⟨by simp, c_looks hO.1.1 hH (by omega) hO.mh fun A t x' => ?_⟩
  have hX1 : MQx q (a + 13) F F AI A AL AL := (show MX q (a + 13) AI A AL AL from ⟨fun z z1 _ _ => x' z (by omega), fun j _ => by rw [x' _ (by omega)], fun _ _ => rfl⟩).toMQ
  have hO2 := hO1.ofQ hX1 (hO.mh.fr (x' _ (by omega)) rfl)
  -- putting back
  have l3 : ∀ (v : Nat) (F' : Nat → Nat → Int32), F' 677 q = nI (m - wF w) → ∀ rr k, k + rr = m - wF w → ∀ (A : Nat → Nat → Int32) (L : Nat → Nat → Int64), MO K FR F' A L q a w hs (wF w + k) → MQx q (a + 13) FI F' AI A AL L → OArr F' A q w hs m ab → Q (some (.int (nI v))) = Q (some (.int (nI (MC w hs m ab (m - wF w) (fun _ => false) (fun _ => 0) 0)))) → WP sa (EV sa (d + 15)) 265 Q 0 0 227 [.ref q, .int bI', .int bJ, .int (nI v), .int (nI k)] [] (n, K, F', FL, FR, A, L, AR) := by
    intro v F' e7 rr
    induction rr with
    | zero =>
      intro k hk A L hA hXX hArr hv
      have hk' : k = m - wF w := by omega
      subst hk'
      rw [e265_227]
      simp only [e265_0, e265_1, e265_2, e265_5, e265_8, e265_9, e265_12, e265_15, e265_16, e265_19, e265_20, e265_21, e265_24, e265_25, e265_26, e265_29, e265_30, e265_31, e265_34, e265_35, e265_38, e265_41, e265_42, e265_44, e265_46, e265_49, e265_50, e265_53, e265_54, e265_55, e265_58, e265_59, e265_60, e265_61, e265_64, e265_67, e265_68, e265_70, e265_71, e265_74, e265_77, e265_78, e265_81, e265_82, e265_83, e265_86, e265_89, e265_90, e265_91, e265_94, e265_97, e265_98, e265_99, e265_100, e265_101, e265_102, e265_103, e265_106, e265_107, e265_108, e265_111, e265_114, e265_116, e265_117, e265_120, e265_123, e265_124, e265_125, e265_126, e265_127, e265_128, e265_129, e265_132, e265_133, e265_134, e265_137, e265_140, e265_142, e265_143, e265_146, e265_149, e265_150, e265_151, e265_152, e265_153, e265_154, e265_155, e265_158, e265_159, e265_160, e265_163, e265_166, e265_168, e265_169, e265_172, e265_175, e265_176, e265_177, e265_178, e265_179, e265_180, e265_183, e265_186, e265_187, e265_190, e265_193, e265_194, e265_195, e265_198, e265_201, e265_202, e265_203, e265_204, e265_207, e265_208, e265_209, e265_212, e265_215, e265_216, e265_217, e265_220, e265_223, e265_224, e265_225, e265_229, e265_230, e265_233, e265_236, e265_237, e265_240, e265_241, e265_244, e265_245, e265_248, e265_250, e265_251, e265_252, e265_255, e265_257, e265_258, e265_259, e265_262, e265_264, e265_265, e265_266, e265_269, e265_271, e265_272, e265_275, e265_278, e265_281, e265_282, k0, e7, true_and]
      refine ⟨fun _ => ?_, fun z => absurd (nI_le (Nat.le_refl _) (by omega)) z⟩
      rw [hv]
      rw [show wF w + (m - wF w) = m by omega] at hA
      exact hQ F' A L hA hXX
    | succ rr ih =>
      intro k hk A L hA hXX hArr hv
      obtain ⟨gok, a8, a9, a10, a12⟩ := hArr.2.2.2 k (by omega)
      have kin : vp_in (nI k) 7 := vp_in_nI (by omega) (by decide)
      have kcl : (nI k).toNatClampNeg = k := nI_clamp (by omega)
      rw [e265_227]
      simp only [e265_0, e265_1, e265_2, e265_5, e265_8, e265_9, e265_12, e265_15, e265_16, e265_19, e265_20, e265_21, e265_24, e265_25, e265_26, e265_29, e265_30, e265_31, e265_34, e265_35, e265_38, e265_41, e265_42, e265_44, e265_46, e265_49, e265_50, e265_53, e265_54, e265_55, e265_58, e265_59, e265_60, e265_61, e265_64, e265_67, e265_68, e265_70, e265_71, e265_74, e265_77, e265_78, e265_81, e265_82, e265_83, e265_86, e265_89, e265_90, e265_91, e265_94, e265_97, e265_98, e265_99, e265_100, e265_101, e265_102, e265_103, e265_106, e265_107, e265_108, e265_111, e265_114, e265_116, e265_117, e265_120, e265_123, e265_124, e265_125, e265_126, e265_127, e265_128, e265_129, e265_132, e265_133, e265_134, e265_137, e265_140, e265_142, e265_143, e265_146, e265_149, e265_150, e265_151, e265_152, e265_153, e265_154, e265_155, e265_158, e265_159, e265_160, e265_163, e265_166, e265_168, e265_169, e265_172, e265_175, e265_176, e265_177, e265_178, e265_179, e265_180, e265_183, e265_186, e265_187, e265_190, e265_193, e265_194, e265_195, e265_198, e265_201, e265_202, e265_203, e265_204, e265_207, e265_208, e265_209, e265_212, e265_215, e265_216, e265_217, e265_220, e265_223, e265_224, e265_225, e265_229, e265_230, e265_233, e265_236, e265_237, e265_240, e265_241, e265_244, e265_245, e265_248, e265_250, e265_251, e265_252, e265_255, e265_257, e265_258, e265_259, e265_262, e265_264, e265_265, e265_266, e265_269, e265_271, e265_272, e265_275, e265_278, e265_282, k0, e7, hA.2.1, hA.2.2, f8, f9, f10, f12, k8, k9, k10, k12, rf_some, kin, kcl, a8, a9, a10, a12, true_and, true_or]
      refine ⟨fun z => absurd z (nI_ge (by omega) (by omega)), fun _ => ⟨by simp, c_adds hA.1.2.1 hA.ok hA.1.2.2.2.1 hA.1.2.2.2.2.1 (Or.inl (by omega)) hA.mh (by omega) gok fun A3 L3 m1 m2 m3 m4 => ?_⟩⟩
      have hX3 : MX q (a + 13) A A3 L L3 := ⟨fun z _ _ z3 => m3 z (by omega), m2, fun z hz => m4 z (by omega)⟩
      simp only [tl_none, e265_0, e265_1, e265_2, e265_5, e265_8, e265_9, e265_12, e265_15, e265_16, e265_19, e265_20, e265_21, e265_24, e265_25, e265_26, e265_29, e265_30, e265_31, e265_34, e265_35, e265_38, e265_41, e265_42, e265_44, e265_46, e265_49, e265_50, e265_53, e265_54, e265_55, e265_58, e265_59, e265_60, e265_61, e265_64, e265_67, e265_68, e265_70, e265_71, e265_74, e265_77, e265_78, e265_81, e265_82, e265_83, e265_86, e265_89, e265_90, e265_91, e265_94, e265_97, e265_98, e265_99, e265_100, e265_101, e265_102, e265_103, e265_106, e265_107, e265_108, e265_111, e265_114, e265_116, e265_117, e265_120, e265_123, e265_124, e265_125, e265_126, e265_127, e265_128, e265_129, e265_132, e265_133, e265_134, e265_137, e265_140, e265_142, e265_143, e265_146, e265_149, e265_150, e265_151, e265_152, e265_153, e265_154, e265_155, e265_158, e265_159, e265_160, e265_163, e265_166, e265_168, e265_169, e265_172, e265_175, e265_176, e265_177, e265_178, e265_179, e265_180, e265_183, e265_186, e265_187, e265_190, e265_193, e265_194, e265_195, e265_198, e265_201, e265_202, e265_203, e265_204, e265_207, e265_208, e265_209, e265_212, e265_215, e265_216, e265_217, e265_220, e265_223, e265_224, e265_225, e265_229, e265_230, e265_233, e265_236, e265_237, e265_240, e265_241, e265_244, e265_245, e265_248, e265_250, e265_251, e265_252, e265_255, e265_257, e265_258, e265_259, e265_262, e265_264, e265_265, e265_266, e265_269, e265_271, e265_272, e265_275, e265_278, e265_282, nI_1, mj_kl]
      refine ih (k + 1) (by omega) A3 L3 ?_ (hXX.trans (hX3.toMQ (FI := F'))) (hArr.fr fun z hz => m3 _ (by omega)) hv
      have := hA.ofX (hA.1.of hX3 m1)
      refine MO.congr this fun j hj => ?_
      by_cases e : j = wF w + k
      · subst e; rw [puth_eq]
        rfl
      · rw [puth_lt (by omega)]
  -- the copies
  have l2 : ∀ rr k, k + rr = m - wF w → ∀ A2 : Nat → Nat → Int32, (∀ z, (z < q + 8 ∨ q + 12 < z) → z ≠ q + 7 → A2 z = A z) → (∀ c, c < 32 → A2 (q + 7) c = oI (tp w hs m c) (-1)) → (∀ j, j < k → A2 (q + 8) j = nI (gB (hs (wF w + j))) ∧ A2 (q + 9) j = nI (gX (hs (wF w + j))) ∧ A2 (q + 10) j = nI (gY (hs (wF w + j))) ∧ A2 (q + 12) j = gR (hs (wF w + j))) → WP sa (EV sa (d + 15)) 265 Q 0 0 69 [.ref q, .int bI', .int bJ, .int (nI k), mj_u] [] (n, K, F, FL, FR, A2, AL, AR) := by
    intro rr
    induction rr with
    | zero =>
      intro k hk A2 a1 a2 a3
      have hk' : k = m - wF w := by omega
      subst hk'
      have hX2 : MQx q (a + 13) F F A A2 AL AL := ⟨FIx.rfl', fun z z1 z2 z3 z4 => a1 z (by omega) (by omega), fun j _ => by rw [a1 _ (by omega) (by omega)], fun _ _ => rfl⟩
      have hO3 := hO2.ofQ hX2 (hO2.mh.fr (a1 _ (by omega) (by omega)) rfl)
      rw [e265_69]
      simp only [e265_0, e265_1, e265_2, e265_5, e265_8, e265_9, e265_12, e265_15, e265_16, e265_19, e265_20, e265_21, e265_24, e265_25, e265_26, e265_29, e265_30, e265_31, e265_34, e265_35, e265_38, e265_41, e265_42, e265_44, e265_46, e265_49, e265_50, e265_53, e265_54, e265_55, e265_58, e265_59, e265_60, e265_61, e265_64, e265_67, e265_68, e265_70, e265_71, e265_74, e265_77, e265_78, e265_81, e265_82, e265_83, e265_86, e265_89, e265_90, e265_91, e265_94, e265_97, e265_98, e265_99, e265_100, e265_101, e265_102, e265_103, e265_106, e265_107, e265_108, e265_111, e265_114, e265_116, e265_117, e265_120, e265_123, e265_124, e265_125, e265_126, e265_127, e265_128, e265_129, e265_132, e265_133, e265_134, e265_137, e265_140, e265_142, e265_143, e265_146, e265_149, e265_150, e265_151, e265_152, e265_153, e265_154, e265_155, e265_158, e265_159, e265_160, e265_163, e265_166, e265_168, e265_169, e265_172, e265_175, e265_176, e265_177, e265_178, e265_179, e265_180, e265_183, e265_186, e265_187, e265_190, e265_193, e265_194, e265_195, e265_198, e265_201, e265_202, e265_203, e265_204, e265_207, e265_208, e265_209, e265_212, e265_215, e265_216, e265_217, e265_220, e265_223, e265_224, e265_225, e265_229, e265_230, e265_233, e265_236, e265_237, e265_240, e265_241, e265_244, e265_245, e265_248, e265_250, e265_251, e265_252, e265_255, e265_257, e265_258, e265_259, e265_262, e265_264, e265_265, e265_266, e265_269, e265_271, e265_272, e265_275, e265_278, e265_281, e265_282, k0, F7, hO.2.1, hO.2.2, rf_some, ku, g0, ku1, in0, cl0, ka, w7', true_and]
      refine ⟨fun _ => ⟨by simp, ?_⟩, fun z => absurd (nI_le (Nat.le_refl _) (by omega)) z⟩
      obtain ⟨o1, o2⟩ := hO3.cut0 (hs := hs) (m := wF w) hF (fun _ _ => rfl)
      generalize hA4 : mj_u2 A2 (a + 13 + 1) 0 (nI (wF w)) = A4 at o1 o2 ⊢
      have hArr : OArr F A4 q w hs m ab := by
        refine ⟨⟨F7, hF, h7, h30⟩, ?_, fun c hc => ?_, fun j hj => ?_⟩
        · cases ab with
          | none => show F 679 q = -1; rw [F9]; exact hab
          | some x => show F 678 q = _ ∧ F 679 q = _ ∧ _; rw [F8, F9]; exact hab
        · rw [o2.1 _ (by omega) (by omega) (by omega)]; exact a2 c hc
        · rw [o2.1 _ (by omega) (by omega) (by omega), o2.1 _ (by omega) (by omega) (by omega), o2.1 _ (by omega) (by omega) (by omega), o2.1 _ (by omega) (by omega) (by omega)]
          exact ⟨(hO.mh.2.2 _ (by omega)).1, a3 j hj⟩
      have go := fun QQ => c_comes (sa := sa) (d := d + (7 - (m - wF w))) (n := n) (FL := FL) (AR := AR) (Q := QQ) (hs := hs) (m := m) (ab := ab) (a := a) (w := w) (FI := F) hSt (m - wF w) (st := fun _ => false) (rw_ := fun _ => 0) (t := 0) (hsT := hs) (mst := 0) (by omega) o1 (fun k hk => by unfold hsR; rw [if_pos (by omega)]; exact ⟨rfl, rfl, rfl⟩) hArr (fun p hp => by omega) (fun j _ => b_0 j)
      rw [show d + (7 - (m - wF w)) + (m - wF w) + 8 = d + 15 by omega] at go
      refine go _ fun A5 L5 g5 g6 _ => ?_
      have g5' : MO K FR F A5 L5 q a w hs (wF w) := g5
      obtain ⟨p1, p2⟩ := g5'.same0
      have hX5 := (((hX.trans hX1).trans hX2).trans (o2.toMQ (FI := F))).trans (g6.toMQ (FI := F))
      simp only [tl_some, e265_0, e265_1, e265_2, e265_5, e265_8, e265_9, e265_12, e265_15, e265_16, e265_19, e265_20, e265_21, e265_24, e265_25, e265_26, e265_29, e265_30, e265_31, e265_34, e265_35, e265_38, e265_41, e265_42, e265_44, e265_46, e265_49, e265_50, e265_53, e265_54, e265_55, e265_58, e265_59, e265_60, e265_61, e265_64, e265_67, e265_68, e265_70, e265_71, e265_74, e265_77, e265_78, e265_81, e265_82, e265_83, e265_86, e265_89, e265_90, e265_91, e265_94, e265_97, e265_98, e265_99, e265_100, e265_101, e265_102, e265_103, e265_106, e265_107, e265_108, e265_111, e265_114, e265_116, e265_117, e265_120, e265_123, e265_124, e265_125, e265_126, e265_127, e265_128, e265_129, e265_132, e265_133, e265_134, e265_137, e265_140, e265_142, e265_143, e265_146, e265_149, e265_150, e265_151, e265_152, e265_153, e265_154, e265_155, e265_158, e265_159, e265_160, e265_163, e265_166, e265_168, e265_169, e265_172, e265_175, e265_176, e265_177, e265_178, e265_179, e265_180, e265_183, e265_186, e265_187, e265_190, e265_193, e265_194, e265_195, e265_198, e265_201, e265_202, e265_203, e265_204, e265_207, e265_208, e265_209, e265_212, e265_215, e265_216, e265_217, e265_220, e265_223, e265_224, e265_225, e265_229, e265_230, e265_233, e265_236, e265_237, e265_240, e265_241, e265_244, e265_245, e265_248, e265_250, e265_251, e265_252, e265_255, e265_257, e265_258, e265_259, e265_262, e265_264, e265_265, e265_266, e265_269, e265_271, e265_272, e265_275, e265_278, e265_281, e265_282, k0, hO.2.1, hO.2.2, rf_some, ku, g0, ku1, in0, cl0, ka, w7', mj_kl, true_and]
      have := l3 _ F F7 (m - wF w) 0 (by omega) _ L5 p1 (hX5.trans (p2.toMQ (FI := F))) (hArr.fr fun z hz => by rw [p2.1 _ (by omega) (by omega) (by omega), g6.1 _ (by omega) (by omega) (by omega) (by omega)]) rfl
      simpa [nI_0, mj_u, mj_kl] using this
    | succ rr ih =>
      intro k hk A2 a1 a2 a3
      have kin : vp_in (nI k) 7 := vp_in_nI (by omega) (by decide)
      have kcl : (nI k).toNatClampNeg = k := nI_clamp (by omega)
      have i1 : vp_in (nI (1 + wF w + k)) 127 := vp_in_nI (by omega) (by decide)
      have c1 : (nI (1 + wF w + k)).toNatClampNeg = 1 + wF w + k := nI_clamp (by omega)
      have i2 : vp_in (nI (31 + wF w + k)) 127 := vp_in_nI (by omega) (by decide)
      have c2 : (nI (31 + wF w + k)).toNatClampNeg = 31 + wF w + k := nI_clamp (by omega)
      have i3 : vp_in (nI (61 + wF w + k)) 127 := vp_in_nI (by omega) (by decide)
      have c3 : (nI (61 + wF w + k)).toNatClampNeg = 61 + wF w + k := nI_clamp (by omega)
      have i4 : vp_in (nI (91 + wF w + k)) 127 := vp_in_nI (by omega) (by decide)
      have c4 : (nI (91 + wF w + k)).toNatClampNeg = 91 + wF w + k := nI_clamp (by omega)
      obtain ⟨-, r1, r2, r3, r4, -⟩ := hO2.mh.2.2 (wF w + k) (by omega)
      have eA : A2 (a + 13 + 1) = A (a + 13 + 1) := a1 _ (by omega) (by omega)
      have v1 : A (a + 13 + 1) (1 + wF w + k) = nI (gB (hs (wF w + k))) := by rw [Nat.add_assoc 1]; exact r1
      have v2 : A (a + 13 + 1) (31 + wF w + k) = nI (gX (hs (wF w + k))) := by rw [Nat.add_assoc 31]; exact r2
      have v3 : A (a + 13 + 1) (61 + wF w + k) = nI (gY (hs (wF w + k))) := by rw [Nat.add_assoc 61]; exact r3
      have v4 : A (a + 13 + 1) (91 + wF w + k) = gR (hs (wF w + k)) := by rw [Nat.add_assoc 91]; exact r4
      have n1 : a + 13 + 1 ≠ q + 8 := by omega
      have n2 : a + 13 + 1 ≠ q + 9 := by omega
      have n3 : a + 13 + 1 ≠ q + 10 := by omega
      rw [e265_69]
      simp only [e265_0, e265_1, e265_2, e265_5, e265_8, e265_9, e265_12, e265_15, e265_16, e265_19, e265_20, e265_21, e265_24, e265_25, e265_26, e265_29, e265_30, e265_31, e265_34, e265_35, e265_38, e265_41, e265_42, e265_44, e265_46, e265_49, e265_50, e265_53, e265_54, e265_55, e265_58, e265_59, e265_60, e265_61, e265_64, e265_67, e265_68, e265_70, e265_71, e265_74, e265_77, e265_78, e265_81, e265_82, e265_83, e265_86, e265_89, e265_90, e265_91, e265_94, e265_97, e265_98, e265_99, e265_100, e265_101, e265_102, e265_103, e265_106, e265_107, e265_108, e265_111, e265_114, e265_116, e265_117, e265_120, e265_123, e265_124, e265_125, e265_126, e265_127, e265_128, e265_129, e265_132, e265_133, e265_134, e265_137, e265_140, e265_142, e265_143, e265_146, e265_149, e265_150, e265_151, e265_152, e265_153, e265_154, e265_155, e265_158, e265_159, e265_160, e265_163, e265_166, e265_168, e265_169, e265_172, e265_175, e265_176, e265_177, e265_178, e265_179, e265_180, e265_183, e265_187, e265_190, e265_193, e265_194, e265_195, e265_198, e265_201, e265_202, e265_203, e265_204, e265_207, e265_208, e265_209, e265_212, e265_215, e265_216, e265_217, e265_220, e265_223, e265_224, e265_225, e265_229, e265_230, e265_233, e265_236, e265_237, e265_240, e265_241, e265_244, e265_245, e265_248, e265_250, e265_251, e265_252, e265_255, e265_257, e265_258, e265_259, e265_262, e265_264, e265_265, e265_266, e265_269, e265_271, e265_272, e265_275, e265_278, e265_281, e265_282, k0, F7, f8, f9, f10, f12, k8, k9, k10, k12, hO.2.1, hO.2.2, rf_some, ku, g0, ku1, ka, w7', kin, kcl, show (1 : Int32) = nI 1 from rfl, show (31 : Int32) = nI 31 from rfl, show (61 : Int32) = nI 61 from rfl, show (91 : Int32) = nI 91 from rfl, nI_add, i1, c1, i2, c2, i3, c3, i4, c4, mj_u2_1 n1, mj_u2_1 n2, mj_u2_1 n3, eA, v1, v2, v3, v4, mj_kl, true_and, true_or]
      refine ⟨fun z => absurd z (nI_ge (by omega) (by omega)), fun _ => ?_⟩
      refine ih (k + 1) (by omega) _ (fun z hz hz7 => ?_) (fun c hc => ?_) (fun j hj => ?_)
      · funext y
        rw [mj_u2_1 (by omega), mj_u2_1 (by omega), mj_u2_1 (by omega), mj_u2_1 (by omega), a1 z hz hz7]
      · rw [mj_u2_1 (by omega), mj_u2_1 (by omega), mj_u2_1 (by omega), mj_u2_1 (by omega)]
        exact a2 c hc
      · by_cases e : j = k
        · subst e
          refine ⟨?_, ?_, ?_, mj_u2_s⟩
          · rw [mj_u2_1 (by omega), mj_u2_1 (by omega), mj_u2_1 (by omega), mj_u2_s]
          · rw [mj_u2_1 (by omega), mj_u2_1 (by omega), mj_u2_s]
          · rw [mj_u2_1 (by omega), mj_u2_s]
        · rw [mj_u2_2 e, mj_u2_2 e, mj_u2_2 e, mj_u2_2 e, mj_u2_2 e, mj_u2_2 e, mj_u2_2 e, mj_u2_2 e, mj_u2_2 e, mj_u2_2 e, mj_u2_2 e, mj_u2_2 e, mj_u2_2 e, mj_u2_2 e, mj_u2_2 e, mj_u2_2 e]
          exact a3 j (by omega)
  have l1 : ∀ rr c, c + rr = 32 → ∀ A2 : Nat → Nat → Int32, AIx A A2 (q + 7) (q + 7) → (∀ j, j < c → A2 (q + 7) j = oI (tp w hs m j) (-1)) → WP sa (EV sa (d + 15)) 265 Q 0 0 43 [.ref q, .int bI', .int bJ, .int (nI c), mj_u] [] (n, K, F, FL, FR, A2, AL, AR) := by
    intro rr
    induction rr with
    | zero =>
      intro c hc A2 a1 a2
      have hc' : c = 32 := by omega
      subst hc'
      rw [e265_43]
      simp only [e265_0, e265_1, e265_2, e265_5, e265_8, e265_9, e265_12, e265_15, e265_16, e265_19, e265_20, e265_21, e265_24, e265_25, e265_26, e265_29, e265_30, e265_31, e265_34, e265_35, e265_38, e265_41, e265_42, e265_44, e265_46, e265_49, e265_50, e265_53, e265_54, e265_55, e265_58, e265_59, e265_60, e265_61, e265_64, e265_67, e265_68, e265_70, e265_71, e265_74, e265_77, e265_78, e265_81, e265_82, e265_83, e265_86, e265_89, e265_90, e265_91, e265_94, e265_97, e265_98, e265_99, e265_100, e265_101, e265_102, e265_103, e265_106, e265_107, e265_108, e265_111, e265_114, e265_116, e265_117, e265_120, e265_123, e265_124, e265_125, e265_126, e265_127, e265_128, e265_129, e265_132, e265_133, e265_134, e265_137, e265_140, e265_142, e265_143, e265_146, e265_149, e265_150, e265_151, e265_152, e265_153, e265_154, e265_155, e265_158, e265_159, e265_160, e265_163, e265_166, e265_168, e265_169, e265_172, e265_175, e265_176, e265_177, e265_178, e265_179, e265_180, e265_183, e265_186, e265_187, e265_190, e265_193, e265_194, e265_195, e265_198, e265_201, e265_202, e265_203, e265_204, e265_207, e265_208, e265_209, e265_212, e265_215, e265_216, e265_217, e265_220, e265_223, e265_224, e265_225, e265_229, e265_230, e265_233, e265_236, e265_237, e265_240, e265_241, e265_244, e265_245, e265_248, e265_250, e265_251, e265_252, e265_255, e265_257, e265_258, e265_259, e265_262, e265_264, e265_265, e265_266, e265_269, e265_271, e265_272, e265_275, e265_278, e265_281, e265_282, mj_kl]
      refine ⟨fun _ => ?_, fun z => absurd (by decide) z⟩
      have := l2 (m - wF w) 0 (by omega) A2 (fun z hz hz7 => a1 z (by omega)) a2 (fun j hj => by omega)
      simpa [nI_0, mj_u, mj_kl] using this
    | succ rr ih =>
      intro c hc A2 a1 a2
      have cin : vp_in (nI c) 32 := vp_in_nI (by omega) (by decide)
      have ccl : (nI c).toNatClampNeg = c := nI_clamp (by omega)
      have ev : A2 (q + 1) c = oI (tp w hs m c) (-1) := by rw [a1 _ (by omega)]; exact t c (by omega)
      rw [e265_43]
      simp only [e265_0, e265_1, e265_2, e265_5, e265_8, e265_9, e265_12, e265_15, e265_16, e265_19, e265_20, e265_21, e265_24, e265_25, e265_26, e265_29, e265_30, e265_31, e265_34, e265_35, e265_38, e265_41, e265_42, e265_44, e265_46, e265_49, e265_50, e265_53, e265_54, e265_55, e265_58, e265_59, e265_60, e265_61, e265_64, e265_68, e265_70, e265_71, e265_74, e265_77, e265_78, e265_81, e265_82, e265_83, e265_86, e265_89, e265_90, e265_91, e265_94, e265_97, e265_98, e265_99, e265_100, e265_101, e265_102, e265_103, e265_106, e265_107, e265_108, e265_111, e265_114, e265_116, e265_117, e265_120, e265_123, e265_124, e265_125, e265_126, e265_127, e265_128, e265_129, e265_132, e265_133, e265_134, e265_137, e265_140, e265_142, e265_143, e265_146, e265_149, e265_150, e265_151, e265_152, e265_153, e265_154, e265_155, e265_158, e265_159, e265_160, e265_163, e265_166, e265_168, e265_169, e265_172, e265_175, e265_176, e265_177, e265_178, e265_179, e265_180, e265_183, e265_186, e265_187, e265_190, e265_193, e265_194, e265_195, e265_198, e265_201, e265_202, e265_203, e265_204, e265_207, e265_208, e265_209, e265_212, e265_215, e265_216, e265_217, e265_220, e265_223, e265_224, e265_225, e265_229, e265_230, e265_233, e265_236, e265_237, e265_240, e265_241, e265_244, e265_245, e265_248, e265_250, e265_251, e265_252, e265_255, e265_257, e265_258, e265_259, e265_262, e265_264, e265_265, e265_266, e265_269, e265_271, e265_272, e265_275, e265_278, e265_281, e265_282, k0, f0, k1, f7, k7, rf_some, cin, ccl, ev, nI_1, mj_kl, true_and, true_or]
      refine ⟨fun z => absurd z (nI_ge (b := 32) (by omega) (by decide)), fun _ => ?_⟩
      refine ih (c + 1) (by omega) _ (fun z hz => ?_) (fun j hj => ?_)
      · funext y; rw [mj_u2_1 (by omega), a1 z hz]
      · by_cases e : j = c
        · subst e; exact mj_u2_s
        · rw [mj_u2_2 e]; exact a2 j (by omega)
  simp only [tl_none, e265_0, e265_1, e265_2, e265_5, e265_8, e265_9, e265_12, e265_15, e265_16, e265_19, e265_20, e265_21, e265_24, e265_25, e265_26, e265_29, e265_30, e265_31, e265_34, e265_35, e265_38, e265_41, e265_42, e265_44, e265_46, e265_49, e265_50, e265_53, e265_54, e265_55, e265_58, e265_59, e265_60, e265_61, e265_64, e265_67, e265_68, e265_70, e265_71, e265_74, e265_77, e265_78, e265_81, e265_82, e265_83, e265_86, e265_89, e265_90, e265_91, e265_94, e265_97, e265_98, e265_99, e265_100, e265_101, e265_102, e265_103, e265_106, e265_107, e265_108, e265_111, e265_114, e265_116, e265_117, e265_120, e265_123, e265_124, e265_125, e265_126, e265_127, e265_128, e265_129, e265_132, e265_133, e265_134, e265_137, e265_140, e265_142, e265_143, e265_146, e265_149, e265_150, e265_151, e265_152, e265_153, e265_154, e265_155, e265_158, e265_159, e265_160, e265_163, e265_166, e265_168, e265_169, e265_172, e265_175, e265_176, e265_177, e265_178, e265_179, e265_180, e265_183, e265_186, e265_187, e265_190, e265_193, e265_194, e265_195, e265_198, e265_201, e265_202, e265_203, e265_204, e265_207, e265_208, e265_209, e265_212, e265_215, e265_216, e265_217, e265_220, e265_223, e265_224, e265_225, e265_229, e265_230, e265_233, e265_236, e265_237, e265_240, e265_241, e265_244, e265_245, e265_248, e265_250, e265_251, e265_252, e265_255, e265_257, e265_258, e265_259, e265_262, e265_264, e265_265, e265_266, e265_269, e265_271, e265_272, e265_275, e265_278, e265_281, e265_282, mj_kl]
  have := l1 32 0 (by omega) A AIx.rfl' (fun j hj => by omega)
  simpa [nI_0, mj_u, mj_kl] using this
theorem c_m_orders (hV : InvM q P (n, K, FI, FL, FR, AI, AL, AR)) (hQ : ∀ μ', InvM q (rs P (sp_orders P)) μ' → FrM q (n, K, FI, FL, FR, AI, AL, AR) μ' → Q (some (.int (rv (sp_orders P)))) μ') : EV sa (d + 17) 268 [.ref q] (n, K, FI, FL, FR, AI, AL, AR) Q := by
  have hI0 : MInv q P n K FR FI AI AL := hV
  have k0 := hI0.1.1
  refine n268 k0 ?_
  simp only [e268_0, e268_1, e268_2, e268_5, e268_6, k0, true_and]
  have hI := hI0.th (v := 0)
  have hF : FrM q (n, K, FI, FL, FR, AI, AL, AR) (n, K, mj_u2 FI 640 q 0, FL, FR, AI, AL, AR) := FrM.f
  generalize mj_u2 FI 640 q 0 = F at hI hF ⊢
  cases es : gW P with
  | none =>
    simp only [hI.no es, e268_0, e268_1, e268_2, e268_5, e268_6, e268_9, e268_12, e268_13, e268_14, e268_17, e268_18, e268_19, e268_22, e268_25, e268_26, e268_29, e268_32, e268_33, e268_35, e268_38, e268_39, e268_40, e268_43, e268_46, e268_47, e268_48, e268_49, e268_50, e268_53, e268_56, e268_9r]
    refine ⟨fun z => absurd trivial z, fun _ => ⟨by simp, c_mrefused k0 ?_⟩⟩
    simp only [tl_some, e268_0, e268_1, e268_2, e268_5, e268_6, e268_9, e268_12, e268_13, e268_14, e268_17, e268_18, e268_19, e268_22, e268_25, e268_26, e268_29, e268_32, e268_33, e268_35, e268_38, e268_39, e268_40, e268_43, e268_46, e268_47, e268_48, e268_49, e268_50, e268_53, e268_56, e268_9r]
    exact mrefQ hI hF hQ (k := 1) (by decide) (by unfold sp_orders; rw [es]; rfl)
  | some s =>
    obtain ⟨hSt, -, -, hWW⟩ := id hI
    rw [es] at hWW
    obtain ⟨a, hO, ha1, ha2, hSP, hE, -⟩ := hWW
    obtain ⟨p1, p2, p3, p4⟩ := pWs es
    have hfm := hE.1
    have h30 := hO.mh.2.1
    have w7 := hO.1.2.2.2.1.1.2.2.2.2.2.2.1
    have esp : sp_orders P = (if s.2.1.2.1 - wF s.1 ≤ 7 then .inr (nI (OT s.1 s.2.1.1 s.2.1.2.1 (s.2.1.2.1 - wF s.1) (fun _ => false) (fun _ => false) s.2.1.1 (wF s.1))) else .inl 3) := by unfold sp_orders; rw [es, p1, p2, p3]; rfl
    simp only [hO.2.1, hO.2.2, rf_some, e268_0, e268_1, e268_2, e268_5, e268_6, e268_9, e268_12, e268_13, e268_14, e268_17, e268_18, e268_19, e268_22, e268_25, e268_26, e268_29, e268_32, e268_33, e268_35, e268_38, e268_39, e268_40, e268_43, e268_46, e268_47, e268_48, e268_49, e268_50, e268_53, e268_56, e268_9r, k0, true_and]
    refine ⟨by simp, c_many hO.1.2.2.2.2.1 ?_⟩
    rw [hO.mh.1]
    simp only [tl_some, hO.2.1, rf_some, e268_0, e268_1, e268_2, e268_5, e268_6, e268_9, e268_12, e268_13, e268_14, e268_17, e268_18, e268_19, e268_22, e268_25, e268_26, e268_29, e268_32, e268_33, e268_35, e268_38, e268_39, e268_40, e268_43, e268_46, e268_47, e268_48, e268_49, e268_50, e268_53, e268_56, e268_9r, k0, hO.1.2.1.1, w7, pk_sub hfm, show (7 : Int32) = nI 7 from rfl, nI_leI (show s.2.1.2.1 - wF s.1 < 2 ^ 31 by omega) (show 7 < 2 ^ 31 by decide), true_and]
    refine ⟨fun z => ⟨by simp, c_ordersNow (ab := none) hSt hO hfm z rfl fun F2 A2 L2 g1 g2 => ?_⟩, fun z => ⟨by simp, c_mrefused k0 ?_⟩⟩
    · simp only [tl_some, e268_0, e268_1, e268_2, e268_5, e268_6, e268_9, e268_12, e268_13, e268_14, e268_17, e268_18, e268_19, e268_22, e268_25, e268_26, e268_29, e268_32, e268_33, e268_35, e268_38, e268_39, e268_40, e268_43, e268_46, e268_47, e268_48, e268_49, e268_50, e268_53, e268_56, e268_9r]
      refine ⟨by simp, c_mgood k0 ?_⟩
      simp only [tl_some, e268_0, e268_1, e268_2, e268_5, e268_6, e268_9, e268_12, e268_13, e268_14, e268_17, e268_18, e268_19, e268_22, e268_25, e268_26, e268_29, e268_32, e268_33, e268_35, e268_38, e268_39, e268_40, e268_43, e268_46, e268_47, e268_48, e268_49, e268_50, e268_53, e268_56, e268_9r]
      exact mansQ (hI.qq es hO.2.1 g2 g1.mh) (hF.trans (g2.frm ha1)) hQ (by rw [esp, if_pos z, OT_MC hfm])
    · simp only [tl_some, e268_0, e268_1, e268_2, e268_5, e268_6, e268_9, e268_12, e268_13, e268_14, e268_17, e268_18, e268_19, e268_22, e268_25, e268_26, e268_29, e268_32, e268_33, e268_35, e268_38, e268_39, e268_40, e268_43, e268_46, e268_47, e268_48, e268_49, e268_50, e268_53, e268_56, e268_9r]
      exact mrefQ hI hF hQ (k := 3) (by decide) (by rw [esp, if_neg z])
theorem c_m_ahead (hV : InvM q P (n, K, FI, FL, FR, AI, AL, AR)) {i j : Int32} (hQ : ∀ μ', InvM q (rs P (sp_ahead P i j)) μ' → FrM q (n, K, FI, FL, FR, AI, AL, AR) μ' → Q (some (.int (rv (sp_ahead P i j)))) μ') : EV sa (d + 17) 269 [.ref q, .int i, .int j] (n, K, FI, FL, FR, AI, AL, AR) Q := by
  have hI0 : MInv q P n K FR FI AI AL := hV
  have k0 := hI0.1.1
  refine n269 k0 ?_
  simp only [e269_0, e269_1, e269_2, e269_5, e269_6, e269_7, e269_10, e269_13, e269_14, e269_15, e269_18, e269_21, e269_22, e269_23, e269_26, e269_27, e269_28, e269_31, e269_32, e269_33, e269_34, e269_37, e269_40, e269_43, e269_44, e269_45, e269_48, e269_51, e269_54, e269_55, e269_56, e269_59, e269_60, e269_61, e269_64, e269_67, e269_68, e269_71, e269_74, e269_75, e269_77, e269_80, e269_81, e269_82, e269_85, e269_88, e269_89, e269_90, e269_91, e269_92, e269_95, e269_98, e269_99, e269_100, e269_101, e269_104, e269_107, e269_108, e269_111, e269_114, k0, true_and]
  have hI := hI0.th (v := 0)
  have hF : FrM q (n, K, FI, FL, FR, AI, AL, AR) (n, K, mj_u2 FI 640 q 0, FL, FR, AI, AL, AR) := FrM.f
  generalize mj_u2 FI 640 q 0 = F at hI hF ⊢
  have no : ¬ (isHg P i = true ∧ isHg P j = true ∧ i ≠ j) → EV sa (d + 16) 163 [.ref q, .int 1] (n, K, F, FL, FR, AI, AL, AR) (fun v μ' => WP sa (EV sa (d + 16)) 269 Q 0 0 31 [.ref q, .int i, .int j] (v.toList ++ []) μ') := fun hn => by
    refine c_mrefused k0 ?_
    simp only [tl_some, e269_0, e269_1, e269_2, e269_5, e269_6, e269_7, e269_10, e269_13, e269_14, e269_15, e269_18, e269_21, e269_22, e269_23, e269_26, e269_27, e269_28, e269_31, e269_32, e269_33, e269_34, e269_37, e269_40, e269_43, e269_44, e269_45, e269_48, e269_51, e269_54, e269_55, e269_56, e269_59, e269_60, e269_61, e269_64, e269_67, e269_68, e269_71, e269_74, e269_75, e269_77, e269_80, e269_81, e269_82, e269_85, e269_88, e269_89, e269_90, e269_91, e269_92, e269_95, e269_98, e269_99, e269_100, e269_101, e269_104, e269_107, e269_108, e269_111, e269_114]
    exact mrefQ hI hF hQ (k := 1) (by decide) (by unfold sp_ahead; rw [if_neg hn])
  refine ⟨by simp, c_misHung hI ?_⟩
  simp only [tl_some, e269_0, e269_1, e269_2, e269_5, e269_6, e269_7, e269_10, e269_13, e269_14, e269_15, e269_18, e269_21, e269_22, e269_23, e269_26, e269_27, e269_28, e269_31, e269_32, e269_33, e269_34, e269_37, e269_40, e269_43, e269_44, e269_45, e269_48, e269_51, e269_54, e269_55, e269_56, e269_59, e269_60, e269_61, e269_64, e269_67, e269_68, e269_71, e269_74, e269_75, e269_77, e269_80, e269_81, e269_82, e269_85, e269_88, e269_89, e269_90, e269_91, e269_92, e269_95, e269_98, e269_99, e269_100, e269_101, e269_104, e269_107, e269_108, e269_111, e269_114, bI_eq0]
  refine ⟨fun z => ⟨by simp, no (fun y => by rw [z] at y; cases y.1)⟩, fun z => ⟨by simp, c_misHung hI ?_⟩⟩
  simp only [tl_some, e269_0, e269_1, e269_2, e269_5, e269_6, e269_7, e269_10, e269_13, e269_14, e269_15, e269_18, e269_21, e269_22, e269_23, e269_26, e269_27, e269_28, e269_31, e269_32, e269_33, e269_34, e269_37, e269_40, e269_43, e269_44, e269_45, e269_48, e269_51, e269_54, e269_55, e269_56, e269_59, e269_60, e269_61, e269_64, e269_67, e269_68, e269_71, e269_74, e269_75, e269_77, e269_80, e269_81, e269_82, e269_85, e269_88, e269_89, e269_90, e269_91, e269_92, e269_95, e269_98, e269_99, e269_100, e269_101, e269_104, e269_107, e269_108, e269_111, e269_114, bI_eq0]
  refine ⟨fun z2 => ⟨by simp, no (fun y => by rw [z2] at y; cases y.2.1)⟩, fun z2 => ⟨fun z3 => ?_, fun z3 => ⟨by simp, no (fun y => z3 y.2.2)⟩⟩⟩
  have hi1 := ts_nf z
  have hj1 := ts_nf z2
  obtain ⟨s, es, ei, hi, p1, p2, p3, p4⟩ := misH hI hi1
  obtain ⟨s', es', ej, hj, -⟩ := misH hI hj1
  rw [es] at es'
  cases es'
  obtain ⟨hSt, -, -, hWW⟩ := id hI
  rw [es] at hWW
  obtain ⟨a, hO, ha1, ha2, hSP, hE, -⟩ := hWW
  have hfm := hE.1
  have h30 := hO.mh.2.1
  have w7 := hO.1.2.2.2.1.1.2.2.2.2.2.2.1
  have esp : sp_ahead P i j = (if i.toNatClampNeg < wF s.1 ∨ j.toNatClampNeg < wF s.1 then .inl 5 else if s.2.1.2.1 - wF s.1 ≤ 7 then .inr (nI (OA s.1 s.2.1.1 s.2.1.2.1 i.toNatClampNeg j.toNatClampNeg (s.2.1.2.1 - wF s.1) (fun _ => false) (fun _ => false) false s.2.1.1 (wF s.1))) else .inl 3) := by
    unfold sp_ahead
    rw [if_pos ⟨hi1, hj1, z3⟩, p1, p2, p3]
  generalize hii : i.toNatClampNeg = I at *
  generalize hjj : j.toNatClampNeg = J at *
  subst ei
  subst ej
  have no5 : (I < wF s.1 ∨ J < wF s.1) → EV sa (d + 16) 163 [.ref q, .int 5] (n, K, F, FL, FR, AI, AL, AR) (fun v μ' => WP sa (EV sa (d + 16)) 269 Q 0 0 59 [.ref q, .int (nI I), .int (nI J)] (v.toList ++ []) μ') := fun h => by
    refine c_mrefused k0 ?_
    simp only [tl_some, e269_0, e269_1, e269_2, e269_5, e269_6, e269_7, e269_10, e269_13, e269_14, e269_15, e269_18, e269_21, e269_22, e269_23, e269_26, e269_27, e269_28, e269_31, e269_32, e269_33, e269_34, e269_37, e269_40, e269_43, e269_44, e269_45, e269_48, e269_51, e269_54, e269_55, e269_56, e269_59, e269_60, e269_61, e269_64, e269_67, e269_68, e269_71, e269_74, e269_75, e269_77, e269_80, e269_81, e269_82, e269_85, e269_88, e269_89, e269_90, e269_91, e269_92, e269_95, e269_98, e269_99, e269_100, e269_101, e269_104, e269_107, e269_108, e269_111, e269_114]
    exact mrefQ hI hF hQ (k := 5) (by decide) (by rw [esp, if_pos h])
  simp only [e269_0, e269_1, e269_2, e269_5, e269_6, e269_7, e269_10, e269_13, e269_14, e269_15, e269_18, e269_21, e269_22, e269_23, e269_26, e269_27, e269_28, e269_31, e269_32, e269_33, e269_34, e269_37, e269_40, e269_43, e269_44, e269_45, e269_48, e269_51, e269_54, e269_55, e269_56, e269_59, e269_60, e269_61, e269_64, e269_67, e269_68, e269_71, e269_74, e269_75, e269_77, e269_80, e269_81, e269_82, e269_85, e269_88, e269_89, e269_90, e269_91, e269_92, e269_95, e269_98, e269_99, e269_100, e269_101, e269_104, e269_107, e269_108, e269_111, e269_114, hO.2.1, rf_some, k0, hO.1.2.1.1, w7, nI_ltI (show I < 2 ^ 31 by omega) (show wF s.1 < 2 ^ 31 by omega), nI_leI (show wF s.1 < 2 ^ 31 by omega) (show J < 2 ^ 31 by omega), true_and]
  refine ⟨fun y => ⟨by simp, no5 (Or.inl y)⟩, fun y => ⟨fun y2 => ?_, fun y2 => ⟨by simp, no5 (Or.inr (by omega))⟩⟩⟩
  simp only [e269_0, e269_1, e269_2, e269_5, e269_6, e269_7, e269_10, e269_13, e269_14, e269_15, e269_18, e269_21, e269_22, e269_23, e269_26, e269_27, e269_28, e269_31, e269_32, e269_33, e269_34, e269_37, e269_40, e269_43, e269_44, e269_45, e269_48, e269_51, e269_54, e269_55, e269_56, e269_59, e269_60, e269_61, e269_64, e269_67, e269_68, e269_71, e269_74, e269_75, e269_77, e269_80, e269_81, e269_82, e269_85, e269_88, e269_89, e269_90, e269_91, e269_92, e269_95, e269_98, e269_99, e269_100, e269_101, e269_104, e269_107, e269_108, e269_111, e269_114, hO.2.2, rf_some, k0, true_and]
  refine ⟨by simp, c_many hO.1.2.2.2.2.1 ?_⟩
  rw [hO.mh.1]
  rw [if_neg (by omega)] at esp
  simp only [tl_some, hO.2.1, rf_some, e269_0, e269_1, e269_2, e269_5, e269_6, e269_7, e269_10, e269_13, e269_14, e269_15, e269_18, e269_21, e269_22, e269_23, e269_26, e269_27, e269_28, e269_31, e269_32, e269_33, e269_34, e269_37, e269_40, e269_43, e269_44, e269_45, e269_48, e269_51, e269_54, e269_55, e269_56, e269_59, e269_60, e269_61, e269_64, e269_67, e269_68, e269_71, e269_74, e269_75, e269_77, e269_80, e269_81, e269_82, e269_85, e269_88, e269_89, e269_90, e269_91, e269_92, e269_95, e269_98, e269_99, e269_100, e269_101, e269_104, e269_107, e269_108, e269_111, e269_114, k0, hO.1.2.1.1, w7, pk_sub hfm, pk_sub (show wF s.1 ≤ I by omega), pk_sub (show wF s.1 ≤ J by omega), show (7 : Int32) = nI 7 from rfl, nI_leI (show s.2.1.2.1 - wF s.1 < 2 ^ 31 by omega) (show 7 < 2 ^ 31 by decide), true_and]
  refine ⟨fun z => ⟨by simp, c_ordersNow (ab := some (I, J)) hSt hO hfm z ⟨rfl, rfl, by omega, hi, by omega, hj⟩ fun F2 A2 L2 g1 g2 => ?_⟩, fun z => ⟨by simp, c_mrefused k0 ?_⟩⟩
  · simp only [tl_some, e269_0, e269_1, e269_2, e269_5, e269_6, e269_7, e269_10, e269_13, e269_14, e269_15, e269_18, e269_21, e269_22, e269_23, e269_26, e269_27, e269_28, e269_31, e269_32, e269_33, e269_34, e269_37, e269_40, e269_43, e269_44, e269_45, e269_48, e269_51, e269_54, e269_55, e269_56, e269_59, e269_60, e269_61, e269_64, e269_67, e269_68, e269_71, e269_74, e269_75, e269_77, e269_80, e269_81, e269_82, e269_85, e269_88, e269_89, e269_90, e269_91, e269_92, e269_95, e269_98, e269_99, e269_100, e269_101, e269_104, e269_107, e269_108, e269_111, e269_114]
    refine ⟨by simp, c_mgood k0 ?_⟩
    simp only [tl_some, e269_0, e269_1, e269_2, e269_5, e269_6, e269_7, e269_10, e269_13, e269_14, e269_15, e269_18, e269_21, e269_22, e269_23, e269_26, e269_27, e269_28, e269_31, e269_32, e269_33, e269_34, e269_37, e269_40, e269_43, e269_44, e269_45, e269_48, e269_51, e269_54, e269_55, e269_56, e269_59, e269_60, e269_61, e269_64, e269_67, e269_68, e269_71, e269_74, e269_75, e269_77, e269_80, e269_81, e269_82, e269_85, e269_88, e269_89, e269_90, e269_91, e269_92, e269_95, e269_98, e269_99, e269_100, e269_101, e269_104, e269_107, e269_108, e269_111, e269_114]
    exact mansQ (hI.qq es hO.2.1 g2 g1.mh) (hF.trans (g2.frm ha1)) hQ (by rw [esp, if_pos z, OA_MC hfm (by omega) hj])
  · simp only [tl_some, e269_0, e269_1, e269_2, e269_5, e269_6, e269_7, e269_10, e269_13, e269_14, e269_15, e269_18, e269_21, e269_22, e269_23, e269_26, e269_27, e269_28, e269_31, e269_32, e269_33, e269_34, e269_37, e269_40, e269_43, e269_44, e269_45, e269_48, e269_51, e269_54, e269_55, e269_56, e269_59, e269_60, e269_61, e269_64, e269_67, e269_68, e269_71, e269_74, e269_75, e269_77, e269_80, e269_81, e269_82, e269_85, e269_88, e269_89, e269_90, e269_91, e269_92, e269_95, e269_98, e269_99, e269_100, e269_101, e269_104, e269_107, e269_108, e269_111, e269_114]
    exact mrefQ hI hF hQ (k := 3) (by decide) (by rw [esp, if_neg z])
end
