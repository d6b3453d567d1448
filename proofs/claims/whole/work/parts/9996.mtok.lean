/-! ## the model's reading: tokens -/
def BT (T : Nat → Int32) : Prop := ∀ k, ∃ n, n < 256 ∧ T k = (Int8.ofNat n).toInt32
theorem byte_all : ∀ n, n < 256 → ((((Int8.ofNat n).toInt32 &&& 255 = 32) ↔ ((Int8.ofNat n).toInt32 = 32)) ∧ (((97 ≤ (Int8.ofNat n).toInt32 &&& 255) ∧ ((Int8.ofNat n).toInt32 &&& 255 ≤ 122)) ↔ ((97 ≤ (Int8.ofNat n).toInt32) ∧ ((Int8.ofNat n).toInt32 ≤ 122))) ∧ (((48 ≤ (Int8.ofNat n).toInt32 &&& 255) ∧ ((Int8.ofNat n).toInt32 &&& 255 ≤ 57)) ↔ ((48 ≤ (Int8.ofNat n).toInt32) ∧ ((Int8.ofNat n).toInt32 ≤ 57)))) ∧ ((48 ≤ (Int8.ofNat n).toInt32 → (Int8.ofNat n).toInt32 &&& 255 = (Int8.ofNat n).toInt32) ∧ (((Int8.ofNat n).toInt32 &&& 255 = 59) ↔ ((Int8.ofNat n).toInt32 = 59)) ∧ (((Int8.ofNat n).toInt32 &&& 255 = 44) ↔ ((Int8.ofNat n).toInt32 = 44)) ∧ ¬ (Int8.ofNat n).toInt32 &&& 255 = -1) := by decide +kernel
def bv (T : Nat → Int32) (E k : Nat) : Int32 := if k < E then T k &&& 255 else -1
section
variable {T : Nat → Int32} {E k : Nat}
theorem bv_sp (h : BT T) : bv T E k = 32 ↔ (k < E ∧ isSp (T k) = true) := by
  obtain ⟨n, hn, e⟩ := h k
  unfold bv isSp
  by_cases z : k < E
  · rw [if_pos z, e, (byte_all n hn).1.1, decide_eq_true_eq]; exact ⟨fun y => ⟨z, y⟩, fun y => y.2⟩
  · rw [if_neg z]; exact ⟨fun y => absurd y (by decide), fun y => absurd y.1 z⟩
theorem bv_let (h : BT T) : isLet (bv T E k) = (decide (k < E) && isLet (T k)) := by
  obtain ⟨n, hn, e⟩ := h k
  unfold bv isLet
  by_cases z : k < E
  · rw [if_pos z, e, decide_eq_true z, Bool.true_and, decide_eq_decide]; exact (byte_all n hn).1.2.1
  · rw [if_neg z, decide_eq_false z, Bool.false_and]; decide
theorem bv_dig (h : BT T) : isDig (bv T E k) = (decide (k < E) && isDig (T k)) := by
  obtain ⟨n, hn, e⟩ := h k
  unfold bv isDig
  by_cases z : k < E
  · rw [if_pos z, e, decide_eq_true z, Bool.true_and, decide_eq_decide]; exact (byte_all n hn).1.2.2
  · rw [if_neg z, decide_eq_false z, Bool.false_and]; decide
theorem bv_val (h : BT T) (hk : k < E) (h2 : isLet (T k) = true ∨ isDig (T k) = true) : bv T E k = T k := by
  obtain ⟨n, hn, e⟩ := h k
  unfold bv
  rw [if_pos hk, e]
  refine (byte_all n hn).2.1 ?_
  rw [← e]
  rcases h2 with z | z
  · simp only [isLet, decide_eq_true_eq] at z
    exact Int32.le_trans (by decide) z.1
  · simp only [isDig, decide_eq_true_eq] at z
    exact z.1
theorem bv_59 (h : BT T) : bv T E k = 59 ↔ (k < E ∧ T k = 59) := by
  obtain ⟨n, hn, e⟩ := h k
  unfold bv
  by_cases z : k < E
  · rw [if_pos z, e, (byte_all n hn).2.2.1]; exact ⟨fun y => ⟨z, y⟩, fun y => y.2⟩
  · rw [if_neg z]; exact ⟨fun y => absurd y (by decide), fun y => absurd y.1 z⟩
theorem bv_44 (h : BT T) : bv T E k = 44 ↔ (k < E ∧ T k = 44) := by
  obtain ⟨n, hn, e⟩ := h k
  unfold bv
  by_cases z : k < E
  · rw [if_pos z, e, (byte_all n hn).2.2.2.1]; exact ⟨fun y => ⟨z, y⟩, fun y => y.2⟩
  · rw [if_neg z]; exact ⟨fun y => absurd y (by decide), fun y => absurd y.1 z⟩
theorem bv_m1 (h : BT T) : bv T E k = -1 ↔ E ≤ k := by
  obtain ⟨n, hn, e⟩ := h k
  unfold bv
  by_cases z : k < E
  · rw [if_pos z, e]; exact ⟨fun y => absurd y (byte_all n hn).2.2.2.2, fun y => by omega⟩
  · rw [if_neg z]; exact ⟨fun _ => by omega, fun _ => rfl⟩
end
/-- a word as a number -/
def pkf (f : Nat → Nat) : Nat → Nat
  | 0 => 0
  | k + 1 => 32 * pkf f k + (f k + 1)
theorem pkf_lt {f : Nat → Nat} : ∀ {k : Nat}, (∀ j, j < k → f j < 26) → pkf f k < 32 ^ k
  | 0, _ => by simp [pkf]
  | k + 1, h => by
    have h1 := pkf_lt (f := f) (k := k) (fun j hj => h j (by omega))
    have h2 := h k (by omega)
    simp only [pkf, Nat.pow_succ]
    omega
theorem pkf_inj {f g : Nat → Nat} : ∀ {k l : Nat}, (∀ j, j < k → f j < 26) → (∀ j, j < l → g j < 26) → pkf f k = pkf g l → k = l ∧ ∀ j, j < k → f j = g j
  | 0, 0, _, _, _ => ⟨rfl, fun j hj => by omega⟩
  | 0, l + 1, _, h2, e => by simp only [pkf] at e; omega
  | k + 1, 0, h1, _, e => by simp only [pkf] at e; omega
  | k + 1, l + 1, h1, h2, e => by
    have a1 := h1 k (by omega)
    have a2 := h2 l (by omega)
    simp only [pkf] at e
    obtain ⟨e1, e2⟩ := pkf_inj (f := f) (g := g) (k := k) (l := l) (fun j hj => h1 j (by omega)) (fun j hj => h2 j (by omega)) (by omega)
    subst e1
    refine ⟨rfl, fun j hj => ?_⟩
    by_cases z : j = k
    · subst z; omega
    · exact e2 j (by omega)
theorem pkf_congr {f g : Nat → Nat} : ∀ {k : Nat}, (∀ j, j < k → f j = g j) → pkf f k = pkf g k
  | 0, _ => rfl
  | k + 1, h => by simp only [pkf]; rw [pkf_congr (fun j hj => h j (by omega)), h k (by omega)]
theorem pkf_40 {f : Nat → Nat} {k : Nat} (h8 : k ≤ 8) (h : ∀ j, j < k → f j < 26) : pkf f k < 2 ^ 62 := by
  have h1 := pkf_lt h
  have h2 : 32 ^ k ≤ 32 ^ 8 := Nat.pow_le_pow_right (by decide) h8
  have h3 : (32 : Nat) ^ 8 < 2 ^ 62 := by decide
  omega
def msr (s : Nat) : Nat := if s = 0 then 1 else if s = 1 then 2 else if s = 2 then 3 else if s = 3 then 4 else if s = 4 then 4 else 0
def sgn (s : Nat) : Int32 := if s = 3 then 59 else if s = 4 then 44 else 0
def MTok (FI AI : Nat → Nat → Int32) (FL : Nat → Nat → Int64) (q : Nat) (T : Nat → Int32) (E p : Nat) : Prop := (FI 651 q = nI E ∧ p ≤ E) ∧ (srt T E p ≠ 5 → FI 652 q = nI (nxt T E p)) ∧ FI 653 q = nI (msr (srt T E p)) ∧ FI 654 q = nI p ∧ FI 655 q = sgn (srt T E p) ∧ (srt T E p = 1 → FI 657 q = nI (wl T E p) ∧ FL 661 q = lN (pkf (lt T p) (wl T E p)) ∧ ∀ k, k < wl T E p → AI (q + 4) k = nI (lt T p k)) ∧ (srt T E p = 2 → FI 656 q = nI (nmv T E p))
def tFs : List Nat := [652, 653, 654, 655, 656, 657]
/-- what reading a token changes -/
def TZ (q : Nat) (FI FI' AI AI' : Nat → Nat → Int32) (FL FL' : Nat → Nat → Int64) : Prop := FIx FI FI' q tFs ∧ FLx FL FL' q [661] ∧ AIx AI AI' (q + 4) (q + 4)
theorem TZ.rfl' {q : Nat} {FI AI : Nat → Nat → Int32} {FL : Nat → Nat → Int64} : TZ q FI FI AI AI FL FL := ⟨FIx.rfl', FLx.rfl', AIx.rfl'⟩
theorem TZ.trans {q : Nat} {FI F1 F2 AI A1 A2 : Nat → Nat → Int32} {FL L1 L2 : Nat → Nat → Int64} (a : TZ q FI F1 AI A1 FL L1) (b : TZ q F1 F2 A1 A2 L1 L2) : TZ q FI F2 AI A2 FL L2 := ⟨a.1.same b.1, a.2.1.trans b.2.1, a.2.2.trans b.2.2⟩
theorem TZ.fi {q k : Nat} {v : Int32} {FI AI : Nat → Nat → Int32} {FL : Nat → Nat → Int64} (hk : k ∈ tFs) : TZ q FI (mj_u2 FI k q v) AI AI FL FL := ⟨FIx_u2 hk, FLx.rfl', AIx.rfl'⟩
section
variable {sa : Nat → Nat} {d n t h m : Nat} {Q : mj_Q} {K : Nat → Nat × Nat} {FI : Nat → Nat → Int32} {FL : Nat → Nat → Int64} {FR : Nat → Nat → Option Nat} {AI : Nat → Nat → Int32} {AL : Nat → Nat → Int64} {AR : Nat → Nat → Option Nat} {w : Wl} {hs : Nat → Hg}
variable {q E p : Nat} {T : Nat → Int32}
theorem c_mbyteAt (hSt : MStS K FR q) (hT : AI (q + 3) = T) (e1 : FI 651 q = nI E) (hE : E ≤ 900) {i : Nat} (hi : i ≤ E) (hQ : Q (some (.int (bv T E i))) (n, K, FI, FL, FR, AI, AL, AR)) : EV sa (d + 1) 178 [.ref q, .int (nI i)] (n, K, FI, FL, FR, AI, AL, AR) Q := by
  obtain ⟨k0, -, -, ⟨f3, k3⟩, -⟩ := id hSt
  unfold bv at hQ
  refine n178 k0 ?_
  by_cases z : i < E
  · have hin : vp_in (nI i) 900 := vp_in_nI (by omega) (by decide)
    have hcl : (nI i).toNatClampNeg = i := nI_clamp (by omega)
    rw [if_pos z] at hQ
    simp only [e178_0, e178_1, e178_2, e178_5, e178_8, e178_9, e178_12, e178_13, e178_14, e178_17, e178_18, e178_21, e178_22, k0, e1, f3, k3, rf_some, hin, hcl, hT, true_and]
    exact ⟨fun y => absurd y (nI_ge z (by omega)), fun _ => hQ⟩
  · rw [if_neg z] at hQ
    simp only [e178_0, e178_1, e178_2, e178_5, e178_8, e178_9, e178_12, e178_13, e178_14, e178_17, e178_18, e178_21, e178_22, k0, e1, true_and]
    exact ⟨fun _ => hQ, fun y => absurd (nI_le (by omega) (by omega)) y⟩
theorem c_misLetter {x : Int32} {μ : mj_M} (hQ : Q (some (.int (bI (isLet x)))) μ) : EV sa (d + 1) 179 [.int x] μ Q := by
  unfold isLet at hQ
  refine n179 ?_
  simp only [e179_0, e179_1, e179_3, e179_6, e179_7, e179_9, e179_12, e179_13, e179_16, e179_17, true_or, or_true, true_and]
  refine ⟨fun z => ?_, fun z => ⟨fun z2 => ?_, fun z2 => ?_⟩⟩
  · rw [decide_eq_false (fun y => absurd y.1 (Int32.not_le.mpr z))] at hQ; exact hQ
  · rw [decide_eq_false (fun y => absurd y.2 (Int32.not_le.mpr z2))] at hQ; exact hQ
  · rw [decide_eq_true ⟨Int32.not_lt.mp z, Int32.not_lt.mp z2⟩] at hQ; exact hQ
theorem c_misDigit {x : Int32} {μ : mj_M} (hQ : Q (some (.int (bI (isDig x)))) μ) : EV sa (d + 1) 180 [.int x] μ Q := by
  unfold isDig at hQ
  refine n180 ?_
  simp only [e180_0, e180_1, e180_3, e180_6, e180_7, e180_9, e180_12, e180_13, e180_16, e180_17, true_or, or_true, true_and]
  refine ⟨fun z => ?_, fun z => ⟨fun z2 => ?_, fun z2 => ?_⟩⟩
  · rw [decide_eq_false (fun y => absurd y.1 (Int32.not_le.mpr z))] at hQ; exact hQ
  · rw [decide_eq_false (fun y => absurd y.2 (Int32.not_le.mpr z2))] at hQ; exact hQ
  · rw [decide_eq_true ⟨Int32.not_lt.mp z, Int32.not_lt.mp z2⟩] at hQ; exact hQ
theorem c_mgoesOn (hSt : MStS K FR q) (hT : AI (q + 3) = T) (hB : BT T) (e1 : FI 651 q = nI E) (hE : E ≤ 900) (h5 : ¬ FI 653 q = 5) {i : Nat} (hi : i ≤ E) (e2 : FI 652 q = nI i) (hQ : ∀ (FI' AI' : Nat → Nat → Int32) (FL' : Nat → Nat → Int64), MTok FI' AI' FL' q T E (rn isSp T E i) → TZ q FI FI' AI AI' FL FL' → Q none (n, K, FI', FL', FR, AI', AL, AR)) : EV sa (d + 2) 182 [.ref q] (n, K, FI, FL, FR, AI, AL, AR) Q := by
  obtain ⟨k0, -, -, -, ⟨f4, k4⟩, -⟩ := id hSt
  generalize hp : rn isSp T E i = p at hQ
  have hpE : p ≤ E := by rw [← hp]; exact rn_le hi
  -- behind the blanks
  have tail : ∀ F : Nat → Nat → Int32, FIx FI F q tFs → F 651 q = nI E → F 652 q = nI p → WP sa (EV sa (d + 1)) 182 Q 0 0 35 [.ref q, mj_u, mj_u] [] (n, K, F, FL, FR, AI, AL, AR) := by
    intro F hF g1 g2
    simp only [e182_0, e182_1, e182_4, e182_5, e182_8, e182_10, e182_11, e182_14, e182_17, e182_19, e182_22, e182_23, e182_23i, e182_24, e182_27, e182_28, e182_29, e182_32, e182_35, e182_36, e182_37, e182_40, e182_43, e182_44, e182_45, e182_48, e182_49, e182_50, e182_53, e182_54, e182_55, e182_58, e182_61, e182_62, e182_63, e182_64, e182_65, e182_66, e182_69, e182_70, e182_71, e182_74, e182_77, e182_78, e182_81, e182_84, e182_85, e182_86, e182_90, e182_91, e182_94, e182_97, e182_100, e182_103, e182_104, e182_106, e182_109, e182_110, e182_113, e182_114, e182_115, e182_116, e182_119, e182_122, e182_124, e182_125, e182_126, e182_127, e182_130, e182_131, e182_134, e182_135, e182_136, e182_139, e182_140, e182_141, e182_142, e182_143, e182_144, e182_145, e182_148, e182_151, e182_152, e182_152i, e182_153, e182_156, e182_157, e182_158, e182_161, e182_164, e182_165, e182_166, e182_169, e182_170, e182_172, e182_175, e182_176, e182_177, e182_180, e182_183, e182_184, e182_187, e182_190, e182_191, e182_192, e182_196, e182_197, e182_200, e182_203, e182_206, e182_209, e182_210, e182_211, e182_214, e182_215, e182_217, e182_218, e182_221, e182_222, e182_223, e182_224, e182_227, e182_230, e182_231, e182_233, e182_234, e182_237, e182_240, e182_241, e182_241i, e182_242, e182_245, e182_246, e182_247, e182_250, e182_253, e182_254, e182_255, e182_258, e182_259, e182_260, e182_263, e182_266, e182_267, e182_269, e182_272, e182_273, e182_275, e182_278, e182_279, e182_280, e182_283, e182_284, e182_285, e182_288, e182_289, e182_289i, e182_290, e182_293, e182_294, e182_295, e182_298, k0, g2, true_and]
    generalize hG : mj_u2 (mj_u2 (mj_u2 F 654 q (nI p)) 653 q 0) 655 q 0 = G
    have hFG : FIx FI G q tFs := by rw [← hG]; exact ((hF.same (FIx_u2 (by decide))).same (FIx_u2 (by decide))).same (FIx_u2 (by decide))
    have G1 : G 651 q = nI E := by rw [← hG, mj_u2_1 (by decide), mj_u2_1 (by decide), mj_u2_1 (by decide)]; exact g1
    have G2 : G 652 q = nI p := by rw [← hG, mj_u2_1 (by decide), mj_u2_1 (by decide), mj_u2_1 (by decide)]; exact g2
    have G3 : G 653 q = nI 0 := by rw [← hG, mj_u2_1 (by decide), mj_u2_s]; rfl
    have G4 : G 654 q = nI p := by rw [← hG, mj_u2_1 (by decide), mj_u2_1 (by decide), mj_u2_s]
    have G5 : G 655 q = 0 := by rw [← hG, mj_u2_s]
    have eG2 : mj_u2 (mj_u2 (mj_u2 F 654 q (nI p)) 653 q 0) 655 q 0 652 q = nI p := by rw [hG]; exact G2
    rw [G2]
    refine ⟨by simp, ?_⟩
    refine c_mbyteAt hSt hT G1 hE hpE ?_
    simp only [tl_some, e182_0, e182_1, e182_4, e182_5, e182_8, e182_10, e182_11, e182_14, e182_17, e182_19, e182_22, e182_23, e182_23i, e182_24, e182_27, e182_28, e182_29, e182_32, e182_35, e182_36, e182_37, e182_40, e182_43, e182_44, e182_45, e182_48, e182_49, e182_50, e182_53, e182_54, e182_55, e182_58, e182_61, e182_62, e182_63, e182_64, e182_65, e182_66, e182_69, e182_70, e182_71, e182_74, e182_77, e182_78, e182_81, e182_84, e182_85, e182_86, e182_90, e182_91, e182_94, e182_97, e182_100, e182_103, e182_104, e182_106, e182_109, e182_110, e182_113, e182_114, e182_115, e182_116, e182_119, e182_122, e182_124, e182_125, e182_126, e182_127, e182_130, e182_131, e182_134, e182_135, e182_136, e182_139, e182_140, e182_141, e182_142, e182_143, e182_144, e182_145, e182_148, e182_151, e182_152, e182_152i, e182_153, e182_156, e182_157, e182_158, e182_161, e182_164, e182_165, e182_166, e182_169, e182_170, e182_172, e182_175, e182_176, e182_177, e182_180, e182_183, e182_184, e182_187, e182_190, e182_191, e182_192, e182_196, e182_197, e182_200, e182_203, e182_206, e182_209, e182_210, e182_211, e182_214, e182_215, e182_217, e182_218, e182_221, e182_222, e182_223, e182_224, e182_227, e182_230, e182_231, e182_233, e182_234, e182_237, e182_240, e182_241, e182_241i, e182_242, e182_245, e182_246, e182_247, e182_250, e182_253, e182_254, e182_255, e182_258, e182_259, e182_260, e182_263, e182_266, e182_267, e182_269, e182_272, e182_273, e182_275, e182_278, e182_279, e182_280, e182_283, e182_284, e182_285, e182_288, e182_289, e182_289i, e182_290, e182_293, e182_294, e182_295, e182_298, mj_kl, bv_m1 hB]
    refine ⟨fun hne => ⟨by simp, c_misLetter ?_⟩, fun hend => ?_⟩
    · have hpl : p < E := by omega
      rw [bv_let hB, decide_eq_true hpl, Bool.true_and]
      simp only [tl_some, e182_0, e182_1, e182_4, e182_5, e182_8, e182_10, e182_11, e182_14, e182_17, e182_19, e182_22, e182_23, e182_23i, e182_24, e182_27, e182_28, e182_29, e182_32, e182_35, e182_36, e182_37, e182_40, e182_43, e182_44, e182_45, e182_48, e182_49, e182_50, e182_53, e182_54, e182_55, e182_58, e182_61, e182_62, e182_63, e182_64, e182_65, e182_66, e182_69, e182_70, e182_71, e182_74, e182_77, e182_78, e182_81, e182_84, e182_85, e182_86, e182_90, e182_91, e182_94, e182_97, e182_100, e182_103, e182_104, e182_106, e182_109, e182_110, e182_113, e182_114, e182_115, e182_116, e182_119, e182_122, e182_124, e182_125, e182_126, e182_127, e182_130, e182_131, e182_134, e182_135, e182_136, e182_139, e182_140, e182_141, e182_142, e182_143, e182_144, e182_145, e182_148, e182_151, e182_152, e182_152i, e182_153, e182_156, e182_157, e182_158, e182_161, e182_164, e182_165, e182_166, e182_169, e182_170, e182_172, e182_175, e182_176, e182_177, e182_180, e182_183, e182_184, e182_187, e182_190, e182_191, e182_192, e182_196, e182_197, e182_200, e182_203, e182_206, e182_209, e182_210, e182_211, e182_214, e182_215, e182_217, e182_218, e182_221, e182_222, e182_223, e182_224, e182_227, e182_230, e182_231, e182_233, e182_234, e182_237, e182_240, e182_241, e182_241i, e182_242, e182_245, e182_246, e182_247, e182_250, e182_253, e182_254, e182_255, e182_258, e182_259, e182_260, e182_263, e182_266, e182_267, e182_269, e182_272, e182_273, e182_275, e182_278, e182_279, e182_280, e182_283, e182_284, e182_285, e182_288, e182_289, e182_289i, e182_290, e182_293, e182_294, e182_295, e182_298, bI_eq0, mj_kl]
      refine ⟨fun hl0 => ⟨by simp, c_misDigit ?_⟩, fun hl1 => ?_⟩
      · rw [bv_dig hB, decide_eq_true hpl, Bool.true_and]
        simp only [tl_some, e182_0, e182_1, e182_4, e182_5, e182_8, e182_10, e182_11, e182_14, e182_17, e182_19, e182_22, e182_23, e182_23i, e182_24, e182_27, e182_28, e182_29, e182_32, e182_35, e182_36, e182_37, e182_40, e182_43, e182_44, e182_45, e182_48, e182_49, e182_50, e182_53, e182_54, e182_55, e182_58, e182_61, e182_62, e182_63, e182_64, e182_65, e182_66, e182_69, e182_70, e182_71, e182_74, e182_77, e182_78, e182_81, e182_84, e182_85, e182_86, e182_90, e182_91, e182_94, e182_97, e182_100, e182_103, e182_104, e182_106, e182_109, e182_110, e182_113, e182_114, e182_115, e182_116, e182_119, e182_122, e182_124, e182_125, e182_126, e182_127, e182_130, e182_131, e182_134, e182_135, e182_136, e182_139, e182_140, e182_141, e182_142, e182_143, e182_144, e182_145, e182_148, e182_151, e182_152, e182_152i, e182_153, e182_156, e182_157, e182_158, e182_161, e182_164, e182_165, e182_166, e182_169, e182_170, e182_172, e182_175, e182_176, e182_177, e182_180, e182_183, e182_184, e182_187, e182_190, e182_191, e182_192, e182_196, e182_197, e182_200, e182_203, e182_206, e182_209, e182_210, e182_211, e182_214, e182_215, e182_217, e182_218, e182_221, e182_222, e182_223, e182_224, e182_227, e182_230, e182_231, e182_233, e182_234, e182_237, e182_240, e182_241, e182_241i, e182_242, e182_245, e182_246, e182_247, e182_250, e182_253, e182_254, e182_255, e182_258, e182_259, e182_260, e182_263, e182_266, e182_267, e182_269, e182_272, e182_273, e182_275, e182_278, e182_279, e182_280, e182_283, e182_284, e182_285, e182_288, e182_289, e182_289i, e182_290, e182_293, e182_294, e182_295, e182_298, bI_eq0, mj_kl]
        refine ⟨fun hd0 => ?_, fun hd1 => ?_⟩
        · -- a sign or nothing
          have en : nxt T E p = p + 1 := by unfold nxt; rw [if_neg (by omega), if_neg (by simp [hl0]), if_neg (by simp [hd0])]
          have fin : ∀ s, srt T E p = s → (s = 3 ∨ s = 4) → sgn s = bv T E p → Q none (n, K, mj_u2 (mj_u2 (mj_u2 G 653 q 4) 655 q (bv T E p)) 652 q (nI (p + 1)), FL, FR, AI, AL, AR) := fun s hs h34 hsg => by
            refine hQ _ _ _ ⟨⟨?_, hpE⟩, fun _ => ?_, ?_, ?_, ?_, fun h => by omega, fun h => by omega⟩ ⟨((hFG.same (FIx_u2 (by decide))).same (FIx_u2 (by decide))).same (FIx_u2 (by decide)), FLx.rfl', AIx.rfl'⟩
            · rw [mj_u2_1 (by decide), mj_u2_1 (by decide), mj_u2_1 (by decide)]; exact G1
            · rw [mj_u2_s, en]
            · rw [mj_u2_1 (by decide), mj_u2_1 (by decide), mj_u2_s, hs]
              rcases h34 with h | h <;> subst h <;> rfl
            · rw [mj_u2_1 (by decide), mj_u2_1 (by decide), mj_u2_1 (by decide)]; exact G4
            · rw [mj_u2_1 (by decide), mj_u2_s, hs, hsg]
          have es : srt T E p = if T p = 59 then 3 else if T p = 44 then 4 else 5 := by unfold srt; rw [if_neg (by omega), if_neg (by simp [hl0]), if_neg (by simp [hd0])]
          have u1 : mj_u2 (mj_u2 G 653 q 4) 655 q (bv T E p) 652 q = nI p := by rw [mj_u2_1 (by decide), mj_u2_1 (by decide)]; exact G2
          simp only [k0, u1, nI_1, bv_59 hB, bv_44 hB, true_and]
          refine ⟨fun h => fin 3 (by rw [es, if_pos h.2]) (Or.inl rfl) ((bv_59 hB).mpr h).symm, fun h => ⟨fun h2 => ?_, fun h2 => ?_⟩⟩
          · have n59 : ¬ T p = 59 := fun e => h ⟨hpl, e⟩
            have n44 : ¬ T p = 44 := fun e => h2 ⟨hpl, e⟩
            have s5 : srt T E p = 5 := by rw [es, if_neg n59, if_neg n44]
            exact hQ G AI FL ⟨⟨G1, hpE⟩, fun h => absurd s5 h, by rw [s5]; exact G3, G4, by rw [s5]; exact G5, fun h => by omega, fun h => by omega⟩ ⟨hFG, FLx.rfl', AIx.rfl'⟩
          · have h3 := Classical.not_not.mp h2
            have n59 : ¬ T p = 59 := fun e => h ⟨hpl, e⟩
            exact fin 4 (by rw [es, if_neg n59, if_pos h3.2]) (Or.inr rfl) ((bv_44 hB).mpr h3).symm
        · -- a whole
          have hd := ts_nf hd1
          have en : nxt T E p = rn isDig T E p := by unfold nxt; rw [if_neg (by omega), if_neg (by simp [hl0]), if_pos hd]
          have es : srt T E p = if wl T E p ≤ 3 then 2 else 5 := by unfold srt; rw [if_neg (by omega), if_neg (by simp [hl0]), if_pos hd]
          have loop : ∀ rr k, p + k + rr = E → rn isDig T E p = rn isDig T E (p + k) → ∀ F : Nat → Nat → Int32, F 652 q = nI (p + k) → F 656 q = nI (nv T p (min k 3)) → FIx G F q [652, 656] → WP sa (EV sa (d + 1)) 182 Q 0 0 195 [.ref q, .int (bv T E p), .int (nI k)] [] (n, K, F, FL, FR, AI, AL, AR) := by
            intro rr
            have fin : ∀ k, p + k ≤ E → rn isDig T E p = p + k → ∀ F : Nat → Nat → Int32, F 652 q = nI (p + k) → F 656 q = nI (nv T p (min k 3)) → FIx G F q [652, 656] → WP sa (EV sa (d + 1)) 182 Q 0 0 253 [.ref q, .int (bv T E p), .int (nI k)] [] (n, K, F, FL, FR, AI, AL, AR) := by
              intro k hkE hk F a1 a2 a3
              have ew : wl T E p = k := by unfold wl; rw [en, hk]; omega
              rw [ew] at es
              have hFF : FIx FI F q tFs := hFG.same (a3.sub (by decide))
              have o : ∀ f, f ∉ [652, 656] → F f q = G f q := fun f hf => a3 f q (Or.inr hf)
              simp only [e182_0, e182_1, e182_4, e182_5, e182_8, e182_10, e182_11, e182_14, e182_17, e182_19, e182_22, e182_23, e182_23i, e182_24, e182_27, e182_28, e182_29, e182_32, e182_35, e182_36, e182_37, e182_40, e182_43, e182_44, e182_45, e182_48, e182_49, e182_50, e182_53, e182_54, e182_55, e182_58, e182_61, e182_62, e182_63, e182_64, e182_65, e182_66, e182_69, e182_70, e182_71, e182_74, e182_77, e182_78, e182_81, e182_84, e182_85, e182_86, e182_90, e182_91, e182_94, e182_97, e182_100, e182_103, e182_104, e182_106, e182_109, e182_110, e182_113, e182_114, e182_115, e182_116, e182_119, e182_122, e182_124, e182_125, e182_126, e182_127, e182_130, e182_131, e182_134, e182_135, e182_136, e182_139, e182_140, e182_141, e182_142, e182_143, e182_144, e182_145, e182_148, e182_151, e182_152, e182_152i, e182_153, e182_156, e182_157, e182_158, e182_161, e182_164, e182_165, e182_166, e182_169, e182_170, e182_172, e182_175, e182_176, e182_177, e182_180, e182_183, e182_184, e182_187, e182_190, e182_191, e182_192, e182_196, e182_197, e182_200, e182_203, e182_206, e182_209, e182_210, e182_211, e182_214, e182_215, e182_217, e182_218, e182_221, e182_222, e182_223, e182_224, e182_227, e182_230, e182_231, e182_233, e182_234, e182_237, e182_240, e182_241, e182_241i, e182_242, e182_245, e182_246, e182_247, e182_250, e182_253, e182_254, e182_255, e182_258, e182_259, e182_260, e182_263, e182_266, e182_267, e182_269, e182_272, e182_273, e182_275, e182_278, e182_279, e182_280, e182_283, e182_284, e182_285, e182_288, e182_289, e182_289i, e182_290, e182_293, e182_294, e182_295, e182_298, k0, show (3 : Int32) = nI 3 from rfl, nI_ltI (show 3 < 2 ^ 31 by decide) (show k < 2 ^ 31 by omega), true_and]
              refine ⟨fun h => ?_, fun h => ?_⟩
              · have s5 : srt T E p = 5 := by rw [es, if_neg (by omega)]
                exact hQ F AI FL ⟨⟨by rw [o _ (by decide)]; exact G1, hpE⟩, fun h => absurd s5 h, by rw [s5, o _ (by decide)]; exact G3, by rw [o _ (by decide)]; exact G4, by rw [s5, o _ (by decide)]; exact G5, fun h => by omega, fun h => by omega⟩ ⟨hFF, FLx.rfl', AIx.rfl'⟩
              · have s2 : srt T E p = 2 := by rw [es, if_pos (by omega)]
                refine hQ _ AI FL ⟨⟨by rw [mj_u2_1 (by decide), o _ (by decide)]; exact G1, hpE⟩, fun _ => by rw [mj_u2_1 (by decide), a1, en, hk], by rw [s2, mj_u2_s]; rfl, by rw [mj_u2_1 (by decide), o _ (by decide)]; exact G4, by rw [s2, mj_u2_1 (by decide), o _ (by decide)]; exact G5, fun h => by omega, fun _ => ?_⟩ ⟨hFF.same (FIx_u2 (by decide)), FLx.rfl', AIx.rfl'⟩
                rw [mj_u2_1 (by decide), a2]
                unfold nmv
                rw [ew, Nat.min_eq_left (by omega)]
            induction rr with
            | zero =>
              intro k hk hr F a1 a2 a3
              have F1 : F 651 q = nI E := by rw [a3 _ _ (Or.inr (by decide))]; exact G1
              rw [e182_195]
              simp only [e182_0, e182_1, e182_4, e182_5, e182_8, e182_10, e182_11, e182_14, e182_17, e182_19, e182_22, e182_23, e182_23i, e182_24, e182_27, e182_28, e182_29, e182_32, e182_35, e182_36, e182_37, e182_40, e182_43, e182_44, e182_45, e182_48, e182_49, e182_50, e182_53, e182_54, e182_55, e182_58, e182_61, e182_62, e182_63, e182_64, e182_65, e182_66, e182_69, e182_70, e182_71, e182_74, e182_77, e182_78, e182_81, e182_84, e182_85, e182_86, e182_90, e182_91, e182_94, e182_97, e182_100, e182_103, e182_104, e182_106, e182_109, e182_110, e182_113, e182_114, e182_115, e182_116, e182_119, e182_122, e182_124, e182_125, e182_126, e182_127, e182_130, e182_131, e182_134, e182_135, e182_136, e182_139, e182_140, e182_141, e182_142, e182_143, e182_144, e182_145, e182_148, e182_151, e182_152, e182_152i, e182_153, e182_156, e182_157, e182_158, e182_161, e182_164, e182_165, e182_166, e182_169, e182_170, e182_172, e182_175, e182_176, e182_177, e182_180, e182_183, e182_184, e182_187, e182_190, e182_191, e182_192, e182_196, e182_197, e182_200, e182_203, e182_206, e182_209, e182_210, e182_211, e182_214, e182_215, e182_217, e182_218, e182_221, e182_222, e182_223, e182_224, e182_227, e182_230, e182_231, e182_233, e182_234, e182_237, e182_240, e182_241, e182_241i, e182_242, e182_245, e182_246, e182_247, e182_250, e182_254, e182_255, e182_258, e182_259, e182_260, e182_263, e182_266, e182_267, e182_269, e182_272, e182_273, e182_275, e182_278, e182_279, e182_280, e182_283, e182_284, e182_285, e182_288, e182_289, e182_289i, e182_290, e182_293, e182_294, e182_295, e182_298, k0, a1, true_and]
              refine ⟨by simp, c_mbyteAt hSt hT F1 hE (by omega) ?_⟩
              simp only [tl_some, e182_0, e182_1, e182_4, e182_5, e182_8, e182_10, e182_11, e182_14, e182_17, e182_19, e182_22, e182_23, e182_23i, e182_24, e182_27, e182_28, e182_29, e182_32, e182_35, e182_36, e182_37, e182_40, e182_43, e182_44, e182_45, e182_48, e182_49, e182_50, e182_53, e182_54, e182_55, e182_58, e182_61, e182_62, e182_63, e182_64, e182_65, e182_66, e182_69, e182_70, e182_71, e182_74, e182_77, e182_78, e182_81, e182_84, e182_85, e182_86, e182_90, e182_91, e182_94, e182_97, e182_100, e182_103, e182_104, e182_106, e182_109, e182_110, e182_113, e182_114, e182_115, e182_116, e182_119, e182_122, e182_124, e182_125, e182_126, e182_127, e182_130, e182_131, e182_134, e182_135, e182_136, e182_139, e182_140, e182_141, e182_142, e182_143, e182_144, e182_145, e182_148, e182_151, e182_152, e182_152i, e182_153, e182_156, e182_157, e182_158, e182_161, e182_164, e182_165, e182_166, e182_169, e182_170, e182_172, e182_175, e182_176, e182_177, e182_180, e182_183, e182_184, e182_187, e182_190, e182_191, e182_192, e182_196, e182_197, e182_200, e182_203, e182_206, e182_209, e182_210, e182_211, e182_214, e182_215, e182_217, e182_218, e182_221, e182_222, e182_223, e182_224, e182_227, e182_230, e182_231, e182_233, e182_234, e182_237, e182_240, e182_241, e182_241i, e182_242, e182_245, e182_246, e182_247, e182_250, e182_254, e182_255, e182_258, e182_259, e182_260, e182_263, e182_266, e182_267, e182_269, e182_272, e182_273, e182_275, e182_278, e182_279, e182_280, e182_283, e182_284, e182_285, e182_288, e182_289, e182_289i, e182_290, e182_293, e182_294, e182_295, e182_298]
              refine ⟨by simp, c_misDigit ?_⟩
              rw [bv_dig hB, decide_eq_false (show ¬ p + k < E by omega), Bool.false_and]
              simp only [tl_some, e182_0, e182_1, e182_4, e182_5, e182_8, e182_10, e182_11, e182_14, e182_17, e182_19, e182_22, e182_23, e182_23i, e182_24, e182_27, e182_28, e182_29, e182_32, e182_35, e182_36, e182_37, e182_40, e182_43, e182_44, e182_45, e182_48, e182_49, e182_50, e182_53, e182_54, e182_55, e182_58, e182_61, e182_62, e182_63, e182_64, e182_65, e182_66, e182_69, e182_70, e182_71, e182_74, e182_77, e182_78, e182_81, e182_84, e182_85, e182_86, e182_90, e182_91, e182_94, e182_97, e182_100, e182_103, e182_104, e182_106, e182_109, e182_110, e182_113, e182_114, e182_115, e182_116, e182_119, e182_122, e182_124, e182_125, e182_126, e182_127, e182_130, e182_131, e182_134, e182_135, e182_136, e182_139, e182_140, e182_141, e182_142, e182_143, e182_144, e182_145, e182_148, e182_151, e182_152, e182_152i, e182_153, e182_156, e182_157, e182_158, e182_161, e182_164, e182_165, e182_166, e182_169, e182_170, e182_172, e182_175, e182_176, e182_177, e182_180, e182_183, e182_184, e182_187, e182_190, e182_191, e182_192, e182_196, e182_197, e182_200, e182_203, e182_206, e182_209, e182_210, e182_211, e182_214, e182_215, e182_217, e182_218, e182_221, e182_222, e182_223, e182_224, e182_227, e182_230, e182_231, e182_233, e182_234, e182_237, e182_240, e182_241, e182_241i, e182_242, e182_245, e182_246, e182_247, e182_250, e182_254, e182_255, e182_258, e182_259, e182_260, e182_263, e182_266, e182_267, e182_269, e182_272, e182_273, e182_275, e182_278, e182_279, e182_280, e182_283, e182_284, e182_285, e182_288, e182_289, e182_289i, e182_290, e182_293, e182_294, e182_295, e182_298, bI_eq0]
              exact ⟨fun _ => fin k (by omega) (by rw [hr, rn_end (by omega)]) F a1 a2 a3, fun z => absurd trivial z⟩
            | succ rr ih =>
              intro k hk hr F a1 a2 a3
              have F1 : F 651 q = nI E := by rw [a3 _ _ (Or.inr (by decide))]; exact G1
              rw [e182_195]
              simp only [e182_0, e182_1, e182_4, e182_5, e182_8, e182_10, e182_11, e182_14, e182_17, e182_19, e182_22, e182_23, e182_23i, e182_24, e182_27, e182_28, e182_29, e182_32, e182_35, e182_36, e182_37, e182_40, e182_43, e182_44, e182_45, e182_48, e182_49, e182_50, e182_53, e182_54, e182_55, e182_58, e182_61, e182_62, e182_63, e182_64, e182_65, e182_66, e182_69, e182_70, e182_71, e182_74, e182_77, e182_78, e182_81, e182_84, e182_85, e182_86, e182_90, e182_91, e182_94, e182_97, e182_100, e182_103, e182_104, e182_106, e182_109, e182_110, e182_113, e182_114, e182_115, e182_116, e182_119, e182_122, e182_124, e182_125, e182_126, e182_127, e182_130, e182_131, e182_134, e182_135, e182_136, e182_139, e182_140, e182_141, e182_142, e182_143, e182_144, e182_145, e182_148, e182_151, e182_152, e182_152i, e182_153, e182_156, e182_157, e182_158, e182_161, e182_164, e182_165, e182_166, e182_169, e182_170, e182_172, e182_175, e182_176, e182_177, e182_180, e182_183, e182_184, e182_187, e182_190, e182_191, e182_192, e182_196, e182_197, e182_200, e182_203, e182_206, e182_209, e182_210, e182_211, e182_214, e182_215, e182_217, e182_218, e182_221, e182_222, e182_223, e182_224, e182_227, e182_230, e182_231, e182_233, e182_234, e182_237, e182_240, e182_241, e182_241i, e182_242, e182_245, e182_246, e182_247, e182_250, e182_254, e182_255, e182_258, e182_259, e182_260, e182_263, e182_266, e182_267, e182_269, e182_272, e182_273, e182_275, e182_278, e182_279, e182_280, e182_283, e182_284, e182_285, e182_288, e182_289, e182_289i, e182_290, e182_293, e182_294, e182_295, e182_298, k0, a1, true_and]
              refine ⟨by simp, c_mbyteAt hSt hT F1 hE (by omega) ?_⟩
              simp only [tl_some, e182_0, e182_1, e182_4, e182_5, e182_8, e182_10, e182_11, e182_14, e182_17, e182_19, e182_22, e182_23, e182_23i, e182_24, e182_27, e182_28, e182_29, e182_32, e182_35, e182_36, e182_37, e182_40, e182_43, e182_44, e182_45, e182_48, e182_49, e182_50, e182_53, e182_54, e182_55, e182_58, e182_61, e182_62, e182_63, e182_64, e182_65, e182_66, e182_69, e182_70, e182_71, e182_74, e182_77, e182_78, e182_81, e182_84, e182_85, e182_86, e182_90, e182_91, e182_94, e182_97, e182_100, e182_103, e182_104, e182_106, e182_109, e182_110, e182_113, e182_114, e182_115, e182_116, e182_119, e182_122, e182_124, e182_125, e182_126, e182_127, e182_130, e182_131, e182_134, e182_135, e182_136, e182_139, e182_140, e182_141, e182_142, e182_143, e182_144, e182_145, e182_148, e182_151, e182_152, e182_152i, e182_153, e182_156, e182_157, e182_158, e182_161, e182_164, e182_165, e182_166, e182_169, e182_170, e182_172, e182_175, e182_176, e182_177, e182_180, e182_183, e182_184, e182_187, e182_190, e182_191, e182_192, e182_196, e182_197, e182_200, e182_203, e182_206, e182_209, e182_210, e182_211, e182_214, e182_215, e182_217, e182_218, e182_221, e182_222, e182_223, e182_224, e182_227, e182_230, e182_231, e182_233, e182_234, e182_237, e182_240, e182_241, e182_241i, e182_242, e182_245, e182_246, e182_247, e182_250, e182_254, e182_255, e182_258, e182_259, e182_260, e182_263, e182_266, e182_267, e182_269, e182_272, e182_273, e182_275, e182_278, e182_279, e182_280, e182_283, e182_284, e182_285, e182_288, e182_289, e182_289i, e182_290, e182_293, e182_294, e182_295, e182_298]
              refine ⟨by simp, c_misDigit ?_⟩
              rw [bv_dig hB, decide_eq_true (show p + k < E by omega), Bool.true_and]
              simp only [tl_some, e182_0, e182_1, e182_4, e182_5, e182_8, e182_10, e182_11, e182_14, e182_17, e182_19, e182_22, e182_23, e182_23i, e182_24, e182_27, e182_28, e182_29, e182_32, e182_35, e182_36, e182_37, e182_40, e182_43, e182_44, e182_45, e182_48, e182_49, e182_50, e182_53, e182_54, e182_55, e182_58, e182_61, e182_62, e182_63, e182_64, e182_65, e182_66, e182_69, e182_70, e182_71, e182_74, e182_77, e182_78, e182_81, e182_84, e182_85, e182_86, e182_90, e182_91, e182_94, e182_97, e182_100, e182_103, e182_104, e182_106, e182_109, e182_110, e182_113, e182_114, e182_115, e182_116, e182_119, e182_122, e182_124, e182_125, e182_126, e182_127, e182_130, e182_131, e182_134, e182_135, e182_136, e182_139, e182_140, e182_141, e182_142, e182_143, e182_144, e182_145, e182_148, e182_151, e182_152, e182_152i, e182_153, e182_156, e182_157, e182_158, e182_161, e182_164, e182_165, e182_166, e182_169, e182_170, e182_172, e182_175, e182_176, e182_177, e182_180, e182_183, e182_184, e182_187, e182_190, e182_191, e182_192, e182_196, e182_197, e182_200, e182_203, e182_206, e182_209, e182_210, e182_211, e182_214, e182_215, e182_217, e182_218, e182_221, e182_222, e182_223, e182_224, e182_227, e182_230, e182_231, e182_233, e182_234, e182_237, e182_240, e182_241, e182_241i, e182_242, e182_245, e182_246, e182_247, e182_250, e182_254, e182_255, e182_258, e182_259, e182_260, e182_263, e182_266, e182_267, e182_269, e182_272, e182_273, e182_275, e182_278, e182_279, e182_280, e182_283, e182_284, e182_285, e182_288, e182_289, e182_289i, e182_290, e182_293, e182_294, e182_295, e182_298, bI_eq0, k0, a1, a2, show (3 : Int32) = nI 3 from rfl, nI_leI (show 3 < 2 ^ 31 by decide) (show k < 2 ^ 31 by omega), nI_1, mj_kl, true_and]
              refine ⟨fun z => fin k (by omega) (by rw [hr, rn_no z]) F a1 a2 a3, fun z => ?_⟩
              have z' := ts_nf z
              obtain ⟨v1, v2⟩ := isDig_v z'
              have hr' : rn isDig T E p = rn isDig T E (p + (k + 1)) := by rw [hr, rn_yes (by omega) z', Nat.add_assoc]
              refine ⟨fun y => ?_, fun y => ⟨by simp, ?_⟩⟩
              · refine ih (k + 1) (by omega) hr' _ mj_u2_s ?_ (a3.same (FIx_u2 (by decide)))
                rw [mj_u2_1 (by decide), a2, Nat.min_eq_right y, Nat.min_eq_right (by omega)]
              · refine c_mbyteAt hSt hT F1 hE (by omega) ?_
                rw [bv_val hB (by omega) (Or.inr z')]
                have ev : (10 : Int32) * nI (nv T p (min k 3)) + T (p + k) - 48 = nI (nv T p (min (k + 1) 3)) := by
                  rw [Nat.min_eq_left (by omega), Nat.min_eq_left (by omega)]
                  simp only [nv]
                  have v1' : T (p + k) = nI (48 + ((T (p + k)).toNatClampNeg - 48)) := v1
                  generalize (T (p + k)).toNatClampNeg - 48 = g at v1' v2 ⊢
                  rw [v1', show (10 : Int32) = nI 10 from rfl, show (48 : Int32) = nI 48 from rfl, pk_mul, nI_add, nq_sub (by omega)]
                  congr 1
                  omega
                have u1 : ∀ x : Int32, mj_u2 F 656 q x 652 q = nI (p + k) := fun x => by rw [mj_u2_1 (by decide)]; exact a1
                simp only [tl_some, e182_0, e182_1, e182_4, e182_5, e182_8, e182_10, e182_11, e182_14, e182_17, e182_19, e182_22, e182_23, e182_23i, e182_24, e182_27, e182_28, e182_29, e182_32, e182_35, e182_36, e182_37, e182_40, e182_43, e182_44, e182_45, e182_48, e182_49, e182_50, e182_53, e182_54, e182_55, e182_58, e182_61, e182_62, e182_63, e182_64, e182_65, e182_66, e182_69, e182_70, e182_71, e182_74, e182_77, e182_78, e182_81, e182_84, e182_85, e182_86, e182_90, e182_91, e182_94, e182_97, e182_100, e182_103, e182_104, e182_106, e182_109, e182_110, e182_113, e182_114, e182_115, e182_116, e182_119, e182_122, e182_124, e182_125, e182_126, e182_127, e182_130, e182_131, e182_134, e182_135, e182_136, e182_139, e182_140, e182_141, e182_142, e182_143, e182_144, e182_145, e182_148, e182_151, e182_152, e182_152i, e182_153, e182_156, e182_157, e182_158, e182_161, e182_164, e182_165, e182_166, e182_169, e182_170, e182_172, e182_175, e182_176, e182_177, e182_180, e182_183, e182_184, e182_187, e182_190, e182_191, e182_192, e182_196, e182_197, e182_200, e182_203, e182_206, e182_209, e182_210, e182_211, e182_214, e182_215, e182_217, e182_218, e182_221, e182_222, e182_223, e182_224, e182_227, e182_230, e182_231, e182_233, e182_234, e182_237, e182_240, e182_241, e182_241i, e182_242, e182_245, e182_246, e182_247, e182_250, e182_254, e182_255, e182_258, e182_259, e182_260, e182_263, e182_266, e182_267, e182_269, e182_272, e182_273, e182_275, e182_278, e182_279, e182_280, e182_283, e182_284, e182_285, e182_288, e182_289, e182_289i, e182_290, e182_293, e182_294, e182_295, e182_298, k0, ev, u1, nI_1, mj_kl, true_and]
                refine ih (k + 1) (by omega) hr' _ mj_u2_s ?_ ((a3.same (FIx_u2 (by decide))).same (FIx_u2 (by decide)))
                rw [mj_u2_1 (by decide), mj_u2_s]
          simp only [k0, true_and]
          have := loop (E - p) 0 (by omega) rfl (mj_u2 G 656 q 0) (by rw [mj_u2_1 (by decide)]; exact G2) (by rw [mj_u2_s]; rfl) (FIx_u2 (by decide))
          simpa [nI_0] using this
      · -- a word
        have hl := ts_nf hl1
        have en : nxt T E p = rn isLet T E p := by unfold nxt; rw [if_neg (by omega), if_pos hl]
        have es : srt T E p = if wl T E p ≤ 8 then 1 else 5 := by unfold srt; rw [if_neg (by omega), if_pos hl]
        have loop : ∀ rr k, p + k + rr = E → rn isLet T E p = rn isLet T E (p + k) → ∀ (F A : Nat → Nat → Int32) (L : Nat → Nat → Int64), F 652 q = nI (p + k) → L 661 q = lN (pkf (lt T p) (min k 8)) → (∀ j, j < min k 8 → A (q + 4) j = nI (lt T p j)) → FIx G F q [652] → FLx FL L q [661] → AIx AI A (q + 4) (q + 4) → WP sa (EV sa (d + 1)) 182 Q 0 0 89 [.ref q, .int (bv T E p), .int (nI k)] [] (n, K, F, L, FR, A, AL, AR) := by
          intro rr
          have fin : ∀ k, p + k ≤ E → rn isLet T E p = p + k → ∀ (F A : Nat → Nat → Int32) (L : Nat → Nat → Int64), F 652 q = nI (p + k) → L 661 q = lN (pkf (lt T p) (min k 8)) → (∀ j, j < min k 8 → A (q + 4) j = nI (lt T p j)) → FIx G F q [652] → FLx FL L q [661] → AIx AI A (q + 4) (q + 4) → WP sa (EV sa (d + 1)) 182 Q 0 0 164 [.ref q, .int (bv T E p), .int (nI k)] [] (n, K, F, L, FR, A, AL, AR) := by
            intro k hkE hk F A L a1 a2 a4 a3 a5 a6
            have ew : wl T E p = k := by unfold wl; rw [en, hk]; omega
            rw [ew] at es
            have hFF : FIx FI F q tFs := hFG.same (a3.sub (by decide))
            have o : ∀ f, f ∉ [652] → F f q = G f q := fun f hf => a3 f q (Or.inr hf)
            simp only [e182_0, e182_1, e182_4, e182_5, e182_8, e182_10, e182_11, e182_14, e182_17, e182_19, e182_22, e182_23, e182_23i, e182_24, e182_27, e182_28, e182_29, e182_32, e182_35, e182_36, e182_37, e182_40, e182_43, e182_44, e182_45, e182_48, e182_49, e182_50, e182_53, e182_54, e182_55, e182_58, e182_61, e182_62, e182_63, e182_64, e182_65, e182_66, e182_69, e182_70, e182_71, e182_74, e182_77, e182_78, e182_81, e182_84, e182_85, e182_86, e182_90, e182_91, e182_94, e182_97, e182_100, e182_103, e182_104, e182_106, e182_109, e182_110, e182_113, e182_114, e182_115, e182_116, e182_119, e182_122, e182_124, e182_125, e182_126, e182_127, e182_130, e182_131, e182_134, e182_135, e182_136, e182_139, e182_140, e182_141, e182_142, e182_143, e182_144, e182_145, e182_148, e182_151, e182_152, e182_152i, e182_153, e182_156, e182_157, e182_158, e182_161, e182_164, e182_165, e182_166, e182_169, e182_170, e182_172, e182_175, e182_176, e182_177, e182_180, e182_183, e182_184, e182_187, e182_190, e182_191, e182_192, e182_196, e182_197, e182_200, e182_203, e182_206, e182_209, e182_210, e182_211, e182_214, e182_215, e182_217, e182_218, e182_221, e182_222, e182_223, e182_224, e182_227, e182_230, e182_231, e182_233, e182_234, e182_237, e182_240, e182_241, e182_241i, e182_242, e182_245, e182_246, e182_247, e182_250, e182_253, e182_254, e182_255, e182_258, e182_259, e182_260, e182_263, e182_266, e182_267, e182_269, e182_272, e182_273, e182_275, e182_278, e182_279, e182_280, e182_283, e182_284, e182_285, e182_288, e182_289, e182_289i, e182_290, e182_293, e182_294, e182_295, e182_298, k0, show (8 : Int32) = nI 8 from rfl, nI_ltI (show 8 < 2 ^ 31 by decide) (show k < 2 ^ 31 by omega), true_and]
            refine ⟨fun h => ?_, fun h => ?_⟩
            · have s5 : srt T E p = 5 := by rw [es, if_neg (by omega)]
              exact hQ _ A L ⟨⟨by rw [mj_u2_1 (by decide), o _ (by decide)]; exact G1, hpE⟩, fun h => absurd s5 h, by rw [s5, mj_u2_1 (by decide), o _ (by decide)]; exact G3, by rw [mj_u2_1 (by decide), o _ (by decide)]; exact G4, by rw [s5, mj_u2_1 (by decide), o _ (by decide)]; exact G5, fun h => by omega, fun h => by omega⟩ ⟨hFF.same (FIx_u2 (by decide)), a5, a6⟩
            · have s1 : srt T E p = 1 := by rw [es, if_pos (by omega)]
              refine hQ _ A L ⟨⟨by rw [mj_u2_1 (by decide), mj_u2_1 (by decide), o _ (by decide)]; exact G1, hpE⟩, fun _ => by rw [mj_u2_1 (by decide), mj_u2_1 (by decide), a1, en, hk], by rw [s1, mj_u2_s]; rfl, by rw [mj_u2_1 (by decide), mj_u2_1 (by decide), o _ (by decide)]; exact G4, by rw [s1, mj_u2_1 (by decide), mj_u2_1 (by decide), o _ (by decide)]; exact G5, fun _ => ⟨by rw [mj_u2_1 (by decide), mj_u2_s, ew], by rw [a2, ew, Nat.min_eq_left (by omega)], fun j hj => a4 j (by omega)⟩, fun h => by omega⟩ ⟨(hFF.same (FIx_u2 (by decide))).same (FIx_u2 (by decide)), a5, a6⟩
          induction rr with
          | zero =>
            intro k hk hr F A L a1 a2 a4 a3 a5 a6
            have F1 : F 651 q = nI E := by rw [a3 _ _ (Or.inr (by decide))]; exact G1
            have hTA : A (q + 3) = T := by rw [a6 _ (by omega)]; exact hT
            rw [e182_89]
            simp only [e182_0, e182_1, e182_4, e182_5, e182_8, e182_10, e182_11, e182_14, e182_17, e182_19, e182_22, e182_23, e182_23i, e182_24, e182_27, e182_28, e182_29, e182_32, e182_35, e182_36, e182_37, e182_40, e182_43, e182_44, e182_45, e182_48, e182_49, e182_50, e182_53, e182_54, e182_55, e182_58, e182_61, e182_62, e182_63, e182_64, e182_65, e182_66, e182_69, e182_70, e182_71, e182_74, e182_77, e182_78, e182_81, e182_84, e182_85, e182_86, e182_90, e182_91, e182_94, e182_97, e182_100, e182_103, e182_104, e182_106, e182_109, e182_110, e182_113, e182_114, e182_115, e182_116, e182_119, e182_122, e182_124, e182_125, e182_126, e182_127, e182_130, e182_131, e182_134, e182_135, e182_136, e182_139, e182_140, e182_141, e182_142, e182_143, e182_144, e182_145, e182_148, e182_151, e182_152, e182_152i, e182_153, e182_156, e182_157, e182_158, e182_161, e182_165, e182_166, e182_169, e182_170, e182_172, e182_175, e182_176, e182_177, e182_180, e182_183, e182_184, e182_187, e182_190, e182_191, e182_192, e182_196, e182_197, e182_200, e182_203, e182_206, e182_209, e182_210, e182_211, e182_214, e182_215, e182_217, e182_218, e182_221, e182_222, e182_223, e182_224, e182_227, e182_230, e182_231, e182_233, e182_234, e182_237, e182_240, e182_241, e182_241i, e182_242, e182_245, e182_246, e182_247, e182_250, e182_253, e182_254, e182_255, e182_258, e182_259, e182_260, e182_263, e182_266, e182_267, e182_269, e182_272, e182_273, e182_275, e182_278, e182_279, e182_280, e182_283, e182_284, e182_285, e182_288, e182_289, e182_289i, e182_290, e182_293, e182_294, e182_295, e182_298, k0, a1, true_and]
            refine ⟨by simp, c_mbyteAt hSt hTA F1 hE (by omega) ?_⟩
            simp only [tl_some, e182_0, e182_1, e182_4, e182_5, e182_8, e182_10, e182_11, e182_14, e182_17, e182_19, e182_22, e182_23, e182_23i, e182_24, e182_27, e182_28, e182_29, e182_32, e182_35, e182_36, e182_37, e182_40, e182_43, e182_44, e182_45, e182_48, e182_49, e182_50, e182_53, e182_54, e182_55, e182_58, e182_61, e182_62, e182_63, e182_64, e182_65, e182_66, e182_69, e182_70, e182_71, e182_74, e182_77, e182_78, e182_81, e182_84, e182_85, e182_86, e182_90, e182_91, e182_94, e182_97, e182_100, e182_103, e182_104, e182_106, e182_109, e182_110, e182_113, e182_114, e182_115, e182_116, e182_119, e182_122, e182_124, e182_125, e182_126, e182_127, e182_130, e182_131, e182_134, e182_135, e182_136, e182_139, e182_140, e182_141, e182_142, e182_143, e182_144, e182_145, e182_148, e182_151, e182_152, e182_152i, e182_153, e182_156, e182_157, e182_158, e182_161, e182_165, e182_166, e182_169, e182_170, e182_172, e182_175, e182_176, e182_177, e182_180, e182_183, e182_184, e182_187, e182_190, e182_191, e182_192, e182_196, e182_197, e182_200, e182_203, e182_206, e182_209, e182_210, e182_211, e182_214, e182_215, e182_217, e182_218, e182_221, e182_222, e182_223, e182_224, e182_227, e182_230, e182_231, e182_233, e182_234, e182_237, e182_240, e182_241, e182_241i, e182_242, e182_245, e182_246, e182_247, e182_250, e182_253, e182_254, e182_255, e182_258, e182_259, e182_260, e182_263, e182_266, e182_267, e182_269, e182_272, e182_273, e182_275, e182_278, e182_279, e182_280, e182_283, e182_284, e182_285, e182_288, e182_289, e182_289i, e182_290, e182_293, e182_294, e182_295, e182_298]
            refine ⟨by simp, c_misLetter ?_⟩
            rw [bv_let hB, decide_eq_false (show ¬ p + k < E by omega), Bool.false_and]
            simp only [tl_some, e182_0, e182_1, e182_4, e182_5, e182_8, e182_10, e182_11, e182_14, e182_17, e182_19, e182_22, e182_23, e182_23i, e182_24, e182_27, e182_28, e182_29, e182_32, e182_35, e182_36, e182_37, e182_40, e182_43, e182_44, e182_45, e182_48, e182_49, e182_50, e182_53, e182_54, e182_55, e182_58, e182_61, e182_62, e182_63, e182_64, e182_65, e182_66, e182_69, e182_70, e182_71, e182_74, e182_77, e182_78, e182_81, e182_84, e182_85, e182_86, e182_90, e182_91, e182_94, e182_97, e182_100, e182_103, e182_104, e182_106, e182_109, e182_110, e182_113, e182_114, e182_115, e182_116, e182_119, e182_122, e182_124, e182_125, e182_126, e182_127, e182_130, e182_131, e182_134, e182_135, e182_136, e182_139, e182_140, e182_141, e182_142, e182_143, e182_144, e182_145, e182_148, e182_151, e182_152, e182_152i, e182_153, e182_156, e182_157, e182_158, e182_161, e182_165, e182_166, e182_169, e182_170, e182_172, e182_175, e182_176, e182_177, e182_180, e182_183, e182_184, e182_187, e182_190, e182_191, e182_192, e182_196, e182_197, e182_200, e182_203, e182_206, e182_209, e182_210, e182_211, e182_214, e182_215, e182_217, e182_218, e182_221, e182_222, e182_223, e182_224, e182_227, e182_230, e182_231, e182_233, e182_234, e182_237, e182_240, e182_241, e182_241i, e182_242, e182_245, e182_246, e182_247, e182_250, e182_253, e182_254, e182_255, e182_258, e182_259, e182_260, e182_263, e182_266, e182_267, e182_269, e182_272, e182_273, e182_275, e182_278, e182_279, e182_280, e182_283, e182_284, e182_285, e182_288, e182_289, e182_289i, e182_290, e182_293, e182_294, e182_295, e182_298, bI_eq0]
            exact ⟨fun _ => fin k (by omega) (by rw [hr, rn_end (by omega)]) F A L a1 a2 a4 a3 a5 a6, fun z => absurd trivial z⟩
          | succ rr ih =>
            intro k hk hr F A L a1 a2 a4 a3 a5 a6
            have F1 : F 651 q = nI E := by rw [a3 _ _ (Or.inr (by decide))]; exact G1
            have hTA : A (q + 3) = T := by rw [a6 _ (by omega)]; exact hT
            rw [e182_89]
            simp only [e182_0, e182_1, e182_4, e182_5, e182_8, e182_10, e182_11, e182_14, e182_17, e182_19, e182_22, e182_23, e182_23i, e182_24, e182_27, e182_28, e182_29, e182_32, e182_35, e182_36, e182_37, e182_40, e182_43, e182_44, e182_45, e182_48, e182_49, e182_50, e182_53, e182_54, e182_55, e182_58, e182_61, e182_62, e182_63, e182_64, e182_65, e182_66, e182_69, e182_70, e182_71, e182_74, e182_77, e182_78, e182_81, e182_84, e182_85, e182_86, e182_90, e182_91, e182_94, e182_97, e182_100, e182_103, e182_104, e182_106, e182_109, e182_110, e182_113, e182_114, e182_115, e182_116, e182_119, e182_122, e182_124, e182_125, e182_126, e182_127, e182_130, e182_131, e182_134, e182_135, e182_136, e182_139, e182_140, e182_141, e182_142, e182_143, e182_144, e182_145, e182_148, e182_151, e182_152, e182_152i, e182_153, e182_156, e182_157, e182_158, e182_161, e182_165, e182_166, e182_169, e182_170, e182_172, e182_175, e182_176, e182_177, e182_180, e182_183, e182_184, e182_187, e182_190, e182_191, e182_192, e182_196, e182_197, e182_200, e182_203, e182_206, e182_209, e182_210, e182_211, e182_214, e182_215, e182_217, e182_218, e182_221, e182_222, e182_223, e182_224, e182_227, e182_230, e182_231, e182_233, e182_234, e182_237, e182_240, e182_241, e182_241i, e182_242, e182_245, e182_246, e182_247, e182_250, e182_253, e182_254, e182_255, e182_258, e182_259, e182_260, e182_263, e182_266, e182_267, e182_269, e182_272, e182_273, e182_275, e182_278, e182_279, e182_280, e182_283, e182_284, e182_285, e182_288, e182_289, e182_289i, e182_290, e182_293, e182_294, e182_295, e182_298, k0, a1, true_and]
            refine ⟨by simp, c_mbyteAt hSt hTA F1 hE (by omega) ?_⟩
            simp only [tl_some, e182_0, e182_1, e182_4, e182_5, e182_8, e182_10, e182_11, e182_14, e182_17, e182_19, e182_22, e182_23, e182_23i, e182_24, e182_27, e182_28, e182_29, e182_32, e182_35, e182_36, e182_37, e182_40, e182_43, e182_44, e182_45, e182_48, e182_49, e182_50, e182_53, e182_54, e182_55, e182_58, e182_61, e182_62, e182_63, e182_64, e182_65, e182_66, e182_69, e182_70, e182_71, e182_74, e182_77, e182_78, e182_81, e182_84, e182_85, e182_86, e182_90, e182_91, e182_94, e182_97, e182_100, e182_103, e182_104, e182_106, e182_109, e182_110, e182_113, e182_114, e182_115, e182_116, e182_119, e182_122, e182_124, e182_125, e182_126, e182_127, e182_130, e182_131, e182_134, e182_135, e182_136, e182_139, e182_140, e182_141, e182_142, e182_143, e182_144, e182_145, e182_148, e182_151, e182_152, e182_152i, e182_153, e182_156, e182_157, e182_158, e182_161, e182_165, e182_166, e182_169, e182_170, e182_172, e182_175, e182_176, e182_177, e182_180, e182_183, e182_184, e182_187, e182_190, e182_191, e182_192, e182_196, e182_197, e182_200, e182_203, e182_206, e182_209, e182_210, e182_211, e182_214, e182_215, e182_217, e182_218, e182_221, e182_222, e182_223, e182_224, e182_227, e182_230, e182_231, e182_233, e182_234, e182_237, e182_240, e182_241, e182_241i, e182_242, e182_245, e182_246, e182_247, e182_250, e182_253, e182_254, e182_255, e182_258, e182_259, e182_260, e182_263, e182_266, e182_267, e182_269, e182_272, e182_273, e182_275, e182_278, e182_279, e182_280, e182_283, e182_284, e182_285, e182_288, e182_289, e182_289i, e182_290, e182_293, e182_294, e182_295, e182_298]
            refine ⟨by simp, c_misLetter ?_⟩
            rw [bv_let hB, decide_eq_true (show p + k < E by omega), Bool.true_and]
            simp only [tl_some, e182_0, e182_1, e182_4, e182_5, e182_8, e182_10, e182_11, e182_14, e182_17, e182_19, e182_22, e182_23, e182_23i, e182_24, e182_27, e182_28, e182_29, e182_32, e182_35, e182_36, e182_37, e182_40, e182_43, e182_44, e182_45, e182_48, e182_49, e182_50, e182_53, e182_54, e182_55, e182_58, e182_61, e182_62, e182_63, e182_64, e182_65, e182_66, e182_69, e182_70, e182_71, e182_74, e182_77, e182_78, e182_81, e182_84, e182_85, e182_86, e182_90, e182_91, e182_94, e182_97, e182_100, e182_103, e182_104, e182_106, e182_109, e182_110, e182_113, e182_114, e182_115, e182_116, e182_119, e182_122, e182_124, e182_125, e182_126, e182_127, e182_130, e182_131, e182_134, e182_135, e182_136, e182_139, e182_140, e182_141, e182_142, e182_143, e182_144, e182_145, e182_148, e182_151, e182_152, e182_152i, e182_153, e182_156, e182_157, e182_158, e182_161, e182_165, e182_166, e182_169, e182_170, e182_172, e182_175, e182_176, e182_177, e182_180, e182_183, e182_184, e182_187, e182_190, e182_191, e182_192, e182_196, e182_197, e182_200, e182_203, e182_206, e182_209, e182_210, e182_211, e182_214, e182_215, e182_217, e182_218, e182_221, e182_222, e182_223, e182_224, e182_227, e182_230, e182_231, e182_233, e182_234, e182_237, e182_240, e182_241, e182_241i, e182_242, e182_245, e182_246, e182_247, e182_250, e182_253, e182_254, e182_255, e182_258, e182_259, e182_260, e182_263, e182_266, e182_267, e182_269, e182_272, e182_273, e182_275, e182_278, e182_279, e182_280, e182_283, e182_284, e182_285, e182_288, e182_289, e182_289i, e182_290, e182_293, e182_294, e182_295, e182_298, bI_eq0, k0, a1, f4, rf_some, show (8 : Int32) = nI 8 from rfl, nI_leI (show 8 < 2 ^ 31 by decide) (show k < 2 ^ 31 by omega), nI_1, mj_kl, true_and]
            refine ⟨fun z => fin k (by omega) (by rw [hr, rn_no z]) F A L a1 a2 a4 a3 a5 a6, fun z => ?_⟩
            have z' := ts_nf z
            obtain ⟨v1, v2⟩ := isLet_v z'
            have hr' : rn isLet T E p = rn isLet T E (p + (k + 1)) := by rw [hr, rn_yes (by omega) z', Nat.add_assoc]
            refine ⟨fun y => ?_, fun y => ⟨by simp, ?_⟩⟩
            · refine ih (k + 1) (by omega) hr' _ A L mj_u2_s ?_ ?_ (a3.same (FIx_u2 (by decide))) a5 a6
              · rw [a2, Nat.min_eq_right y, Nat.min_eq_right (by omega)]
              · rw [Nat.min_eq_right (by omega)]
                rw [Nat.min_eq_right y] at a4
                exact a4
            · refine c_mbyteAt hSt hTA F1 hE (by omega) ?_
              rw [bv_val hB (by omega) (Or.inl z')]
              have hk8 : k < 8 := by omega
              have ev : T (p + k) - 97 = nI (lt T p k) := by
                have v1' : T (p + k) = nI (97 + lt T p k) := v1
                rw [v1', show (97 : Int32) = nI 97 from rfl, nq_sub (by omega), Nat.add_sub_cancel_left]
              have kin : vp_in (nI k) 8 := vp_in_nI hk8 (by decide)
              have kcl : (nI k).toNatClampNeg = k := nI_clamp (by omega)
              rw [Nat.min_eq_left (by omega)] at a2 a4
              have hlt : lt T p k < 26 := v2
              have el : (32 : Int64) * lN (pkf (lt T p) k) + (nI (lt T p k)).toInt64 + 1 = lN (pkf (lt T p) (k + 1)) := by
                rw [nI_l (by omega), show (32 : Int64) = lN 32 from rfl, lN_mul, lN_add, show (1 : Int64) = lN 1 from rfl, lN_add]
                rfl
              simp only [tl_some, e182_0, e182_1, e182_4, e182_5, e182_8, e182_10, e182_11, e182_14, e182_17, e182_19, e182_22, e182_23, e182_23i, e182_24, e182_27, e182_28, e182_29, e182_32, e182_35, e182_36, e182_37, e182_40, e182_43, e182_44, e182_45, e182_48, e182_49, e182_50, e182_53, e182_54, e182_55, e182_58, e182_61, e182_62, e182_63, e182_64, e182_65, e182_66, e182_69, e182_70, e182_71, e182_74, e182_77, e182_78, e182_81, e182_84, e182_85, e182_86, e182_90, e182_91, e182_94, e182_97, e182_100, e182_103, e182_104, e182_106, e182_109, e182_110, e182_113, e182_114, e182_115, e182_116, e182_119, e182_122, e182_124, e182_125, e182_126, e182_127, e182_130, e182_131, e182_134, e182_135, e182_136, e182_139, e182_140, e182_141, e182_142, e182_143, e182_144, e182_145, e182_148, e182_151, e182_152, e182_152i, e182_153, e182_156, e182_157, e182_158, e182_161, e182_165, e182_166, e182_169, e182_170, e182_172, e182_175, e182_176, e182_177, e182_180, e182_183, e182_184, e182_187, e182_190, e182_191, e182_192, e182_196, e182_197, e182_200, e182_203, e182_206, e182_209, e182_210, e182_211, e182_214, e182_215, e182_217, e182_218, e182_221, e182_222, e182_223, e182_224, e182_227, e182_230, e182_231, e182_233, e182_234, e182_237, e182_240, e182_241, e182_241i, e182_242, e182_245, e182_246, e182_247, e182_250, e182_253, e182_254, e182_255, e182_258, e182_259, e182_260, e182_263, e182_266, e182_267, e182_269, e182_272, e182_273, e182_275, e182_278, e182_279, e182_280, e182_283, e182_284, e182_285, e182_288, e182_289, e182_289i, e182_290, e182_293, e182_294, e182_295, e182_298, k0, f4, k4, rf_some, kin, kcl, ev, a2, mj_u2_s, el, a1, nI_1, mj_kl, true_and, true_or]
              refine ih (k + 1) (by omega) hr' _ _ _ mj_u2_s (by rw [mj_u2_s, Nat.min_eq_left (by omega)]) (fun j hj => ?_) (a3.same (FIx_u2 (by decide))) (a5.trans (FLx_u2 (by decide))) (fun z hz => by funext w; rw [mj_u2_1 (by omega), a6 z hz])
              rw [Nat.min_eq_left (by omega)] at hj
              by_cases e : j = k
              · subst e; exact mj_u2_s
              · rw [mj_u2_2 e]; exact a4 j (by omega)
        simp only [k0, true_and]
        have := loop (E - p) 0 (by omega) rfl G AI (mj_u2 FL 661 q 0) G2 (by rw [mj_u2_s]; rfl) (fun j hj => by omega) FIx.rfl' (FLx_u2 (by decide)) AIx.rfl'
        simpa [nI_0] using this
    · have hp2 : E ≤ p := by simpa using hend
      have s0 : srt T E p = 0 := by unfold srt; rw [if_pos hp2]
      have en : nxt T E p = p := by unfold nxt; rw [if_pos hp2]
      simp only [k0, true_and]
      exact hQ _ AI FL ⟨⟨by rw [mj_u2_1 (by decide)]; exact G1, hpE⟩, fun _ => by rw [mj_u2_1 (by decide), en]; exact G2, by rw [s0, mj_u2_s]; rfl, by rw [mj_u2_1 (by decide)]; exact G4, by rw [s0, mj_u2_1 (by decide)]; exact G5, fun h => by omega, fun h => by omega⟩ ⟨hFG.same (FIx_u2 (by decide)), FLx.rfl', AIx.rfl'⟩
  -- the blanks
  have blanks : ∀ rr j, j + rr = E → rn isSp T E i = rn isSp T E j → ∀ F : Nat → Nat → Int32, FIx FI F q tFs → F 652 q = nI j → WP sa (EV sa (d + 1)) 182 Q 0 0 9 [.ref q, mj_u, mj_u] [] (n, K, F, FL, FR, AI, AL, AR) := by
    intro rr
    induction rr with
    | zero =>
      intro j hj hr F hF g2
      have g1 : F 651 q = nI E := by rw [hF _ _ (Or.inr (by decide))]; exact e1
      rw [e182_9]
      simp only [e182_0, e182_1, e182_4, e182_5, e182_8, e182_10, e182_11, e182_14, e182_17, e182_19, e182_22, e182_23, e182_23i, e182_24, e182_27, e182_28, e182_29, e182_32, e182_36, e182_37, e182_40, e182_43, e182_44, e182_45, e182_48, e182_49, e182_50, e182_53, e182_54, e182_55, e182_58, e182_61, e182_62, e182_63, e182_64, e182_65, e182_66, e182_69, e182_70, e182_71, e182_74, e182_77, e182_78, e182_81, e182_84, e182_85, e182_86, e182_90, e182_91, e182_94, e182_97, e182_100, e182_103, e182_104, e182_106, e182_109, e182_110, e182_113, e182_114, e182_115, e182_116, e182_119, e182_122, e182_124, e182_125, e182_126, e182_127, e182_130, e182_131, e182_134, e182_135, e182_136, e182_139, e182_140, e182_141, e182_142, e182_143, e182_144, e182_145, e182_148, e182_151, e182_152, e182_152i, e182_153, e182_156, e182_157, e182_158, e182_161, e182_164, e182_165, e182_166, e182_169, e182_170, e182_172, e182_175, e182_176, e182_177, e182_180, e182_183, e182_184, e182_187, e182_190, e182_191, e182_192, e182_196, e182_197, e182_200, e182_203, e182_206, e182_209, e182_210, e182_211, e182_214, e182_215, e182_217, e182_218, e182_221, e182_222, e182_223, e182_224, e182_227, e182_230, e182_231, e182_233, e182_234, e182_237, e182_240, e182_241, e182_241i, e182_242, e182_245, e182_246, e182_247, e182_250, e182_253, e182_254, e182_255, e182_258, e182_259, e182_260, e182_263, e182_266, e182_267, e182_269, e182_272, e182_273, e182_275, e182_278, e182_279, e182_280, e182_283, e182_284, e182_285, e182_288, e182_289, e182_289i, e182_290, e182_293, e182_294, e182_295, e182_298, k0, g2, true_and]
      refine ⟨by simp, c_mbyteAt hSt hT g1 hE (by omega) ?_⟩
      simp only [tl_some, e182_0, e182_1, e182_4, e182_5, e182_8, e182_10, e182_11, e182_14, e182_17, e182_19, e182_22, e182_23, e182_23i, e182_24, e182_27, e182_28, e182_29, e182_32, e182_36, e182_37, e182_40, e182_43, e182_44, e182_45, e182_48, e182_49, e182_50, e182_53, e182_54, e182_55, e182_58, e182_61, e182_62, e182_63, e182_64, e182_65, e182_66, e182_69, e182_70, e182_71, e182_74, e182_77, e182_78, e182_81, e182_84, e182_85, e182_86, e182_90, e182_91, e182_94, e182_97, e182_100, e182_103, e182_104, e182_106, e182_109, e182_110, e182_113, e182_114, e182_115, e182_116, e182_119, e182_122, e182_124, e182_125, e182_126, e182_127, e182_130, e182_131, e182_134, e182_135, e182_136, e182_139, e182_140, e182_141, e182_142, e182_143, e182_144, e182_145, e182_148, e182_151, e182_152, e182_152i, e182_153, e182_156, e182_157, e182_158, e182_161, e182_164, e182_165, e182_166, e182_169, e182_170, e182_172, e182_175, e182_176, e182_177, e182_180, e182_183, e182_184, e182_187, e182_190, e182_191, e182_192, e182_196, e182_197, e182_200, e182_203, e182_206, e182_209, e182_210, e182_211, e182_214, e182_215, e182_217, e182_218, e182_221, e182_222, e182_223, e182_224, e182_227, e182_230, e182_231, e182_233, e182_234, e182_237, e182_240, e182_241, e182_241i, e182_242, e182_245, e182_246, e182_247, e182_250, e182_253, e182_254, e182_255, e182_258, e182_259, e182_260, e182_263, e182_266, e182_267, e182_269, e182_272, e182_273, e182_275, e182_278, e182_279, e182_280, e182_283, e182_284, e182_285, e182_288, e182_289, e182_289i, e182_290, e182_293, e182_294, e182_295, e182_298, bv_sp hB]
      exact ⟨fun _ => tail F hF g1 (by rw [g2, ← hp, hr, rn_end (by omega)]), fun z => absurd (fun y => by omega) z⟩
    | succ rr ih =>
      intro j hj hr F hF g2
      have g1 : F 651 q = nI E := by rw [hF _ _ (Or.inr (by decide))]; exact e1
      rw [e182_9]
      simp only [e182_0, e182_1, e182_4, e182_5, e182_8, e182_10, e182_11, e182_14, e182_17, e182_19, e182_22, e182_23, e182_23i, e182_24, e182_27, e182_28, e182_29, e182_32, e182_36, e182_37, e182_40, e182_43, e182_44, e182_45, e182_48, e182_49, e182_50, e182_53, e182_54, e182_55, e182_58, e182_61, e182_62, e182_63, e182_64, e182_65, e182_66, e182_69, e182_70, e182_71, e182_74, e182_77, e182_78, e182_81, e182_84, e182_85, e182_86, e182_90, e182_91, e182_94, e182_97, e182_100, e182_103, e182_104, e182_106, e182_109, e182_110, e182_113, e182_114, e182_115, e182_116, e182_119, e182_122, e182_124, e182_125, e182_126, e182_127, e182_130, e182_131, e182_134, e182_135, e182_136, e182_139, e182_140, e182_141, e182_142, e182_143, e182_144, e182_145, e182_148, e182_151, e182_152, e182_152i, e182_153, e182_156, e182_157, e182_158, e182_161, e182_164, e182_165, e182_166, e182_169, e182_170, e182_172, e182_175, e182_176, e182_177, e182_180, e182_183, e182_184, e182_187, e182_190, e182_191, e182_192, e182_196, e182_197, e182_200, e182_203, e182_206, e182_209, e182_210, e182_211, e182_214, e182_215, e182_217, e182_218, e182_221, e182_222, e182_223, e182_224, e182_227, e182_230, e182_231, e182_233, e182_234, e182_237, e182_240, e182_241, e182_241i, e182_242, e182_245, e182_246, e182_247, e182_250, e182_253, e182_254, e182_255, e182_258, e182_259, e182_260, e182_263, e182_266, e182_267, e182_269, e182_272, e182_273, e182_275, e182_278, e182_279, e182_280, e182_283, e182_284, e182_285, e182_288, e182_289, e182_289i, e182_290, e182_293, e182_294, e182_295, e182_298, k0, g2, true_and]
      refine ⟨by simp, c_mbyteAt hSt hT g1 hE (by omega) ?_⟩
      simp only [tl_some, e182_0, e182_1, e182_4, e182_5, e182_8, e182_10, e182_11, e182_14, e182_17, e182_19, e182_22, e182_23, e182_23i, e182_24, e182_27, e182_28, e182_29, e182_32, e182_36, e182_37, e182_40, e182_43, e182_44, e182_45, e182_48, e182_49, e182_50, e182_53, e182_54, e182_55, e182_58, e182_61, e182_62, e182_63, e182_64, e182_65, e182_66, e182_69, e182_70, e182_71, e182_74, e182_77, e182_78, e182_81, e182_84, e182_85, e182_86, e182_90, e182_91, e182_94, e182_97, e182_100, e182_103, e182_104, e182_106, e182_109, e182_110, e182_113, e182_114, e182_115, e182_116, e182_119, e182_122, e182_124, e182_125, e182_126, e182_127, e182_130, e182_131, e182_134, e182_135, e182_136, e182_139, e182_140, e182_141, e182_142, e182_143, e182_144, e182_145, e182_148, e182_151, e182_152, e182_152i, e182_153, e182_156, e182_157, e182_158, e182_161, e182_164, e182_165, e182_166, e182_169, e182_170, e182_172, e182_175, e182_176, e182_177, e182_180, e182_183, e182_184, e182_187, e182_190, e182_191, e182_192, e182_196, e182_197, e182_200, e182_203, e182_206, e182_209, e182_210, e182_211, e182_214, e182_215, e182_217, e182_218, e182_221, e182_222, e182_223, e182_224, e182_227, e182_230, e182_231, e182_233, e182_234, e182_237, e182_240, e182_241, e182_241i, e182_242, e182_245, e182_246, e182_247, e182_250, e182_253, e182_254, e182_255, e182_258, e182_259, e182_260, e182_263, e182_266, e182_267, e182_269, e182_272, e182_273, e182_275, e182_278, e182_279, e182_280, e182_283, e182_284, e182_285, e182_288, e182_289, e182_289i, e182_290, e182_293, e182_294, e182_295, e182_298, bv_sp hB, k0, g2, nI_1, true_and]
      refine ⟨fun z => tail F hF g1 ?_, fun z => ?_⟩
      · have : isSp (T j) = false := by
          cases y : isSp (T j) with
          | false => rfl
          | true => exact absurd ⟨by omega, y⟩ z
        rw [g2, ← hp, hr, rn_no this]
      · have z' := (Classical.not_not.mp z).2
        exact ih (j + 1) (by omega) (by rw [hr, rn_yes (by omega) z']) _ (hF.same (FIx_u2 (by decide))) mj_u2_s
  refine n182 k0 ?_
  simp only [e182_0, e182_1, e182_4, e182_5, e182_8, e182_10, e182_11, e182_14, e182_17, e182_19, e182_22, e182_23, e182_23i, e182_24, e182_27, e182_28, e182_29, e182_32, e182_35, e182_36, e182_37, e182_40, e182_43, e182_44, e182_45, e182_48, e182_49, e182_50, e182_53, e182_54, e182_55, e182_58, e182_61, e182_62, e182_63, e182_64, e182_65, e182_66, e182_69, e182_70, e182_71, e182_74, e182_77, e182_78, e182_81, e182_84, e182_85, e182_86, e182_90, e182_91, e182_94, e182_97, e182_100, e182_103, e182_104, e182_106, e182_109, e182_110, e182_113, e182_114, e182_115, e182_116, e182_119, e182_122, e182_124, e182_125, e182_126, e182_127, e182_130, e182_131, e182_134, e182_135, e182_136, e182_139, e182_140, e182_141, e182_142, e182_143, e182_144, e182_145, e182_148, e182_151, e182_152, e182_152i, e182_153, e182_156, e182_157, e182_158, e182_161, e182_164, e182_165, e182_166, e182_169, e182_170, e182_172, e182_175, e182_176, e182_177, e182_180, e182_183, e182_184, e182_187, e182_190, e182_191, e182_192, e182_196, e182_197, e182_200, e182_203, e182_206, e182_209, e182_210, e182_211, e182_214, e182_215, e182_217, e182_218, e182_221, e182_222, e182_223, e182_224, e182_227, e182_230, e182_231, e182_233, e182_234, e182_237, e182_240, e182_241, e182_241i, e182_242, e182_245, e182_246, e182_247, e182_250, e182_253, e182_254, e182_255, e182_258, e182_259, e182_260, e182_263, e182_266, e182_267, e182_269, e182_272, e182_273, e182_275, e182_278, e182_279, e182_280, e182_283, e182_284, e182_285, e182_288, e182_289, e182_289i, e182_290, e182_293, e182_294, e182_295, e182_298, k0, true_and]
  exact ⟨fun _ => blanks (E - i) i (by omega) rfl FI FIx.rfl' e2, fun z => absurd h5 z⟩
end
