/-! ## the model reads a bill's line -/
def sBil (S : PS) (k x y l : Nat) (t : Nat → Nat) (nm : List Nat) : PS := (w_bill (sW S) k x y l t, sHs S, sM S, sSh S, sNp S, upN (sBn S) (wNB (sW S)) nm, sRn S)
theorem pKind_3 {T : Nat → Int32} {E p : Nat} {x : Nat × Nat} (h : pKind T E p = .inr x) : x.1 ≤ 3 := by
  unfold pKind at h
  split at h
  · cases h; simp
  · split at h
    · cases h; simp
    · split at h
      · cases h; simp
      · split at h
        · cases h; simp
        · cases h
theorem bill_ch {T : Nat → Int32} {E p : Nat} {S : PS} {r1 R : (Nat × Nat) ⊕ Nat} {KD X Y : (Nat × Nat) ⊕ (Nat × Nat)} {N : (Nat × Nat) ⊕ Nat} {v : Int64} {kv vx vy : Int32} (hr : r1 = pFirst T E (decide (wNB (sW S) < 4)) (decide (0 < wW (sW S))) p) (hR : R = bd r1 (pNew T E S)) (hK : KD = bd R (pKind T E)) (hX : X = rp T E (r2 KD) 6 1 (wW (sW S))) (hY : Y = rp T E (r2 X) 7 1 (wH (sW S))) (hN : N = bd (r2 Y) (pKey T E 11))
    (h1 : ∀ p1 p2, r1 = .inr p1 → pNew T E S p1 = .inr p2 → v = lN (pkl (wd T E p1)) ∧ nOK (wd T E p1)) (h2 : ∀ y, KD = .inr y → kv = nI y.1) (h3 : ∀ y, X = .inr y → vx = nI y.1) (h4 : ∀ y, Y = .inr y → vy = nI y.1) :
    (∃ e, N = .inl e ∧ pBill T E p S = .inl e) ∨ ∃ (p1 : Nat) (k x y : Nat × Nat) (p5 : Nat), N = .inr p5 ∧ pBill T E p S = (bd (pWd T E p5) fun p6 => .inr (p6, sBil S k.1 x.1 y.1 (wl T E p5) (lt T p5) (wd T E p1))) ∧ (wNB (sW S) < 4 ∧ 0 < wW (sW S)) ∧ (v = lN (pkl (wd T E p1)) ∧ nOK (wd T E p1)) ∧ (kv = nI k.1 ∧ vx = nI x.1 ∧ vy = nI y.1) ∧ k.1 ≤ 3 ∧ (1 ≤ x.1 ∧ x.1 ≤ wW (sW S)) ∧ (1 ≤ y.1 ∧ y.1 ≤ wH (sW S)) ∧ fndL (sBn S) (wNB (sW S)) (wd T E p1) = none ∧ fndL (sRn S) (wNR (sW S)) (wd T E p1) = none := by
  have pB : pBill T E p S = bd r1 fun p1 => bd (pNew T E S p1) fun p2 => bd (pKind T E p2) fun k => bd (rp T E (.inr k.2) 6 1 (wW (sW S))) fun x => bd (rp T E (.inr x.2) 7 1 (wH (sW S))) fun y => bd (pKey T E 11 y.2) fun p5 => bd (pWd T E p5) fun p6 => .inr (p6, sBil S k.1 x.1 y.1 (wl T E p5) (lt T p5) (wd T E p1)) := by
    unfold pBill
    rw [← hr]
    simp only [rp_bd]
    rfl
  cases e1 : r1 with
  | inl e =>
    subst e1
    exact Or.inl ⟨e, by subst hN hY hX hK hR; rfl, by rw [pB]; rfl⟩
  | inr p1 =>
    have c0 : wNB (sW S) < 4 ∧ 0 < wW (sW S) := by
      rw [e1] at hr
      unfold pFirst at hr
      split at hr
      · rename_i z
        split at hr
        · rename_i z2
          exact ⟨by simpa using z, by simpa using z2⟩
        · cases hr
      · cases hr
    cases e2 : pNew T E S p1 with
    | inl e =>
      have a1 : R = .inl e := by rw [hR, e1]; exact e2
      subst a1
      exact Or.inl ⟨e, by subst hN hY hX hK; rfl, by rw [pB]; simp only [bd, e1, e2]⟩
    | inr p2 =>
      have a1 : R = .inr p2 := by rw [hR, e1]; exact e2
      rw [a1] at hK
      replace hK : KD = pKind T E p2 := hK
      obtain ⟨c1, c2⟩ := h1 p1 p2 e1 e2
      obtain ⟨-, -, c3, c4⟩ := pNew_inr e2
      cases e3 : pKind T E p2 with
      | inl e =>
        rw [e3] at hK
        exact Or.inl ⟨e, by subst hN hY hX hK; rfl, by rw [pB]; simp only [bd, e1, e2, e3]⟩
      | inr k =>
        rw [e3] at hK
        have c5 := h2 k hK
        rw [hK] at hX
        replace hX : X = rp T E (.inr k.2) 6 1 (wW (sW S)) := hX
        cases e4 : rp T E (.inr k.2) 6 1 (wW (sW S)) with
        | inl e =>
          rw [e4] at hX
          exact Or.inl ⟨e, by subst hN hY hX; rfl, by rw [pB]; simp only [bd, e1, e2, e3, e4]⟩
        | inr x =>
          rw [e4] at hX
          have c6 := h3 x hX
          rw [hX] at hY
          replace hY : Y = rp T E (.inr x.2) 7 1 (wH (sW S)) := hY
          cases e5 : rp T E (.inr x.2) 7 1 (wH (sW S)) with
          | inl e =>
            rw [e5] at hY
            exact Or.inl ⟨e, by subst hN hY; rfl, by rw [pB]; simp only [bd, e1, e2, e3, e4, e5]⟩
          | inr y =>
            rw [e5] at hY
            have c7 := h4 y hY
            rw [hY] at hN
            replace hN : N = pKey T E 11 y.2 := hN
            cases e6 : pKey T E 11 y.2 with
            | inl e =>
              exact Or.inl ⟨e, by rw [hN, e6], by rw [pB]; simp only [bd, e1, e2, e3, e4, e5, e6]⟩
            | inr p5 =>
              refine Or.inr ⟨p1, k, x, y, p5, by rw [hN, e6], ?_, c0, ⟨c1, c2⟩, ⟨c5, c6, c7⟩, pKind_3 e3, rp_le e4, rp_le e5, c3, c4⟩
              rw [pB]
              simp only [bd, e1, e2, e3, e4, e5, e6]
section
variable {sa : Nat → Nat} {d n t h m : Nat} {Q : mj_Q} {K : Nat → Nat × Nat} {FI : Nat → Nat → Int32} {FL : Nat → Nat → Int64} {FR : Nat → Nat → Option Nat} {AI : Nat → Nat → Int32} {AL : Nat → Nat → Int64} {AR : Nat → Nat → Option Nat} {w : Wl} {hs : Nat → Hg}
variable {q E a p : Nat} {T : Nat → Int32} {res : (Nat × Nat) ⊕ Nat} {S : PS}
theorem RdS.bil {FI' AI' : Nat → Nat → Int32} {AL' : Nat → Nat → Int64} {nn k x y l : Nat} {t : Nat → Nat} {nm : List Nat} (h : RdS K FR FI AI AL q a S) (hn : nn = wNB (sW S) + wNR (sW S)) (h4 : wNB (sW S) < 4) (hW : 0 < wW (sW S)) (hk : k ≤ 3) (hx : 1 ≤ x ∧ x ≤ wW (sW S)) (hy : 1 ≤ y ∧ y ≤ wH (sW S)) (hl : 1 ≤ l ∧ l ≤ 8) (ht : ∀ j, j < l → t j < 26) (hnm : nOK nm) (fB : fndL (sBn S) (wNB (sW S)) nm = none) (fR : fndL (sRn S) (wNR (sW S)) nm = none)
    (f0 : FI' 579 a = nI (wNB (sW S) + 1)) (f1 : FI' 584 a = nI (nn + 1)) (fx : ∀ f, f ≠ 579 → f ≠ 584 → FI' f a = FI f a) (ax : ∀ c, a < c → a + 5 < c → c ≠ a + 11 → c ≠ a + 12 → AI' c = AI c) (ay : ∀ c k, a < c → c < a + 5 → k ≠ wNB (sW S) → AI' c k = AI c k) (b1 : AI' (a + 1) (wNB (sW S)) = nI k) (b2 : AI' (a + 2) (wNB (sW S)) = nI x) (b3 : AI' (a + 3) (wNB (sW S)) = nI y) (b4 : AI' (a + 4) (wNB (sW S)) = nI l) (a5 : ∀ j, j < 8 * wNB (sW S) → AI' (a + 5) j = AI (a + 5) j) (b5 : ∀ j, j < l → AI' (a + 5) (8 * wNB (sW S) + j) = nI (t j)) (a11 : ∀ k, k ≠ nn → AI' (a + 11) k = AI (a + 11) k) (b11 : AI' (a + 11) nn = nI 0) (a12 : ∀ k, k ≠ nn → AI' (a + 12) k = AI (a + 12) k) (b12 : AI' (a + 12) nn = nI (wNB (sW S))) (lx : ∀ c, c ≠ a + 10 → AL' c = AL c) (a10 : ∀ k, k ≠ nn → AL' (a + 10) k = AL (a + 10) k) (b10 : AL' (a + 10) nn = lN (pkl nm)) : RdS K FR FI' AI' AL' q a (sBil S k x y l t nm) := by
  obtain ⟨h1, h2, h3, h4', h5, h6, h7, h8, h9⟩ := h
  obtain ⟨⟨m1, m2, m3, m4, m5, m6, m7, m8⟩, mb, mw⟩ := h2
  have hw : wOK (sW S) := by
    rcases h9 with z | z
    · have := z.1.1.1
      omega
    · exact z
  refine ⟨h1, ⟨⟨?_, ?_, ?_, f0, ?_, ?_, ?_, ?_⟩, fun b hb => ?_, ?_⟩, ?_, ?_, ?_, ?_, ?_, h8, Or.inr ?_⟩
  · rw [fx _ (by decide) (by decide)]; exact m1
  · rw [fx _ (by decide) (by decide)]; exact m2
  · rw [fx _ (by decide) (by decide)]; exact m3
  · rw [fx _ (by decide) (by decide)]; exact m5
  · rw [fx _ (by decide) (by decide)]; exact m6
  · rw [fx _ (by decide) (by decide)]; exact m7
  · rw [fx _ (by decide) (by decide)]; exact m8
  · have hb' : b < wNB (sW S) + 1 := hb
    show AI' (a + 1) b = nI (upN (wK (sW S)) (wNB (sW S)) k b) ∧ AI' (a + 2) b = nI (upN (wBW (sW S)) (wNB (sW S)) x b) ∧ AI' (a + 3) b = nI (upN (wBH (sW S)) (wNB (sW S)) y b) ∧ AI' (a + 4) b = nI (upN (wTL (sW S)) (wNB (sW S)) l b) ∧ ∀ j, j < upN (wTL (sW S)) (wNB (sW S)) l b → AI' (a + 5) (8 * b + j) = nI (upN (wTX (sW S)) (wNB (sW S)) t b j)
    by_cases z : b = wNB (sW S)
    · subst z
      rw [upN_s, upN_s, upN_s, upN_s, upN_s]
      exact ⟨b1, b2, b3, b4, b5⟩
    · rw [upN_o z, upN_o z, upN_o z, upN_o z, upN_o z, ay _ _ (by omega) (by omega) z, ay _ _ (by omega) (by omega) z, ay _ _ (by omega) (by omega) z, ay _ _ (by omega) (by omega) z]
      obtain ⟨y1, y2, y3, y4, y5⟩ := mb b (by omega)
      refine ⟨y1, y2, y3, y4, fun j hj => ?_⟩
      have := (hw.2.2.2.2.2.2.1 b (by omega)).2.2.2.1.2
      rw [a5 _ (by omega)]
      exact y5 j hj
  · rw [ax _ (by omega) (by omega) (by omega) (by omega), ax _ (by omega) (by omega) (by omega) (by omega)]; exact mw
  · rw [fx _ (by decide) (by decide)]; exact h3
  · rw [ax _ (by omega) (by omega) (by omega) (by omega)]; exact h4'
  · rw [lx _ (by omega)]; exact h5
  · exact NmR.bill h6 hn rfl rfl rfl rfl hnm fB fR f1 a11 b11 a12 b12 a10 b10
  · obtain ⟨i1, i2, i3⟩ := h7
    refine ⟨by rw [ax _ (by omega) (by omega) (by omega) (by omega)]; exact i1, i2, fun i hi => ?_⟩
    obtain ⟨⟨c1, c2, c3⟩, c4⟩ := i3 i hi
    have gne : gB (sHs S i) ≠ wNB (sW S) := by omega
    have eW : wBW (w_bill (sW S) k x y l t) (gB (sHs S i)) = wBW (sW S) (gB (sHs S i)) := upN_o gne
    have eH : wBH (w_bill (sW S) k x y l t) (gB (sHs S i)) = wBH (sW S) (gB (sHs S i)) := upN_o gne
    have eC : covg (w_bill (sW S) k x y l t) (sHs S i) = covg (sW S) (sHs S i) := by
      funext z
      unfold covg cov
      rw [eW, eH]
      rfl
    refine ⟨⟨by show gB (sHs S i) < wNB (sW S) + 1; omega, ?_, ?_⟩, ?_⟩
    · show gX (sHs S i) + wBW (w_bill (sW S) k x y l t) (gB (sHs S i)) ≤ wW (sW S)
      rw [eW]; exact c2
    · show gY (sHs S i) + wBH (w_bill (sW S) k x y l t) (gB (sHs S i)) ≤ wH (sW S)
      rw [eH]; exact c3
    · rw [ax _ (by omega) (by omega) (by omega) (by omega), lx _ (by omega)]
      show AI (a + 13 + 1) (1 + i) = nI (gB (sHs S i)) ∧ AI (a + 13 + 1) (31 + i) = nI (gX (sHs S i)) ∧ AI (a + 13 + 1) (61 + i) = nI (gY (sHs S i)) ∧ AI (a + 13 + 1) (91 + i) = gR (sHs S i) ∧ MkL (AL (a + 13 + 2) i) (covg (w_bill (sW S) k x y l t) (sHs S i))
      rw [eC]; exact c4
  · refine ⟨hw.1, hw.2.1, hw.2.2.1, by show wNB (sW S) + 1 ≤ 4; omega, hw.2.2.2.2.1, hw.2.2.2.2.2.1, fun b hb => ?_, hw.2.2.2.2.2.2.2⟩
    have hb' : b < wNB (sW S) + 1 := hb
    show upN (wK (sW S)) (wNB (sW S)) k b ≤ 3 ∧ (1 ≤ upN (wBW (sW S)) (wNB (sW S)) x b ∧ upN (wBW (sW S)) (wNB (sW S)) x b ≤ wW (sW S)) ∧ (1 ≤ upN (wBH (sW S)) (wNB (sW S)) y b ∧ upN (wBH (sW S)) (wNB (sW S)) y b ≤ wH (sW S)) ∧ (1 ≤ upN (wTL (sW S)) (wNB (sW S)) l b ∧ upN (wTL (sW S)) (wNB (sW S)) l b ≤ 8) ∧ ∀ j, j < upN (wTL (sW S)) (wNB (sW S)) l b → upN (wTX (sW S)) (wNB (sW S)) t b j < 26
    by_cases z : b = wNB (sW S)
    · subst z
      rw [upN_s, upN_s, upN_s, upN_s, upN_s]
      exact ⟨hk, hx, hy, hl, ht⟩
    · rw [upN_o z, upN_o z, upN_o z, upN_o z, upN_o z]
      exact hw.2.2.2.2.2.2.1 b (by omega)
theorem c_mreadBill (hE : MEnv K FR AI q T E) (h : TSt FI AI FL q T E (.inr p)) (hs : srt T E p = 1) (hR : RdS K FR FI AI AL q a S) (hQ : ∀ (FI' AI' : Nat → Nat → Int32) (FL' AL' : Nat → Nat → Int64) (S' : PS), TSt FI' AI' FL' q T E (bd (pBill T E p S) fun x => .inr x.1) → (∀ x, pBill T E p S = .inr x → S' = x.2) → RdS K FR FI' AI' AL' q a S' → RZ q a FI FI' AI AI' FL FL' AL AL' → Q none (n, K, FI', FL', FR, AI', AL', AR)) : EV sa (d + 14) 198 [.ref q] (n, K, FI, FL, FR, AI, AL, AR) Q := by
  have k0 := hE.1.1
  obtain ⟨f4, k4⟩ := hE.1.2.2.2.2.1
  obtain ⟨⟨r4, -, hWS, -, hqa⟩, ⟨⟨-, -, -, m4, -⟩, -⟩, -⟩ := id hR
  obtain ⟨ka, ⟨fk, kk⟩, ⟨fw, kw⟩, ⟨fh, kh⟩, ⟨fl, kl⟩, ⟨ft, kt⟩, -⟩ := id hWS
  obtain ⟨b4, b3, -, b8, bh4, -⟩ := hR.bd4
  refine n198 k0 ?_
  simp only [e198_0, e198_1, e198_2, e198_5, e198_8, e198_9, e198_10, e198_13, e198_14, e198_17, e198_18, e198_19, e198_22, e198_25, e198_28, e198_29, e198_32, e198_33, e198_36, e198_39, e198_42, e198_43, e198_46, e198_47, e198_50, e198_53, e198_56, e198_57, e198_60, e198_61, e198_64, e198_67, e198_70, e198_71, e198_74, e198_75, e198_76, e198_77, e198_78, e198_81, e198_82, e198_83, e198_86, e198_87, e198_90, e198_91, e198_92, e198_95, e198_98, e198_101, e198_103, e198_104, e198_107, e198_108, e198_109, e198_112, e198_115, e198_118, e198_120, e198_121, e198_124, e198_127, e198_128, e198_131, e198_132, e198_135, e198_136, e198_137, e198_140, e198_141, e198_144, e198_145, e198_148, e198_149, e198_150, e198_153, e198_156, e198_158, e198_159, e198_161, e198_163, e198_164, e198_167, e198_170, e198_171, e198_174, e198_177, e198_179, e198_181, e198_182, e198_184, e198_185, e198_186, e198_189, e198_191, e198_192, e198_193, e198_196, e198_199, e198_200, e198_203, e198_206, e198_208, e198_209, e198_212, e198_213, e198_214, e198_217, e198_220, e198_222, e198_223, e198_224, e198_225, e198_228, e198_231, e198_233, e198_235, e198_236, e198_237, e198_240, e198_243, e198_245, e198_247, e198_248, e198_249, e198_250, e198_251, e198_253, e198_256, e198_257, e198_260, e198_260i, e198_261, e198_264, e198_265, e198_266, e198_269, e198_270, e198_273, k0, r4, rf_some, ka, m4, true_and]
  refine ⟨by simp, c_begins (on := true) hE h hR (fun p' e => by cases e; omega) fun F1 A1 L1 g1 z1 => ?_⟩
  obtain ⟨r1, er1⟩ : ∃ r1, r1 = pFirst T E (decide (wNB (sW S) < 4)) (decide (0 < wW (sW S))) p := ⟨_, rfl⟩
  replace g1 : TSt F1 A1 L1 q T E r1 := by
    rw [dec_ne' (c := 4) b4 (by decide) rfl, show (!(true && decide (wW (sW S) = 0))) = decide (0 < wW (sW S)) by rw [Bool.true_and, ← decide_not]; exact decide_eq_decide.mpr (by omega)] at g1
    rw [er1]
    exact g1
  have hE1 := hE.z z1
  have hR1 := hR.z z1
  simp only [tl_none, e198_0, e198_1, e198_2, e198_5, e198_8, e198_9, e198_10, e198_13, e198_14, e198_17, e198_18, e198_19, e198_22, e198_25, e198_28, e198_29, e198_32, e198_33, e198_36, e198_39, e198_42, e198_43, e198_46, e198_47, e198_50, e198_53, e198_56, e198_57, e198_60, e198_61, e198_64, e198_67, e198_70, e198_71, e198_74, e198_75, e198_76, e198_77, e198_78, e198_81, e198_82, e198_83, e198_86, e198_87, e198_90, e198_91, e198_92, e198_95, e198_98, e198_101, e198_103, e198_104, e198_107, e198_108, e198_109, e198_112, e198_115, e198_118, e198_120, e198_121, e198_124, e198_127, e198_128, e198_131, e198_132, e198_135, e198_136, e198_137, e198_140, e198_141, e198_144, e198_145, e198_148, e198_149, e198_150, e198_153, e198_156, e198_158, e198_159, e198_161, e198_163, e198_164, e198_167, e198_170, e198_171, e198_174, e198_177, e198_179, e198_181, e198_182, e198_184, e198_185, e198_186, e198_189, e198_191, e198_192, e198_193, e198_196, e198_199, e198_200, e198_203, e198_206, e198_208, e198_209, e198_212, e198_213, e198_214, e198_217, e198_220, e198_222, e198_223, e198_224, e198_225, e198_228, e198_231, e198_233, e198_235, e198_236, e198_237, e198_240, e198_243, e198_245, e198_247, e198_248, e198_249, e198_250, e198_251, e198_253, e198_256, e198_257, e198_260, e198_260i, e198_261, e198_264, e198_265, e198_266, e198_269, e198_270, e198_273, mj_kl]
  refine ⟨by simp, c_readFresh hE1 g1 hR1 fun F2 A2 L2 v g2 y2 z2 => ?_⟩
  obtain ⟨R, eR⟩ : ∃ R, R = bd r1 (pNew T E S) := ⟨_, rfl⟩
  rw [← eR] at g2
  have z12 := z1.trans z2
  have hE2 := hE.z z12
  obtain ⟨KD, eK⟩ : ∃ KD, KD = bd R (pKind T E) := ⟨_, rfl⟩
  -- behind the kind
  have from86 : ∀ (F A : Nat → Nat → Int32) (L : Nat → Nat → Int64) (kv : Int32), TSt F A L q T E (r2 KD) → (∀ x, KD = .inr x → kv = nI x.1) → PZ q FI F AI A FL L → WP sa (EV sa (d + 13)) 198 Q 0 0 86 [.ref q, .long v, mj_u, .int kv, mj_u, mj_u, mj_u, mj_u] [] (n, K, F, L, FR, A, AL, AR) := by
    intro F A L kv g3 y3 z3
    have hE3 := hE.z z3
    have hR3 := hR.z z3
    have m1 := hR3.2.1.1.1
    simp only [e198_0, e198_1, e198_2, e198_5, e198_8, e198_9, e198_10, e198_13, e198_14, e198_17, e198_18, e198_19, e198_22, e198_25, e198_28, e198_29, e198_32, e198_33, e198_36, e198_39, e198_42, e198_43, e198_46, e198_47, e198_50, e198_53, e198_56, e198_57, e198_60, e198_61, e198_64, e198_67, e198_70, e198_71, e198_74, e198_75, e198_76, e198_77, e198_78, e198_81, e198_82, e198_83, e198_86, e198_87, e198_90, e198_91, e198_92, e198_95, e198_98, e198_101, e198_103, e198_104, e198_107, e198_108, e198_109, e198_112, e198_115, e198_118, e198_120, e198_121, e198_124, e198_127, e198_128, e198_131, e198_132, e198_135, e198_136, e198_137, e198_140, e198_141, e198_144, e198_145, e198_148, e198_149, e198_150, e198_153, e198_156, e198_158, e198_159, e198_161, e198_163, e198_164, e198_167, e198_170, e198_171, e198_174, e198_177, e198_179, e198_181, e198_182, e198_184, e198_185, e198_186, e198_189, e198_191, e198_192, e198_193, e198_196, e198_199, e198_200, e198_203, e198_206, e198_208, e198_209, e198_212, e198_213, e198_214, e198_217, e198_220, e198_222, e198_223, e198_224, e198_225, e198_228, e198_231, e198_233, e198_235, e198_236, e198_237, e198_240, e198_243, e198_245, e198_247, e198_248, e198_249, e198_250, e198_251, e198_253, e198_256, e198_257, e198_260, e198_260i, e198_261, e198_264, e198_265, e198_266, e198_269, e198_270, e198_273, k0, r4, rf_some, ka, m1, mj_kl, true_and]
    refine ⟨by simp, c_readPart (l := 1) (u := wW (sW S)) hE3 g3 (by decide) (fun _ _ => ⟨rfl, rfl, by decide, by omega⟩) fun F4 A4 L4 vx g4' y4 z4 => ?_⟩
    obtain ⟨X, eX⟩ : ∃ X, X = rp T E (r2 KD) 6 1 (wW (sW S)) := ⟨_, rfl⟩
    replace g4' : TSt F4 A4 L4 q T E (r2 X) := by rw [eX]; exact g4'
    replace y4 : ∀ y, X = .inr y → vx = nI y.1 := by rw [eX]; exact y4
    have z04 := z3.trans z4
    have hE4 := hE.z z04
    have hR4 := hR.z z04
    have m2 := hR4.2.1.1.2.1
    simp only [tl_some, e198_0, e198_1, e198_2, e198_5, e198_8, e198_9, e198_10, e198_13, e198_14, e198_17, e198_18, e198_19, e198_22, e198_25, e198_28, e198_29, e198_32, e198_33, e198_36, e198_39, e198_42, e198_43, e198_46, e198_47, e198_50, e198_53, e198_56, e198_57, e198_60, e198_61, e198_64, e198_67, e198_70, e198_71, e198_74, e198_75, e198_76, e198_77, e198_78, e198_81, e198_82, e198_83, e198_86, e198_87, e198_90, e198_91, e198_92, e198_95, e198_98, e198_101, e198_103, e198_104, e198_107, e198_108, e198_109, e198_112, e198_115, e198_118, e198_120, e198_121, e198_124, e198_127, e198_128, e198_131, e198_132, e198_135, e198_136, e198_137, e198_140, e198_141, e198_144, e198_145, e198_148, e198_149, e198_150, e198_153, e198_156, e198_158, e198_159, e198_161, e198_163, e198_164, e198_167, e198_170, e198_171, e198_174, e198_177, e198_179, e198_181, e198_182, e198_184, e198_185, e198_186, e198_189, e198_191, e198_192, e198_193, e198_196, e198_199, e198_200, e198_203, e198_206, e198_208, e198_209, e198_212, e198_213, e198_214, e198_217, e198_220, e198_222, e198_223, e198_224, e198_225, e198_228, e198_231, e198_233, e198_235, e198_236, e198_237, e198_240, e198_243, e198_245, e198_247, e198_248, e198_249, e198_250, e198_251, e198_253, e198_256, e198_257, e198_260, e198_260i, e198_261, e198_264, e198_265, e198_266, e198_269, e198_270, e198_273, k0, r4, rf_some, ka, m2, mj_kl, true_and]
    refine ⟨by simp, c_readPart (l := 1) (u := wH (sW S)) hE4 g4' (by decide) (fun _ _ => ⟨rfl, rfl, by decide, by omega⟩) fun F5 A5 L5 vy g5 y5 z5 => ?_⟩
    obtain ⟨Y, eY⟩ : ∃ Y, Y = rp T E (r2 X) 7 1 (wH (sW S)) := ⟨_, rfl⟩
    replace g5 : TSt F5 A5 L5 q T E (r2 Y) := by rw [eY]; exact g5
    replace y5 : ∀ y, Y = .inr y → vy = nI y.1 := by rw [eY]; exact y5
    have z05 := z04.trans z5
    have hE5 := hE.z z05
    simp only [tl_some, e198_0, e198_1, e198_2, e198_5, e198_8, e198_9, e198_10, e198_13, e198_14, e198_17, e198_18, e198_19, e198_22, e198_25, e198_28, e198_29, e198_32, e198_33, e198_36, e198_39, e198_42, e198_43, e198_46, e198_47, e198_50, e198_53, e198_56, e198_57, e198_60, e198_61, e198_64, e198_67, e198_70, e198_71, e198_74, e198_75, e198_76, e198_77, e198_78, e198_81, e198_82, e198_83, e198_86, e198_87, e198_90, e198_91, e198_92, e198_95, e198_98, e198_101, e198_103, e198_104, e198_107, e198_108, e198_109, e198_112, e198_115, e198_118, e198_120, e198_121, e198_124, e198_127, e198_128, e198_131, e198_132, e198_135, e198_136, e198_137, e198_140, e198_141, e198_144, e198_145, e198_148, e198_149, e198_150, e198_153, e198_156, e198_158, e198_159, e198_161, e198_163, e198_164, e198_167, e198_170, e198_171, e198_174, e198_177, e198_179, e198_181, e198_182, e198_184, e198_185, e198_186, e198_189, e198_191, e198_192, e198_193, e198_196, e198_199, e198_200, e198_203, e198_206, e198_208, e198_209, e198_212, e198_213, e198_214, e198_217, e198_220, e198_222, e198_223, e198_224, e198_225, e198_228, e198_231, e198_233, e198_235, e198_236, e198_237, e198_240, e198_243, e198_245, e198_247, e198_248, e198_249, e198_250, e198_251, e198_253, e198_256, e198_257, e198_260, e198_260i, e198_261, e198_264, e198_265, e198_266, e198_269, e198_270, e198_273, mj_kl]
    refine ⟨by simp, c_needs hE5 g5 (by decide) fun F6 A6 L6 g6 z6 => ?_⟩
    obtain ⟨N, eN⟩ : ∃ N, N = bd (r2 Y) (pKey T E 11) := ⟨_, rfl⟩
    rw [← eN] at g6
    have z06 := z05.trans z6
    have hE6 := hE.z z06
    have hR6 := hR.z z06
    have m46 := hR6.2.1.1.2.2.2.1
    obtain ⟨nn, ⟨n1, n2⟩, -⟩ := hR6.2.2.2.2.2.1
    have over : ∀ (F : Nat → Nat → Int32) (e : Nat × Nat), TSt F A6 L6 q T E (.inl e) → PZ q FI F AI A6 FL L6 → pBill T E p S = .inl e → WP sa (EV sa (d + 13)) 198 Q 0 0 140 [.ref q, .long v, mj_u, .int kv, .int vx, .int vy, mj_u, mj_u] [] (n, K, F, L6, FR, A6, AL, AR) := by
      intro F e h' z' he
      have s5 := h'.2.1
      simp only [e198_140, e198_141, e198_144, e198_145, e198_148, k0, s5, true_and]
      refine ⟨fun z => absurd trivial z, fun _ => hQ F A6 L6 AL S ?_ (fun x hx => ?_) (hR.z z') (z'.y.rz (by omega))⟩
      · rw [he]; exact h'
      · rw [he] at hx; cases hx
    simp only [tl_none, e198_127, e198_128, e198_131, e198_132, e198_135, e198_136, e198_137, k0, true_and]
    rcases bill_ch er1 eR eK eX eY eN y2 y3 y4 y5 with ⟨e, e1, e2⟩ | ⟨p1, k, x, y, p5, c1, c2, ⟨c3, c3'⟩, ⟨rfl, c4⟩, ⟨rfl, rfl, rfl⟩, c5, c6, c7, c8, c9⟩
    · rw [e1] at g6
      have s5 := g6.2.1
      rw [s5]
      refine ⟨fun z => absurd z (by decide), fun _ => ⟨by simp, c_flaw (k := 1) hE6 g6 fun F7 g7 z7 => ?_⟩⟩
      simp only [tl_none]
      exact over F7 e g7 (z06.trans z7) e2
    · rw [c1] at g6
      have s5 := g6.2.1.2.2.1
      have hs5 : srt T E p5 ≤ 5 := srt_5
      rw [s5, msr_eq2 hs5]
      refine ⟨fun s1 => ?_, fun s1 => ⟨by simp, c_flaw (k := 1) hE6 g6 fun F7 g7 z7 => ?_⟩⟩
      · obtain ⟨l1, l2, l3⟩ := g6.2.1.2.2.2.2.2.1 s1
        obtain ⟨-, -, -, w8, w1, w26⟩ := srt_let s1
        have ep' : pBill T E p S = .inr (stp T E p5, sBil S k.1 x.1 y.1 (wl T E p5) (lt T p5) (wd T E p1)) := by
          rw [c2]
          unfold pWd
          rw [if_pos s1]
          rfl
        have nin : vp_in (nI (wNB (sW S))) 4 := vp_in_nI (by omega) (by decide)
        have ncl : (nI (wNB (sW S))).toNatClampNeg = wNB (sW S) := nI_clamp (by omega)
        -- behind the letters
        have fin : ∀ A : Nat → Nat → Int32, (∀ j, j < wl T E p5 → A (a + 5) (8 * wNB (sW S) + j) = nI (lt T p5 j)) → (∀ c, c ≠ a + 5 → A c = A6 c) → (∀ j, j < 8 * wNB (sW S) → A (a + 5) j = A6 (a + 5) j) → ∀ w : Int32, WP sa (EV sa (d + 13)) 198 Q 0 0 199 [.ref q, .long (lN (pkl (wd T E p1))), mj_u, .int (nI k.1), .int (nI x.1), .int (nI y.1), .int (nI (wNB (sW S))), .int w] [] (n, K, F6, L6, FR, A, AL, AR) := by
          intro A i1 i2 i3 w
          simp only [e198_0, e198_1, e198_2, e198_5, e198_8, e198_9, e198_10, e198_13, e198_14, e198_17, e198_18, e198_19, e198_22, e198_25, e198_28, e198_29, e198_32, e198_33, e198_36, e198_39, e198_42, e198_43, e198_46, e198_47, e198_50, e198_53, e198_56, e198_57, e198_60, e198_61, e198_64, e198_67, e198_70, e198_71, e198_74, e198_75, e198_76, e198_77, e198_78, e198_81, e198_82, e198_83, e198_86, e198_87, e198_90, e198_91, e198_92, e198_95, e198_98, e198_101, e198_103, e198_104, e198_107, e198_108, e198_109, e198_112, e198_115, e198_118, e198_120, e198_121, e198_124, e198_127, e198_128, e198_131, e198_132, e198_135, e198_136, e198_137, e198_140, e198_141, e198_144, e198_145, e198_148, e198_149, e198_150, e198_153, e198_156, e198_158, e198_159, e198_161, e198_163, e198_164, e198_167, e198_170, e198_171, e198_174, e198_177, e198_179, e198_181, e198_182, e198_184, e198_185, e198_186, e198_189, e198_191, e198_192, e198_193, e198_196, e198_199, e198_200, e198_203, e198_206, e198_208, e198_209, e198_212, e198_213, e198_214, e198_217, e198_220, e198_222, e198_223, e198_224, e198_225, e198_228, e198_231, e198_233, e198_235, e198_236, e198_237, e198_240, e198_243, e198_245, e198_247, e198_248, e198_249, e198_250, e198_251, e198_253, e198_256, e198_257, e198_260, e198_260i, e198_261, e198_264, e198_265, e198_266, e198_269, e198_270, e198_273, k0, r4, rf_some, ka, fk, kk, fw, kw, fh, kh, fl, kl, nin, ncl, l1, true_and, true_or, or_true]
          refine ⟨by simp, c_names k0 r4 hWS n1 (by omega) ?_⟩
          have m47 : ∀ w, mj_u2 F6 584 a w 579 a = nI (wNB (sW S)) := fun w => by rw [mj_u2_1 (by decide)]; exact m46
          simp only [tl_none, e198_0, e198_1, e198_2, e198_5, e198_8, e198_9, e198_10, e198_13, e198_14, e198_17, e198_18, e198_19, e198_22, e198_25, e198_28, e198_29, e198_32, e198_33, e198_36, e198_39, e198_42, e198_43, e198_46, e198_47, e198_50, e198_53, e198_56, e198_57, e198_60, e198_61, e198_64, e198_67, e198_70, e198_71, e198_74, e198_75, e198_76, e198_77, e198_78, e198_81, e198_82, e198_83, e198_86, e198_87, e198_90, e198_91, e198_92, e198_95, e198_98, e198_101, e198_103, e198_104, e198_107, e198_108, e198_109, e198_112, e198_115, e198_118, e198_120, e198_121, e198_124, e198_127, e198_128, e198_131, e198_132, e198_135, e198_136, e198_137, e198_140, e198_141, e198_144, e198_145, e198_148, e198_149, e198_150, e198_153, e198_156, e198_158, e198_159, e198_161, e198_163, e198_164, e198_167, e198_170, e198_171, e198_174, e198_177, e198_179, e198_181, e198_182, e198_184, e198_185, e198_186, e198_189, e198_191, e198_192, e198_193, e198_196, e198_199, e198_200, e198_203, e198_206, e198_208, e198_209, e198_212, e198_213, e198_214, e198_217, e198_220, e198_222, e198_223, e198_224, e198_225, e198_228, e198_231, e198_233, e198_235, e198_236, e198_237, e198_240, e198_243, e198_245, e198_247, e198_248, e198_249, e198_250, e198_251, e198_253, e198_256, e198_257, e198_260, e198_260i, e198_261, e198_264, e198_265, e198_266, e198_269, e198_270, e198_273, k0, r4, rf_some, ka, m47, nI_1, true_and]
          obtain ⟨AA, eAA⟩ : ∃ AA, AA = mj_u2 (mj_u2 (mj_u2 (mj_u2 (mj_u2 (mj_u2 A (a + 4) (wNB (sW S)) (nI (wl T E p5))) (a + 1) (wNB (sW S)) (nI k.1)) (a + 2) (wNB (sW S)) (nI x.1)) (a + 3) (wNB (sW S)) (nI y.1)) (a + 11) nn 0) (a + 12) nn (nI (wNB (sW S))) := ⟨_, rfl⟩
          obtain ⟨FF, eFF⟩ : ∃ FF, FF = mj_u2 (mj_u2 F6 584 a (nI (nn + 1))) 579 a (nI (wNB (sW S) + 1)) := ⟨_, rfl⟩
          rw [← eAA, ← eFF]
          have hx : ∀ c, c ≠ a + 1 → c ≠ a + 2 → c ≠ a + 3 → c ≠ a + 4 → c ≠ a + 5 → c ≠ a + 11 → c ≠ a + 12 → AA c = A6 c := fun c e1 e2 e3 e4 e5 e6 e7 => by
            rw [eAA]
            funext j
            rw [mj_u2_1 e7, mj_u2_1 e6, mj_u2_1 e3, mj_u2_1 e2, mj_u2_1 e1, mj_u2_1 e4, i2 c e5]
          have hy : ∀ c j, a < c → c < a + 5 → j ≠ wNB (sW S) → AA c j = A6 c j := fun c j e1 e2 e3 => by
            rw [eAA, mj_u2_1 (by omega), mj_u2_1 (by omega), mj_u2_2 e3, mj_u2_2 e3, mj_u2_2 e3, mj_u2_2 e3, i2 c (by omega)]
          have hFq : ∀ f c, c < a → FF f c = F6 f c := fun f c hc => by rw [eFF, mj_u2_2 (by omega), mj_u2_2 (by omega)]
          have gF : TSt FF AA L6 q T E (.inr p5) := g6.fr (fun f => hFq f q (by omega)) (hx _ (by omega) (by omega) (by omega) (by omega) (by omega) (by omega) (by omega))
          have hEF : MEnv K FR AA q T E := ⟨hE6.1, by rw [← hE6.2.1]; exact hx _ (by omega) (by omega) (by omega) (by omega) (by omega) (by omega) (by omega), hE6.2.2⟩
          have hRF : RdS K FR FF AA (mj_u2 AL (a + 10) nn (lN (pkl (wd T E p1)))) q a (sBil S k.1 x.1 y.1 (wl T E p5) (lt T p5) (wd T E p1)) := by
            refine hR6.bil n2 c3 c3' c5 c6 c7 ⟨by omega, w8⟩ w26 c4 c8 c9 (by rw [eFF, mj_u2_s]) (by rw [eFF, mj_u2_1 (by decide), mj_u2_s]) (fun f e1 e2 => by rw [eFF, mj_u2_1 e1, mj_u2_1 e2]) (fun c e1 e2 e3 e4 => hx c (by omega) (by omega) (by omega) (by omega) (by omega) e3 e4) hy ?_ ?_ ?_ ?_ (fun j hj => ?_) (fun j hj => ?_) (fun j hj => ?_) ?_ (fun j hj => ?_) ?_ (fun c hc => ?_) (fun j hj => mj_u2_2 hj) mj_u2_s
            · rw [eAA, mj_u2_1 (by omega), mj_u2_1 (by omega), mj_u2_1 (by omega), mj_u2_1 (by omega), mj_u2_s]
            · rw [eAA, mj_u2_1 (by omega), mj_u2_1 (by omega), mj_u2_1 (by omega), mj_u2_s]
            · rw [eAA, mj_u2_1 (by omega), mj_u2_1 (by omega), mj_u2_s]
            · rw [eAA, mj_u2_1 (by omega), mj_u2_1 (by omega), mj_u2_1 (by omega), mj_u2_1 (by omega), mj_u2_1 (by omega), mj_u2_s]
            · rw [eAA, mj_u2_1 (by omega), mj_u2_1 (by omega), mj_u2_1 (by omega), mj_u2_1 (by omega), mj_u2_1 (by omega), mj_u2_1 (by omega)]; exact i3 j hj
            · rw [eAA, mj_u2_1 (by omega), mj_u2_1 (by omega), mj_u2_1 (by omega), mj_u2_1 (by omega), mj_u2_1 (by omega), mj_u2_1 (by omega)]; exact i1 j hj
            · rw [eAA, mj_u2_1 (by omega), mj_u2_2 hj, mj_u2_1 (by omega), mj_u2_1 (by omega), mj_u2_1 (by omega), mj_u2_1 (by omega), i2 _ (by omega)]
            · rw [eAA, mj_u2_1 (by omega), mj_u2_s]; rfl
            · rw [eAA, mj_u2_2 hj, mj_u2_1 (by omega), mj_u2_1 (by omega), mj_u2_1 (by omega), mj_u2_1 (by omega), mj_u2_1 (by omega), i2 _ (by omega)]
            · rw [eAA, mj_u2_s]
            · funext j; rw [mj_u2_1 hc]
          refine ⟨by simp, c_goesOnS hEF gF (fun p' e => by cases e; omega) fun F8 A8 L8 g8 z8 => ?_⟩
          simp only [tl_none, e198_0, e198_1, e198_2, e198_5, e198_8, e198_9, e198_10, e198_13, e198_14, e198_17, e198_18, e198_19, e198_22, e198_25, e198_28, e198_29, e198_32, e198_33, e198_36, e198_39, e198_42, e198_43, e198_46, e198_47, e198_50, e198_53, e198_56, e198_57, e198_60, e198_61, e198_64, e198_67, e198_70, e198_71, e198_74, e198_75, e198_76, e198_77, e198_78, e198_81, e198_82, e198_83, e198_86, e198_87, e198_90, e198_91, e198_92, e198_95, e198_98, e198_101, e198_103, e198_104, e198_107, e198_108, e198_109, e198_112, e198_115, e198_118, e198_120, e198_121, e198_124, e198_127, e198_128, e198_131, e198_132, e198_135, e198_136, e198_137, e198_140, e198_141, e198_144, e198_145, e198_148, e198_149, e198_150, e198_153, e198_156, e198_158, e198_159, e198_161, e198_163, e198_164, e198_167, e198_170, e198_171, e198_174, e198_177, e198_179, e198_181, e198_182, e198_184, e198_185, e198_186, e198_189, e198_191, e198_192, e198_193, e198_196, e198_199, e198_200, e198_203, e198_206, e198_208, e198_209, e198_212, e198_213, e198_214, e198_217, e198_220, e198_222, e198_223, e198_224, e198_225, e198_228, e198_231, e198_233, e198_235, e198_236, e198_237, e198_240, e198_243, e198_245, e198_247, e198_248, e198_249, e198_250, e198_251, e198_253, e198_256, e198_257, e198_260, e198_260i, e198_261, e198_264, e198_265, e198_266, e198_269, e198_270, e198_273]
          refine hQ F8 A8 L8 _ (sBil S k.1 x.1 y.1 (wl T E p5) (lt T p5) (wd T E p1)) ?_ (fun x hx => ?_) (hRF.z z8) ((z06.y.rz (by omega)).trans ((RZ.at' hFq (fun c hc => hx _ (by omega) (by omega) (by omega) (by omega) (by omega) (by omega) (by omega)) (fun c hc => ?_) (fun j hj => by rw [hx (a + 14) (by omega) (by omega) (by omega) (by omega) (by omega) (by omega) (by omega)])).trans (z8.y.rz (by omega))))
          · rw [ep']; exact g8
          · rw [ep'] at hx; cases hx; rfl
          · funext j; rw [mj_u2_1 (by omega)]
        have loop : ∀ rr i, i + rr = wl T E p5 → ∀ A : Nat → Nat → Int32, (∀ j, j < i → A (a + 5) (8 * wNB (sW S) + j) = nI (lt T p5 j)) → (∀ c, c ≠ a + 5 → A c = A6 c) → (∀ j, j < 8 * wNB (sW S) → A (a + 5) j = A6 (a + 5) j) → WP sa (EV sa (d + 13)) 198 Q 0 0 161 [.ref q, .long (lN (pkl (wd T E p1))), mj_u, .int (nI k.1), .int (nI x.1), .int (nI y.1), .int (nI (wNB (sW S))), .int (nI i)] [] (n, K, F6, L6, FR, A, AL, AR) := by
          intro rr
          induction rr with
          | zero =>
            intro i hi A i1 i2 i3
            have hi' : i = wl T E p5 := by omega
            subst hi'
            rw [e198_161]
            simp only [e198_163, e198_164, e198_167, k0, l1, true_and]
            exact ⟨fun _ => fin A i1 i2 i3 _, fun z => absurd (nI_le (Nat.le_refl _) (by omega)) z⟩
          | succ rr ih =>
            intro i hi A i1 i2 i3
            have kin : vp_in (nI i) 8 := vp_in_nI (by omega) (by decide)
            have kcl : (nI i).toNatClampNeg = i := nI_clamp (by omega)
            have ei : (8 : Int32) * nI (wNB (sW S)) + nI i = nI (8 * wNB (sW S) + i) := by rw [show (8 : Int32) = nI 8 from rfl, pk_mul, nI_add]
            have kin2 : vp_in (nI (8 * wNB (sW S) + i)) 32 := vp_in_nI (by omega) (by decide)
            have kcl2 : (nI (8 * wNB (sW S) + i)).toNatClampNeg = 8 * wNB (sW S) + i := nI_clamp (by omega)
            have es : A (q + 4) i = nI (lt T p5 i) := by rw [i2 _ (by omega)]; exact l3 i (by omega)
            rw [e198_161]
            simp only [e198_163, e198_164, e198_167, e198_170, e198_171, e198_174, e198_177, e198_179, e198_181, e198_182, e198_184, e198_185, e198_186, e198_189, e198_191, e198_192, e198_193, e198_196, k0, l1, r4, rf_some, ka, ft, kt, f4, k4, kin, kcl, ei, kin2, kcl2, es, nI_1, mj_kl, true_and, true_or]
            refine ⟨fun z => absurd z (nI_ge (by omega) (by omega)), fun _ => ?_⟩
            refine ih (i + 1) (by omega) _ (fun j hj => ?_) (fun c hc => ?_) (fun j hj => ?_)
            · by_cases z : j = i
              · subst z; rw [mj_u2_s]
              · rw [mj_u2_2 (by omega)]; exact i1 j (by omega)
            · funext j; rw [mj_u2_1 hc, i2 _ hc]
            · rw [mj_u2_2 (by omega)]; exact i3 j hj
        simp only [e198_140, e198_141, e198_144, e198_145, e198_149, e198_150, e198_153, e198_156, e198_158, e198_159, k0, s5, r4, rf_some, ka, m46, mj_kl, true_and]
        refine ⟨fun _ => ?_, fun z => absurd msr_n5 z⟩
        have := loop (wl T E p5) 0 (by omega) A6 (fun j hj => by omega) (fun _ _ => rfl) (fun _ _ => rfl)
        simpa [nI_0, mj_u, mj_kl] using this
      · simp only [tl_none]
        refine over F7 (1, p5) g7 (z06.trans z7) ?_
        rw [c2]
        unfold pWd
        rw [if_neg s1]
        rfl
  -- the kind
  have from75 : ∀ (F A : Nat → Nat → Int32) (L : Nat → Nat → Int64) (kv : Int32) (rt : (Nat × Nat) ⊕ Nat), TSt F A L q T E rt → PZ q FI F AI A FL L → ((kv ≠ -1 ∧ rt = r2 KD ∧ ∀ x, KD = .inr x → kv = nI x.1) ∨ (kv = -1 ∧ rt = R ∧ ∀ p, R = .inr p → pKind T E p = .inl (1, p))) → WP sa (EV sa (d + 13)) 198 Q 0 0 75 [.ref q, .long v, mj_u, mj_u, mj_u, mj_u, mj_u, mj_u] [.int kv] (n, K, F, L, FR, A, AL, AR) := by
    intro F A L kv rt g3 z3 hk
    simp only [e198_75, e198_76, e198_77, e198_78, e198_81, e198_82, e198_83, mj_kl]
    rcases hk with ⟨k1, rfl, k3⟩ | ⟨rfl, rfl, k3⟩
    · exact ⟨fun _ => from86 F A L kv g3 k3 z3, fun z => absurd k1 z⟩
    · refine ⟨fun z => absurd rfl z, fun _ => ⟨by simp, c_flaw (k := 1) (hE.z z3) g3 fun F4 g4 z4 => ?_⟩⟩
      simp only [tl_none]
      refine from86 F4 A L (-1) ?_ (fun x hx => ?_) (z3.trans z4)
      · rw [eK]
        cases rt with
        | inl e => exact g4
        | inr p' =>
          show TSt F4 A L q T E (r2 (pKind T E p'))
          rw [k3 p' rfl]
          exact g4
      · rw [eK] at hx
        cases rt with
        | inl e => cases hx
        | inr p' =>
          have hx' : pKind T E p' = .inr x := hx
          rw [k3 p' rfl] at hx'
          cases hx'
  -- a word that says it
  have yes : ∀ (F A : Nat → Nat → Int32) (L : Nat → Nat → Int64) (i : Nat), i ≤ 3 → (∀ p', R = .inr p' → pKind T E p' = .inr (i, stp T E p')) → (∃ p', R = .inr p') → TSt F A L q T E (stpr T E R) → PZ q FI F AI A FL L → WP sa (EV sa (d + 13)) 198 Q 0 0 75 [.ref q, .long v, mj_u, mj_u, mj_u, mj_u, mj_u, mj_u] [.int (nI i)] (n, K, F, L, FR, A, AL, AR) := by
    intro F A L i hi hk ⟨p', hp⟩ g3 z3
    have eKD : KD = .inr (i, stp T E p') := by rw [eK, hp]; exact hk p' hp
    refine from75 F A L (nI i) _ g3 z3 (Or.inl ⟨fun e => ?_, by rw [eKD, hp]; rfl, fun x hx => by rw [eKD] at hx; cases hx; rfl⟩)
    have h3 : nI i < 0 := by rw [e]; decide
    exact absurd h3 (nI_pos (by omega))
  have isr : ∀ x, isKr T E R x = true → ∃ p', R = .inr p' ∧ isK T E p' x = true := fun x hx => by
    cases R with
    | inl e => cases hx
    | inr p' => exact ⟨p', rfl, hx⟩
  have nsr : ∀ x, isKr T E R x = false → ∀ p', R = .inr p' → isK T E p' x = false := fun x hx p' e => by
    subst e
    exact hx
  simp only [tl_some, e198_17, e198_18, e198_19, e198_22, mj_kl]
  refine ⟨by simp, c_eatsWord hE2 g2 (by decide) fun F3 A3 L3 g3 z3 => ?_⟩
  simp only [tl_some, e198_25, e198_28, e198_29, e198_32, e198_33, e198_36, bI_eq0]
  refine ⟨fun y => ?_, fun y => ?_⟩
  rotate_left
  · have y' := ts_nf y
    obtain ⟨p', e1, e2⟩ := isr _ y'
    rw [y'] at g3
    have := yes F3 A3 L3 0 (by decide) (fun p'' e3 => by rw [e1] at e3; cases e3; unfold pKind; rw [if_pos e2]) ⟨p', e1⟩ g3 (z12.trans z3)
    exact this
  have n14 := nsr _ y
  rw [y] at g3
  replace g3 : TSt F3 A3 L3 q T E R := g3
  have z13 := z12.trans z3
  refine ⟨by simp, c_eatsWord (hE.z z13) g3 (by decide) fun F4 A4 L4 g4 z4 => ?_⟩
  simp only [tl_some, e198_39, e198_42, e198_43, e198_46, e198_47, e198_50, bI_eq0]
  refine ⟨fun y => ?_, fun y => ?_⟩
  rotate_left
  · have y' := ts_nf y
    obtain ⟨p', e1, e2⟩ := isr _ y'
    rw [y'] at g4
    have x14 := n14 p' e1
    have := yes F4 A4 L4 1 (by decide) (fun p'' e3 => by rw [e1] at e3; cases e3; unfold pKind; rw [x14, e2]; rfl) ⟨p', e1⟩ g4 (z13.trans z4)
    exact this
  have n15 := nsr _ y
  rw [y] at g4
  replace g4 : TSt F4 A4 L4 q T E R := g4
  have z14 := z13.trans z4
  refine ⟨by simp, c_eatsWord (hE.z z14) g4 (by decide) fun F5 A5 L5 g5 z5 => ?_⟩
  simp only [tl_some, e198_53, e198_56, e198_57, e198_60, e198_61, e198_64, bI_eq0]
  refine ⟨fun y => ?_, fun y => ?_⟩
  rotate_left
  · have y' := ts_nf y
    obtain ⟨p', e1, e2⟩ := isr _ y'
    rw [y'] at g5
    have x14 := n14 p' e1
    have x15 := n15 p' e1
    have := yes F5 A5 L5 2 (by decide) (fun p'' e3 => by rw [e1] at e3; cases e3; unfold pKind; rw [x14, x15, e2]; rfl) ⟨p', e1⟩ g5 (z14.trans z5)
    exact this
  have n16 := nsr _ y
  rw [y] at g5
  replace g5 : TSt F5 A5 L5 q T E R := g5
  have z15 := z14.trans z5
  refine ⟨by simp, c_eatsWord (hE.z z15) g5 (by decide) fun F6 A6 L6 g6 z6 => ?_⟩
  simp only [tl_some, e198_67, e198_70, e198_71, e198_74, bI_eq0]
  refine ⟨fun y => ?_, fun y => ?_⟩
  rotate_left
  · have y' := ts_nf y
    obtain ⟨p', e1, e2⟩ := isr _ y'
    rw [y'] at g6
    have x14 := n14 p' e1
    have x15 := n15 p' e1
    have x16 := n16 p' e1
    have := yes F6 A6 L6 3 (by decide) (fun p'' e3 => by rw [e1] at e3; cases e3; unfold pKind; rw [x14, x15, x16, e2]; rfl) ⟨p', e1⟩ g6 (z15.trans z6)
    exact this
  have n17 := nsr _ y
  rw [y] at g6
  replace g6 : TSt F6 A6 L6 q T E R := g6
  refine from75 F6 A6 L6 (-1) R g6 (z15.trans z6) (Or.inr ⟨rfl, rfl, fun p' e => ?_⟩)
  unfold pKind
  rw [n14 p' e, n15 p' e, n16 p' e, n17 p' e]
  rfl
end
