/-! ## the model reads a paste's line -/
def sPas (S : PS) (c : Nat × Nat × Nat × Nat) (r : Nat) : PS := (sW S, puth (sHs S) (sM S) (c.1, c.2.1, c.2.2.1, nI r), sM S + 1, upN (sSh S) r (sSh S r - 1), sNp S + 1, sBn S, sRn S)
def pEnd (T : Nat → Int32) (E : Nat) (S : PS) (c : Nat × Nat × Nat × Nat) (r p2 : Nat) : (Nat × Nat) ⊕ (Nat × PS) := if sSh S r = 0 ∨ may (sW S) (sHs S) (sM S) c.1 c.2.1 c.2.2.1 = false then .inl (7, p2) else .inr (stp T E p2, sPas S c r)
theorem kOld_in {T : Nat → Int32} {E : Nat} {names : Nat → List Nat} {cnt p : Nat} {x : Nat × Nat} (h : kOld T E names cnt p = .inr x) : x.2 = p ∧ x.1 < cnt ∧ srt T E p = 1 := by
  unfold kOld at h
  split at h
  · rename_i z
    split at h
    · rename_i i hi
      cases h
      exact ⟨rfl, (fnd_some hi).1, isNm_1 z⟩
    · cases h
  · cases h
theorem pPaste_pl {T : Nat → Int32} {E p : Nat} {S : PS} : pPaste T E p S = bd (bd (pFirst T E (decide (sNp S < 10)) (decide (0 < wW (sW S))) p) (pPl T E S)) fun c => bd (pKey T E 13 c.2.2.2) fun p2 => bd (kOld T E (sRn S) (wNR (sW S)) p2) fun r => pEnd T E S c r.1 p2 := by
  unfold pPaste pPl
  simp only [bd_assoc]
  congr 1
  funext p1
  congr 1
  funext b
  congr 1
  funext c
  show (bd (pKey T E 13 c.2.2) fun p2 => bd (pOld T E (sRn S) (wNR (sW S)) p2) _) = (bd (pKey T E 13 c.2.2) fun p2 => _)
  congr 1
  funext p2
  rw [pOld_k]
  cases e : kOld T E (sRn S) (wNR (sW S)) p2 with
  | inl _ => rfl
  | inr x =>
    obtain ⟨e1, -⟩ := kOld_in e
    show (if sSh S x.1 = 0 ∨ may (sW S) (sHs S) (sM S) b.1 c.1 c.2.1 = false then (.inl (7, p2) : (Nat × Nat) ⊕ (Nat × PS)) else .inr (stp T E x.2, _)) = _
    rw [e1]
    rfl
theorem paste_ch {T : Nat → Int32} {E p : Nat} {S : PS} {r1 N : (Nat × Nat) ⊕ Nat} {C : (Nat × Nat) ⊕ (Nat × Nat × Nat × Nat)} {R : (Nat × Nat) ⊕ (Nat × Nat)} (hr : r1 = pFirst T E (decide (sNp S < 10)) (decide (0 < wW (sW S))) p) (hC : C = bd r1 (pPl T E S)) (hN : N = bd (bd C fun c => .inr c.2.2.2) (pKey T E 13)) (hR : R = bd N (kOld T E (sRn S) (wNR (sW S)))) :
    (∃ e, R = .inl e ∧ pPaste T E p S = .inl e) ∨ ∃ c r p2, C = .inr c ∧ R = .inr (r, p2) ∧ pPaste T E p S = pEnd T E S c r p2 ∧ srt T E p2 = 1 ∧ r < wNR (sW S) ∧ sNp S < 10 := by
  rw [pPaste_pl, ← hr, ← hC]
  cases e1 : C with
  | inl e =>
    subst e1
    exact Or.inl ⟨e, by subst hR hN; rfl, rfl⟩
  | inr c =>
    have h10 : sNp S < 10 := by
      cases e2 : r1 with
      | inl e => rw [e2, e1] at hC; cases hC
      | inr p1 =>
        rw [e2] at hr
        unfold pFirst at hr
        split at hr
        · rename_i z; simpa using z
        · cases hr
    rw [e1] at hN
    replace hN : N = pKey T E 13 c.2.2.2 := hN
    show (∃ e, R = .inl e ∧ bd (pKey T E 13 c.2.2.2) _ = .inl e) ∨ ∃ c' r p2, .inr c = Sum.inr c' ∧ R = .inr (r, p2) ∧ bd (pKey T E 13 c.2.2.2) _ = pEnd T E S c' r p2 ∧ _
    rw [← hN]
    cases e2 : N with
    | inl e => exact Or.inl ⟨e, by rw [hR, e2]; rfl, rfl⟩
    | inr p2 =>
      rw [e2] at hR
      replace hR : R = kOld T E (sRn S) (wNR (sW S)) p2 := hR
      show (∃ e, R = .inl e ∧ bd (kOld T E (sRn S) (wNR (sW S)) p2) _ = .inl e) ∨ ∃ c' r p2', .inr c = Sum.inr c' ∧ R = .inr (r, p2') ∧ bd (kOld T E (sRn S) (wNR (sW S)) p2) _ = pEnd T E S c' r p2' ∧ _
      rw [← hR]
      cases e3 : R with
      | inl e => exact Or.inl ⟨e, rfl, rfl⟩
      | inr x =>
        rw [e3] at hR
        obtain ⟨y1, y2, y3⟩ := kOld_in hR.symm
        refine Or.inr ⟨c, x.1, p2, rfl, by rw [← y1], rfl, y3, y2, h10⟩
section
variable {sa : Nat → Nat} {d n t h m : Nat} {Q : mj_Q} {K : Nat → Nat × Nat} {FI : Nat → Nat → Int32} {FL : Nat → Nat → Int64} {FR : Nat → Nat → Option Nat} {AI : Nat → Nat → Int32} {AL : Nat → Nat → Int64} {AR : Nat → Nat → Option Nat} {w : Wl} {hs : Nat → Hg}
variable {q E a p : Nat} {T : Nat → Int32} {res : (Nat × Nat) ⊕ Nat} {S : PS}
theorem RdS.pas {AI' : Nat → Nat → Int32} {AL' : Nat → Nat → Int64} {c : Nat × Nat × Nat × Nat} {r : Nat} (h : RdS K FR FI AI AL q a S) (h10 : sNp S < 10) (hr : r < wNR (sW S)) (hb : c.1 < wNB (sW S)) (hM : MH AI' AL' (a + 13) (sW S) (puth (sHs S) (sM S) (c.1, c.2.1, c.2.2.1, nI r)) (sM S + 1)) (ax : AIx AI AI' (a + 13 + 1) (a + 13 + 1)) (lx : ALx AL AL' (a + 13 + 2) (a + 13 + 2)) : RdS K FR (mj_u2 FI 583 a (nI (sNp S + 1))) (mj_u2 AI' (a + 8) r (nI (sSh S r - 1))) AL' q a (sPas S c r) := by
  have hw := h.bill hb
  have b3 := h.bd4.2.1
  obtain ⟨h1, h2, ⟨h3, h3a, h3b, h3c⟩, h4, h5, ⟨nn, ⟨n1, n2⟩, n3⟩, h7, h8, h9⟩ := h
  have ay : ∀ z, z ≠ a + 8 → z ≠ a + 14 → mj_u2 AI' (a + 8) r (nI (sSh S r - 1)) z = AI z := fun z e1 e2 => by funext j; rw [mj_u2_1 e1, ax z (by omega)]
  refine ⟨h1, ?_, ⟨mj_u2_s, (by show sNp S + 1 ≤ 10; omega), h3b, (by show sM S + 1 = wF (sW S) + (sNp S + 1); omega)⟩, fun i hi => ?_, ?_, ⟨nn, ⟨?_, n2⟩, ?_⟩, ?_, fun k hk => ?_, Or.inr hw⟩
  · obtain ⟨⟨m1, m2, m3, m4, m5, m6, m7, m8⟩, mb, mw⟩ := h2
    refine ⟨⟨?_, ?_, ?_, ?_, ?_, ?_, ?_, ?_⟩, ?_, ?_⟩
    · rw [mj_u2_1 (by decide)]; exact m1
    · rw [mj_u2_1 (by decide)]; exact m2
    · rw [mj_u2_1 (by decide)]; exact m3
    · rw [mj_u2_1 (by decide)]; exact m4
    · rw [mj_u2_1 (by decide)]; exact m5
    · rw [mj_u2_1 (by decide)]; exact m6
    · rw [mj_u2_1 (by decide)]; exact m7
    · rw [mj_u2_1 (by decide)]; exact m8
    · rw [ay _ (by omega) (by omega), ay _ (by omega) (by omega), ay _ (by omega) (by omega), ay _ (by omega) (by omega), ay _ (by omega) (by omega)]; exact mb
    · rw [ay _ (by omega) (by omega), ay _ (by omega) (by omega)]; exact mw
  · show mj_u2 AI' (a + 8) r (nI (sSh S r - 1)) (a + 8) i = nI (upN (sSh S) r (sSh S r - 1) i) ∧ upN (sSh S) r (sSh S r - 1) i ≤ 20
    by_cases z : i = r
    · subst z
      rw [upN_s, mj_u2_s]
      have := (h4 i hi).2
      exact ⟨rfl, by omega⟩
    · rw [upN_o z, mj_u2_2 z, ax _ (by omega)]
      exact h4 i hi
  · rw [lx _ (by omega)]; exact h5
  · rw [mj_u2_1 (by decide)]; exact n1
  · rw [ay _ (by omega) (by omega), ay _ (by omega) (by omega), lx _ (by omega)]; exact n3
  · exact hM.fr (by funext j; rw [mj_u2_1 (by omega)]) rfl
  · have hk' : k < sM S + 1 := hk
    show byOK (gR (puth (sHs S) (sM S) (c.1, c.2.1, c.2.2.1, nI r) k))
    unfold puth
    by_cases z : k = sM S
    · rw [if_pos z]
      refine ⟨r + 2, by omega, ?_⟩
      show nI r = nI (r + 2) - 2
      rw [show (2 : Int32) = nI 2 from rfl, nq_sub (by omega), Nat.add_sub_cancel]
    · rw [if_neg z]; exact h8 k (by omega)
theorem RdS.mx {AI' : Nat → Nat → Int32} {AL' : Nat → Nat → Int64} (h : RdS K FR FI AI AL q a S) (hM : MH AI' AL' (a + 13) (sW S) (sHs S) (sM S)) (z : MX q (a + 13) AI AI' AL AL') : RdS K FR FI AI' AL' q a S := by
  obtain ⟨h1, h2, h3, h4, h5, ⟨nn, ⟨n1, n2⟩, n3⟩, h7, h8, h9⟩ := h
  have hq := h1.2.2.2.2
  have ax : ∀ j, j ≠ 14 → AI' (a + j) = AI (a + j) := fun j hj => z.1 _ (by omega) (by omega) (by omega)
  have lx : ∀ j, j ≠ 15 → AL' (a + j) = AL (a + j) := fun j hj => z.2.2 _ (by omega)
  refine ⟨h1, h2.fr (fun _ => rfl) (fun j _ _ => ax j (by omega)), h3, by rw [ax 8 (by decide)]; exact h4, by rw [lx 9 (by decide)]; exact h5, ⟨nn, ⟨n1, n2⟩, by rw [ax 11 (by decide), ax 12 (by decide), lx 10 (by decide)]; exact n3⟩, hM, h8, h9⟩
theorem MX.rz {AI' : Nat → Nat → Int32} {AL' : Nat → Nat → Int64} (z : MX q (a + 13) AI AI' AL AL') : RZ q a FI FI AI AI' FL FL AL AL' := ⟨fun _ _ _ _ => rfl, FLx.rfl', fun c h1 h2 h3 _ => z.1 c h2 h3 (by omega), fun c h1 => z.2.2 c (by omega), z.2.1⟩
theorem c_mreadPaste (hE : MEnv K FR AI q T E) (h : TSt FI AI FL q T E (.inr p)) (hs : srt T E p = 1) (hR : RdS K FR FI AI AL q a S) (hQ : ∀ (FI' AI' : Nat → Nat → Int32) (FL' AL' : Nat → Nat → Int64) (S' : PS), TSt FI' AI' FL' q T E (bd (pPaste T E p S) fun x => .inr x.1) → (∀ x, pPaste T E p S = .inr x → S' = x.2) → RdS K FR FI' AI' AL' q a S' → RZ q a FI FI' AI AI' FL FL' AL AL' → Q none (n, K, FI', FL', FR, AI', AL', AR)) : EV sa (d + 15) 203 [.ref q] (n, K, FI, FL, FR, AI, AL, AR) Q := by
  have k0 := hE.1.1
  obtain ⟨⟨r4, r6, hWS, hHS, hqa⟩, -, ⟨m3, s10, f4, smn⟩, -⟩ := id hR
  have ka := hWS.1
  obtain ⟨f8, k8⟩ := hWS.2.2.2.2.2.2.2.2.1
  obtain ⟨b4, b3, -⟩ := hR.bd4
  refine n203 k0 ?_
  simp only [e203_0, e203_1, e203_2, e203_5, e203_8, e203_10, e203_11, e203_14, e203_15, e203_18, e203_19, e203_20, e203_23, e203_26, e203_27, e203_28, e203_31, e203_32, e203_33, e203_36, e203_37, e203_40, e203_41, e203_44, e203_47, e203_48, e203_49, e203_52, e203_53, e203_54, e203_57, e203_58, e203_61, e203_62, e203_63, e203_66, e203_67, e203_70, e203_73, e203_76, e203_77, e203_79, e203_82, e203_83, e203_86, e203_87, e203_90, e203_91, e203_94, e203_95, e203_96, e203_99, e203_100, e203_103, e203_104, e203_105, e203_108, e203_109, e203_112, e203_113, e203_116, e203_117, e203_120, e203_123, e203_124, e203_125, e203_126, e203_127, e203_128, e203_129, e203_130, e203_133, e203_133i, e203_134, e203_137, e203_138, e203_139, e203_142, k0, r4, rf_some, ka, m3, true_and]
  refine ⟨by simp, c_begins (on := true) hE h hR (fun p' e => by cases e; omega) fun F1 A1 L1 g1 z1 => ?_⟩
  obtain ⟨r1, er1⟩ : ∃ r1, r1 = pFirst T E (decide (sNp S < 10)) (decide (0 < wW (sW S))) p := ⟨_, rfl⟩
  replace g1 : TSt F1 A1 L1 q T E r1 := by
    rw [dec_ne' (c := 10) s10 (by decide) rfl, show (!(true && decide (wW (sW S) = 0))) = decide (0 < wW (sW S)) by rw [Bool.true_and, ← decide_not]; exact decide_eq_decide.mpr (by omega)] at g1
    rw [er1]
    exact g1
  simp only [tl_none, e203_0, e203_1, e203_2, e203_5, e203_8, e203_10, e203_11, e203_14, e203_15, e203_18, e203_19, e203_20, e203_23, e203_26, e203_27, e203_28, e203_31, e203_32, e203_33, e203_36, e203_37, e203_40, e203_41, e203_44, e203_47, e203_48, e203_49, e203_52, e203_53, e203_54, e203_57, e203_58, e203_61, e203_62, e203_63, e203_66, e203_67, e203_70, e203_73, e203_76, e203_77, e203_79, e203_82, e203_83, e203_86, e203_87, e203_90, e203_91, e203_94, e203_95, e203_96, e203_99, e203_100, e203_103, e203_104, e203_105, e203_108, e203_109, e203_112, e203_113, e203_116, e203_117, e203_120, e203_123, e203_124, e203_125, e203_126, e203_127, e203_128, e203_129, e203_130, e203_133, e203_133i, e203_134, e203_137, e203_138, e203_139, e203_142, mj_kl]
  refine ⟨by simp, c_readPlaced (hE.z z1) g1 (hR.z z1) fun F2 A2 L2 v g2 y2 z2 => ?_⟩
  obtain ⟨C, eC⟩ : ∃ C, C = bd r1 (pPl T E S) := ⟨_, rfl⟩
  rw [← eC] at g2 y2
  have z02 := z1.y.trans z2
  have hE2 := hE.y z02
  simp only [tl_some, e203_0, e203_1, e203_2, e203_5, e203_8, e203_10, e203_11, e203_14, e203_15, e203_18, e203_19, e203_20, e203_23, e203_26, e203_27, e203_28, e203_31, e203_32, e203_33, e203_36, e203_37, e203_40, e203_41, e203_44, e203_47, e203_48, e203_49, e203_52, e203_53, e203_54, e203_57, e203_58, e203_61, e203_62, e203_63, e203_66, e203_67, e203_70, e203_73, e203_76, e203_77, e203_79, e203_82, e203_83, e203_86, e203_87, e203_90, e203_91, e203_94, e203_95, e203_96, e203_99, e203_100, e203_103, e203_104, e203_105, e203_108, e203_109, e203_112, e203_113, e203_116, e203_117, e203_120, e203_123, e203_124, e203_125, e203_126, e203_127, e203_128, e203_129, e203_130, e203_133, e203_133i, e203_134, e203_137, e203_138, e203_139, e203_142, mj_kl]
  refine ⟨by simp, c_needs hE2 g2 (by decide) fun F3 A3 L3 g3 z3 => ?_⟩
  obtain ⟨N, eN⟩ : ∃ N, N = bd (bd C fun c => .inr c.2.2.2) (pKey T E 13) := ⟨_, rfl⟩
  rw [← eN] at g3
  have z03 := z02.trans z3.y
  have hE3 := hE.y z03
  have hR3 := hR.y z03
  simp only [tl_none, e203_0, e203_1, e203_2, e203_5, e203_8, e203_10, e203_11, e203_14, e203_15, e203_18, e203_19, e203_20, e203_23, e203_26, e203_27, e203_28, e203_31, e203_32, e203_33, e203_36, e203_37, e203_40, e203_41, e203_44, e203_47, e203_48, e203_49, e203_52, e203_53, e203_54, e203_57, e203_58, e203_61, e203_62, e203_63, e203_66, e203_67, e203_70, e203_73, e203_76, e203_77, e203_79, e203_82, e203_83, e203_86, e203_87, e203_90, e203_91, e203_94, e203_95, e203_96, e203_99, e203_100, e203_103, e203_104, e203_105, e203_108, e203_109, e203_112, e203_113, e203_116, e203_117, e203_120, e203_123, e203_124, e203_125, e203_126, e203_127, e203_128, e203_129, e203_130, e203_133, e203_133i, e203_134, e203_137, e203_138, e203_139, e203_142, mj_kl]
  refine ⟨by simp, c_known (names := sRn S) (cnt := wNR (sW S)) hE3 g3 hR3 (Or.inr ⟨rfl, rfl, rfl⟩) fun F4 w g4 y4 y4' z4 => ?_⟩
  obtain ⟨R, eR⟩ : ∃ R, R = bd N (kOld T E (sRn S) (wNR (sW S))) := ⟨_, rfl⟩
  rw [← eR] at g4 y4
  have z04 := z03.trans z4.y
  have hE4 := hE.y z04
  have hR4 := hR.y z04
  have over : ∀ (F A : Nat → Nat → Int32) (AL' : Nat → Nat → Int64) (e : Nat × Nat), MEnv K FR A q T E → TSt F A L3 q T E (.inl e) → RdS K FR F A AL' q a S → RZ q a FI F AI A FL L3 AL AL' → pPaste T E p S = .inl e → WP sa (EV sa (d + 14)) 203 Q 0 0 82 [.ref q, .int v, .int w] [] (n, K, F, L3, FR, A, AL', AR) := by
    intro F A AL' e hE' h' hR' z' he
    simp only [e203_0, e203_1, e203_2, e203_5, e203_8, e203_10, e203_11, e203_14, e203_15, e203_18, e203_19, e203_20, e203_23, e203_26, e203_27, e203_28, e203_31, e203_32, e203_33, e203_36, e203_37, e203_40, e203_41, e203_44, e203_47, e203_48, e203_49, e203_52, e203_53, e203_54, e203_57, e203_58, e203_61, e203_62, e203_63, e203_66, e203_67, e203_70, e203_73, e203_76, e203_77, e203_79, e203_82, e203_83, e203_86, e203_87, e203_90, e203_91, e203_94, e203_95, e203_96, e203_99, e203_100, e203_103, e203_104, e203_105, e203_108, e203_109, e203_112, e203_113, e203_116, e203_117, e203_120, e203_123, e203_124, e203_125, e203_126, e203_127, e203_128, e203_129, e203_130, e203_133, e203_133i, e203_134, e203_137, e203_138, e203_139, e203_142]
    refine ⟨by simp, c_goesOnS hE' h' (fun p' y => by cases y) fun F5 A5 L5 g5 z5 => ?_⟩
    replace g5 : TSt F5 A5 L5 q T E (.inl e) := g5
    have s5 := g5.2.1
    simp only [tl_none, e203_0, e203_1, e203_2, e203_5, e203_8, e203_10, e203_11, e203_14, e203_15, e203_18, e203_19, e203_20, e203_23, e203_26, e203_27, e203_28, e203_31, e203_32, e203_33, e203_36, e203_37, e203_40, e203_41, e203_44, e203_47, e203_48, e203_49, e203_52, e203_53, e203_54, e203_57, e203_58, e203_61, e203_62, e203_63, e203_66, e203_67, e203_70, e203_73, e203_76, e203_77, e203_79, e203_82, e203_83, e203_86, e203_87, e203_90, e203_91, e203_94, e203_95, e203_96, e203_99, e203_100, e203_103, e203_104, e203_105, e203_108, e203_109, e203_112, e203_113, e203_116, e203_117, e203_120, e203_123, e203_124, e203_125, e203_126, e203_127, e203_128, e203_129, e203_130, e203_133, e203_133i, e203_134, e203_137, e203_138, e203_139, e203_142, k0, s5, true_and]
    refine ⟨fun z => absurd trivial z, fun _ => hQ F5 A5 L5 AL' S ?_ (fun x hx => ?_) (hR'.z z5) (z'.trans (z5.y.rz (by omega)))⟩
    · rw [he]; exact g5
    · rw [he] at hx; cases hx
  rcases paste_ch er1 eC eN eR with ⟨e, e1, e2⟩ | ⟨c, r, p2, c1, c2, c3, c4, c5, c6⟩
  · rw [e1] at g4
    replace g4 : TSt F4 A3 L3 q T E (.inl e) := g4
    have s5 := g4.2.1
    simp only [tl_some, e203_31, e203_32, e203_33, e203_36, e203_37, k0, s5, mj_kl, true_and]
    exact ⟨fun _ => over F4 A3 AL e hE4 g4 hR4 (z04.rz (by omega)) e2, fun z => absurd trivial z⟩
  · rw [c2] at g4
    replace g4 : TSt F4 A3 L3 q T E (.inr p2) := g4
    obtain ⟨rfl, x1, x2, x3⟩ := y2 c c1
    obtain ⟨rfl, -⟩ := y4 (r, p2) c2
    have z24 := z3.trans z4
    rw [← z24.1 662 q (Or.inr (by decide))] at x1
    rw [← z24.1 663 q (Or.inr (by decide))] at x2
    have hw := hR.bill x3.1
    have s5 := g4.2.1.2.2.1
    have rin : vp_in (nI r) 3 := vp_in_nI (by omega) (by decide)
    have rcl : (nI r).toNatClampNeg = r := nI_clamp (by omega)
    obtain ⟨h8, h20⟩ := hR4.2.2.2.1 r (by omega)
    have no : ∀ (A : Nat → Nat → Int32) (AL' : Nat → Nat → Int64), MEnv K FR A q T E → TSt F4 A L3 q T E (.inr p2) → RdS K FR F4 A AL' q a S → RZ q a FI F4 AI A FL L3 AL AL' → (sSh S r = 0 ∨ may (sW S) (sHs S) (sM S) c.1 c.2.1 c.2.2.1 = false) → WP sa (EV sa (d + 14)) 203 Q 0 0 76 [.ref q, .int (nI c.1), .int (nI r)] [] (n, K, F4, L3, FR, A, AL', AR) := by
      intro A AL' hE' h' hR' z' hno
      simp only [e203_76, e203_77, e203_79]
      refine ⟨by simp, c_flaw (k := 7) hE' h' fun F5 g5 z5 => ?_⟩
      simp only [tl_none]
      exact over F5 A AL' (7, p2) (hE'.z z5) g5 (hR'.z z5) (z'.trans (z5.y.rz (by omega))) (by rw [c3]; unfold pEnd; rw [if_pos hno])
    simp only [tl_some, e203_31, e203_32, e203_33, e203_36, e203_37, e203_40, e203_41, e203_44, e203_47, e203_48, e203_49, e203_52, e203_53, e203_54, e203_57, e203_58, e203_61, e203_62, e203_63, e203_66, e203_67, e203_70, k0, s5, r4, r6, rf_some, ka, f8, k8, rin, rcl, h8, x1, x2, mj_kl, true_and, true_or]
    refine ⟨fun z => absurd z msr_n5, fun _ => ⟨fun z => ?_, fun z => ?_⟩⟩
    · have : sSh S r = 0 := (nI_eq (show sSh S r < 2 ^ 31 by omega) (show 0 < 2 ^ 31 by decide)).mp z
      exact no A3 AL hE4 g4 hR4 (z04.rz (by omega)) (Or.inl this)
    · have hs0 : 0 < sSh S r := by
        rcases Nat.eq_zero_or_pos (sSh S r) with y | y
        · exact absurd (by rw [y]; rfl) z
        · exact y
      have hV : MV K FR F4 A3 AL q a (a + 13) (sW S) (sHs S) (sM S) := ⟨hE.1.md, hWS, hw, hR4.2.1, hHS, hR4.2.2.2.2.2.2.1, by omega, by omega⟩
      refine ⟨by simp, c_mmayGo hV x3 fun A5 AL5 g5 z5 => ?_⟩
      have hR5 := hR4.mx g5.2.2.2.2.2.1 z5
      have hE5 : MEnv K FR A5 q T E := ⟨hE4.1, by rw [z5.1 _ (by omega) (by omega) (by omega)]; exact hE4.2.1, hE4.2.2⟩
      have g45 : TSt F4 A5 L3 q T E (.inr p2) := g4.fr (fun _ => rfl) (z5.1 _ (by omega) (by omega) (by omega))
      have z05 := (z04.rz (a := a) (AL := AL) (by omega)).trans (MX.rz (FI := F4) (FL := L3) z5)
      simp only [tl_some, e203_73, bI_eq0]
      refine ⟨fun y => ?_, fun y => no A5 AL5 hE5 g45 hR5 z05 (Or.inr (Classical.not_not.mp y))⟩
      have hy := ts_nf y
      have ep : pPaste T E p S = .inr (stp T E p2, sPas S c r) := by
        rw [c3]; unfold pEnd; rw [if_neg (fun y => by rcases y with y | y; omega; rw [hy] at y; cases y)]
      simp only [e203_0, e203_1, e203_2, e203_5, e203_8, e203_10, e203_11, e203_14, e203_15, e203_18, e203_19, e203_20, e203_23, e203_26, e203_27, e203_28, e203_31, e203_32, e203_33, e203_36, e203_37, e203_40, e203_41, e203_44, e203_47, e203_48, e203_49, e203_52, e203_53, e203_54, e203_57, e203_58, e203_61, e203_62, e203_63, e203_66, e203_67, e203_70, e203_73, e203_76, e203_77, e203_79, e203_82, e203_83, e203_86, e203_87, e203_90, e203_91, e203_94, e203_95, e203_96, e203_99, e203_100, e203_103, e203_104, e203_105, e203_108, e203_109, e203_112, e203_113, e203_116, e203_117, e203_120, e203_123, e203_124, e203_125, e203_126, e203_127, e203_128, e203_129, e203_130, e203_133, e203_133i, e203_134, e203_137, e203_138, e203_139, e203_142]
      refine ⟨by simp, c_goesOnS hE5 g45 (fun p' y => by cases y; omega) fun F6 A6 L6 g6 z6 => ?_⟩
      replace g6 : TSt F6 A6 L6 q T E (.inr (stp T E p2)) := g6
      have s6 := g6.2.1.2.2.1
      have hR6 := hR5.z z6
      rw [← z6.1 662 q (Or.inr (by decide))] at x1
      rw [← z6.1 663 q (Or.inr (by decide))] at x2
      simp only [tl_none, e203_0, e203_1, e203_2, e203_5, e203_8, e203_10, e203_11, e203_14, e203_15, e203_18, e203_19, e203_20, e203_23, e203_26, e203_27, e203_28, e203_31, e203_32, e203_33, e203_36, e203_37, e203_40, e203_41, e203_44, e203_47, e203_48, e203_49, e203_52, e203_53, e203_54, e203_57, e203_58, e203_61, e203_62, e203_63, e203_66, e203_67, e203_70, e203_73, e203_76, e203_77, e203_79, e203_82, e203_83, e203_86, e203_87, e203_90, e203_91, e203_94, e203_95, e203_96, e203_99, e203_100, e203_103, e203_104, e203_105, e203_108, e203_109, e203_112, e203_113, e203_116, e203_117, e203_120, e203_123, e203_124, e203_125, e203_126, e203_127, e203_128, e203_129, e203_130, e203_133, e203_133i, e203_134, e203_137, e203_138, e203_139, e203_142, k0, s6, r4, r6, rf_some, x1, x2, mj_kl, true_and]
      refine ⟨fun _ => ⟨by simp, c_adds hWS hw hR6.2.1 hHS (Or.inl (by omega)) hR6.2.2.2.2.2.2.1 (by omega) x3 fun A7 AL7 g7 i7 ax lx => ?_⟩, fun z => absurd msr_n5 z⟩
      have m36 := hR6.2.2.1.1
      have e8 : A7 (a + 8) r = nI (sSh S r) := by rw [ax _ (by omega)]; exact (hR6.2.2.2.1 r (by omega)).1
      have e81 : nI (sSh S r) - 1 = nI (sSh S r - 1) := nq_sub hs0
      simp only [tl_none, e203_0, e203_1, e203_2, e203_5, e203_8, e203_10, e203_11, e203_14, e203_15, e203_18, e203_19, e203_20, e203_23, e203_26, e203_27, e203_28, e203_31, e203_32, e203_33, e203_36, e203_37, e203_40, e203_41, e203_44, e203_47, e203_48, e203_49, e203_52, e203_53, e203_54, e203_57, e203_58, e203_61, e203_62, e203_63, e203_66, e203_67, e203_70, e203_73, e203_76, e203_77, e203_79, e203_82, e203_83, e203_86, e203_87, e203_90, e203_91, e203_94, e203_95, e203_96, e203_99, e203_100, e203_103, e203_104, e203_105, e203_108, e203_109, e203_112, e203_113, e203_116, e203_117, e203_120, e203_123, e203_124, e203_125, e203_126, e203_127, e203_128, e203_129, e203_130, e203_133, e203_133i, e203_134, e203_137, e203_138, e203_139, e203_142, k0, r4, rf_some, ka, f8, k8, rin, rcl, e8, e81, m36, nI_1, true_and, true_or]
      refine hQ _ _ L6 AL7 (sPas S c r) ?_ (fun x hx => ?_) (hR6.pas c6 c5 x3.1 g7 ax lx) ((z05.trans (z6.y.rz (by omega))).trans (RZ.at' (fun f c hc => mj_u2_2 (by omega)) (fun c hc => ?_) (fun c hc => lx _ (by omega)) (fun j hj => ?_)))
      · rw [ep]
        exact g6.fr (fun f => mj_u2_2 (by omega)) (by funext j; rw [mj_u2_1 (by omega), ax _ (by omega)])
      · rw [ep] at hx; cases hx; rfl
      · funext j; rw [mj_u2_1 (by omega), ax _ (by omega)]
      · rw [mj_u2_1 (by omega)]; exact i7 j hj
end
