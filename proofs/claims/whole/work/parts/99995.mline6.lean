/-! ## the model reads a founder's line -/
theorem bd_assoc {α β γ : Type} {x : (Nat × Nat) ⊕ α} {f : α → (Nat × Nat) ⊕ β} {g : β → (Nat × Nat) ⊕ γ} : bd (bd x f) g = bd x fun a => bd (f a) g := by cases x <;> rfl
def sFnd (S : PS) (c : Nat × Nat × Nat × Nat) : PS := (w_fnd (sW S), puth (sHs S) (sM S) (c.1, c.2.1, c.2.2.1, -2), sM S + 1, sSh S, sNp S, sBn S, sRn S)
theorem pFound_pl {T : Nat → Int32} {E p : Nat} {S : PS} : pFound T E p S = bd (bd (pFirst T E (decide (wF (sW S) < 4)) (decide (0 < wW (sW S) ∧ sNp S = 0)) p) (pPl T E S)) fun c => .inr (c.2.2.2, sFnd S c) := by
  unfold pFound pPl
  simp only [bd_assoc]
  rfl
section
variable {sa : Nat → Nat} {d n t h m : Nat} {Q : mj_Q} {K : Nat → Nat × Nat} {FI : Nat → Nat → Int32} {FL : Nat → Nat → Int64} {FR : Nat → Nat → Option Nat} {AI : Nat → Nat → Int32} {AL : Nat → Nat → Int64} {AR : Nat → Nat → Option Nat} {w : Wl} {hs : Nat → Hg}
variable {q E a p : Nat} {T : Nat → Int32} {res : (Nat × Nat) ⊕ Nat} {S : PS}
theorem RdS.fnd {AI' : Nat → Nat → Int32} {AL' : Nat → Nat → Int64} {c : Nat × Nat × Nat × Nat} (h : RdS K FR FI AI AL q a S) (hf : wF (sW S) < 4) (hb : c.1 < wNB (sW S)) (hM : MH AI' AL' (a + 13) (sW S) (puth (sHs S) (sM S) (c.1, c.2.1, c.2.2.1, -2)) (sM S + 1)) (ax : AIx AI AI' (a + 13 + 1) (a + 13 + 1)) (lx : ALx AL AL' (a + 13 + 2) (a + 13 + 2)) : RdS K FR (mj_u2 FI 582 a (nI (wF (sW S) + 1))) AI' AL' q a (sFnd S c) := by
  have hw := h.bill hb
  obtain ⟨h1, h2, ⟨h3, h3a, h3b, h3c⟩, h4, h5, ⟨nn, ⟨n1, n2⟩, n3⟩, h7, h8, h9⟩ := h
  obtain ⟨⟨m1, m2, m3, m4, m5, m6, m7, m8⟩, mb, mw⟩ := h2
  refine ⟨h1, ⟨⟨?_, ?_, ?_, ?_, ?_, ?_, mj_u2_s, ?_⟩, ?_, ?_⟩, ⟨?_, h3a, (by show wF (sW S) + 1 ≤ 4; omega), (by show sM S + 1 = wF (sW S) + 1 + sNp S; omega)⟩, ?_, ?_, ⟨nn, ⟨?_, n2⟩, ?_⟩, hM, fun k hk => ?_, Or.inr hw⟩
  · rw [mj_u2_1 (by decide)]; exact m1
  · rw [mj_u2_1 (by decide)]; exact m2
  · rw [mj_u2_1 (by decide)]; exact m3
  · rw [mj_u2_1 (by decide)]; exact m4
  · rw [mj_u2_1 (by decide)]; exact m5
  · rw [mj_u2_1 (by decide)]; exact m6
  · rw [mj_u2_1 (by decide)]; exact m8
  · rw [ax _ (by omega), ax _ (by omega), ax _ (by omega), ax _ (by omega), ax _ (by omega)]; exact mb
  · rw [ax _ (by omega), ax _ (by omega)]; exact mw
  · rw [mj_u2_1 (by decide)]; exact h3
  · rw [ax _ (by omega)]; exact h4
  · rw [lx _ (by omega)]; exact h5
  · rw [mj_u2_1 (by decide)]; exact n1
  · rw [ax _ (by omega), ax _ (by omega), lx _ (by omega)]; exact n3
  · have hk' : k < sM S + 1 := hk
    show byOK (gR (puth (sHs S) (sM S) (c.1, c.2.1, c.2.2.1, -2) k))
    unfold puth
    by_cases z : k = sM S
    · rw [if_pos z]; exact ⟨0, by decide, by show (-2 : Int32) = nI 0 - 2; decide⟩
    · rw [if_neg z]; exact h8 k (by omega)
theorem c_mreadFounder (hE : MEnv K FR AI q T E) (h : TSt FI AI FL q T E (.inr p)) (hs : srt T E p = 1) (hR : RdS K FR FI AI AL q a S) (hQ : ∀ (FI' AI' : Nat → Nat → Int32) (FL' AL' : Nat → Nat → Int64) (S' : PS), TSt FI' AI' FL' q T E (bd (pFound T E p S) fun x => .inr x.1) → (∀ x, pFound T E p S = .inr x → S' = x.2) → RdS K FR FI' AI' AL' q a S' → RZ q a FI FI' AI AI' FL FL' AL AL' → Q none (n, K, FI', FL', FR, AI', AL', AR)) : EV sa (d + 15) 202 [.ref q] (n, K, FI, FL, FR, AI, AL, AR) Q := by
  have k0 := hE.1.1
  obtain ⟨⟨r4, r6, hWS, hHS, hqa⟩, ⟨⟨m1, -, -, -, -, -, m7, -⟩, -⟩, ⟨m3, s10, f4, smn⟩, -⟩ := id hR
  have ka := hWS.1
  have b8 := hR.bd4.2.2.2.1
  obtain ⟨r1, er1⟩ : ∃ r1, r1 = pFirst T E (decide (wF (sW S) < 4)) (decide (0 < wW (sW S) ∧ sNp S = 0)) p := ⟨_, rfl⟩
  have from42 : ∀ (F : Nat → Nat → Int32) (rt : (Nat × Nat) ⊕ Nat), TSt F AI FL q T E rt → PZ q FI F AI AI FL FL → (∀ p', rt = .inr p' → srt T E p' ≠ 5) → stpr T E rt = r1 → WP sa (EV sa (d + 14)) 202 Q 0 0 42 [.ref q, mj_u] [] (n, K, F, FL, FR, AI, AL, AR) := by
    intro F rt g1 z1 h5 et
    simp only [e202_0, e202_1, e202_4, e202_7, e202_8, e202_11, e202_12, e202_13, e202_16, e202_17, e202_20, e202_23, e202_26, e202_27, e202_30, e202_33, e202_36, e202_37, e202_39, e202_42, e202_43, e202_46, e202_47, e202_50, e202_51, e202_52, e202_55, e202_56, e202_59, e202_60, e202_61, e202_64, e202_65, e202_68, e202_69, e202_70, e202_73, e202_74, e202_77, e202_79, e202_82, e202_83, e202_86, e202_86i, e202_87, e202_90, e202_91, e202_92, e202_95, mj_kl]
    refine ⟨by simp, c_goesOnS (hE.z z1) g1 h5 fun F2 A2 L2 g2 z2 => ?_⟩
    rw [et] at g2
    have z02 := z1.trans z2
    have hR2 := hR.z z02
    simp only [tl_none, e202_0, e202_1, e202_4, e202_7, e202_8, e202_11, e202_12, e202_13, e202_16, e202_17, e202_20, e202_23, e202_26, e202_27, e202_30, e202_33, e202_36, e202_37, e202_39, e202_42, e202_43, e202_46, e202_47, e202_50, e202_51, e202_52, e202_55, e202_56, e202_59, e202_60, e202_61, e202_64, e202_65, e202_68, e202_69, e202_70, e202_73, e202_74, e202_77, e202_79, e202_82, e202_83, e202_86, e202_86i, e202_87, e202_90, e202_91, e202_92, e202_95, mj_kl]
    refine ⟨by simp, c_readPlaced (hE.z z02) g2 hR2 fun F3 A3 L3 v g3 y3 z3 => ?_⟩
    have z03 := z02.y.trans z3
    have hR3 := hR.y z03
    cases e1 : bd r1 (pPl T E S) with
    | inl e =>
      rw [e1] at g3
      replace g3 : TSt F3 A3 L3 q T E (.inl e) := g3
      have ep : pFound T E p S = .inl e := by rw [pFound_pl, ← er1, e1]; rfl
      have s5 := g3.2.1
      simp only [tl_some, e202_0, e202_1, e202_4, e202_7, e202_8, e202_11, e202_12, e202_13, e202_16, e202_17, e202_20, e202_23, e202_26, e202_27, e202_30, e202_33, e202_36, e202_37, e202_39, e202_42, e202_43, e202_46, e202_47, e202_50, e202_51, e202_52, e202_55, e202_56, e202_59, e202_60, e202_61, e202_64, e202_65, e202_68, e202_69, e202_70, e202_73, e202_74, e202_77, e202_79, e202_82, e202_83, e202_86, e202_86i, e202_87, e202_90, e202_91, e202_92, e202_95, k0, s5, mj_kl, true_and]
      refine ⟨fun z => absurd trivial z, fun _ => hQ F3 A3 L3 AL S ?_ (fun x hx => ?_) hR3 (z03.rz (by omega))⟩
      · rw [ep]; exact g3
      · rw [ep] at hx; cases hx
    | inr c =>
      rw [e1] at g3
      replace g3 : TSt F3 A3 L3 q T E (.inr c.2.2.2) := g3
      obtain ⟨rfl, x1, x2, x3⟩ := y3 c e1
      have ep : pFound T E p S = .inr (c.2.2.2, sFnd S c) := by rw [pFound_pl, ← er1, e1]; rfl
      have hf4 : wF (sW S) < 4 := by
        cases e2 : r1 with
        | inl e => rw [e2] at e1; cases e1
        | inr p1 =>
          rw [e2] at er1
          unfold pFirst at er1
          split at er1
          · rename_i z; simpa using z
          · cases er1
      have hw := hR.bill x3.1
      have s5 := g3.2.1.2.2.1
      have m73 := hR3.2.1.1.2.2.2.2.2.2.1
      simp only [tl_some, e202_0, e202_1, e202_4, e202_7, e202_8, e202_11, e202_12, e202_13, e202_16, e202_17, e202_20, e202_23, e202_26, e202_27, e202_30, e202_33, e202_36, e202_37, e202_39, e202_42, e202_43, e202_46, e202_47, e202_50, e202_51, e202_52, e202_55, e202_56, e202_59, e202_60, e202_61, e202_64, e202_65, e202_68, e202_69, e202_70, e202_73, e202_74, e202_77, e202_79, e202_82, e202_83, e202_86, e202_86i, e202_87, e202_90, e202_91, e202_92, e202_95, k0, s5, r4, r6, rf_some, x1, x2, mj_kl, true_and]
      refine ⟨fun _ => ⟨by simp, c_adds hWS hw hR3.2.1 hHS (Or.inl (by omega)) hR3.2.2.2.2.2.2.1 (by omega) x3 fun A4 AL4 g4 i4 ax lx => ?_⟩, fun z => absurd msr_n5 z⟩
      simp only [tl_none, e202_0, e202_1, e202_4, e202_7, e202_8, e202_11, e202_12, e202_13, e202_16, e202_17, e202_20, e202_23, e202_26, e202_27, e202_30, e202_33, e202_36, e202_37, e202_39, e202_42, e202_43, e202_46, e202_47, e202_50, e202_51, e202_52, e202_55, e202_56, e202_59, e202_60, e202_61, e202_64, e202_65, e202_68, e202_69, e202_70, e202_73, e202_74, e202_77, e202_79, e202_82, e202_83, e202_86, e202_86i, e202_87, e202_90, e202_91, e202_92, e202_95, k0, r4, rf_some, ka, m73, nI_1, true_and]
      refine hQ _ A4 L3 AL4 (sFnd S c) ?_ (fun x hx => ?_) (hR3.fnd hf4 x3.1 g4 ax lx) ((z03.rz (by omega)).trans (RZ.at' (fun f c hc => mj_u2_2 (by omega)) (fun c hc => ax _ (by omega)) (fun c hc => lx _ (by omega)) i4))
      · rw [ep]
        exact g3.fr (fun f => mj_u2_2 (by omega)) (ax _ (by omega))
      · rw [ep] at hx; cases hx; rfl
  have from16 : ∀ (F : Nat → Nat → Int32) (r : (Nat × Nat) ⊕ Nat), TSt F AI FL q T E r → PZ q FI F AI AI FL FL → (wF (sW S) < 4 → r = .inr p) → (¬ wF (sW S) < 4 → r = .inl (5, p)) → WP sa (EV sa (d + 14)) 202 Q 0 0 16 [.ref q, mj_u] [] (n, K, F, FL, FR, AI, AL, AR) := by
    intro F r g1 z1 c1 c2
    have hR1 := hR.z z1
    have m11 := hR1.2.1.1.1
    have m31 := hR1.2.2.1.1
    have bad : ¬ (0 < wW (sW S) ∧ sNp S = 0) → WP sa (EV sa (d + 14)) 202 Q 0 0 36 [.ref q, mj_u] [] (n, K, F, FL, FR, AI, AL, AR) := fun hn => by
      simp only [e202_36, e202_37, e202_39]
      refine ⟨by simp, c_flaw (k := 6) hE g1 fun F2 g2 z2 => ?_⟩
      simp only [tl_none]
      refine from42 F2 _ g2 (z1.trans z2) (fun p' e => ?_) ?_
      · cases r with
        | inl _ => cases e
        | inr _ => cases e
      · rw [er1]
        unfold pFirst
        by_cases w : wF (sW S) < 4
        · rw [c1 w, decide_eq_true w, if_pos rfl, decide_eq_false hn]
          rfl
        · rw [c2 w, decide_eq_false w]
          rfl
    simp only [e202_16, e202_17, e202_20, e202_23, e202_26, e202_27, e202_30, e202_33, k0, r4, rf_some, ka, m11, m31, true_and]
    refine ⟨fun z => bad fun y => ?_, fun z => ⟨fun z2 => ?_, fun z2 => bad fun y => ?_⟩⟩
    · have := (nI_eq (show wW (sW S) < 2 ^ 31 by omega) (show 0 < 2 ^ 31 by decide)).mp z
      omega
    · have w0 : 0 < wW (sW S) := by
        rcases Nat.eq_zero_or_pos (wW (sW S)) with y | y
        · exact absurd (by rw [y]; rfl) z
        · exact y
      have n0 : sNp S = 0 := by
        rcases Nat.eq_zero_or_pos (sNp S) with y | y
        · exact y
        · exact absurd z2 (nI_nle y (by omega))
      refine from42 F r g1 z1 (fun p' e => ?_) ?_
      · by_cases w : wF (sW S) < 4
        · rw [c1 w] at e; cases e; omega
        · rw [c2 w] at e; cases e
      · rw [er1]
        unfold pFirst
        by_cases w : wF (sW S) < 4
        · rw [c1 w, decide_eq_true w, if_pos rfl, decide_eq_true (show 0 < wW (sW S) ∧ sNp S = 0 from ⟨w0, n0⟩)]
          rfl
        · rw [c2 w, decide_eq_false w]
          rfl
    · rw [y.2] at z2
      exact absurd (by decide) z2
  refine n202 k0 ?_
  simp only [e202_0, e202_1, e202_4, e202_7, e202_8, e202_11, e202_12, e202_13, k0, r4, rf_some, ka, m7, true_and]
  refine ⟨fun z => from16 FI (.inr p) h PZ.rfl' (fun _ => rfl) (fun w => absurd (by rw [show wF (sW S) = 4 by omega]; rfl) z), fun z => ⟨by simp, c_flaw (k := 5) hE h fun F2 g2 z2 => ?_⟩⟩
  simp only [tl_none]
  refine from16 F2 _ g2 z2 (fun w => ?_) (fun _ => rfl)
  have := (nI_eq (show wF (sW S) < 2 ^ 31 by omega) (show 4 < 2 ^ 31 by decide)).mp (Classical.not_not.mp z)
  omega
end
