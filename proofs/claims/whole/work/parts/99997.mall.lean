/-! ## the model reads a text -/
section
variable {sa : Nat → Nat} {d n t h m : Nat} {Q : mj_Q} {K : Nat → Nat × Nat} {FI : Nat → Nat → Int32} {FL : Nat → Nat → Int64} {FR : Nat → Nat → Option Nat} {AI : Nat → Nat → Int32} {AL : Nat → Nat → Int64} {AR : Nat → Nat → Option Nat} {w : Wl} {hs : Nat → Hg}
variable {q E a p : Nat} {T : Nat → Int32} {res : (Nat × Nat) ⊕ Nat} {S : PS}
theorem c_mreadLine (hE : MEnv K FR AI q T E) (h : TSt FI AI FL q T E (.inr p)) (hR : RdS K FR FI AI AL q a S) (hQ : ∀ (FI' AI' : Nat → Nat → Int32) (FL' AL' : Nat → Nat → Int64) (S' : PS), TSt FI' AI' FL' q T E (bd (pLine T E p S) fun x => .inr x.1) → (∀ x, pLine T E p S = .inr x → S' = x.2) → RdS K FR FI' AI' AL' q a S' → RZ q a FI FI' AI AI' FL FL' AL AL' → Q none (n, K, FI', FL', FR, AI', AL', AR)) : EV sa (d + 16) 196 [.ref q] (n, K, FI, FL, FR, AI, AL, AR) Q := by
  have k0 := hE.1.1
  have go : ∀ {X : (Nat × Nat) ⊕ (Nat × PS)}, pLine T E p S = X → ∀ (FI' AI' : Nat → Nat → Int32) (FL' AL' : Nat → Nat → Int64) (S' : PS), TSt FI' AI' FL' q T E (bd X fun x => .inr x.1) → (∀ x, X = .inr x → S' = x.2) → RdS K FR FI' AI' AL' q a S' → RZ q a FI FI' AI AI' FL FL' AL AL' → WP sa (EV sa (d + 15)) 196 Q 0 0 101 [.ref q] [] (n, K, FI', FL', FR, AI', AL', AR) := by
    intro X e FI' AI' FL' AL' S' g1 g2 g3 g4
    simp only [e196_101]
    subst e
    exact hQ FI' AI' FL' AL' S' g1 g2 g3 g4
  refine n196 k0 ?_
  simp only [e196_0, e196_1, e196_3]
  refine ⟨by simp, c_isWordS hE h (by decide) ?_⟩
  simp only [tl_some, e196_6, e196_9, e196_10, e196_13, e196_16, e196_17, e196_19, bI_eq0]
  refine ⟨fun y => ⟨by simp, c_isWordS hE h (by decide) ?_⟩, fun y => ⟨by simp, ?_⟩⟩
  rotate_left
  · have i0 : isK T E p 0 = true := ts_nf y
    refine c_mreadWall hE h (isK_1 i0) hR fun F1 A1 L1 M1 S1 g1 g2 g3 g4 => ?_
    simp only [tl_none, e196_13]
    exact go (by unfold pLine; rw [if_pos i0]) F1 A1 L1 M1 S1 g1 g2 g3 g4
  have n0 : isK T E p 0 = false := y
  simp only [tl_some, e196_22, e196_25, e196_26, e196_29, e196_32, e196_33, e196_35, bI_eq0]
  refine ⟨fun y => ⟨by simp, c_isWordS hE h (by decide) ?_⟩, fun y => ⟨by simp, ?_⟩⟩
  rotate_left
  · have i0 : isK T E p 1 = true := ts_nf y
    refine c_mreadBill hE h (isK_1 i0) hR fun F1 A1 L1 M1 S1 g1 g2 g3 g4 => ?_
    simp only [tl_none, e196_29]
    exact go (by unfold pLine; rw [n0, i0]; rfl) F1 A1 L1 M1 S1 g1 g2 g3 g4
  have n1 : isK T E p 1 = false := y
  simp only [tl_some, e196_38, e196_41, e196_42, e196_45, e196_48, e196_49, e196_51, bI_eq0]
  refine ⟨fun y => ⟨by simp, c_isWordS hE h (by decide) ?_⟩, fun y => ⟨by simp, ?_⟩⟩
  rotate_left
  · have i0 : isK T E p 2 = true := ts_nf y
    refine c_mreadRival hE h (isK_1 i0) hR fun F1 A1 L1 M1 S1 g1 g2 g3 g4 => ?_
    simp only [tl_none, e196_45]
    exact go (by unfold pLine; rw [n0, n1, i0]; rfl) F1 A1 L1 M1 S1 g1 g2 g3 g4
  have n2 : isK T E p 2 = false := y
  simp only [tl_some, e196_54, e196_57, e196_58, e196_61, e196_64, e196_65, e196_67, bI_eq0]
  refine ⟨fun y => ⟨by simp, c_isWordS hE h (by decide) ?_⟩, fun y => ⟨by simp, ?_⟩⟩
  rotate_left
  · have i0 : isK T E p 3 = true := ts_nf y
    refine c_mreadWord hE h (isK_1 i0) hR fun F1 A1 L1 M1 S1 g1 g2 g3 g4 => ?_
    simp only [tl_none, e196_61]
    exact go (by unfold pLine; rw [n0, n1, n2, i0]; rfl) F1 A1 L1 M1 S1 g1 g2 g3 g4
  have n3 : isK T E p 3 = false := y
  simp only [tl_some, e196_70, e196_73, e196_74, e196_77, e196_80, e196_81, e196_83, bI_eq0]
  refine ⟨fun y => ⟨by simp, c_isWordS hE h (by decide) ?_⟩, fun y => ⟨by simp, ?_⟩⟩
  rotate_left
  · have i0 : isK T E p 4 = true := ts_nf y
    refine c_mreadFounder hE h (isK_1 i0) hR fun F1 A1 L1 M1 S1 g1 g2 g3 g4 => ?_
    simp only [tl_none, e196_77]
    exact go (by unfold pLine; rw [n0, n1, n2, n3, i0]; rfl) F1 A1 L1 M1 S1 g1 g2 g3 g4
  have n4 : isK T E p 4 = false := y
  simp only [tl_some, e196_86, e196_89, e196_90, e196_93, e196_96, e196_97, e196_98, bI_eq0]
  refine ⟨fun y => ⟨by simp, c_flaw (k := 1) hE h fun F1 g1 z1 => ?_⟩, fun y => ⟨by simp, ?_⟩⟩
  rotate_left
  · have i0 : isK T E p 5 = true := ts_nf y
    refine c_mreadPaste hE h (isK_1 i0) hR fun F1 A1 L1 M1 S1 g1 g2 g3 g4 => ?_
    simp only [tl_none, e196_93]
    exact go (by unfold pLine; rw [n0, n1, n2, n3, n4, i0]; rfl) F1 A1 L1 M1 S1 g1 g2 g3 g4
  have n5 : isK T E p 5 = false := y
  simp only [tl_none]
  exact go (X := .inl (1, p)) (by unfold pLine; rw [n0, n1, n2, n3, n4, n5]; rfl) F1 AI FL AL S g1 (fun x hx => by cases hx) (hR.z z1) (z1.y.rz (by have := hR.1.2.2.2.2; omega))
theorem msr_eq1' {s : Nat} (h : s ≤ 5) : nI (msr s) = 1 ↔ s = 0 := msr_eq1 h
theorem c_mreadAll (hE : MEnv K FR AI q T E) (h : TSt FI AI FL q T E (.inr p)) (hR : RdS K FR FI AI AL q a S) {f : Nat} (hp : p ≤ E) (hf : E + 1 ≤ f + p) (hQ : ∀ (FI' AI' : Nat → Nat → Int32) (FL' AL' : Nat → Nat → Int64), (∀ e, pAll T E f p S = .inl e → FI' 658 q = nI e.1 ∧ FI' 659 q = nI e.2) → (∀ S', pAll T E f p S = .inr S' → FI' 658 q = 0 ∧ RdS K FR FI' AI' AL' q a S') → RZ q a FI FI' AI AI' FL FL' AL AL' → Q none (n, K, FI', FL', FR, AI', AL', AR)) : EV sa (d + 17) 195 [.ref q] (n, K, FI, FL, FR, AI, AL, AR) Q := by
  have k0 := hE.1.1
  have hqa := hR.1.2.2.2.2
  obtain ⟨P0, eP0⟩ : ∃ P0, P0 = pAll T E f p S := ⟨_, rfl⟩
  -- the last tests
  have from33 : ∀ (F A : Nat → Nat → Int32) (L M : Nat → Nat → Int64) (S' : PS) (r : (Nat × Nat) ⊕ Nat), MEnv K FR A q T E → TSt F A L q T E r → RdS K FR F A M q a S' → RZ q a FI F AI A FL L AL M → (∀ e, r = .inl e → P0 = .inl e) → (∀ p', r = .inr p' → P0 = if wNB (sW S') = 0 then .inl (6, p') else .inr S') → ∀ x : Value, WP sa (EV sa (d + 16)) 195 Q 0 0 33 [.ref q, x] [] (n, K, F, L, FR, A, M, AR) := by
    intro F A L M S' r hE' h' hR' z' c1 c2 x
    obtain ⟨⟨r4, -, hWS, -, -⟩, ⟨⟨m1, -, -, m4, -⟩, -⟩, -⟩ := id hR'
    have ka := hWS.1
    obtain ⟨b4, -, -, b8, -, w0⟩ := hR'.bd4
    have bad : wNB (sW S') = 0 → WP sa (EV sa (d + 16)) 195 Q 0 0 53 [.ref q, x] [] (n, K, F, L, FR, A, M, AR) := fun hn => by
      simp only [e195_53, e195_54, e195_56]
      refine ⟨by simp, c_flaw (k := 6) hE' h' fun F2 g2 z2 => ?_⟩
      simp only [tl_none, e195_59]
      refine hQ F2 A L M (fun e he => ?_) (fun S'' he => ?_) (z'.trans (z2.y.rz (by omega)))
      · rw [← eP0] at he
        cases r with
        | inl e' =>
          rw [c1 e' rfl] at he
          cases he
          exact g2.2.2
        | inr p' =>
          rw [c2 p' rfl, if_pos hn] at he
          cases he
          exact g2.2.2
      · rw [← eP0] at he
        cases r with
        | inl e' => rw [c1 e' rfl] at he; cases he
        | inr p' => rw [c2 p' rfl, if_pos hn] at he; cases he
    simp only [e195_33, e195_34, e195_37, e195_40, e195_43, e195_44, e195_47, e195_50, e195_59, k0, r4, rf_some, ka, m1, m4, true_and]
    refine ⟨fun z => bad (w0 ?_), fun _ => ⟨fun z => hQ F A L M (fun e he => ?_) (fun S'' he => ?_) z', fun z => bad ?_⟩⟩
    · exact (nI_eq (show wW (sW S') < 2 ^ 31 by omega) (show 0 < 2 ^ 31 by decide)).mp z
    · rw [← eP0] at he
      cases r with
      | inl e' =>
        rw [c1 e' rfl] at he
        cases he
        exact h'.2.2
      | inr p' =>
        rw [c2 p' rfl, if_neg (fun y => z (by rw [y]; rfl))] at he
        cases he
    · rw [← eP0] at he
      cases r with
      | inl e' => rw [c1 e' rfl] at he; cases he
      | inr p' =>
        rw [c2 p' rfl, if_neg (fun y => z (by rw [y]; rfl))] at he
        cases he
        exact ⟨h'.2.2, hR'⟩
    · exact (nI_eq (show wNB (sW S') < 2 ^ 31 by omega) (show 0 < 2 ^ 31 by decide)).mp (Classical.not_not.mp z)
  -- the lines
  have loop : ∀ f p S, ∀ (F A : Nat → Nat → Int32) (L M : Nat → Nat → Int64), MEnv K FR A q T E → TSt F A L q T E (.inr p) → RdS K FR F A M q a S → RZ q a FI F AI A FL L AL M → p ≤ E → E + 1 ≤ f + p → P0 = pAll T E f p S → WP sa (EV sa (d + 16)) 195 Q 0 0 2 [.ref q, .int 1] [] (n, K, F, L, FR, A, M, AR) := by
    intro f
    induction f with
    | zero => intro p S F A L M _ _ _ _ h1 h2 _; omega
    | succ f ih =>
      intro p S F A L M hE' h' hR' z' hp hf eP
      rw [e195_2]
      simp only [e195_3, e195_6, e195_7]
      refine ⟨fun z => absurd z (by decide), fun _ => ⟨by simp, c_mreadLine hE' h' hR' fun F1 A1 L1 M1 S1 g1 g2 g3 z1 => ?_⟩⟩
      have hE1 : MEnv K FR A1 q T E := ⟨hE'.1, by rw [z1.2.2.1 (q + 3) (by omega) (by omega) (by omega) (by omega)]; exact hE'.2.1, hE'.2.2⟩
      have z01 := z'.trans z1
      simp only [tl_none, e195_10, e195_11, e195_13]
      refine ⟨by simp, c_eatsSign (s := 3) hE1 g1 (Or.inl ⟨rfl, rfl⟩) fun F2 A2 L2 g4 z2 => ?_⟩
      have z02 := z01.trans (z2.y.rz (a := a) (AL := M1) (by omega))
      have hE2 := hE1.z z2
      have hR2 := g3.z z2
      simp only [tl_some, e195_16, e195_17, mj_kl]
      cases e1 : pLine T E p S with
      | inl e =>
        rw [e1] at g4
        replace g4 : TSt F2 A2 L2 q T E (.inl e) := g4
        have eP' : P0 = .inl e := by rw [eP]; unfold pAll; rw [e1]; rfl
        have s5 := g4.2.1
        show WP sa (EV sa (d + 16)) 195 Q 0 0 2 [.ref q, .int 0] [] (n, K, F2, L2, FR, A2, M1, AR)
        rw [e195_2]
        simp only [e195_3, e195_20, e195_21, e195_24, e195_25, e195_28, e195_29, e195_30, k0, s5, true_and]
        refine ⟨fun _ => ⟨fun z => absurd z (by decide), fun _ => ⟨by simp, c_flaw (k := 1) hE2 g4 fun F3 g5 z3 => ?_⟩⟩, fun z => absurd trivial z⟩
        simp only [tl_none]
        exact from33 F3 A2 L2 M1 S1 (.inl e) (hE2.z z3) g5 (hR2.z z3) (z02.trans (z3.y.rz (by omega))) (fun e' he => by cases he; exact eP') (fun p' he => by cases he) _
      | inr x =>
        obtain ⟨l1, l2⟩ := ge_line e1
        have eS := g2 x e1
        subst eS
        have eP' : P0 = if srt T E x.1 = 3 then pAll T E f (stp T E x.1) x.2 else if srt T E x.1 = 0 then (if wNB (sW x.2) = 0 then .inl (6, x.1) else .inr x.2) else .inl (1, x.1) := by rw [eP]; show bd (pLine T E p S) _ = _; rw [e1]; rfl
        rw [e1] at g4
        by_cases z3 : srt T E x.1 = 3
        · have es : sgr T E (bd (.inr x) fun x => .inr x.1) 3 = true := decide_eq_true z3
          rw [es] at g4 ⊢
          replace g4 : TSt F2 A2 L2 q T E (.inr (stp T E x.1)) := g4
          rw [if_pos z3] at eP'
          have := stp_ge (T := T) (E := E) (p := x.1)
          exact ih (stp T E x.1) x.2 F2 A2 L2 M1 hE2 g4 hR2 z02 (stp_le (l2 hp)) (by omega) eP'
        · have es : sgr T E (bd (.inr x) fun x => .inr x.1) 3 = false := decide_eq_false z3
          rw [es] at g4 ⊢
          replace g4 : TSt F2 A2 L2 q T E (.inr x.1) := g4
          rw [if_neg z3] at eP'
          have s5 := g4.2.1.2.2.1
          have hs5 : srt T E x.1 ≤ 5 := srt_5
          show WP sa (EV sa (d + 16)) 195 Q 0 0 2 [.ref q, .int 0] [] (n, K, F2, L2, FR, A2, M1, AR)
          rw [e195_2]
          simp only [e195_3, e195_20, e195_21, e195_24, e195_25, e195_28, e195_29, e195_30, k0, s5, msr_eq1 hs5, true_and]
          refine ⟨fun _ => ⟨fun z => ?_, fun z => ⟨by simp, c_flaw (k := 1) hE2 g4 fun F3 g5 z3 => ?_⟩⟩, fun z => absurd trivial z⟩
          · rw [if_pos z] at eP'
            exact from33 F2 A2 L2 M1 x.2 (.inr x.1) hE2 g4 hR2 z02 (fun e' he => by cases he) (fun p' he => by cases he; exact eP') _
          · rw [if_neg z] at eP'
            simp only [tl_none]
            exact from33 F3 A2 L2 M1 x.2 (.inl (1, x.1)) (hE2.z z3) g5 (hR2.z z3) (z02.trans (z3.y.rz (by omega))) (fun e' he => by cases he; exact eP') (fun p' he => by cases he) _
  refine n195 k0 ?_
  simp only [e195_0, e195_1, mj_kl]
  exact loop f p S FI AI FL AL hE h hR RZ.rfl' hp hf eP0
end
