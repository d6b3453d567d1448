/-! ## the model reads a wall's line -/
def rp (T : Nat → Int32) (E : Nat) (r : (Nat × Nat) ⊕ Nat) (x l u : Nat) : (Nat × Nat) ⊕ (Nat × Nat) := bd (bd r (pKey T E x)) (pWh T E l u)
def r2 (y : (Nat × Nat) ⊕ (Nat × Nat)) : (Nat × Nat) ⊕ Nat := bd y fun x => .inr x.2
theorem rp_bd {T : Nat → Int32} {E x l u p : Nat} {β : Type} {F : Nat × Nat → (Nat × Nat) ⊕ β} : bd (pKey T E x p) (fun p1 => bd (pWh T E l u p1) F) = bd (rp T E (.inr p) x l u) F := by
  show _ = bd (bd (pKey T E x p) (pWh T E l u)) F
  cases pKey T E x p <;> rfl
theorem rp_le {T : Nat → Int32} {E x l u : Nat} {r : (Nat × Nat) ⊕ Nat} {y : Nat × Nat} (h : rp T E r x l u = .inr y) : l ≤ y.1 ∧ y.1 ≤ u := by
  unfold rp at h
  cases e : bd r (pKey T E x) with
  | inl _ => rw [e] at h; cases h
  | inr p => rw [e] at h; exact pWh_bd h
def kHS (T : Nat → Int32) (E p : Nat) : (Nat × Nat) ⊕ Nat := pKey T E (if isK T E p 9 then 9 else 10) p
theorem wall_ch {T : Nat → Int32} {E p0 : Nat} {S : PS} {v1 v2 v3 : Int32} (h1 : ∀ y, rp T E (.inr p0) 6 2 8 = .inr y → v1 = nI y.1) (h2 : ∀ y, rp T E (r2 (rp T E (.inr p0) 6 2 8)) 7 1 4 = .inr y → v2 = nI y.1) (h3 : ∀ y, rp T E (r2 (rp T E (r2 (rp T E (.inr p0) 6 2 8)) 7 1 4)) 8 0 4 = .inr y → v3 = nI y.1) (p : Nat) (hp : p0 = stp T E p) (hw : ¬ 0 < wW (sW S)) :
    (∃ e, bd (r2 (rp T E (r2 (rp T E (r2 (rp T E (.inr p0) 6 2 8)) 7 1 4)) 8 0 4)) (kHS T E) = .inl e ∧ pWall T E p S = .inl e) ∨ ∃ x y l ps p4, r2 (rp T E (r2 (rp T E (r2 (rp T E (.inr p0) 6 2 8)) 7 1 4)) 8 0 4) = .inr ps ∧ kHS T E ps = .inr p4 ∧ pWall T E p S = .inr (p4, (w_wall (sW S) x y l (isK T E ps 9), S.2)) ∧ (v1 = nI x ∧ v2 = nI y ∧ v3 = nI l) ∧ (2 ≤ x ∧ x ≤ 8) ∧ (1 ≤ y ∧ y ≤ 4) ∧ l ≤ 4 := by
  subst hp
  unfold pWall
  rw [if_neg hw]
  simp only [rp_bd]
  cases e1 : rp T E (.inr (stp T E p)) 6 2 8 with
  | inl e => exact Or.inl ⟨e, rfl, rfl⟩
  | inr x =>
    rw [e1] at h2 h3
    have e1' := rp_le e1
    show (∃ e, bd (r2 (rp T E (r2 (rp T E (.inr x.2) 7 1 4)) 8 0 4)) (kHS T E) = .inl e ∧ bd (rp T E (.inr x.2) 7 1 4) _ = .inl e) ∨ ∃ x' y l ps p4, r2 (rp T E (r2 (rp T E (.inr x.2) 7 1 4)) 8 0 4) = .inr ps ∧ kHS T E ps = .inr p4 ∧ bd (rp T E (.inr x.2) 7 1 4) _ = .inr (p4, (w_wall (sW S) x' y l (isK T E ps 9), S.2)) ∧ _
    cases e2 : rp T E (.inr x.2) 7 1 4 with
    | inl e => exact Or.inl ⟨e, rfl, rfl⟩
    | inr y =>
      have h2' := h2 y e2
      rw [show r2 (.inr x) = .inr x.2 from rfl, e2] at h3
      have e2' := rp_le e2
      show (∃ e, bd (r2 (rp T E (.inr y.2) 8 0 4)) (kHS T E) = .inl e ∧ bd (rp T E (.inr y.2) 8 0 4) _ = .inl e) ∨ ∃ x' y' l ps p4, r2 (rp T E (.inr y.2) 8 0 4) = .inr ps ∧ kHS T E ps = .inr p4 ∧ bd (rp T E (.inr y.2) 8 0 4) _ = .inr (p4, (w_wall (sW S) x' y' l (isK T E ps 9), S.2)) ∧ _
      cases e3 : rp T E (.inr y.2) 8 0 4 with
      | inl e => exact Or.inl ⟨e, rfl, rfl⟩
      | inr l =>
        have h3' := h3 l e3
        have e3' := rp_le e3
        cases e4 : pKey T E (if isK T E l.2 9 = true then 9 else 10) l.2 with
        | inl e => exact Or.inl ⟨e, e4, by show bd (pKey T E (if isK T E l.2 9 = true then 9 else 10) l.2) _ = _; rw [e4]; rfl⟩
        | inr p4 => exact Or.inr ⟨x.1, y.1, l.1, l.2, p4, rfl, e4, by show bd (pKey T E (if isK T E l.2 9 = true then 9 else 10) l.2) _ = _; rw [e4]; rfl, ⟨h1 x e1, h2', h3'⟩, e1', e2', e3'.2⟩
section
variable {sa : Nat → Nat} {d n t h m : Nat} {Q : mj_Q} {K : Nat → Nat × Nat} {FI : Nat → Nat → Int32} {FL : Nat → Nat → Int64} {FR : Nat → Nat → Option Nat} {AI : Nat → Nat → Int32} {AL : Nat → Nat → Int64} {AR : Nat → Nat → Option Nat} {w : Wl} {hs : Nat → Hg}
variable {q E a p : Nat} {T : Nat → Int32} {res : (Nat × Nat) ⊕ Nat} {S : PS}
theorem TSt.fr {FI' AI' : Nat → Nat → Int32} (h : TSt FI AI FL q T E res) (e1 : ∀ f, FI' f q = FI f q) (e2 : AI' (q + 4) = AI (q + 4)) : TSt FI' AI' FL q T E res := by
  cases res with
  | inl e =>
    obtain ⟨h1, h2, h3, h4⟩ := h
    exact ⟨by rw [e1]; exact h1, by rw [e1]; exact h2, by rw [e1]; exact h3, by rw [e1]; exact h4⟩
  | inr p =>
    obtain ⟨h1, ⟨m1, m2, m3, m4, m5, m6, m7⟩, h3⟩ := h
    exact ⟨by rw [e1]; exact h1, ⟨by rw [e1]; exact m1, by rw [e1]; exact m2, by rw [e1]; exact m3, by rw [e1]; exact m4, by rw [e1]; exact m5, by rw [e1, e2]; exact m6, by rw [e1]; exact m7⟩, by rw [e1]; exact h3⟩
theorem RZ.at' {FI' AI' : Nat → Nat → Int32} {AL' : Nat → Nat → Int64} (e1 : ∀ f c, c < a → FI' f c = FI f c) (e2 : ∀ c, c < a → AI' c = AI c) (e3 : ∀ c, c < a → AL' c = AL c) (e4 : ∀ j, 121 ≤ j → AI' (a + 14) j = AI (a + 14) j) : RZ q a FI FI' AI AI' FL FL AL AL' := ⟨fun f c h _ => e1 f c h, FLx.rfl', fun c h _ _ _ => e2 c h, e3, e4⟩
theorem RdS.wall (h : RdS K FR FI AI AL q a S) (h0 : ¬ 0 < wW (sW S)) {x y l : Nat} {B : Bool} (hx : 2 ≤ x ∧ x ≤ 8) (hy : 1 ≤ y ∧ y ≤ 4) (hl : l ≤ 4) : RdS K FR (mj_u2 (mj_u2 (mj_u2 (mj_u2 FI 576 a (nI x)) 577 a (nI y)) 578 a (nI l)) 585 a (bI B)) AI AL q a (w_wall (sW S) x y l B, S.2) := by
  obtain ⟨h1, h2, h3, h4, h5, ⟨nn, ⟨n1, n2⟩, n3⟩, h7, h8, h9⟩ := h
  have hp : Pre (sW S) ∧ sM S = 0 := by
    rcases h9 with z | z
    · exact z
    · have := z.1.1
      omega
  have fx : ∀ f, f ≠ 576 → f ≠ 577 → f ≠ 578 → f ≠ 585 → mj_u2 (mj_u2 (mj_u2 (mj_u2 FI 576 a (nI x)) 577 a (nI y)) 578 a (nI l)) 585 a (bI B) f a = FI f a := fun f e1 e2 e3 e4 => by rw [mj_u2_1 e4, mj_u2_1 e3, mj_u2_1 e2, mj_u2_1 e1]
  obtain ⟨⟨m1, m2, m3, m4, m5, m6, m7, m8⟩, mb, mw⟩ := h2
  refine ⟨h1, ⟨⟨?_, ?_, ?_, ?_, ?_, ?_, ?_, mj_u2_s⟩, mb, mw⟩, ?_, h4, h5, ⟨nn, ⟨?_, n2⟩, n3⟩, ⟨h7.1, h7.2.1, fun k hk => ?_⟩, h8, Or.inr ?_⟩
  · rw [mj_u2_1 (by decide), mj_u2_1 (by decide), mj_u2_1 (by decide), mj_u2_s]; rfl
  · rw [mj_u2_1 (by decide), mj_u2_1 (by decide), mj_u2_s]; rfl
  · rw [mj_u2_1 (by decide), mj_u2_s]; rfl
  · rw [fx _ (by decide) (by decide) (by decide) (by decide)]; exact m4
  · rw [fx _ (by decide) (by decide) (by decide) (by decide)]; exact m5
  · rw [fx _ (by decide) (by decide) (by decide) (by decide)]; exact m6
  · rw [fx _ (by decide) (by decide) (by decide) (by decide)]; exact m7
  · rw [fx _ (by decide) (by decide) (by decide) (by decide)]; exact h3
  · rw [fx _ (by decide) (by decide) (by decide) (by decide)]; exact n1
  · have : k < sM S := hk
    omega
  · obtain ⟨s1, s2, s3, s4⟩ := hp.1
    refine ⟨hx, hy, hl, ?_, s2, s3, fun b hb => ?_, s4⟩
    · show wNB (sW S) ≤ 4
      omega
    · have : b < wNB (sW S) := hb
      omega
theorem c_mreadWall (hE : MEnv K FR AI q T E) (h : TSt FI AI FL q T E (.inr p)) (hs : srt T E p = 1) (hR : RdS K FR FI AI AL q a S) (hQ : ∀ (FI' AI' : Nat → Nat → Int32) (FL' AL' : Nat → Nat → Int64) (S' : PS), TSt FI' AI' FL' q T E (bd (pWall T E p S) fun x => .inr x.1) → (∀ x, pWall T E p S = .inr x → S' = x.2) → RdS K FR FI' AI' AL' q a S' → RZ q a FI FI' AI AI' FL FL' AL AL' → Q none (n, K, FI', FL', FR, AI', AL', AR)) : EV sa (d + 14) 197 [.ref q] (n, K, FI, FL, FR, AI, AL, AR) Q := by
  have k0 := hE.1.1
  obtain ⟨⟨r4, -, hWS, -, hqa⟩, ⟨⟨m1, -⟩, -⟩, -⟩ := id hR
  have ka := hWS.1
  have h8 := hR.bd4.2.2.2.1
  -- from the second step on
  have rest : ∀ (F : Nat → Nat → Int32) (r : (Nat × Nat) ⊕ Nat), TSt F AI FL q T E r → PZ q FI F AI AI FL FL → (0 < wW (sW S) → r = .inl (3, p)) → (¬ 0 < wW (sW S) → r = .inr p) → WP sa (EV sa (d + 13)) 197 Q 0 0 15 [.ref q, mj_u, mj_u, mj_u, mj_u] [] (n, K, F, FL, FR, AI, AL, AR) := by
    intro F r h' z0 c1 c2
    simp only [e197_0, e197_1, e197_4, e197_7, e197_10, e197_11, e197_12, e197_15, e197_16, e197_19, e197_20, e197_23, e197_24, e197_26, e197_29, e197_30, e197_31, e197_34, e197_35, e197_36, e197_39, e197_40, e197_41, e197_44, e197_45, e197_46, e197_49, e197_50, e197_51, e197_54, e197_57, e197_59, e197_61, e197_64, e197_65, e197_68, e197_71, e197_74, e197_75, e197_76, e197_79, e197_80, e197_83, e197_84, e197_87, e197_88, e197_91, e197_92, e197_93, e197_96, e197_97, e197_100, e197_101, e197_104, e197_105, e197_108, e197_109, e197_112, e197_113, e197_116, e197_117, e197_120, e197_122, e197_125, mj_kl]
    refine ⟨by simp, c_goesOnS hE h' (fun p' e => ?_) fun F1 A1 L1 g1 z1 => ?_⟩
    · by_cases w : 0 < wW (sW S)
      · rw [c1 w] at e; cases e
      · rw [c2 w] at e; cases e; omega
    have hE1 := hE.z z1
    obtain ⟨r0, er0⟩ : ∃ r0, r0 = stpr T E r := ⟨_, rfl⟩
    rw [← er0] at g1
    simp only [tl_none, e197_0, e197_1, e197_4, e197_7, e197_10, e197_11, e197_12, e197_15, e197_16, e197_19, e197_20, e197_23, e197_24, e197_26, e197_29, e197_30, e197_31, e197_34, e197_35, e197_36, e197_39, e197_40, e197_41, e197_44, e197_45, e197_46, e197_49, e197_50, e197_51, e197_54, e197_57, e197_59, e197_61, e197_64, e197_65, e197_68, e197_71, e197_74, e197_75, e197_76, e197_79, e197_80, e197_83, e197_84, e197_87, e197_88, e197_91, e197_92, e197_93, e197_96, e197_97, e197_100, e197_101, e197_104, e197_105, e197_108, e197_109, e197_112, e197_113, e197_116, e197_117, e197_120, e197_122, e197_125, mj_kl]
    refine ⟨by simp, c_readPart (l := 2) (u := 8) hE1 g1 (by decide) (fun _ _ => ⟨rfl, rfl, by decide, by decide⟩) fun F2 A2 L2 v1 g2 y1 z2 => ?_⟩
    replace g2 : TSt F2 A2 L2 q T E (r2 (rp T E r0 6 2 8)) := g2
    replace y1 : ∀ y, rp T E r0 6 2 8 = .inr y → v1 = nI y.1 := y1
    simp only [tl_some, e197_0, e197_1, e197_4, e197_7, e197_10, e197_11, e197_12, e197_15, e197_16, e197_19, e197_20, e197_23, e197_24, e197_26, e197_29, e197_30, e197_31, e197_34, e197_35, e197_36, e197_39, e197_40, e197_41, e197_44, e197_45, e197_46, e197_49, e197_50, e197_51, e197_54, e197_57, e197_59, e197_61, e197_64, e197_65, e197_68, e197_71, e197_74, e197_75, e197_76, e197_79, e197_80, e197_83, e197_84, e197_87, e197_88, e197_91, e197_92, e197_93, e197_96, e197_97, e197_100, e197_101, e197_104, e197_105, e197_108, e197_109, e197_112, e197_113, e197_116, e197_117, e197_120, e197_122, e197_125, mj_kl]
    refine ⟨by simp, c_readPart (l := 1) (u := 4) (hE1.z z2) g2 (by decide) (fun _ _ => ⟨rfl, rfl, by decide, by decide⟩) fun F3 A3 L3 v2 g3 y2 z3 => ?_⟩
    replace g3 : TSt F3 A3 L3 q T E (r2 (rp T E (r2 (rp T E r0 6 2 8)) 7 1 4)) := g3
    replace y2 : ∀ y, rp T E (r2 (rp T E r0 6 2 8)) 7 1 4 = .inr y → v2 = nI y.1 := y2
    simp only [tl_some, e197_0, e197_1, e197_4, e197_7, e197_10, e197_11, e197_12, e197_15, e197_16, e197_19, e197_20, e197_23, e197_24, e197_26, e197_29, e197_30, e197_31, e197_34, e197_35, e197_36, e197_39, e197_40, e197_41, e197_44, e197_45, e197_46, e197_49, e197_50, e197_51, e197_54, e197_57, e197_59, e197_61, e197_64, e197_65, e197_68, e197_71, e197_74, e197_75, e197_76, e197_79, e197_80, e197_83, e197_84, e197_87, e197_88, e197_91, e197_92, e197_93, e197_96, e197_97, e197_100, e197_101, e197_104, e197_105, e197_108, e197_109, e197_112, e197_113, e197_116, e197_117, e197_120, e197_122, e197_125, mj_kl]
    refine ⟨by simp, c_readPart (l := 0) (u := 4) ((hE1.z z2).z z3) g3 (by decide) (fun _ _ => ⟨rfl, rfl, by decide, by decide⟩) fun F4 A4 L4 v3 g4 y3 z4 => ?_⟩
    replace g4 : TSt F4 A4 L4 q T E (r2 (rp T E (r2 (rp T E (r2 (rp T E r0 6 2 8)) 7 1 4)) 8 0 4)) := g4
    replace y3 : ∀ y, rp T E (r2 (rp T E (r2 (rp T E r0 6 2 8)) 7 1 4)) 8 0 4 = .inr y → v3 = nI y.1 := y3
    have z04 := (((z0.trans z1).trans z2).trans z3).trans z4
    have hE4 := hE.z z04
    have fc : (∃ e, bd (r2 (rp T E (r2 (rp T E (r2 (rp T E r0 6 2 8)) 7 1 4)) 8 0 4)) (kHS T E) = .inl e ∧ pWall T E p S = .inl e) ∨ ¬ 0 < wW (sW S) ∧ ∃ x y l ps p4, r2 (rp T E (r2 (rp T E (r2 (rp T E r0 6 2 8)) 7 1 4)) 8 0 4) = .inr ps ∧ kHS T E ps = .inr p4 ∧ pWall T E p S = .inr (p4, (w_wall (sW S) x y l (isK T E ps 9), S.2)) ∧ (v1 = nI x ∧ v2 = nI y ∧ v3 = nI l) ∧ (2 ≤ x ∧ x ≤ 8) ∧ (1 ≤ y ∧ y ≤ 4) ∧ l ≤ 4 := by
      by_cases w : 0 < wW (sW S)
      · left
        refine ⟨(3, p), ?_, ?_⟩
        · rw [er0, c1 w]; rfl
        · unfold pWall; rw [if_pos w]
      · have e0 : r0 = .inr (stp T E p) := by rw [er0, c2 w]; rfl
        rw [e0] at y1 y2 y3 ⊢
        rcases wall_ch y1 y2 y3 p rfl w with z | z
        · exact Or.inl z
        · exact Or.inr ⟨w, z⟩
    generalize r2 (rp T E (r2 (rp T E (r2 (rp T E r0 6 2 8)) 7 1 4)) 8 0 4) = rs at g4 fc
    have fin : ∀ (F5 : Nat → Nat → Int32) (rt : (Nat × Nat) ⊕ Nat), TSt F5 A4 L4 q T E rt → PZ q FI F5 AI A4 FL L4 → (∀ p', rt = .inr p' → srt T E p' ≠ 5) → stpr T E rt = bd rs (kHS T E) → WP sa (EV sa (d + 13)) 197 Q 0 0 79 [.ref q, .int v1, .int v2, .int v3, .int (bI (isKr T E rs 9))] [] (n, K, F5, L4, FR, A4, AL, AR) := by
      intro F5 rt g5 z5 n5 et
      simp only [e197_0, e197_1, e197_4, e197_7, e197_10, e197_11, e197_12, e197_15, e197_16, e197_19, e197_20, e197_23, e197_24, e197_26, e197_29, e197_30, e197_31, e197_34, e197_35, e197_36, e197_39, e197_40, e197_41, e197_44, e197_45, e197_46, e197_49, e197_50, e197_51, e197_54, e197_57, e197_59, e197_61, e197_64, e197_65, e197_68, e197_71, e197_74, e197_75, e197_76, e197_79, e197_80, e197_83, e197_84, e197_87, e197_88, e197_91, e197_92, e197_93, e197_96, e197_97, e197_100, e197_101, e197_104, e197_105, e197_108, e197_109, e197_112, e197_113, e197_116, e197_117, e197_120, e197_122, e197_125, mj_kl]
      refine ⟨by simp, c_goesOnS hE4 g5 n5 fun F6 A6 L6 g6 z6 => ?_⟩
      rw [et] at g6
      have z06 := z5.trans z6
      have hR6 := hR.z z06
      rcases fc with ⟨e, f1, f2⟩ | ⟨hw0, x, y, l, ps, p4, f1, f2, f3, ⟨rfl, rfl, rfl⟩, f4, f5, f6⟩
      · rw [f1] at g6
        have s5 := g6.2.1
        simp only [tl_none, e197_0, e197_1, e197_4, e197_7, e197_10, e197_11, e197_12, e197_15, e197_16, e197_19, e197_20, e197_23, e197_24, e197_26, e197_29, e197_30, e197_31, e197_34, e197_35, e197_36, e197_39, e197_40, e197_41, e197_44, e197_45, e197_46, e197_49, e197_50, e197_51, e197_54, e197_57, e197_59, e197_61, e197_64, e197_65, e197_68, e197_71, e197_74, e197_75, e197_76, e197_79, e197_80, e197_83, e197_84, e197_87, e197_88, e197_91, e197_92, e197_93, e197_96, e197_97, e197_100, e197_101, e197_104, e197_105, e197_108, e197_109, e197_112, e197_113, e197_116, e197_117, e197_120, e197_122, e197_125, k0, s5, true_and]
        refine ⟨fun z => absurd trivial z, fun _ => hQ F6 A6 L6 AL S ?_ (fun x hx => ?_) hR6 (z06.y.rz (by omega))⟩
        · rw [f2]; exact g6
        · rw [f2] at hx; cases hx
      · subst f1
        replace g6 : TSt F6 A6 L6 q T E (kHS T E ps) := g6
        rw [f2] at g6
        have s5 := g6.2.1.2.2.1
        simp only [tl_none, e197_0, e197_1, e197_4, e197_7, e197_10, e197_11, e197_12, e197_15, e197_16, e197_19, e197_20, e197_23, e197_24, e197_26, e197_29, e197_30, e197_31, e197_34, e197_35, e197_36, e197_39, e197_40, e197_41, e197_44, e197_45, e197_46, e197_49, e197_50, e197_51, e197_54, e197_57, e197_59, e197_61, e197_64, e197_65, e197_68, e197_71, e197_74, e197_75, e197_76, e197_79, e197_80, e197_83, e197_84, e197_87, e197_88, e197_91, e197_92, e197_93, e197_96, e197_97, e197_100, e197_101, e197_104, e197_105, e197_108, e197_109, e197_112, e197_113, e197_116, e197_117, e197_120, e197_122, e197_125, k0, s5, r4, rf_some, ka, true_and]
        have ub : ∀ (k : Nat) (v : Int32) (F : Nat → Nat → Int32) (f : Nat) (c : Nat), c < a → mj_u2 F k a v f c = F f c := fun k v F f c hc => mj_u2_2 (by omega)
        refine ⟨fun _ => ⟨bI_01 _, hQ _ A6 L6 AL (w_wall (sW S) x y l (isK T E ps 9), S.2) ?_ (fun x hx => ?_) (hR6.wall hw0 f4 f5 f6) ((z06.y.rz (by omega)).trans (RZ.at' (fun f c hc => ?_) (fun _ _ => rfl) (fun _ _ => rfl) (fun _ _ => rfl)))⟩, fun z => absurd msr_n5 z⟩
        · rw [f3]
          exact g6.fr (fun f => by rw [ub _ _ _ _ _ (by omega), ub _ _ _ _ _ (by omega), ub _ _ _ _ _ (by omega), ub _ _ _ _ _ (by omega)]) rfl
        · rw [f3] at hx; cases hx; rfl
        · rw [ub _ _ _ _ _ hc, ub _ _ _ _ _ hc, ub _ _ _ _ _ hc, ub _ _ _ _ _ hc]
    simp only [tl_some, e197_49, e197_50, e197_51, e197_54, mj_kl]
    refine ⟨by simp, c_isWordS hE4 g4 (by decide) ?_⟩
    simp only [tl_some, e197_57, e197_59, e197_61, e197_64, e197_65, e197_68, mj_kl, bI_eq0]
    refine ⟨fun z => fin F4 rs g4 z04 (isKr_5 (ts_nf z)) ?_, fun z => ⟨by simp, c_isWordS hE4 g4 (by decide) ?_⟩⟩
    · cases rs with
      | inl _ => rfl
      | inr ps =>
        have : isK T E ps 9 = true := ts_nf z
        show (.inr (stp T E ps) : (Nat × Nat) ⊕ Nat) = kHS T E ps
        unfold kHS pKey
        rw [if_pos this, if_pos this]
    · simp only [tl_some, e197_71, e197_74, e197_75, e197_76, bI_eq0]
      have z9 := Classical.not_not.mp z
      refine ⟨fun z => fin F4 rs g4 z04 (isKr_5 (ts_nf z)) ?_, fun z => ⟨by simp, c_flaw (k := 1) hE4 g4 fun F5 g5 z5 => ?_⟩⟩
      · cases rs with
        | inl _ => rfl
        | inr ps =>
          have h9 : isK T E ps 9 = false := z9
          have : isK T E ps 10 = true := ts_nf z
          show (.inr (stp T E ps) : (Nat × Nat) ⊕ Nat) = kHS T E ps
          unfold kHS pKey
          simp [h9, this]
      · simp only [tl_none]
        have z10 := Classical.not_not.mp z
        refine fin F5 _ g5 (z04.trans z5) (fun p' e => ?_) ?_
        · cases rs with
          | inl _ => cases e
          | inr ps => cases e
        · cases rs with
          | inl _ => rfl
          | inr ps =>
            have h9 : isK T E ps 9 = false := z9
            have : isK T E ps 10 = false := z10
            show (.inl (1, ps) : (Nat × Nat) ⊕ Nat) = kHS T E ps
            unfold kHS pKey
            simp [h9, this]
  refine n197 k0 ?_
  simp only [e197_0, e197_1, e197_4, e197_7, e197_10, e197_11, e197_12, k0, r4, rf_some, ka, m1, true_and]
  refine ⟨fun z => rest FI (.inr p) h PZ.rfl' (fun w => absurd z (nI_nle w (by omega))) (fun _ => rfl), fun z => ⟨by simp, c_flaw (k := 3) hE h fun F1 g1 z1 => ?_⟩⟩
  simp only [tl_none]
  refine rest F1 _ g1 z1 (fun _ => rfl) fun w => ?_
  have : wW (sW S) = 0 := by omega
  exact absurd (by rw [this]; decide) z
end
