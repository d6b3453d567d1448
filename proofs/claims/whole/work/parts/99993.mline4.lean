/-! ## the model reads a word's line -/
theorem dec_ne' {k m : Nat} {c : Int32} (hk : k ≤ m) (hm : m < 1000) (hc : c = nI m) : decide (nI k ≠ c) = decide (k < m) := by
  subst hc
  refine decide_eq_decide.mpr ⟨fun y => ?_, fun y z => ?_⟩
  · rcases Nat.lt_or_ge k m with z | z
    · exact z
    · exact absurd (by rw [show k = m by omega]) y
  · have := (nI_eq (show k < 2 ^ 31 by omega) (show m < 2 ^ 31 by omega)).mp z
    omega
section
variable {sa : Nat → Nat} {d n t h m : Nat} {Q : mj_Q} {K : Nat → Nat × Nat} {FI : Nat → Nat → Int32} {FL : Nat → Nat → Int64} {FR : Nat → Nat → Option Nat} {AI : Nat → Nat → Int32} {AL : Nat → Nat → Int64} {AR : Nat → Nat → Option Nat} {w : Wl} {hs : Nat → Hg}
variable {q E a p : Nat} {T : Nat → Int32} {res : (Nat × Nat) ⊕ Nat} {S : PS}
theorem RdS.wd8 (h : RdS K FR FI AI AL q a S) : ∀ v, v < wNW (sW S) → (1 ≤ wWL (sW S) v ∧ wWL (sW S) v ≤ 8) ∧ ∀ j, j < wWL (sW S) v → wWT (sW S) v j < 26 := by
  rcases h.2.2.2.2.2.2.2.2 with ⟨⟨-, -, -, z⟩, -⟩ | ⟨-, -, -, -, -, -, -, z⟩
  · exact z
  · exact z
theorem RdS.wfnd (h : RdS K FR FI AI AL q a S) (hs : srt T E p = 1) : fnd (fun k => decide (AL (a + 9) k = lN (pkf (lt T p) (wl T E p)))) (wNW (sW S)) = fndL (wordL (sW S)) (wNW (sW S)) (wd T E p) := by
  obtain ⟨w1, w2⟩ := wd_ok hs
  refine fnd_congr fun k hk => decide_eq_decide.mpr ?_
  obtain ⟨⟨x1, x2⟩, x3⟩ := h.wd8 k hk
  have o : nOK (wordL (sW S) k) := by
    refine ⟨by unfold wordL; rw [List.length_map, List.length_range]; exact x2, fun y hy => ?_⟩
    unfold wordL at hy
    obtain ⟨j, hj, rfl⟩ := List.mem_map.mp hy
    exact x3 j (List.mem_range.mp hj)
  rw [h.2.2.2.2.1 k hk, ← w2, ← pkl_inj o w1, show pkl (wordL (sW S) k) = pkf (wWT (sW S) k) (wWL (sW S) k) from pkl_of]
theorem RdS.word {FI' AI' : Nat → Nat → Int32} {AL' : Nat → Nat → Int64} {l : Nat} {t : Nat → Nat} (h : RdS K FR FI AI AL q a S) (h6 : wNW (sW S) < 6) (hl : 1 ≤ l ∧ l ≤ 8) (ht : ∀ j, j < l → t j < 26) (f0 : FI' 581 a = nI (wNW (sW S) + 1)) (fx : ∀ f, f ≠ 581 → FI' f a = FI f a) (ax : ∀ c, a < c → c ≠ a + 6 → c ≠ a + 7 → AI' c = AI c) (a6 : ∀ k, k ≠ wNW (sW S) → AI' (a + 6) k = AI (a + 6) k) (b6 : AI' (a + 6) (wNW (sW S)) = nI l) (a7 : ∀ j, j < 8 * wNW (sW S) → AI' (a + 7) j = AI (a + 7) j) (b7 : ∀ j, j < l → AI' (a + 7) (8 * wNW (sW S) + j) = nI (t j)) (lx : ∀ c, c ≠ a + 9 → AL' c = AL c) (a9 : ∀ k, k ≠ wNW (sW S) → AL' (a + 9) k = AL (a + 9) k) (b9 : AL' (a + 9) (wNW (sW S)) = lN (pkf t l)) : RdS K FR FI' AI' AL' q a (w_word (sW S) l t, S.2) := by
  have w8 := h.wd8
  obtain ⟨h1, h2, h3, h4, h5, ⟨nn, ⟨n1, n2⟩, n3⟩, h7, h8, h9⟩ := h
  obtain ⟨⟨m1, m2, m3, m4, m5, m6, m7, m8⟩, mb, mw⟩ := h2
  have nw : ∀ v, v < wNW (sW S) + 1 → (1 ≤ upN (wWL (sW S)) (wNW (sW S)) l v ∧ upN (wWL (sW S)) (wNW (sW S)) l v ≤ 8) ∧ ∀ j, j < upN (wWL (sW S)) (wNW (sW S)) l v → upN (wWT (sW S)) (wNW (sW S)) t v j < 26 := fun v hv => by
    unfold upN
    by_cases z : v = wNW (sW S)
    · rw [if_pos z, if_pos z]; exact ⟨hl, ht⟩
    · rw [if_neg z, if_neg z]; exact w8 v (by omega)
  refine ⟨h1, ⟨⟨?_, ?_, ?_, ?_, ?_, f0, ?_, ?_⟩, ?_, fun v hv => ?_⟩, ?_, ?_, fun v hv => ?_, ⟨nn, ⟨?_, n2⟩, ?_⟩, ?_, h8, ?_⟩
  · rw [fx _ (by decide)]; exact m1
  · rw [fx _ (by decide)]; exact m2
  · rw [fx _ (by decide)]; exact m3
  · rw [fx _ (by decide)]; exact m4
  · rw [fx _ (by decide)]; exact m5
  · rw [fx _ (by decide)]; exact m7
  · rw [fx _ (by decide)]; exact m8
  · rw [ax _ (by omega) (by omega) (by omega), ax _ (by omega) (by omega) (by omega), ax _ (by omega) (by omega) (by omega), ax _ (by omega) (by omega) (by omega), ax _ (by omega) (by omega) (by omega)]; exact mb
  · have hv' : v < wNW (sW S) + 1 := hv
    show AI' (a + 6) v = nI (upN (wWL (sW S)) (wNW (sW S)) l v) ∧ ∀ j, j < upN (wWL (sW S)) (wNW (sW S)) l v → AI' (a + 7) (8 * v + j) = nI (upN (wWT (sW S)) (wNW (sW S)) t v j)
    unfold upN
    by_cases z : v = wNW (sW S)
    · rw [if_pos z, if_pos z, z]; exact ⟨b6, b7⟩
    · rw [if_neg z, if_neg z, a6 v z]
      obtain ⟨x1, x2⟩ := mw v (by omega)
      refine ⟨x1, fun j hj => ?_⟩
      have := (w8 v (by omega)).1.2
      rw [a7 _ (by omega)]
      exact x2 j hj
  · rw [fx _ (by decide)]; exact h3
  · rw [ax _ (by omega) (by omega) (by omega)]; exact h4
  · have hv' : v < wNW (sW S) + 1 := hv
    show AL' (a + 9) v = lN (pkf (upN (wWT (sW S)) (wNW (sW S)) t v) (upN (wWL (sW S)) (wNW (sW S)) l v))
    unfold upN
    by_cases z : v = wNW (sW S)
    · rw [if_pos z, if_pos z, z]; exact b9
    · rw [if_neg z, if_neg z, a9 v z]; exact h5 v (by omega)
  · rw [fx _ (by decide)]; exact n1
  · rw [ax _ (by omega) (by omega) (by omega), ax _ (by omega) (by omega) (by omega), lx _ (by omega)]; exact n3
  · exact h7.fr (ax _ (by omega) (by omega) (by omega)) (lx _ (by omega))
  · rcases h9 with ⟨⟨s1, s2, s3, s4⟩, s5⟩ | ⟨w1, w2, w3, w4, w5, w6, w7, w8'⟩
    · exact Or.inl ⟨⟨s1, s2, (by show wNW (sW S) + 1 ≤ 6; omega), nw⟩, s5⟩
    · exact Or.inr ⟨w1, w2, w3, w4, w5, (by show wNW (sW S) + 1 ≤ 6; omega), w7, nw⟩
theorem c_mreadWord (hE : MEnv K FR AI q T E) (h : TSt FI AI FL q T E (.inr p)) (hs : srt T E p = 1) (hR : RdS K FR FI AI AL q a S) (hQ : ∀ (FI' AI' : Nat → Nat → Int32) (FL' AL' : Nat → Nat → Int64) (S' : PS), TSt FI' AI' FL' q T E (bd (pWord T E p S) fun x => .inr x.1) → (∀ x, pWord T E p S = .inr x → S' = x.2) → RdS K FR FI' AI' AL' q a S' → RZ q a FI FI' AI AI' FL FL' AL AL' → Q none (n, K, FI', FL', FR, AI', AL', AR)) : EV sa (d + 14) 200 [.ref q] (n, K, FI, FL, FR, AI, AL, AR) Q := by
  have k0 := hE.1.1
  obtain ⟨f4, k4⟩ := hE.1.2.2.2.2.1
  obtain ⟨⟨r4, -, hWS, -, hqa⟩, ⟨⟨-, -, -, -, -, m6, -⟩, -⟩, -⟩ := id hR
  obtain ⟨ka, -, -, -, -, -, ⟨f6, k6⟩, ⟨f7, k7⟩, -, ⟨f9, k9⟩, -⟩ := id hWS
  obtain ⟨-, -, b6, -⟩ := hR.bd4
  refine n200 k0 ?_
  simp only [e200_0, e200_1, e200_2, e200_5, e200_8, e200_10, e200_11, e200_14, e200_15, e200_18, e200_19, e200_22, e200_23, e200_24, e200_27, e200_28, e200_31, e200_32, e200_35, e200_38, e200_39, e200_42, e200_43, e200_44, e200_47, e200_48, e200_51, e200_52, e200_55, e200_56, e200_57, e200_58, e200_59, e200_60, e200_63, e200_66, e200_67, e200_70, e200_73, e200_75, e200_76, e200_79, e200_82, e200_83, e200_84, e200_85, e200_86, e200_89, e200_90, e200_91, e200_92, e200_95, e200_98, e200_99, e200_102, e200_105, e200_106, e200_109, e200_112, e200_113, e200_116, e200_117, e200_118, e200_121, e200_124, e200_125, e200_128, e200_131, e200_132, e200_135, e200_136, e200_137, e200_140, e200_140i, e200_141, e200_144, e200_145, e200_146, e200_149, e200_150, e200_153, k0, r4, rf_some, ka, m6, true_and]
  refine ⟨by simp, c_begins (on := false) hE h hR (fun p' e => by cases e; omega) fun F1 A1 L1 g1 z1 => ?_⟩
  rw [dec_ne' (c := 6) b6 (by decide) rfl] at g1
  replace g1 : TSt F1 A1 L1 q T E (pFirst T E (decide (wNW (sW S) < 6)) true p) := g1
  have hE1 := hE.z z1
  have hR1 := hR.z z1
  have m61 := hR1.2.1.1.2.2.2.2.2.1
  -- a fault is there
  have over : ∀ (F : Nat → Nat → Int32) (e : Nat × Nat), TSt F A1 L1 q T E (.inl e) → PZ q FI F AI A1 FL L1 → pWord T E p S = .inl e → WP sa (EV sa (d + 13)) 200 Q 0 0 47 [.ref q, mj_u] [] (n, K, F, L1, FR, A1, AL, AR) := by
    intro F e h' z' he
    have s5 := h'.2.1
    simp only [e200_0, e200_1, e200_2, e200_5, e200_8, e200_10, e200_11, e200_14, e200_15, e200_18, e200_19, e200_22, e200_23, e200_24, e200_27, e200_28, e200_31, e200_32, e200_35, e200_38, e200_39, e200_42, e200_43, e200_44, e200_47, e200_48, e200_51, e200_52, e200_55, e200_56, e200_57, e200_58, e200_59, e200_60, e200_63, e200_66, e200_67, e200_70, e200_73, e200_75, e200_76, e200_79, e200_82, e200_83, e200_84, e200_85, e200_86, e200_89, e200_90, e200_91, e200_92, e200_95, e200_98, e200_99, e200_102, e200_105, e200_106, e200_109, e200_112, e200_113, e200_116, e200_117, e200_118, e200_121, e200_124, e200_125, e200_128, e200_131, e200_132, e200_135, e200_136, e200_137, e200_140, e200_140i, e200_141, e200_144, e200_145, e200_146, e200_149, e200_150, e200_153, k0, s5, true_and]
    refine ⟨fun z => absurd trivial z, fun _ => hQ F A1 L1 AL S ?_ (fun x hx => ?_) (hR.z z') (z'.y.rz (by omega))⟩
    · rw [he]; exact h'
    · rw [he] at hx; cases hx
  have over0 : ∀ (F : Nat → Nat → Int32) (e : Nat × Nat), TSt F A1 L1 q T E (.inl e) → PZ q FI F AI A1 FL L1 → pWord T E p S = .inl e → WP sa (EV sa (d + 13)) 200 Q 0 0 27 [.ref q, mj_u] [] (n, K, F, L1, FR, A1, AL, AR) := by
    intro F e h' z' he
    have m62 := (hR.z z').2.1.1.2.2.2.2.2.1
    simp only [e200_27, e200_28, e200_31, e200_32, e200_35, k0, r4, rf_some, true_and]
    refine ⟨by simp, c_findWord hWS m62 b6 ?_⟩
    simp only [tl_some, e200_38, e200_39, e200_42, e200_43, e200_44]
    refine ⟨fun _ => over F e h' z' he, fun _ => ⟨by simp, c_flaw (k := 3) (hE.z z') h' fun F2 g2 z2 => ?_⟩⟩
    simp only [tl_none]
    exact over F2 e g2 (z'.trans z2) he
  simp only [tl_none, e200_14, e200_15, e200_18, e200_19, e200_22, e200_23, e200_24, k0, true_and]
  cases e1 : pFirst T E (decide (wNW (sW S) < 6)) true p with
  | inl e =>
    rw [e1] at g1
    have ep : pWord T E p S = .inl e := by unfold pWord; rw [e1]; rfl
    refine ⟨fun _ => over0 F1 e g1 z1 ep, fun _ => ⟨by simp, c_flaw (k := 1) hE1 g1 fun F2 g2 z2 => ?_⟩⟩
    simp only [tl_none]
    exact over0 F2 e g2 (z1.trans z2) ep
  | inr p1 =>
    rw [e1] at g1
    have h6 : wNW (sW S) < 6 := by
      unfold pFirst at e1
      split at e1
      · rename_i z; simpa using z
      · cases e1
    have ep : pWord T E p S = if srt T E p1 = 1 ∧ (fndL (wordL (sW S)) (wNW (sW S)) (wd T E p1)).isSome then .inl (3, p1) else bd (pWd T E p1) fun p2 => .inr (p2, (w_word (sW S) (wl T E p1) (lt T p1), S.2)) := by unfold pWord; rw [e1]; rfl
    have s5 := g1.2.1.2.2.1
    have hs5 : srt T E p1 ≤ 5 := srt_5
    rw [s5, msr_eq2 hs5]
    refine ⟨fun s1 => ?_, fun s1 => ⟨by simp, c_flaw (k := 1) hE1 g1 fun F2 g2 z2 => ?_⟩⟩
    · obtain ⟨l1, l2, l3⟩ := g1.2.1.2.2.2.2.2.1 s1
      obtain ⟨-, -, -, w8, w1, w26⟩ := srt_let s1
      have hf := hR1.wfnd s1
      simp only [e200_27, e200_28, e200_31, e200_32, e200_35, k0, r4, rf_some, l2, true_and]
      refine ⟨by simp, c_findWord hWS m61 b6 ?_⟩
      rw [hf]
      simp only [tl_some, e200_38, e200_39, e200_42, e200_43, e200_44]
      cases e2 : fndL (wordL (sW S)) (wNW (sW S)) (wd T E p1) with
      | some i =>
        have hi := (fnd_some e2).1
        have nneg : ¬ nI i = -1 := fun e2 => by
          have h3 : nI i < 0 := by rw [e2]; decide
          exact absurd h3 (nI_pos (by omega))
        refine ⟨fun z => absurd z nneg, fun _ => ⟨by simp, c_flaw (k := 3) hE1 g1 fun F2 g2 z2 => ?_⟩⟩
        simp only [tl_none]
        exact over F2 (3, p1) g2 (z1.trans z2) (by rw [ep, if_pos ⟨s1, by rw [e2]; rfl⟩])
      | none =>
        have ep' : pWord T E p S = .inr (stp T E p1, (w_word (sW S) (wl T E p1) (lt T p1), S.2)) := by
          rw [ep, if_neg (by rw [e2]; simp)]
          unfold pWd
          rw [if_pos s1]
          rfl
        refine ⟨fun _ => ?_, fun z => absurd rfl z⟩
        -- behind the letters
        have fin : ∀ A : Nat → Nat → Int32, (∀ j, j < wl T E p1 → A (a + 7) (8 * wNW (sW S) + j) = nI (lt T p1 j)) → (∀ c, c ≠ a + 7 → A c = A1 c) → (∀ j, j < 8 * wNW (sW S) → A (a + 7) j = A1 (a + 7) j) → ∀ v : Int32, WP sa (EV sa (d + 13)) 200 Q 0 0 98 [.ref q, .int v] [] (n, K, F1, L1, FR, A, AL, AR) := by
          intro A i1 i2 i3 v
          have kin : vp_in (nI (wNW (sW S))) 6 := vp_in_nI (by omega) (by decide)
          have kcl : (nI (wNW (sW S))).toNatClampNeg = wNW (sW S) := nI_clamp (by omega)
          simp only [e200_0, e200_1, e200_2, e200_5, e200_8, e200_10, e200_11, e200_14, e200_15, e200_18, e200_19, e200_22, e200_23, e200_24, e200_27, e200_28, e200_31, e200_32, e200_35, e200_38, e200_39, e200_42, e200_43, e200_44, e200_47, e200_48, e200_51, e200_52, e200_55, e200_56, e200_57, e200_58, e200_59, e200_60, e200_63, e200_66, e200_67, e200_70, e200_73, e200_75, e200_76, e200_79, e200_82, e200_83, e200_84, e200_85, e200_86, e200_89, e200_90, e200_91, e200_92, e200_95, e200_98, e200_99, e200_102, e200_105, e200_106, e200_109, e200_112, e200_113, e200_116, e200_117, e200_118, e200_121, e200_124, e200_125, e200_128, e200_131, e200_132, e200_135, e200_136, e200_137, e200_140, e200_140i, e200_141, e200_144, e200_145, e200_146, e200_149, e200_150, e200_153, k0, r4, rf_some, ka, f6, k6, f9, k9, m61, kin, kcl, l1, l2, nI_1, true_and, true_or, or_true]
          have gF : TSt (mj_u2 F1 581 a (nI (wNW (sW S) + 1))) (mj_u2 A (a + 6) (wNW (sW S)) (nI (wl T E p1))) L1 q T E (.inr p1) := g1.fr (fun f => mj_u2_2 (by omega)) (by funext j; rw [mj_u2_1 (by omega), i2 _ (by omega)])
          have hEF : MEnv K FR (mj_u2 A (a + 6) (wNW (sW S)) (nI (wl T E p1))) q T E := ⟨hE1.1, by rw [← hE1.2.1]; funext j; rw [mj_u2_1 (by omega), i2 _ (by omega)], hE1.2.2⟩
          have hRF : RdS K FR (mj_u2 F1 581 a (nI (wNW (sW S) + 1))) (mj_u2 A (a + 6) (wNW (sW S)) (nI (wl T E p1))) (mj_u2 AL (a + 9) (wNW (sW S)) (lN (pkf (lt T p1) (wl T E p1)))) q a (w_word (sW S) (wl T E p1) (lt T p1), S.2) := by
            refine hR1.word h6 ⟨by omega, w8⟩ w26 mj_u2_s (fun f hf => mj_u2_1 hf) (fun c c1 c2 c3 => ?_) (fun k hk => ?_) mj_u2_s (fun j hj => ?_) (fun j hj => ?_) (fun c hc => ?_) (fun k hk => mj_u2_2 hk) mj_u2_s
            · funext j; rw [mj_u2_1 c2, i2 _ c3]
            · rw [mj_u2_2 hk, i2 _ (by omega)]
            · rw [mj_u2_1 (by omega)]; exact i3 j hj
            · rw [mj_u2_1 (by omega)]; exact i1 j hj
            · funext j; rw [mj_u2_1 hc]
          refine ⟨by simp, c_goesOnS hEF gF (fun p' e => by cases e; omega) fun F3 A3 L3 g3 z3 => ?_⟩
          simp only [tl_none, e200_0, e200_1, e200_2, e200_5, e200_8, e200_10, e200_11, e200_14, e200_15, e200_18, e200_19, e200_22, e200_23, e200_24, e200_27, e200_28, e200_31, e200_32, e200_35, e200_38, e200_39, e200_42, e200_43, e200_44, e200_47, e200_48, e200_51, e200_52, e200_55, e200_56, e200_57, e200_58, e200_59, e200_60, e200_63, e200_66, e200_67, e200_70, e200_73, e200_75, e200_76, e200_79, e200_82, e200_83, e200_84, e200_85, e200_86, e200_89, e200_90, e200_91, e200_92, e200_95, e200_98, e200_99, e200_102, e200_105, e200_106, e200_109, e200_112, e200_113, e200_116, e200_117, e200_118, e200_121, e200_124, e200_125, e200_128, e200_131, e200_132, e200_135, e200_136, e200_137, e200_140, e200_140i, e200_141, e200_144, e200_145, e200_146, e200_149, e200_150, e200_153]
          refine hQ F3 A3 L3 _ (w_word (sW S) (wl T E p1) (lt T p1), S.2) ?_ (fun x hx => ?_) (hRF.z z3) ((z1.y.rz (by omega)).trans ((RZ.at' (fun f c hc => mj_u2_2 (by omega)) (fun c hc => ?_) (fun c hc => ?_) (fun j hj => ?_)).trans (z3.y.rz (by omega))))
          · rw [ep']; exact g3
          · rw [ep'] at hx; cases hx; rfl
          · funext j; rw [mj_u2_1 (by omega), i2 _ (by omega)]
          · funext j; rw [mj_u2_1 (by omega)]
          · rw [mj_u2_1 (by omega), i2 _ (by omega)]
        have loop : ∀ rr k, k + rr = wl T E p1 → ∀ A : Nat → Nat → Int32, (∀ j, j < k → A (a + 7) (8 * wNW (sW S) + j) = nI (lt T p1 j)) → (∀ c, c ≠ a + 7 → A c = A1 c) → (∀ j, j < 8 * wNW (sW S) → A (a + 7) j = A1 (a + 7) j) → WP sa (EV sa (d + 13)) 200 Q 0 0 58 [.ref q, .int (nI k)] [] (n, K, F1, L1, FR, A, AL, AR) := by
          intro rr
          induction rr with
          | zero =>
            intro k hk A i1 i2 i3
            have hk' : k = wl T E p1 := by omega
            subst hk'
            rw [e200_58]
            simp only [e200_59, e200_60, e200_63, k0, l1, true_and]
            exact ⟨fun _ => fin A i1 i2 i3 _, fun z => absurd (nI_le (Nat.le_refl _) (by omega)) z⟩
          | succ rr ih =>
            intro k hk A i1 i2 i3
            have kin : vp_in (nI k) 8 := vp_in_nI (by omega) (by decide)
            have kcl : (nI k).toNatClampNeg = k := nI_clamp (by omega)
            have ei : (8 : Int32) * nI (wNW (sW S)) + nI k = nI (8 * wNW (sW S) + k) := by rw [show (8 : Int32) = nI 8 from rfl, pk_mul, nI_add]
            have kin2 : vp_in (nI (8 * wNW (sW S) + k)) 48 := vp_in_nI (by omega) (by decide)
            have kcl2 : (nI (8 * wNW (sW S) + k)).toNatClampNeg = 8 * wNW (sW S) + k := nI_clamp (by omega)
            have es : A (q + 4) k = nI (lt T p1 k) := by rw [i2 _ (by omega)]; exact l3 k (by omega)
            rw [e200_58]
            simp only [e200_59, e200_60, e200_63, e200_66, e200_67, e200_70, e200_73, e200_75, e200_76, e200_79, e200_82, e200_83, e200_84, e200_85, e200_86, e200_89, e200_90, e200_91, e200_92, e200_95, k0, l1, r4, rf_some, ka, f7, k7, m61, f4, k4, kin, kcl, ei, kin2, kcl2, es, nI_1, mj_kl, true_and, true_or]
            refine ⟨fun z => absurd z (nI_ge (by omega) (by omega)), fun _ => ?_⟩
            refine ih (k + 1) (by omega) _ (fun j hj => ?_) (fun c hc => ?_) (fun j hj => ?_)
            · by_cases z : j = k
              · subst z; rw [mj_u2_s]
              · rw [mj_u2_2 (by omega)]; exact i1 j (by omega)
            · funext j; rw [mj_u2_1 hc, i2 _ hc]
            · rw [mj_u2_2 (by omega)]; exact i3 j hj
        simp only [e200_47, e200_48, e200_51, e200_52, e200_56, e200_57, k0, s5, mj_kl, true_and]
        refine ⟨fun _ => ?_, fun z => absurd msr_n5 z⟩
        have := loop (wl T E p1) 0 (by omega) A1 (fun j hj => by omega) (fun _ _ => rfl) (fun _ _ => rfl)
        simpa [nI_0, mj_u, mj_kl] using this
    · simp only [tl_none]
      refine over0 F2 (1, p1) g2 (z1.trans z2) ?_
      rw [ep, if_neg (fun y => s1 y.1)]
      unfold pWd
      rw [if_neg s1]
      rfl
end
