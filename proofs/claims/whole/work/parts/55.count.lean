section
variable {sa : Nat → Nat} {d n t h m : Nat} {Q : mj_Q} {K : Nat → Nat × Nat} {FI : Nat → Nat → Int32} {FL : Nat → Nat → Int64} {FR : Nat → Nat → Option Nat} {AI : Nat → Nat → Int32} {AL : Nat → Nat → Int64} {AR : Nat → Nat → Option Nat} {w : Wl} {hs : Nat → Hg}
variable {q : Nat}
theorem RowS.ne (hS : RowS K FR q) (hC : HC K FR FI AI AL (q + 1) t w hs m) : q ≠ t := fun e => by
  have h1 := hC.2.1.1
  rw [← e, hS.1] at h1
  cases h1
theorem c_countBehind (hS : RowS K FR q) : ∀ (f : Nat) {hs : Nat → Hg} {m : Nat} {FI AI : Nat → Nat → Int32} {AL : Nat → Nat → Int64} {Q : mj_Q} {len c lg M : Nat}, HC K FR FI AI AL (q + 1) t w hs m → FI 129 q = nI c → c ≤ 20000 → FI 130 q = nI lg → len ≤ lg → lg ≤ 4 → len + f = M → M ≤ 4 → (∀ (FI' AI' : Nat → Nat → Int32) (AL' : Nat → Nat → Int64) (b : Bool), HC K FR FI' AI' AL' (q + 1) t w hs m → RX FI FI' AI AI' AL AL' q → (b = true ↔ c + NRw w f hs m ≤ 20000) → (b = true → FI' 129 q = nI (c + NRw w f hs m) ∧ FI' 130 q = nI (max lg (len + LRw w f hs m))) → Q (some (.int (bI b))) (n, K, FI', FL, FR, AI', AL', AR)) → EV sa (d + f + 6) 32 [.ref q, .int (nI len),   .int (nI M)] (n, K, FI, FL, FR, AI, AL, AR) Q := by
  have k0 := hS.1
  have f0 := hS.2.1
  intro f
  induction f with
  | zero =>
    intro hs m FI AI AL Q len c lg M hC h129 hc h130 hlg h4 hM hf hQ
    refine n32 k0 ?_
    simp only [e32_0, e32_1, e32_2, e32_3, e32_6, e32_9, e32_10, e32_11, e32_14, e32_16, e32_17, e32_20, e32_23, e32_24, e32_27, e32_29, e32_32, e32_34, e32_37, e32_40, e32_43, e32_44, e32_44i, e32_45, e32_48, e32_49, e32_50, e32_53, e32_54, e32_55, e32_58, e32_59, e32_60, e32_61, e32_64, e32_67, e32_68, e32_71, e32_74, e32_77, e32_78, e32_81, e32_82, e32_83, e32_84, e32_87, e32_88, e32_89, e32_90, e32_91, e32_94, e32_95, e32_97, e32_99, e32_102, e32_103, e32_104, e32_105, e32_106, e32_107, e32_110, e32_111, e32_112, e32_115, e32_118, e32_121, e32_122, mj_kl, mj_u]
    rw [e32_5]
    simp only [e32_0, e32_1, e32_2, e32_3, e32_6, e32_9, e32_10, e32_11, e32_14, e32_16, e32_17, e32_20, e32_23, e32_24, e32_27, e32_29, e32_32, e32_34, e32_37, e32_40, e32_43, e32_44, e32_44i, e32_45, e32_48, e32_49, e32_50, e32_53, e32_54, e32_55, e32_58, e32_59, e32_60, e32_61, e32_64, e32_67, e32_68, e32_71, e32_74, e32_77, e32_78, e32_81, e32_82, e32_83, e32_84, e32_87, e32_88, e32_89, e32_90, e32_91, e32_94, e32_95, e32_97, e32_99, e32_102, e32_103, e32_104, e32_105, e32_106, e32_107, e32_110, e32_111, e32_112, e32_115, e32_118, e32_121, e32_122, or_true, true_and]
    refine ⟨fun z => absurd z (by decide), fun _ => ⟨fun _ => ?_, fun z => absurd (nI_le (by omega) (by omega)) z⟩⟩
    refine hQ FI AI AL true hC RX.rfl' ?_ fun _ => ?_
    · simp only [NRw]; simp; omega
    · simp only [NRw, LRw, Nat.add_zero]
      exact ⟨h129, by rw [h130]; congr 1; omega⟩
  | succ f IH =>
    intro hs m FI AI AL Q len c lg M hC h129 hc h130 hlg h4 hM hf hQ
    have hn4 := hC.2.2.2.1.2.2.2.1
    have hne := hS.ne hC
    generalize hp0 : mvp w hs m = p at *
    have hp : ∀ i, mayAt w hs m (i / 32) (i % 32) = p i := fun i => by rw [← hp0]; rfl
    generalize hg : (fun i => if p i then 1 + NRw w f (pushM w hs m i (-2)) (m + 1) else 0) = g
    have hg' : ∀ i, g i = if p i then 1 + NRw w f (pushM w hs m i (-2)) (m + 1) else 0 := fun i => by rw [← hg]
    generalize hh : (fun i => if p i then 1 + LRw w f (pushM w hs m i (-2)) (m + 1) else 0) = h
    have hh' : ∀ i, h i = if p i then 1 + LRw w f (pushM w hs m i (-2)) (m + 1) else 0 := fun i => by rw [← hh]
    have eN : NRw w (f + 1) hs m = sm g (32 * wNB w) := by rw [← hg, ← hp0]; rfl
    have eL : LRw w (f + 1) hs m = mxm h (32 * wNB w) := by rw [← hh, ← hp0]; rfl
    rw [eN, eL] at hQ
    have hb : ∀ i, mxm h i ≤ f + 1 := fun i => mxm_le (fun k => by
      rw [hh']
      split
      · have := LRw_le w f (pushM w hs m k (-2)) (m + 1); omega
      · omega) i
    rw [show d + (f + 1) + 6 = (d + f + 6) + 1 by omega]
    have stop : ∀ (F A : Nat → Nat → Int32) (L : Nat → Nat → Int64), HC K FR F A L (q + 1) t w hs m → RX FI F AI A AL L q → 20000 < c + sm g (32 * wNB w) → ∀ x3 : Value, WP sa (EV sa (d + f + 6)) 32 Q 0 0 5 [.ref q, .int (nI len), .int (nI M), .int 0, x3] [] (n, K, F, FL, FR, A, L, AR) := by
      intro F A L h1 h2 h3 x3
      rw [e32_5]
      simp only [e32_0, e32_1, e32_2, e32_3, e32_6, e32_9, e32_10, e32_11, e32_14, e32_16, e32_17, e32_20, e32_23, e32_24, e32_27, e32_29, e32_32, e32_34, e32_37, e32_40, e32_43, e32_44, e32_44i, e32_45, e32_48, e32_49, e32_50, e32_53, e32_54, e32_55, e32_58, e32_59, e32_60, e32_61, e32_64, e32_67, e32_68, e32_71, e32_74, e32_77, e32_78, e32_81, e32_82, e32_83, e32_84, e32_87, e32_88, e32_89, e32_90, e32_91, e32_94, e32_95, e32_97, e32_99, e32_102, e32_103, e32_104, e32_105, e32_106, e32_107, e32_110, e32_111, e32_112, e32_115, e32_118, e32_121, e32_122, true_or, true_and]
      exact ⟨fun _ => hQ F A L false h1 h2 (by simp; omega) (by simp), fun z => absurd trivial z⟩
    have loop : ∀ rr i, i + rr = 32 * wNB w → ∀ (F A : Nat → Nat → Int32) (L : Nat → Nat → Int64), HC K FR F A L (q + 1) t w hs m → RX FI F AI A AL L q → F 129 q = nI (c + sm g i) → c + sm g i ≤ 20000 → F 130 q = nI (max lg (len + mxm h i)) → WP sa (EV sa (d + f + 6)) 32 Q 0 0 5 [.ref q, .int (nI len), .int (nI M), .int 1, .int (nI i)] [] (n, K, F, FL, FR, A, L, AR) := by
      intro rr
      induction rr with
      | zero =>
        intro i hi F A L h1 h2 h3 h5 h6
        have hi' : i = 32 * wNB w := by omega
        subst hi'
        rw [e32_5]
        simp only [e32_0, e32_1, e32_2, e32_3, e32_6, e32_9, e32_10, e32_11, e32_14, e32_16, e32_17, e32_20, e32_23, e32_24, e32_27, e32_29, e32_32, e32_34, e32_37, e32_40, e32_43, e32_44, e32_44i, e32_45, e32_48, e32_49, e32_50, e32_53, e32_54, e32_55, e32_58, e32_59, e32_60, e32_61, e32_64, e32_67, e32_68, e32_71, e32_74, e32_77, e32_78, e32_81, e32_82, e32_83, e32_84, e32_87, e32_88, e32_89, e32_90, e32_91, e32_94, e32_95, e32_97, e32_99, e32_102, e32_103, e32_104, e32_105, e32_106, e32_107, e32_110, e32_111, e32_112, e32_115, e32_118, e32_121, e32_122]
        refine ⟨fun z => absurd z (by decide), fun _ => ⟨fun z => absurd z (nI_ge (by omega) (by omega)), fun _ => ⟨by simp, c_moves hS h1 ?_⟩⟩⟩
        simp only [tl_some, e32_0, e32_1, e32_2, e32_3, e32_6, e32_9, e32_10, e32_11, e32_14, e32_16, e32_17, e32_20, e32_23, e32_24, e32_27, e32_29, e32_32, e32_34, e32_37, e32_40, e32_43, e32_44, e32_44i, e32_45, e32_48, e32_49, e32_50, e32_53, e32_54, e32_55, e32_58, e32_59, e32_60, e32_61, e32_64, e32_67, e32_68, e32_71, e32_74, e32_77, e32_78, e32_81, e32_82, e32_83, e32_84, e32_87, e32_88, e32_89, e32_90, e32_91, e32_94, e32_95, e32_97, e32_99, e32_102, e32_103, e32_104, e32_105, e32_106, e32_107, e32_110, e32_111, e32_112, e32_115, e32_118, e32_121, e32_122, or_true, true_and]
        refine ⟨fun _ => hQ F A L true h1 h2 (by simp; omega) (fun _ => ⟨h3, h6⟩), fun z => absurd (nI_le (Nat.le_refl _) (by omega)) z⟩
      | succ rr ih =>
        intro i hi F A L h1 h2 h3 h5 h6
        rw [e32_5]
        simp only [e32_0, e32_1, e32_2, e32_3, e32_6, e32_9, e32_10, e32_11, e32_14, e32_16, e32_17, e32_20, e32_23, e32_24, e32_27, e32_29, e32_32, e32_34, e32_37, e32_40, e32_43, e32_44, e32_44i, e32_45, e32_48, e32_49, e32_50, e32_53, e32_54, e32_55, e32_58, e32_59, e32_60, e32_61, e32_64, e32_67, e32_68, e32_71, e32_74, e32_77, e32_78, e32_81, e32_82, e32_83, e32_84, e32_87, e32_88, e32_89, e32_90, e32_91, e32_94, e32_95, e32_97, e32_99, e32_102, e32_103, e32_104, e32_105, e32_106, e32_107, e32_110, e32_111, e32_112, e32_115, e32_118, e32_121, e32_122]
        refine ⟨fun z => absurd z (by decide), fun _ => ⟨fun z => absurd z (nI_ge (by omega) (by omega)), fun _ => ⟨by simp, c_moves hS h1 ?_⟩⟩⟩
        simp only [tl_some, e32_0, e32_1, e32_2, e32_3, e32_6, e32_9, e32_10, e32_11, e32_14, e32_16, e32_17, e32_20, e32_23, e32_24, e32_27, e32_29, e32_32, e32_34, e32_37, e32_40, e32_43, e32_44, e32_44i, e32_45, e32_48, e32_49, e32_50, e32_53, e32_54, e32_55, e32_58, e32_59, e32_60, e32_61, e32_64, e32_67, e32_68, e32_71, e32_74, e32_77, e32_78, e32_81, e32_82, e32_83, e32_84, e32_87, e32_88, e32_89, e32_90, e32_91, e32_94, e32_95, e32_97, e32_99, e32_102, e32_103, e32_104, e32_105, e32_106, e32_107, e32_110, e32_111, e32_112, e32_115, e32_118, e32_121, e32_122, k0, f0, rf_some, true_and]
        refine ⟨fun z => absurd z (nI_ge (by omega) (by omega)), fun _ => ⟨by simp, c_billOf (by omega) ?_⟩⟩
        simp only [tl_some, e32_0, e32_1, e32_2, e32_3, e32_6, e32_9, e32_10, e32_11, e32_14, e32_16, e32_17, e32_20, e32_23, e32_24, e32_27, e32_29, e32_32, e32_34, e32_37, e32_40, e32_43, e32_44, e32_44i, e32_45, e32_48, e32_49, e32_50, e32_53, e32_54, e32_55, e32_58, e32_59, e32_60, e32_61, e32_64, e32_67, e32_68, e32_71, e32_74, e32_77, e32_78, e32_81, e32_82, e32_83, e32_84, e32_87, e32_88, e32_89, e32_90, e32_91, e32_94, e32_95, e32_97, e32_99, e32_102, e32_103, e32_104, e32_105, e32_106, e32_107, e32_110, e32_111, e32_112, e32_115, e32_118, e32_121, e32_122]
        refine ⟨by simp, c_cornerOf (by omega) ?_⟩
        simp only [tl_some, e32_0, e32_1, e32_2, e32_3, e32_6, e32_9, e32_10, e32_11, e32_14, e32_16, e32_17, e32_20, e32_23, e32_24, e32_27, e32_29, e32_32, e32_34, e32_37, e32_40, e32_43, e32_44, e32_44i, e32_45, e32_48, e32_49, e32_50, e32_53, e32_54, e32_55, e32_58, e32_59, e32_60, e32_61, e32_64, e32_67, e32_68, e32_71, e32_74, e32_77, e32_78, e32_81, e32_82, e32_83, e32_84, e32_87, e32_88, e32_89, e32_90, e32_91, e32_94, e32_95, e32_97, e32_99, e32_102, e32_103, e32_104, e32_105, e32_106, e32_107, e32_110, e32_111, e32_112, e32_115, e32_118, e32_121, e32_122]
        refine ⟨by simp, c_mayGo h1 (by omega) (by omega) fun F' L' a1 a2 => ?_⟩
        rw [hp i]
        have tx : TX F F' A A L L' (q + 1) := a2.toTX
        have b129 : F' 129 q = nI (c + sm g i) := by rw [tx.1 129 q (by omega)]; exact h3
        have b130 : F' 130 q = nI (max lg (len + mxm h i)) := by rw [tx.1 130 q (by omega)]; exact h6
        have hmx := hb i
        have em : (if nI (max lg (len + mxm h i)) < nI (len + 1) then nI (len + 1) else nI (max lg (len + mxm h i))) = nI (max (max lg (len + mxm h i)) (len + 1)) := by
          by_cases y : max lg (len + mxm h i) < len + 1
          · rw [if_pos (nI_lt y (by omega))]; congr 1; omega
          · rw [if_neg (nI_nlt (by omega) (by omega))]; congr 1; omega
        have u1 : ∀ x : Int32, mj_u2 F' 129 q x 130 q = F' 130 q := fun x => mj_u2_1 (by decide)
        have u2 : ∀ x y : Int32, mj_u2 (mj_u2 F' 129 q x) 130 q y 129 q = x := fun x y => by rw [mj_u2_1 (by decide), mj_u2_s]
        simp only [tl_some, e32_0, e32_1, e32_2, e32_3, e32_6, e32_9, e32_10, e32_11, e32_14, e32_16, e32_17, e32_20, e32_23, e32_24, e32_27, e32_29, e32_32, e32_34, e32_37, e32_40, e32_43, e32_44, e32_44i, e32_45, e32_48, e32_49, e32_50, e32_53, e32_54, e32_55, e32_58, e32_59, e32_60, e32_61, e32_64, e32_67, e32_68, e32_71, e32_74, e32_77, e32_78, e32_81, e32_82, e32_83, e32_84, e32_87, e32_88, e32_89, e32_90, e32_91, e32_94, e32_95, e32_97, e32_99, e32_102, e32_103, e32_104, e32_105, e32_106, e32_107, e32_110, e32_111, e32_112, e32_115, e32_118, e32_121, e32_122, bI_eq0, nI_1, mj_kl, k0, b129, b130, u1, u2, em, true_and, List.length_nil, List.length_cons, Nat.reduceAdd, Nat.reduceLeDiff]
        have hms := sm_mono g (show i + 1 ≤ 32 * wNB w by omega)
        have hsi : sm g (i + 1) = sm g i + g i := rfl
        have hmi : mxm h (i + 1) = max (mxm h i) (h i) := rfl
        refine ⟨fun z => ?_, fun z => ?_⟩
        · have gi : g i = 0 := by rw [hg', z]; rfl
          have hi0 : h i = 0 := by rw [hh', z]; rfl
          refine ih (i + 1) (by omega) F' A L' a1 (h2.trans tx.toRX) ?_ (by omega) ?_
          · rw [b129, hsi, gi, Nat.add_zero]
          · rw [b130, hmi, hi0]; congr 1; omega
        · have z' : p i = true := by simpa using z
          have gi : g i = 1 + NRw w f (pushM w hs m i (-2)) (m + 1) := by rw [hg', if_pos z']
          have hi0 : h i = 1 + LRw w f (pushM w hs m i (-2)) (m + 1) := by rw [hh', if_pos z']
          generalize hF2 : mj_u2 (mj_u2 F' 129 q (nI (c + sm g i + 1))) 130 q (nI (max (max lg (len + mxm h i)) (len + 1))) = F2
          have c129 : F2 129 q = nI (c + sm g i + 1) := by rw [← hF2]; exact u2 _ _
          have c130 : F2 130 q = nI (max (max lg (len + mxm h i)) (len + 1)) := by rw [← hF2]; exact mj_u2_s
          have rx2 : RX F' F2 A A L' L' q := ⟨fun f a z1 z2 => by
            rw [← hF2]
            simp only [mj_u2]
            rw [if_neg (by omega), if_neg (by omega)], AIx.rfl', fun _ _ => rfl⟩
          have hC2 : HC K FR F2 A L' (q + 1) t w hs m := a1.fx (fun f => by
            rw [← hF2]
            simp only [mj_u2]
            rw [if_neg (by omega), if_neg (by omega)]) (fun f => by
            rw [← hF2]
            simp only [mj_u2]
            rw [if_neg (by omega), if_neg (by omega)])
          refine ⟨fun y => ⟨fun _ => stop F2 A L' hC2 (h2.trans (tx.toRX.trans rx2)) ?_ _, fun z => absurd trivial z⟩, fun y => ⟨fun z => absurd z (by decide), fun _ => ⟨fun z2 => ?_, fun z2 => ?_⟩⟩⟩
          · have : 20000 < c + sm g i + 1 := (nI_ltI (a := 20000) (by decide) (by omega)).mp y
            omega
          · have hf0 : f = 0 := by
              have := (nI_leI (by omega) (by omega)).mp z2
              omega
            subst hf0
            have y' : ¬ 20000 < c + sm g i + 1 := fun e => y (nI_lt e (by omega))
            simp only [NRw] at gi
            simp only [LRw] at hi0
            refine ih (i + 1) (by omega) F2 A L' hC2 (h2.trans (tx.toRX.trans rx2)) ?_ (by omega) ?_
            · rw [c129, hsi, gi]; congr 1
            · rw [c130, hmi, hi0]; congr 1; omega
          · have hf1 : len + 1 < M := by
              rcases Nat.lt_or_ge (len + 1) M with y2 | y2
              · exact y2
              · exact absurd (nI_le y2 (by omega)) z2
            have y' : ¬ 20000 < c + sm g i + 1 := fun e => y (nI_lt e (by omega))
            refine c_push hS hC2 (by omega) (by rw [hp0]; exact z') fun F3 A3 b1 b2 => ⟨by simp, ?_⟩
            have d129 : F3 129 q = nI (c + sm g i + 1) := by rw [b2.1 129 q (by omega)]; exact c129
            have d130 : F3 130 q = nI (max (max lg (len + mxm h i)) (len + 1)) := by rw [b2.1 130 q (by omega)]; exact c130
            refine IH b1 d129 (by omega) d130 (by omega) (by omega) (by omega) hf fun F4 A4 L4 b e1 e2 e3 e4 => ?_
            simp only [tl_some, tl_none, List.append_nil, e32_0, e32_1, e32_2, e32_3, e32_6, e32_9, e32_10, e32_11, e32_14, e32_16, e32_17, e32_20, e32_23, e32_24, e32_27, e32_29, e32_32, e32_34, e32_37, e32_40, e32_43, e32_44, e32_44i, e32_45, e32_48, e32_49, e32_50, e32_53, e32_54, e32_55, e32_58, e32_59, e32_60, e32_61, e32_64, e32_67, e32_68, e32_71, e32_74, e32_77, e32_78, e32_81, e32_82, e32_83, e32_84, e32_87, e32_88, e32_89, e32_90, e32_91, e32_94, e32_95, e32_97, e32_99, e32_102, e32_103, e32_104, e32_105, e32_106, e32_107, e32_110, e32_111, e32_112, e32_115, e32_118, e32_121, e32_122, mj_kl, bI_01]
            refine ⟨by simp, c_pop hS e1 fun F5 A5 g1 g2 => ?_⟩
            simp only [tl_none, e32_0, e32_1, e32_2, e32_3, e32_6, e32_9, e32_10, e32_11, e32_14, e32_16, e32_17, e32_20, e32_23, e32_24, e32_27, e32_29, e32_32, e32_34, e32_37, e32_40, e32_43, e32_44, e32_44i, e32_45, e32_48, e32_49, e32_50, e32_53, e32_54, e32_55, e32_58, e32_59, e32_60, e32_61, e32_64, e32_67, e32_68, e32_71, e32_74, e32_77, e32_78, e32_81, e32_82, e32_83, e32_84, e32_87, e32_88, e32_89, e32_90, e32_91, e32_94, e32_95, e32_97, e32_99, e32_102, e32_103, e32_104, e32_105, e32_106, e32_107, e32_110, e32_111, e32_112, e32_115, e32_118, e32_121, e32_122, mj_kl, nI_1]
            have rx5 := h2.trans (tx.toRX.trans (rx2.trans (b2.toRX.trans (e2.trans g2.toRX))))
            cases b with
            | false =>
              have : ¬ c + sm g i + 1 + NRw w f (pushM w hs m i (-2)) (m + 1) ≤ 20000 := fun e => by have := e3.mpr e; cases this
              exact stop F5 A5 L4 g1 rx5 (by omega) _
            | true =>
              obtain ⟨i1, i2⟩ := e4 rfl
              have := e3.mp rfl
              refine ih (i + 1) (by omega) F5 A5 L4 g1 rx5 ?_ (by omega) ?_
              · rw [g2.1 129 q (by omega), i1, hsi, gi]; congr 1; omega
              · rw [g2.1 130 q (by omega), i2, hmi, hi0]; congr 1; omega
    refine n32 k0 ?_
    simp only [e32_0, e32_1, e32_2, e32_3, e32_6, e32_9, e32_10, e32_11, e32_14, e32_16, e32_17, e32_20, e32_23, e32_24, e32_27, e32_29, e32_32, e32_34, e32_37, e32_40, e32_43, e32_44, e32_44i, e32_45, e32_48, e32_49, e32_50, e32_53, e32_54, e32_55, e32_58, e32_59, e32_60, e32_61, e32_64, e32_67, e32_68, e32_71, e32_74, e32_77, e32_78, e32_81, e32_82, e32_83, e32_84, e32_87, e32_88, e32_89, e32_90, e32_91, e32_94, e32_95, e32_97, e32_99, e32_102, e32_103, e32_104, e32_105, e32_106, e32_107, e32_110, e32_111, e32_112, e32_115, e32_118, e32_121, e32_122, mj_kl, mj_u]
    have := loop (32 * wNB w) 0 (by omega) FI AI AL hC RX.rfl' (by rw [h129]; rfl) (by simpa [sm] using hc) (by rw [h130]; simp only [mxm]; congr 1; omega)
    simpa [nI_0] using this
end
