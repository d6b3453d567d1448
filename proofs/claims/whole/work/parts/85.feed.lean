def by4 (k : Int32) (j : Nat) : Int32 := (k >>> (nI (24 - 8 * j) &&& 31)).toInt8.toInt32
def put4 (T : Nat → Int32) (z : Nat) (k : Int32) : Nat → Int32 := fun i => if z ≤ i ∧ i < z + 4 then by4 k (i - z) else T i
def sp_feed (P : PG) (a b c e f : Int32) : Int32 × PG := if gZ P + 20 ≤ 900 then (nI (gZ P + 20), (put4 (put4 (put4 (put4 (put4 (gT P) (gZ P) a) (gZ P + 4) b) (gZ P + 8) c) (gZ P + 12) e) (gZ P + 16) f, gZ P + 20, P.2.2)) else (-1, P)
section
variable {sa : Nat → Nat} {d n t h m : Nat} {Q : mj_Q} {K : Nat → Nat × Nat} {FI : Nat → Nat → Int32} {FL : Nat → Nat → Int64} {FR : Nat → Nat → Option Nat} {AI : Nat → Nat → Int32} {AL : Nat → Nat → Int64} {AR : Nat → Nat → Option Nat} {w : Wl} {hs : Nat → Hg}
variable {x : Nat} {P : PG}
theorem c_days (hV : InvC x P (n, K, FI, FL, FR, AI, AL, AR)) {k : Int32} (hQ : ∀ μ', InvC x (is' P (sp_days P k)) μ' → FrC x (n, K, FI, FL, FR, AI, AL, AR) μ' → Q (some (.int (iv (sp_days P k)))) μ') : EV sa (d + 3) 121 [.ref x, .int k] (n, K, FI, FL, FR, AI, AL, AR) Q := by
  obtain ⟨o, h, hS, hI⟩ := hV
  replace hS : CSt K FR AR x o h := hS
  replace hI : CInv x o P K FR AR FI AI AL := hI
  obtain ⟨k0, -, f450, -, f452, f453, f454, f455, -, ⟨hH, hT, ht⟩, -, ⟨e1, g1, s1, s1'⟩, ⟨e2, g2, s2, s2'⟩, hRow, hOrd⟩ := id hS
  have hno := hS.now
  refine n121 k0 ?_
  simp only [e121_0, e121_1, e121_4, e121_7, e121_8, e121_9, e121_12, e121_13, e121_14, e121_15, e121_18, e121_19, e121_21, e121_24, e121_25, e121_26, e121_29, e121_30, e121_31, e121_34, e121_35, e121_38, e121_41, e121_42, e121_43, e121_44, e121_46, e121_47, e121_50, e121_53, e121_56, e121_59, e121_60, e121_63, e121_64, e121_67, e121_70, e121_72, e121_73, e121_76, e121_79, e121_80, e121_81, e121_82, e121_83, e121_85, e121_86, e121_87, e121_88, e121_89, e121_91, e121_92, e121_93, e121_96, e121_99, e121_100, e121_101, e121_104]
  refine ⟨by simp, c_hasWall hS hI ?_⟩
  simp only [tl_some, e121_0, e121_1, e121_4, e121_7, e121_8, e121_9, e121_12, e121_13, e121_14, e121_15, e121_18, e121_19, e121_21, e121_24, e121_25, e121_26, e121_29, e121_30, e121_31, e121_34, e121_35, e121_38, e121_41, e121_42, e121_43, e121_44, e121_46, e121_47, e121_50, e121_53, e121_56, e121_59, e121_60, e121_63, e121_64, e121_67, e121_70, e121_72, e121_73, e121_76, e121_79, e121_80, e121_81, e121_82, e121_83, e121_85, e121_86, e121_87, e121_88, e121_89, e121_91, e121_92, e121_93, e121_96, e121_99, e121_100, e121_101, e121_104, k0, f450, f452, rf_some, true_and, bI_eq0]
  refine ⟨fun z => ?_, fun z => ⟨by simp, c_refuse hS ?_⟩⟩
  · obtain ⟨s, es⟩ := Option.isSome_iff_exists.mp (ts_nf z)
    obtain ⟨hC, hSP, hE, hA, hM⟩ := hI.hc es
    have hw := hC.2.2.2.1
    have hn3 := hw.2.2.2.2.1
    have bad : ¬ (1 ≤ k ∧ k ≤ 30) → Q (some (.int (-1))) (n, K, mj_u2 FI 456 x 2, FL, FR, AI, AL, AR) := fun q => irQ hS hI hQ (k := 2) (by decide) (by unfold sp_days; rw [es]; simp only []; rw [if_neg q])
    refine ⟨fun y => ⟨by simp, c_refuse hS ?_⟩, fun y => ⟨fun y2 => ⟨by simp, ?_⟩, fun y2 => ⟨by simp, c_refuse hS ?_⟩⟩⟩
    · simp only [tl_some, e121_0, e121_1, e121_4, e121_7, e121_8, e121_9, e121_12, e121_13, e121_14, e121_15, e121_18, e121_19, e121_21, e121_24, e121_25, e121_26, e121_29, e121_30, e121_31, e121_34, e121_35, e121_38, e121_41, e121_42, e121_43, e121_44, e121_46, e121_47, e121_50, e121_53, e121_56, e121_59, e121_60, e121_63, e121_64, e121_67, e121_70, e121_72, e121_73, e121_76, e121_79, e121_80, e121_81, e121_82, e121_83, e121_85, e121_86, e121_87, e121_88, e121_89, e121_91, e121_92, e121_93, e121_96, e121_99, e121_100, e121_101, e121_104]
      exact bad (fun q => absurd y (Int32.not_lt.mpr q.1))
    · have hk : 1 ≤ k ∧ k ≤ 30 := ⟨Int32.not_lt.mp y, y2⟩
      refine c_keepP hS hI es fun F1 A1 b1 b2 b3 b4 b5 b6 => ?_
      simp only [tl_none, e121_0, e121_1, e121_4, e121_7, e121_8, e121_9, e121_12, e121_13, e121_14, e121_15, e121_18, e121_19, e121_21, e121_24, e121_25, e121_26, e121_29, e121_30, e121_31, e121_34, e121_35, e121_38, e121_41, e121_42, e121_43, e121_44, e121_46, e121_47, e121_50, e121_53, e121_56, e121_59, e121_60, e121_63, e121_64, e121_67, e121_70, e121_72, e121_73, e121_76, e121_79, e121_80, e121_81, e121_82, e121_83, e121_85, e121_86, e121_87, e121_88, e121_89, e121_91, e121_92, e121_93, e121_96, e121_99, e121_100, e121_101, e121_104, mj_kl, mj_u]
      obtain ⟨-, -, -, -, -, -, -, ⟨f10, k21⟩, -⟩ := id hH
      have y389 : F1 389 (o + 1) = nI (wNR s.1) := b1.2.2.2.2.1.1.2.2.2.2.2.1
      have loop : ∀ rr i, i + rr = wNR s.1 → ∀ A : Nat → Nat → Int32, (∀ q, q ≠ o + 21 → A q = A1 q) → (∀ q, q < 3 → A (o + 21) q = if q < i then s.2.1.2.2.2 q + k * nI (payN s q) else s.2.1.2.2.2 q) → ∀ x4 : Value, WP sa (EV sa (d + 2)) 121 Q 0 0 45 [.ref x, .int k, .int (nI (sm (payN s) i)), .int (nI i), x4] [] (n, K, F1, FL, FR, A, AL, AR) := by
        intro rr
        induction rr with
        | zero =>
          intro i hi A h1 h2 x4
          have hi' : i = wNR s.1 := by omega
          subst hi'
          rw [e121_45]
          simp only [e121_0, e121_1, e121_4, e121_7, e121_8, e121_9, e121_12, e121_13, e121_14, e121_15, e121_18, e121_19, e121_21, e121_24, e121_25, e121_26, e121_29, e121_30, e121_31, e121_34, e121_35, e121_38, e121_41, e121_42, e121_43, e121_44, e121_46, e121_47, e121_50, e121_53, e121_56, e121_59, e121_60, e121_63, e121_64, e121_67, e121_70, e121_72, e121_73, e121_76, e121_79, e121_80, e121_81, e121_82, e121_83, e121_85, e121_86, e121_87, e121_88, e121_89, e121_91, e121_92, e121_93, e121_96, e121_99, e121_100, e121_101, e121_104, k0, f450, hH.1, ht, hT.1, rf_some, y389, true_and]
          refine ⟨fun _ => ⟨by simp, c_answer hS ?_⟩, fun q => absurd (nI_le (Nat.le_refl _) (by omega)) q⟩
          simp only [tl_some, e121_0, e121_1, e121_4, e121_7, e121_8, e121_9, e121_12, e121_13, e121_14, e121_15, e121_18, e121_19, e121_21, e121_24, e121_25, e121_26, e121_29, e121_30, e121_31, e121_34, e121_35, e121_38, e121_41, e121_42, e121_43, e121_44, e121_46, e121_47, e121_50, e121_53, e121_56, e121_59, e121_60, e121_63, e121_64, e121_67, e121_70, e121_72, e121_73, e121_76, e121_79, e121_80, e121_81, e121_82, e121_83, e121_85, e121_86, e121_87, e121_88, e121_89, e121_91, e121_92, e121_93, e121_96, e121_99, e121_100, e121_101, e121_104]
          refine ivQ (s' := keepA s (s.2.1.1, s.2.1.2.1, s.2.1.2.2.1, fun r => if r < wNR s.1 then s.2.1.2.2.2 r + k * nI (payN s r) else s.2.1.2.2.2 r)) hS (CInv.act hI (s' := keepA s (s.2.1.1, s.2.1.2.1, s.2.1.2.2.1, fun r => if r < wNR s.1 then s.2.1.2.2.2 r + k * nI (payN s r) else s.2.1.2.2.2 r)) ?_ ?_ ⟨hE.1, hE.2.1, hE.2.2.1, hE.2.2.2⟩ ?_ ?_ ?_ ?_) (fun a ha => ⟨fun f => ⟨?_, rfl, rfl⟩, ?_, rfl⟩) hQ ?_
          · exact b1.wc b1.2.2.2.1 (by
              obtain ⟨z1, z2, z3, z4⟩ := b1.2.2.2.2.1
              refine ⟨z1, fun b hb => ?_, fun u hu => ?_, fun c hc => ?_⟩
              · rw [h1 _ (by omega), h1 _ (by omega), h1 _ (by omega), h1 _ (by omega), h1 _ (by omega), h1 _ (by omega)]
                exact z2 b hb
              · rw [h1 _ (by omega)]; exact z3 u hu
              · rw [h1 _ (by omega), h1 _ (by omega)]; exact z4 c hc) rfl rfl (Nat.le_refl _) (fun b hb => ⟨rfl, rfl, rfl, rfl, rfl⟩) rfl b1.2.2.2.2.2.1.2.2.1 rfl rfl (fun j j1 j2 => h1 _ (by omega)) rfl
          · intro r hr
            rw [h1 (o + 20) (by omega)]
            exact ⟨(b2 r hr).1, h2 r hr⟩
          · exact b3.fr s1 rfl rfl (fun i hi => by have := s1' i hi; exact h1 _ (by omega))
          · exact b4.fr s2 rfl rfl (fun i hi => by have := s2' i hi; exact h1 _ (by omega))
          · intro f; exact b5 f x (Or.inl (by omega))
          · rw [h1 _ (by omega), b6 _ (by omega)]
          · exact b5 f a (Or.inl (by omega))
          · rw [h1 _ (by omega), b6 _ (by omega)]
          · unfold sp_days; rw [es]; simp only []; rw [if_pos hk]
        | succ rr ih =>
          intro i hi A h1 h2 x4
          have i3 : i < 3 := by omega
          have hin : vp_in (nI i) 3 := vp_in_nI i3 (by decide)
          have hcl : (nI i).toNatClampNeg = i := nI_clamp (by omega)
          have hHR : HungR F1 A o s.1 s.2.1.1 s.2.1.2.1 := by
            obtain ⟨q1, q2, q3, q4, q5⟩ := b1.2.2.2.2.2.1
            refine ⟨q1, q2, q3, q4, fun j hj => ?_⟩
            rw [h1 _ (by omega), h1 _ (by omega), h1 _ (by omega), h1 _ (by omega), h1 _ (by omega)]
            exact q5 j hj
          rw [e121_45]
          simp only [e121_0, e121_1, e121_4, e121_7, e121_8, e121_9, e121_12, e121_13, e121_14, e121_15, e121_18, e121_19, e121_21, e121_24, e121_25, e121_26, e121_29, e121_30, e121_31, e121_34, e121_35, e121_38, e121_41, e121_42, e121_43, e121_44, e121_46, e121_47, e121_50, e121_53, e121_56, e121_59, e121_60, e121_63, e121_64, e121_67, e121_70, e121_72, e121_73, e121_76, e121_79, e121_80, e121_81, e121_82, e121_83, e121_85, e121_86, e121_87, e121_88, e121_89, e121_91, e121_92, e121_93, e121_96, e121_99, e121_100, e121_101, e121_104, k0, f450, hH.1, ht, hT.1, rf_some, y389, true_and]
          refine ⟨fun q => absurd q (nI_ge (by omega) (by omega)), fun _ => ⟨by simp, c_seenOf hH hHR fun v hv => ?_⟩⟩
          simp only [tl_some, e121_0, e121_1, e121_4, e121_7, e121_8, e121_9, e121_12, e121_13, e121_14, e121_15, e121_18, e121_19, e121_21, e121_24, e121_25, e121_26, e121_29, e121_30, e121_31, e121_34, e121_35, e121_38, e121_41, e121_42, e121_43, e121_44, e121_46, e121_47, e121_50, e121_53, e121_56, e121_59, e121_60, e121_63, e121_64, e121_67, e121_70, e121_72, e121_73, e121_76, e121_79, e121_80, e121_81, e121_82, e121_83, e121_85, e121_86, e121_87, e121_88, e121_89, e121_91, e121_92, e121_93, e121_96, e121_99, e121_100, e121_101, e121_104]
          refine ⟨by simp, c_bitCount ?_⟩
          have ep : ct (bt v) 32 = payN s i := Mk_ct hv
          rw [ep]
          have hpi := h2 i i3
          rw [if_neg (by omega)] at hpi
          simp only [tl_some, e121_0, e121_1, e121_4, e121_7, e121_8, e121_9, e121_12, e121_13, e121_14, e121_15, e121_18, e121_19, e121_21, e121_24, e121_25, e121_26, e121_29, e121_30, e121_31, e121_34, e121_35, e121_38, e121_41, e121_42, e121_43, e121_44, e121_46, e121_47, e121_50, e121_53, e121_56, e121_59, e121_60, e121_63, e121_64, e121_67, e121_70, e121_72, e121_73, e121_76, e121_79, e121_80, e121_81, e121_82, e121_83, e121_85, e121_86, e121_87, e121_88, e121_89, e121_91, e121_92, e121_93, e121_96, e121_99, e121_100, e121_101, e121_104, k0, f450, hH.1, f10, k21, rf_some, hin, hcl, hpi, nI_add, nI_1, true_and, true_or, mj_kl]
          have nx := ih (i + 1) (by omega) (mj_u2 A (o + 21) i (s.2.1.2.2.2 i + k * nI (payN s i))) (fun q hq => by funext z; rw [mj_u2_1 hq, h1 q hq]) (fun q hq => by
            by_cases e : q = i
            · subst e
              rw [mj_u2_s, if_pos (by omega)]
            · rw [mj_u2_2 e, h2 q hq]
              have : (q < i + 1) ↔ q < i := by omega
              simp only [this]) (.int (nI (payN s i)))
          simpa [sm] using nx
      have := loop (wNR s.1) 0 (by omega) A1 (fun _ _ => rfl) (fun q hq => by rw [if_neg (by omega)]; exact (b2 q hq).2) mj_u
      simpa [sm, nI_0, mj_u] using this
    · simp only [tl_some, e121_0, e121_1, e121_4, e121_7, e121_8, e121_9, e121_12, e121_13, e121_14, e121_15, e121_18, e121_19, e121_21, e121_24, e121_25, e121_26, e121_29, e121_30, e121_31, e121_34, e121_35, e121_38, e121_41, e121_42, e121_43, e121_44, e121_46, e121_47, e121_50, e121_53, e121_56, e121_59, e121_60, e121_63, e121_64, e121_67, e121_70, e121_72, e121_73, e121_76, e121_79, e121_80, e121_81, e121_82, e121_83, e121_85, e121_86, e121_87, e121_88, e121_89, e121_91, e121_92, e121_93, e121_96, e121_99, e121_100, e121_101, e121_104]
      exact bad (fun q => y2 q.2)
  · simp only [tl_some, e121_0, e121_1, e121_4, e121_7, e121_8, e121_9, e121_12, e121_13, e121_14, e121_15, e121_18, e121_19, e121_21, e121_24, e121_25, e121_26, e121_29, e121_30, e121_31, e121_34, e121_35, e121_38, e121_41, e121_42, e121_43, e121_44, e121_46, e121_47, e121_50, e121_53, e121_56, e121_59, e121_60, e121_63, e121_64, e121_67, e121_70, e121_72, e121_73, e121_76, e121_79, e121_80, e121_81, e121_82, e121_83, e121_85, e121_86, e121_87, e121_88, e121_89, e121_91, e121_92, e121_93, e121_96, e121_99, e121_100, e121_101, e121_104]
    refine irQ hS hI hQ (k := 1) (by decide) ?_
    unfold sp_days
    cases e : gW P with
    | none => rfl
    | some s => rw [e] at z; exact absurd (fun h => by cases h) z
theorem c_takeFour {o z : Nat} (hS : CSt K FR AR x o h) (hz : FI 449 x = nI z) (h9 : z + 4 ≤ 900) {k : Int32} (hQ : ∀ FI' AI' : Nat → Nat → Int32, FI' 449 x = nI (z + 4) → AI' (x + 1) = put4 (AI (x + 1)) z k → FIx FI FI' x [449] → AIx AI AI' (x + 1) (x + 1) → Q none (n, K, FI', FL, FR, AI', AL, AR)) : EV sa (d + 1) 146 [.ref x, .int k] (n, K, FI, FL, FR, AI, AL, AR) Q := by
  obtain ⟨k0, ⟨f448, k1⟩, -⟩ := id hS
  have loop : ∀ rr j, j + rr = 4 → ∀ (F A : Nat → Nat → Int32), F 449 x = nI (z + j) → (∀ i, A (x + 1) i = if z ≤ i ∧ i < z + j then by4 k (i - z) else AI (x + 1) i) → FIx FI F x [449] → AIx AI A (x + 1) (x + 1) → WP sa (EV sa d) 146 Q 0 0 3 [.ref x, .int k, .int (nI (32 - 8 * j) - 8)] [] (n, K, F, FL, FR, A, AL, AR) := by
    intro rr
    induction rr with
    | zero =>
      intro j hj F A b1 b2 b3 b4
      have hj' : j = 4 := by omega
      subst hj'
      rw [e146_3]
      simp only [e146_0, e146_2, e146_4, e146_7, e146_8, e146_11, e146_14, e146_17, e146_18, e146_21, e146_22, e146_25, e146_26, e146_27, e146_28, e146_29, e146_30, e146_31, e146_31i, e146_32, e146_35, e146_36, e146_37, e146_40, e146_43, e146_46]
      refine ⟨fun _ => hQ F A b1 ?_ b3 b4, fun q => absurd (by decide) q⟩
      funext i
      rw [b2 i]
      rfl
    | succ rr ih =>
      intro j hj F A b1 b2 b3 b4
      have e8 : nI (32 - 8 * j) - 8 = nI (24 - 8 * j) := by
        rw [show (8 : Int32) = nI 8 from rfl, nq_sub (by omega)]
        congr 1
        omega
      have hin : vp_in (nI (z + j)) 900 := vp_in_nI (by omega) (by decide)
      have hcl : (nI (z + j)).toNatClampNeg = z + j := nI_clamp (by omega)
      rw [e146_3, e8]
      simp only [e146_0, e146_2, e146_4, e146_7, e146_8, e146_11, e146_14, e146_17, e146_18, e146_21, e146_22, e146_25, e146_26, e146_27, e146_28, e146_29, e146_30, e146_31, e146_31i, e146_32, e146_35, e146_36, e146_37, e146_40, e146_43, e146_46, k0, f448, k1, rf_some, b1, hin, hcl, nI_1, true_and, fb_byte_twice, mj_kl]
      refine ⟨fun q => absurd q (nI_pos (by omega)), fun _ => ⟨fun q => absurd q (by rw [show (900 : Int32) = nI 900 from rfl]; exact nI_ge (by omega) (by omega)), fun _ => ?_⟩⟩
      have nx := ih (j + 1) (by omega) (mj_u2 F 449 x (nI (z + j + 1))) (mj_u2 A (x + 1) (z + j) (k >>> (nI (24 - 8 * j) &&& 31)).toInt8.toInt32) mj_u2_s (fun i => by
        by_cases e : i = z + j
        · subst e
          rw [mj_u2_s, if_pos (by omega)]
          unfold by4
          rw [show z + j - z = j by omega]
        · rw [mj_u2_2 e, b2 i]
          have : (z ≤ i ∧ i < z + (j + 1)) ↔ (z ≤ i ∧ i < z + j) := by omega
          simp only [this]) (b3.same (FIx_u2 (by simp))) (fun q hq => by funext y; rw [mj_u2_1 (by omega), b4 q hq])
      have e9 : nI (32 - 8 * (j + 1)) - 8 = nI (24 - 8 * j) + -8 := by
        rw [show 32 - 8 * (j + 1) = 24 - 8 * j by omega, Int32.sub_eq_add_neg]
      rw [e9] at nx
      exact nx
  refine n146 k0 ?_
  simp only [e146_0, e146_2, e146_4, e146_7, e146_8, e146_11, e146_14, e146_17, e146_18, e146_21, e146_22, e146_25, e146_26, e146_27, e146_28, e146_29, e146_30, e146_31, e146_31i, e146_32, e146_35, e146_36, e146_37, e146_40, e146_43, e146_46, mj_kl, mj_u]
  have := loop 4 0 (by omega) FI AI hz (fun i => by rw [if_neg (by omega)]) (fun _ _ _ => rfl) AIx.rfl'
  exact this
end
