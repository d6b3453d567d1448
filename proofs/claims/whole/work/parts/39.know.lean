theorem rowf_lt {w : Wl} {hs : Nat → Hg} {n : Nat} (hw : wOK w) (hg : ∀ k, k < n → gOK w (hs k)) (y x : Nat) : rowf w hs n y x < 32 := by
  unfold rowf
  split
  · unfold letr
    cases ht : tp w hs n (wW w * y + x) with
    | none => simp
    | some k =>
      have hk := (tp_lt ht).1
      obtain ⟨-, -, -, ⟨t1, t2⟩, t3⟩ := hw.2.2.2.2.2.2.1 _ (hg k hk).1
      have := t3 _ (Nat.mod_lt (((wW w * y + x) / wW w - gY (hs k)) * wBW w (gB (hs k)) + (wW w * y + x) % wW w - gX (hs k)) (show 0 < wTL w (gB (hs k)) by omega))
      simp only [Option.map_some]
      omega
  · omega
theorem cellxy {W y x : Nat} (hx : x < W) : (W * y + x) % W = x ∧ (W * y + x) / W = y := by
  rw [Nat.mul_add_mod, Nat.mod_eq_of_lt hx, Nat.mul_add_div (by omega), Nat.div_eq_of_lt hx]
  exact ⟨rfl, rfl⟩
/-- one more bill in a row of letters -/
theorem rowf_step {w : Wl} {hs : Nat → Hg} {i y x : Nat} (hg : gOK w (hs i)) : rowf w hs (i + 1) y x = if (gY (hs i) ≤ y ∧ y < gY (hs i) + wBH w (gB (hs i))) ∧ (gX (hs i) ≤ x ∧ x < gX (hs i) + wBW w (gB (hs i))) then wTX w (gB (hs i)) ((wBW w (gB (hs i)) * (y - gY (hs i)) + (x - gX (hs i))) % wTL w (gB (hs i))) + 1 else rowf w hs i y x := by
  obtain ⟨g1, g2, g3⟩ := hg
  unfold rowf
  by_cases hxy : x < wW w ∧ y < wH w
  · rw [if_pos hxy, if_pos hxy]
    obtain ⟨e1, e2⟩ := cellxy (y := y) hxy.1
    unfold letr
    simp only [tp, covg, cov, e1, e2, decide_eq_true_eq]
    by_cases q : (gY (hs i) ≤ y ∧ y < gY (hs i) + wBH w (gB (hs i))) ∧ (gX (hs i) ≤ x ∧ x < gX (hs i) + wBW w (gB (hs i)))
    · rw [if_pos q, if_pos ⟨q.2.1, q.2.2, q.1.1, q.1.2⟩]
      simp only [Option.map_some]
      congr 2
      rw [Nat.mul_comm (y - gY (hs i))]
      have := q.2.1
      rw [Nat.add_sub_assoc this]
    · rw [if_neg q, if_neg (fun z => q ⟨⟨z.2.2.1, z.2.2.2⟩, z.1, z.2.1⟩)]
  · rw [if_neg hxy, if_neg (fun q => hxy (by omega)), if_neg hxy]
section
variable {sa : Nat → Nat} {d n t h m : Nat} {Q : mj_Q} {K : Nat → Nat × Nat} {FI : Nat → Nat → Int32} {FL : Nat → Nat → Int64} {FR : Nat → Nat → Option Nat} {AI : Nat → Nat → Int32} {AL : Nat → Nat → Int64} {AR : Nat → Nat → Option Nat} {w : Wl} {hs : Nat → Hg}
theorem c_knowLetters (hH : HungS K FR h) (hT : ToldS K FR t) (ht : FR 0 h = some t) (hw : wOK w) (hTR : ToldR FI AI AL t w) (hR : HungR FI AI h w hs m) (hL : LetR FI AL h w hs m) (sep : t + 13 < h + 15 ∨ h + 22 < t) (hQ : ∀ (FI' : Nat → Nat → Int32) (AL' : Nat → Nat → Int64), FI' 12 h = 1 → (∀ y, y < 4 → PkL (AL' (h + 22) y) (rowf w hs m y)) → FIx FI FI' h [12] → ALx AL AL' (h + 22) (h + 22) → Q none (n, K, FI', FL, FR, AI, AL', AR)) : EV sa (d + 1) 22 [.ref h] (n, K, FI, FL, FR, AI, AL, AR) Q := by
  obtain ⟨k0, ⟨f4, k15⟩, ⟨f5, k16⟩, -, -, -, -, -, ⟨f11, k22⟩⟩ := hH
  obtain ⟨r1, r2, r3, r4, r5⟩ := hR
  obtain ⟨kt, -, -, ⟨t3, kt3⟩, -, -, -, ⟨t7, kt7⟩, ⟨t8, kt8⟩, -, -, -, ⟨t12, kt12⟩, ⟨t13, kt13⟩⟩ := hT
  obtain ⟨-, b0, -, b4⟩ := hTR
  rcases hL with hL | ⟨hL, hL2⟩
  · -- painted anew
    have fin : ∀ B : Nat → Nat → Int64, ALx AL B (h + 22) (h + 22) → (∀ y, y < 4 → PkL (B (h + 22) y) (rowf w hs m y)) → ∀ x1 x2 x3 x4 x5 x6 x7 : Value, WP sa (EV sa d) 22 Q 0 0 172 [.ref h, x1, x2, x3, x4, x5, x6, x7] [] (n, K, FI, FL, FR, AI, B, AR) := by
      intro B h1 h2 x1 x2 x3 x4 x5 x6 x7
      simp only [e22_172, e22_173, e22_174, e22_177, k0, true_and, or_true]
      refine hQ _ _ mj_u2_s h2 ?_ h1
      intro f a hfa
      refine if_neg fun z => ?_
      obtain ⟨rfl, rfl⟩ := z
      simp at hfa
    have outer : ∀ rr i, i + rr = m → ∀ B : Nat → Nat → Int64, ALx AL B (h + 22) (h + 22) → (∀ y, y < 4 → PkL (B (h + 22) y) (rowf w hs i y)) → ∀ x2 x3 x4 x5 x6 x7 : Value, WP sa (EV sa d) 22 Q 0 0 30 [.ref h, .int (nI i), x2, x3, x4, x5, x6, x7] [] (n, K, FI, FL, FR, AI, B, AR) := by
      intro rr
      induction rr with
      | zero =>
        intro i hi B h1 h2 x2 x3 x4 x5 x6 x7
        have hi' : i = m := by omega
        subst hi'
        rw [e22_30]
        simp only [e22_31, e22_32, e22_35, k0, r1, true_and]
        exact ⟨fun _ => fin B h1 h2 _ _ _ _ _ _ _, fun q => absurd (nI_le (Nat.le_refl _) (by omega)) q⟩
      | succ rr ih =>
        intro i hi B h1 h2 x2 x3 x4 x5 x6 x7
        have hin : vp_in (nI i) 30 := vp_in_nI (by omega) (by decide)
        have hcl : (nI i).toNatClampNeg = i := nI_clamp (by omega)
        obtain ⟨g1, g2, g3, -⟩ := r5 i (by omega)
        have gg := g1
        obtain ⟨o1, o2, o3⟩ := gg
        obtain ⟨c1, c2⟩ := corner_lt hw g1
        obtain ⟨q1, q2, q3, -, -, -, q7, q8⟩ := b0 _ o1
        have hbw := (hw.2.2.2.2.2.2.1 _ o1)
        have hcin : vp_in (nI (wW w * gY (hs i) + gX (hs i))) 32 := vp_in_nI (by omega) (by decide)
        have hccl : (nI (wW w * gY (hs i) + gX (hs i))).toNatClampNeg = wW w * gY (hs i) + gX (hs i) := nI_clamp (by omega)
        have hn4 := hw.2.2.2.1
        have hbin : vp_in (nI (gB (hs i))) 4 := vp_in_nI (by omega) (by decide)
        have hbcl : (nI (gB (hs i))).toNatClampNeg = gB (hs i) := nI_clamp (by omega)
        obtain ⟨m1, m2⟩ := b4 (wW w * gY (hs i) + gX (hs i)) (by omega)
        obtain ⟨e1, e2⟩ := cellxy (y := gY (hs i)) (show gX (hs i) < wW w by omega)
        rw [e1] at m1
        rw [e2] at m2
        have e5 : (5 : Int32) * nI (gX (hs i)) = nI (5 * gX (hs i)) := by rw [show (5 : Int32) = nI 5 from rfl, pk_mul]
        have hW8 := hw.1.2
        have hH4 := hw.2.1.2
        have inner : ∀ sr row, row + sr = wBH w (gB (hs i)) → ∀ B : Nat → Nat → Int64, ALx AL B (h + 22) (h + 22) → (∀ y, y < 4 → PkL (B (h + 22) y) (if gY (hs i) ≤ y ∧ y < gY (hs i) + row then rowf w hs (i + 1) y else rowf w hs i y)) → ∀ x6 x7 : Value, WP sa (EV sa d) 22 Q 0 0 81 [.ref h, .int (nI i), .int (nI (gB (hs i))), .int (nI (gY (hs i))), .int (nI (5 * gX (hs i))), .int (nI row), x6, x7] [] (n, K, FI, FL, FR, AI, B, AR) := by
          intro sr
          induction sr with
          | zero =>
            intro row hr B h1 h2 x6 x7
            have hr' : row = wBH w (gB (hs i)) := by omega
            rw [e22_81]
            simp only [e22_83, e22_84, e22_87, e22_90, e22_91, e22_92, e22_166, e22_169, k0, ht, kt, t3, kt3, rf_some, hbin, hbcl, q3, nI_1, true_and, true_or, mj_kl]
            refine ⟨fun _ => ih (i + 1) (by omega) B h1 (fun y hy => (h2 y hy).congr fun x hx => ?_) _ _ _ _ _ _, fun q => absurd (nI_le (by omega) (by omega)) q⟩
            split
            · rfl
            · next z => rw [rowf_step g1, if_neg (fun z2 => z (by rw [hr']; exact z2.1))]
          | succ sr ihs =>
            intro row hr B h1 h2 x6 x7
            have y4 : gY (hs i) + row < 4 := by omega
            have hyin : vp_in (nI (gY (hs i) + row)) 4 := vp_in_nI y4 (by decide)
            have hycl : (nI (gY (hs i) + row)).toNatClampNeg = gY (hs i) + row := nI_clamp (by omega)
            have e4 : nI (gB (hs i)) * 4 + nI row = nI (4 * gB (hs i) + row) := by rw [show (4 : Int32) = nI 4 from rfl, pk_mul, nI_add, Nat.mul_comm]
            have hkin : vp_in (nI (4 * gB (hs i) + row)) 16 := vp_in_nI (by omega) (by decide)
            have hkcl : (nI (4 * gB (hs i) + row)).toNatClampNeg = 4 * gB (hs i) + row := nI_clamp (by omega)
            have bt7 : B (t + 7) = AL (t + 7) := h1 _ (by omega)
            have bt8 : B (t + 8) = AL (t + 8) := h1 _ (by omega)
            have hp := PkL.paint (x := gX (hs i)) (h2 (gY (hs i) + row) y4) q7 (q8 row (by omega)) (by omega) (fun j hj => by simp; omega)
            rw [e22_81]
            simp only [e22_0, e22_1, e22_4, e22_7, e22_8, e22_9, e22_11, e22_12, e22_15, e22_16, e22_19, e22_20, e22_21, e22_22, e22_25, e22_28, e22_29, e22_31, e22_32, e22_35, e22_38, e22_39, e22_42, e22_43, e22_44, e22_45, e22_46, e22_49, e22_52, e22_53, e22_56, e22_57, e22_58, e22_59, e22_60, e22_61, e22_62, e22_65, e22_68, e22_69, e22_72, e22_73, e22_74, e22_75, e22_76, e22_78, e22_79, e22_83, e22_84, e22_87, e22_90, e22_91, e22_92, e22_95, e22_96, e22_98, e22_99, e22_100, e22_103, e22_104, e22_107, e22_108, e22_110, e22_111, e22_112, e22_113, e22_116, e22_119, e22_120, e22_121, e22_123, e22_124, e22_127, e22_128, e22_129, e22_131, e22_132, e22_135, e22_136, e22_138, e22_139, e22_141, e22_142, e22_145, e22_148, e22_149, e22_150, e22_151, e22_153, e22_154, e22_155, e22_157, e22_158, e22_159, e22_160, e22_163, e22_169, e22_173, e22_174, e22_177, k0, ht, kt, t3, kt3, t7, kt7, t8, kt8, f11, k22, rf_some, hbin, hbcl, q3, nI_1, nI_add, hyin, hycl, e4, hkin, hkcl, bt7, bt8, true_and, true_or, mj_kl]
            refine ⟨fun q => absurd q (nI_ge (by omega) (by omega)), fun _ => ⟨fun q => absurd q (by rw [show (4 : Int32) = nI 4 from rfl]; exact nI_ge y4 (by omega)), fun _ => ?_⟩⟩
            refine ihs (row + 1) (by omega) _ ?_ (fun y hy => ?_) _ _
            · intro q hq
              funext j
              rw [mj_u2_1 (by omega), h1 q hq]
            · by_cases hyr : y = gY (hs i) + row
              · subst hyr
                rw [mj_u2_s]
                refine hp.congr fun x hx => ?_
                rw [if_neg (show ¬ (gY (hs i) ≤ gY (hs i) + row ∧ gY (hs i) + row < gY (hs i) + row) by omega), if_pos (show gY (hs i) ≤ gY (hs i) + row ∧ gY (hs i) + row < gY (hs i) + (row + 1) by omega), rowf_step g1]
                by_cases z : gX (hs i) ≤ x ∧ x < gX (hs i) + wBW w (gB (hs i))
                · rw [if_pos z, if_pos (by omega), if_pos ⟨by omega, z⟩, show gY (hs i) + row - gY (hs i) = row by omega]
                · rw [if_neg z, if_neg (fun z2 => z z2.2)]
              · rw [mj_u2_2 hyr]
                refine (h2 y hy).congr fun x hx => ?_
                have : (gY (hs i) ≤ y ∧ y < gY (hs i) + row) ↔ (gY (hs i) ≤ y ∧ y < gY (hs i) + (row + 1)) := by omega
                simp only [this]
        rw [e22_30]
        simp only [e22_0, e22_1, e22_4, e22_7, e22_8, e22_9, e22_11, e22_12, e22_15, e22_16, e22_19, e22_20, e22_21, e22_22, e22_25, e22_28, e22_29, e22_31, e22_32, e22_35, e22_38, e22_39, e22_42, e22_43, e22_44, e22_45, e22_46, e22_49, e22_52, e22_53, e22_56, e22_57, e22_58, e22_59, e22_60, e22_61, e22_62, e22_65, e22_68, e22_69, e22_72, e22_73, e22_74, e22_75, e22_76, e22_78, e22_79, e22_83, e22_84, e22_87, e22_90, e22_91, e22_92, e22_95, e22_96, e22_98, e22_99, e22_100, e22_103, e22_104, e22_107, e22_108, e22_110, e22_111, e22_112, e22_113, e22_116, e22_119, e22_120, e22_121, e22_123, e22_124, e22_127, e22_128, e22_129, e22_131, e22_132, e22_135, e22_136, e22_138, e22_139, e22_141, e22_142, e22_145, e22_148, e22_149, e22_150, e22_151, e22_153, e22_154, e22_155, e22_157, e22_158, e22_159, e22_160, e22_163, e22_169, e22_173, e22_174, e22_177, k0, r1, f4, f5, k15, k16, ht, kt, t12, t13, kt12, kt13, rf_some, hin, hcl, g2, g3, hcin, hccl, m1, m2, e5, true_and, true_or, mj_kl]
        refine ⟨fun q => absurd q (nI_ge (by omega) (by omega)), fun _ => ?_⟩
        exact inner (wBH w (gB (hs i))) 0 (by omega) B h1 (fun y hy => (h2 y hy).congr fun x hx => by rw [if_neg (by omega)]) _ _
    have zero : ∀ rr i, i + rr = 4 → ∀ B : Nat → Nat → Int64, ALx AL B (h + 22) (h + 22) → (∀ y, y < i → B (h + 22) y = 0) → WP sa (EV sa d) 22 Q 0 0 10 [.ref h, .int (nI i), mj_u, mj_u, mj_u, mj_u, mj_u, mj_u] [] (n, K, FI, FL, FR, AI, B, AR) := by
      intro rr
      induction rr with
      | zero =>
        intro i hi B h1 h2
        have hi' : i = 4 := by omega
        subst hi'
        rw [e22_10]
        simp only [e22_11, e22_12, e22_28, e22_29, mj_kl]
        refine ⟨fun _ => ?_, fun q => absurd (by decide) q⟩
        have := outer m 0 (by omega) B h1 (fun y hy j hj => by
          rw [h2 y hy, bL_0]
          simp [rowf, letr, tp]) mj_u mj_u mj_u mj_u mj_u mj_u
        simpa [nI_0] using this
      | succ rr ih =>
        intro i hi B h1 h2
        have hin : vp_in (nI i) 4 := vp_in_nI (by omega) (by decide)
        have hcl : (nI i).toNatClampNeg = i := nI_clamp (by omega)
        rw [e22_10]
        simp only [e22_11, e22_12, e22_15, e22_16, e22_19, e22_20, e22_21, e22_22, e22_25, k0, f11, k22, rf_some, hin, hcl, nI_1, true_and, mj_kl]
        refine ⟨fun q => absurd q (by rw [show (4 : Int32) = nI 4 from rfl]; exact nI_ge (by omega) (by omega)), fun _ => ih (i + 1) (by omega) _ ?_ ?_⟩
        · intro q hq
          funext j
          rw [mj_u2_1 (by omega), h1 q hq]
        · intro y hy
          by_cases e : y = i
          · subst e; exact mj_u2_s
          · rw [mj_u2_2 e]; exact h2 y (by omega)
    refine n22 k0 ?_
    simp only [e22_0, e22_1, e22_4, e22_7, e22_8, e22_9, k0, hL, true_and, mj_kl]
    refine ⟨fun _ => ?_, fun q => absurd trivial q⟩
    have := zero 4 0 (by omega) AL (fun _ _ => rfl) (fun y hy => by omega)
    simpa [nI_0, mj_u, mj_kl] using this
  · refine n22 k0 ?_
    simp only [e22_0, e22_1, e22_4, e22_7, e22_8, e22_9, k0, hL, true_and, mj_kl]
    exact ⟨fun q => absurd q (by decide), fun _ => hQ FI AL hL hL2 FIx.rfl' (fun _ _ => rfl)⟩
end
