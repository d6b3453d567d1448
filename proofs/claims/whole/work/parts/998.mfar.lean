section
variable {sa : Nat → Nat} {d n t h m : Nat} {Q : mj_Q} {K : Nat → Nat × Nat} {FI : Nat → Nat → Int32} {FL : Nat → Nat → Int64} {FR : Nat → Nat → Option Nat} {AI : Nat → Nat → Int32} {AL : Nat → Nat → Int64} {AR : Nat → Nat → Option Nat} {w : Wl} {hs : Nat → Hg}
variable {a u q : Nat} {P : PG}
def rN (P : PG) (D : Int32) : Nat := match rowsR P D (dN D) with
  | some k => k
  | none => 0
theorem MH.same0 (hR : MH AI AL u w hs m) : MH (mj_u2 AI (u + 1) 0 (nI m)) AL u w hs m := by
  obtain ⟨r1, r2, r3⟩ := hR
  refine ⟨mj_u2_s, r2, fun k hk => ?_⟩
  rw [mj_u2_2 (by omega), mj_u2_2 (by omega), mj_u2_2 (by omega), mj_u2_2 (by omega)]
  exact r3 k hk
theorem MO.same0 (hO : MO K FR FI AI AL q a w hs m) : MO K FR FI (mj_u2 AI (a + 13 + 1) 0 (nI m)) AL q a w hs m ∧ MX q (a + 13) AI (mj_u2 AI (a + 13 + 1) 0 (nI m)) AL AL := by
  have hX : MX q (a + 13) AI (mj_u2 AI (a + 13 + 1) 0 (nI m)) AL AL := ⟨fun z _ _ z3 => by funext j; exact mj_u2_1 z3, fun j hj => mj_u2_2 (by omega), fun _ _ => rfl⟩
  exact ⟨hO.ofX (hO.1.of hX hO.mh.same0), hX⟩
theorem c_refusesSafely (hI : MInv q P n K FR FI AI AL) {D : Int32} (h1 : gW P = none → Q (some (.int 1)) (n, K, FI, FL, FR, AI, AL, AR)) (h2 : ∀ s, gW P = some s → ∀ (FI' AI' : Nat → Nat → Int32) (AL' : Nat → Nat → Int64) (a : Nat), MO K FR FI' AI' AL' q a s.1 s.2.1.1 s.2.1.2.1 → q + 13 < a → MQx q (a + 13) FI FI' AI AI' AL AL' → ∀ r : Nat, rowsR P D (dN D) = (if r = 0 then none else some r) → (r = 0 → FI' 669 q = nI (LRw s.1 (dN D) s.2.1.1 s.2.1.2.1) ∧ FI' 670 q = shrt P (-2) (dN D)) → r ≤ 3 → Q (some (.int (nI r))) (n, K, FI', FL, FR, AI', AL', AR)) : EV sa (d + 16) 254 [.ref q, .int D] (n, K, FI, FL, FR, AI, AL, AR) Q := by
  have k0 := hI.1.1
  have dd : dN D ≤ 4 := dN_4
  refine n254 k0 ?_
  simp only [e254_0, e254_1, k0, true_and]
  cases es : gW P with
  | none =>
    simp only [hI.no es, e254_0, e254_1, e254_4, e254_7, e254_8, e254_11, e254_12, e254_15, e254_18, e254_19, e254_20, e254_21, e254_24, e254_25, e254_26, e254_29, e254_32, e254_33, e254_36, e254_39, e254_40, e254_41, e254_42, e254_43, e254_4r, e254_29r, k0, mj_kl, true_and]
    refine ⟨fun z => absurd trivial z, fun _ => ⟨by simp, ?_⟩⟩
    refine n253 k0 ?_
    simp only [e253_0, e253_1, e253_4, e253_7, e253_8, e253_9, e253_10, e253_11, e253_12, e253_15, e253_18, e253_19, e253_20, e253_21, e253_22, e253_25, e253_26, e253_27, e253_30, e253_31, e253_33, e253_36, e253_37, e253_38, e253_39, e253_42, e253_45, e253_46, e253_49, e253_50, e253_4r, k0, hI.no es, true_and]
    refine ⟨fun z => absurd trivial z, fun _ => ?_⟩
    simp only [tl_some, e254_0, e254_1, e254_4, e254_7, e254_8, e254_11, e254_12, e254_15, e254_18, e254_19, e254_20, e254_21, e254_24, e254_25, e254_26, e254_29, e254_32, e254_33, e254_36, e254_39, e254_40, e254_41, e254_42, e254_43, e254_4r, e254_29r, k0, hI.no es, mj_kl, true_and]
    exact ⟨fun _ => h1 es, fun z => absurd trivial z⟩
  | some s =>
    obtain ⟨a, hO, ha1, ha2⟩ := hI.mo es
    obtain ⟨p1, p2, p3, p4⟩ := pWs es
    have h2' := h2 s es
    obtain ⟨ku, ⟨g0, ku1⟩, -⟩ := hO.1.2.2.2.2.1
    have in0 : vp_in (0 : Int32) 127 := vp_in_nI (n := 0) (by decide) (by decide)
    have eR : rowsR P D (dN D) = (if D < 1 ∨ 4 < D then some 2 else if NRw s.1 (dN D) s.2.1.1 s.2.1.2.1 ≤ 20000 then none else some 3) := by unfold rowsR; rw [es, p1, p2, p3]; rfl
    simp only [hO.2.1, hO.2.2, rf_some, e254_0, e254_1, e254_4, e254_7, e254_8, e254_11, e254_12, e254_15, e254_18, e254_19, e254_20, e254_21, e254_24, e254_25, e254_26, e254_29, e254_32, e254_33, e254_36, e254_39, e254_40, e254_41, e254_42, e254_43, e254_4r, e254_29r, k0, true_and]
    refine ⟨by simp, c_many hO.1.2.2.2.2.1 ?_⟩
    rw [hO.mh.1]
    simp only [tl_some, e254_0, e254_1, e254_4, e254_7, e254_8, e254_11, e254_12, e254_15, e254_18, e254_19, e254_20, e254_21, e254_24, e254_25, e254_26, e254_29, e254_32, e254_33, e254_36, e254_39, e254_40, e254_41, e254_42, e254_43, e254_4r, e254_29r, mj_kl]
    refine ⟨by simp, ?_⟩
    -- behind refusesRows
    have back : ∀ (F A : Nat → Nat → Int32) (L : Nat → Nat → Int64) (r : Nat), MO K FR F A L q a s.1 s.2.1.1 s.2.1.2.1 → MQx q (a + 13) FI F AI A AL L → rowsR P D (dN D) = (if r = 0 then none else some r) → (r = 0 → F 669 q = nI (LRw s.1 (dN D) s.2.1.1 s.2.1.2.1) ∧ F 670 q = shrt P (-2) (dN D)) → r ≤ 3 → WP sa (EV sa (d + 15)) 254 Q 0 0 24 [.ref q, .int D, .int (nI s.2.1.2.1), mj_u] [.int (nI r)] (n, K, F, FL, FR, A, L, AR) := by
      intro F A L r hA hX hr hr0 hr3
      obtain ⟨o1, o2⟩ := hA.same0
      simp only [e254_0, e254_1, e254_4, e254_7, e254_8, e254_11, e254_12, e254_15, e254_18, e254_19, e254_20, e254_21, e254_24, e254_25, e254_26, e254_29, e254_32, e254_33, e254_36, e254_39, e254_40, e254_41, e254_42, e254_43, e254_4r, e254_29r, k0, hA.2.1, hA.2.2, rf_some, ku, g0, ku1, in0, cl0, mj_kl, true_and]
      exact h2' F _ L a o1 ha1 (hX.trans (o2.toMQ (FI := F))) r hr hr0 hr3
    refine n253 k0 ?_
    simp only [e253_0, e253_1, e253_4, e253_7, e253_8, e253_9, e253_10, e253_11, e253_12, e253_15, e253_18, e253_19, e253_20, e253_21, e253_22, e253_25, e253_26, e253_27, e253_30, e253_31, e253_33, e253_36, e253_37, e253_38, e253_39, e253_42, e253_45, e253_46, e253_49, e253_50, e253_4r, k0, hO.2.1, rf_some, true_and]
    refine ⟨by simp, c_min ?_⟩
    simp only [tl_some, e253_0, e253_1, e253_4, e253_7, e253_8, e253_9, e253_10, e253_11, e253_12, e253_15, e253_18, e253_19, e253_20, e253_21, e253_22, e253_25, e253_26, e253_27, e253_30, e253_31, e253_33, e253_36, e253_37, e253_38, e253_39, e253_42, e253_45, e253_46, e253_49, e253_50, e253_4r, bI_eq0, k0, true_and]
    refine ⟨fun z => ?_, fun z => ?_⟩
    · have z' := ts_nf z
      rw [decide_eq_true_eq] at z'
      have hD : ¬ (D < 1 ∨ 4 < D) := fun y => y.elim (fun y => absurd z'.1 (Int32.not_le.mpr y)) (fun y => absurd z'.2 (Int32.not_le.mpr y))
      rw [if_neg hD] at eR
      have eD := dN_ok hD
      generalize hF : mj_u2 (mj_u2 (mj_u2 FI 668 q 0) 669 q 0) 670 q (-2) = F
      have hX : MQx q (a + 13) FI F AI AI AL AL := by rw [← hF]; exact ((MQx.fi (by decide)).trans (MQx.fi (by decide))).trans (MQx.fi (by decide))
      refine ⟨by simp, ?_⟩
      have go := fun QQ => c_goes (sa := sa) (d := d + (4 - dN D)) (n := n) (FL := FL) (AR := AR) (Q := QQ) (dN D) (len := 0) (c := 0) (lg := 0) (ls := none) (hO.ofQ hX hO.mh) (by rw [← hF, mj_u2_1 (by decide), mj_u2_1 (by decide), mj_u2_s]; rfl) (by omega) (by rw [← hF, mj_u2_1 (by decide), mj_u2_s]; rfl) (Nat.le_refl _) (by omega) (by rw [← hF, mj_u2_s]; rfl) (fun l hl => by cases hl) (by omega)
      rw [show d + (4 - dN D) + dN D + 10 = d + 14 by omega, ← eD] at go
      refine go _ fun F2 A2 L2 bb g1 g2 g3 g4 => ?_
      have hX2 := hX.trans g2
      simp only [Nat.zero_add] at g3 g4
      have hs4 := SRw_le s.1 (goalOf s.1 (-2)) (-2) (dN D) s.2.1.1 s.2.1.2.1
      simp only [tl_some, e253_0, e253_1, e253_4, e253_7, e253_8, e253_9, e253_10, e253_11, e253_12, e253_15, e253_18, e253_19, e253_20, e253_21, e253_22, e253_25, e253_26, e253_27, e253_30, e253_31, e253_33, e253_36, e253_37, e253_38, e253_39, e253_42, e253_45, e253_46, e253_49, e253_50, e253_4r, bI_eq0]
      refine ⟨fun y => ?_, fun y => ?_⟩
      · have hn : ¬ NRw s.1 (dN D) s.2.1.1 s.2.1.2.1 ≤ 20000 := fun e => by rw [g3.mpr e] at y; cases y
        rw [if_neg hn] at eR
        exact back F2 A2 L2 3 g1 hX2 eR (fun e => by cases e) (Nat.le_refl _)
      · have y2 := ts_nf y
        obtain ⟨-, r2, r3⟩ := g4 y2
        rw [if_pos (g3.mp y2)] at eR
        refine back F2 A2 L2 0 g1 hX2 eR (fun _ => ⟨by rw [r2]; congr 1, ?_⟩) (by omega)
        rw [r3]
        unfold shrt updL
        rw [p1, p2, p3]
        by_cases y3 : SRw s.1 (goalOf s.1 (-2)) (-2) (dN D) s.2.1.1 s.2.1.2.1 ≤ dN D
        · rw [if_pos y3, if_pos y3]
          simp only [minO, Nat.zero_add, oI]
        · rw [if_neg y3, if_neg y3]
          rfl
    · have hD : D < 1 ∨ 4 < D := by
        by_cases y1 : D < 1
        · exact Or.inl y1
        · refine Or.inr (Int32.not_le.mp fun y2 => z ?_)
          simp [Int32.not_lt.mp y1, y2]
      rw [if_pos hD] at eR
      exact back FI AI AL 2 hO MQx.rfl' eR (fun e => by cases e) (by omega)
theorem rowsR_none {D : Int32} {k : Nat} (es : gW P = none) : rowsR P D k = some 1 := by unfold rowsR; rw [es]; rfl
theorem c_m_far (hV : InvM q P (n, K, FI, FL, FR, AI, AL, AR)) {D : Int32} (hQ : ∀ μ', InvM q (rs P (sp_far P D)) μ' → FrM q (n, K, FI, FL, FR, AI, AL, AR) μ' → Q (some (.int (rv (sp_far P D)))) μ') : EV sa (d + 17) 255 [.ref q, .int D] (n, K, FI, FL, FR, AI, AL, AR) Q := by
  have hI0 : MInv q P n K FR FI AI AL := hV
  have k0 := hI0.1.1
  refine n255 k0 ?_
  simp only [e255_0, e255_1, e255_2, e255_5, e255_6, e255_7, e255_10, e255_11, e255_12, e255_15, e255_16, e255_17, e255_20, e255_23, e255_24, e255_25, e255_28, e255_31, k0, true_and]
  have hI := hI0.th (v := 0)
  have hF : FrM q (n, K, FI, FL, FR, AI, AL, AR) (n, K, mj_u2 FI 640 q 0, FL, FR, AI, AL, AR) := FrM.f
  generalize mj_u2 FI 640 q 0 = F at hI hF ⊢
  refine ⟨by simp, c_refusesSafely hI (fun es => ?_) (fun s es F2 A2 L2 a g1 g2 g3 r g4 g5 g6 => ?_)⟩
  · simp only [tl_some, e255_0, e255_1, e255_2, e255_5, e255_6, e255_7, e255_10, e255_11, e255_12, e255_15, e255_16, e255_17, e255_20, e255_23, e255_24, e255_25, e255_28, e255_31, mj_kl]
    refine ⟨fun z => absurd z (by decide), fun _ => ⟨by simp, c_mrefused k0 ?_⟩⟩
    simp only [tl_some, e255_0, e255_1, e255_2, e255_5, e255_6, e255_7, e255_10, e255_11, e255_12, e255_15, e255_16, e255_17, e255_20, e255_23, e255_24, e255_25, e255_28, e255_31]
    exact mrefQ hI hF hQ (k := 1) (by decide) (by unfold sp_far; rw [rowsR_none es])
  · obtain ⟨p1, p2, p3, p4⟩ := pWs es
    have hI2 := hI.qq es g1.2.1 g3 g1.mh
    have hF2 := hF.trans (g3.frm (n := n) (K := K) (FL := FL) (FR := FR) (AR := AR) g2)
    simp only [tl_some, e255_0, e255_1, e255_2, e255_5, e255_6, e255_7, e255_10, e255_11, e255_12, e255_15, e255_16, e255_17, e255_20, e255_23, e255_24, e255_25, e255_28, e255_31, mj_kl, k0, true_and]
    refine ⟨fun z => ⟨by simp, ?_⟩, fun z => ⟨by simp, c_mrefused k0 ?_⟩⟩
    · have r0 : r = 0 := by
        rcases Nat.eq_zero_or_pos r with y | y
        · exact y
        · exact absurd z (nI_nle y (by omega))
      subst r0
      rw [(g5 rfl).1]
      refine c_mgood k0 ?_
      simp only [tl_some, e255_0, e255_1, e255_2, e255_5, e255_6, e255_7, e255_10, e255_11, e255_12, e255_15, e255_16, e255_17, e255_20, e255_23, e255_24, e255_25, e255_28, e255_31]
      exact mansQ hI2 hF2 hQ (by unfold sp_far; rw [g4]; simp only [if_true]; rw [p1, p2, p3])
    · have r0 : r ≠ 0 := fun e => z (by rw [e]; decide)
      rw [if_neg r0] at g4
      simp only [tl_some, e255_0, e255_1, e255_2, e255_5, e255_6, e255_7, e255_10, e255_11, e255_12, e255_15, e255_16, e255_17, e255_20, e255_23, e255_24, e255_25, e255_28, e255_31]
      exact mrefQ hI2 hF2 hQ (k := r) (by omega) (by unfold sp_far; rw [g4])
theorem c_m_shortest (hV : InvM q P (n, K, FI, FL, FR, AI, AL, AR)) {D : Int32} (hQ : ∀ μ', InvM q (rs P (sp_shortest P D)) μ' → FrM q (n, K, FI, FL, FR, AI, AL, AR) μ' → Q (some (.int (rv (sp_shortest P D)))) μ') : EV sa (d + 17) 256 [.ref q, .int D] (n, K, FI, FL, FR, AI, AL, AR) Q := by
  have hI0 : MInv q P n K FR FI AI AL := hV
  have k0 := hI0.1.1
  refine n256 k0 ?_
  simp only [e256_0, e256_1, e256_2, e256_5, e256_6, e256_7, e256_10, e256_11, e256_12, e256_15, e256_16, e256_17, e256_20, e256_23, e256_24, e256_25, e256_28, e256_31, k0, true_and]
  have hI := hI0.th (v := 0)
  have hF : FrM q (n, K, FI, FL, FR, AI, AL, AR) (n, K, mj_u2 FI 640 q 0, FL, FR, AI, AL, AR) := FrM.f
  generalize mj_u2 FI 640 q 0 = F at hI hF ⊢
  refine ⟨by simp, c_refusesSafely hI (fun es => ?_) (fun s es F2 A2 L2 a g1 g2 g3 r g4 g5 g6 => ?_)⟩
  · simp only [tl_some, e256_0, e256_1, e256_2, e256_5, e256_6, e256_7, e256_10, e256_11, e256_12, e256_15, e256_16, e256_17, e256_20, e256_23, e256_24, e256_25, e256_28, e256_31, mj_kl]
    refine ⟨fun z => absurd z (by decide), fun _ => ⟨by simp, c_mrefused k0 ?_⟩⟩
    simp only [tl_some, e256_0, e256_1, e256_2, e256_5, e256_6, e256_7, e256_10, e256_11, e256_12, e256_15, e256_16, e256_17, e256_20, e256_23, e256_24, e256_25, e256_28, e256_31]
    exact mrefQ hI hF hQ (k := 1) (by decide) (by unfold sp_shortest; rw [rowsR_none es])
  · have hI2 := hI.qq es g1.2.1 g3 g1.mh
    have hF2 := hF.trans (g3.frm (n := n) (K := K) (FL := FL) (FR := FR) (AR := AR) g2)
    simp only [tl_some, e256_0, e256_1, e256_2, e256_5, e256_6, e256_7, e256_10, e256_11, e256_12, e256_15, e256_16, e256_17, e256_20, e256_23, e256_24, e256_25, e256_28, e256_31, mj_kl, k0, true_and]
    refine ⟨fun z => ⟨by simp, ?_⟩, fun z => ⟨by simp, c_mrefused k0 ?_⟩⟩
    · have r0 : r = 0 := by
        rcases Nat.eq_zero_or_pos r with y | y
        · exact y
        · exact absurd z (nI_nle y (by omega))
      subst r0
      rw [(g5 rfl).2]
      refine c_mgood k0 ?_
      simp only [tl_some, e256_0, e256_1, e256_2, e256_5, e256_6, e256_7, e256_10, e256_11, e256_12, e256_15, e256_16, e256_17, e256_20, e256_23, e256_24, e256_25, e256_28, e256_31]
      exact mansQ hI2 hF2 hQ (by unfold sp_shortest; rw [g4]; rfl)
    · have r0 : r ≠ 0 := fun e => z (by rw [e]; decide)
      rw [if_neg r0] at g4
      simp only [tl_some, e256_0, e256_1, e256_2, e256_5, e256_6, e256_7, e256_10, e256_11, e256_12, e256_15, e256_16, e256_17, e256_20, e256_23, e256_24, e256_25, e256_28, e256_31]
      exact mrefQ hI2 hF2 hQ (k := r) (by omega) (by unfold sp_shortest; rw [g4])
end
