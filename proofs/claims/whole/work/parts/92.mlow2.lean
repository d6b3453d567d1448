theorem ct_shift (p : Nat → Bool) : ∀ k, ct p (k + 1) = (if p 0 then 1 else 0) + ct (fun i => p (i + 1)) k
  | 0 => by simp [ct]
  | k + 1 => by
    rw [ct_top p (k + 1), ct_shift p k, ct_top (fun i => p (i + 1)) k]
    omega
/-- the lowest bit is taken away -/
theorem pc_low : ∀ (k n : Nat), 0 < n → n < 2 ^ k → ct (fun i => (n &&& (n - 1)).testBit i) k + 1 = ct (fun i => n.testBit i) k
  | 0, n, h1, h2 => by simp at h2; omega
  | k + 1, n, h1, h2 => by
    rw [ct_shift, ct_shift]
    have e0 : (n &&& (n - 1)).testBit 0 = false := by
      rw [Nat.testBit_and, Nat.testBit_zero, Nat.testBit_zero]
      by_cases q : n % 2 = 1
      · have : ¬ (n - 1) % 2 = 1 := by omega
        simp [this]
      · simp [q]
    have e1 : ∀ i, (n &&& (n - 1)).testBit (i + 1) = ((n / 2) &&& ((n - 1) / 2)).testBit i := fun i => by
      rw [Nat.testBit_and, Nat.testBit_and, Nat.testBit_succ, Nat.testBit_succ]
    have e2 : ∀ i, n.testBit (i + 1) = (n / 2).testBit i := fun i => Nat.testBit_succ _ _
    simp only [e0, e1, e2, Bool.false_eq_true, if_false]
    by_cases q : n % 2 = 1
    · rw [show (n - 1) / 2 = n / 2 by omega, Nat.and_self]
      simp only [Nat.testBit_zero, q, decide_true, if_true]
      omega
    · have hh : n / 2 < 2 ^ k := by rw [Nat.pow_succ] at h2; omega
      have ih := pc_low k (n / 2) (by omega) hh
      rw [show (n - 1) / 2 = n / 2 - 1 by omega]
      simp only [Nat.testBit_zero, q, decide_false, Bool.false_eq_true, if_false]
      omega
theorem lN_pred {m : Nat} (h : 0 < m) : lN m - 1 = lN (m - 1) := by
  obtain ⟨j, rfl⟩ : ∃ j, m = j + 1 := ⟨m - 1, by omega⟩
  apply wb_inj
  rw [Int64.toBitVec_sub, wb_tb, wb_tb]
  show BitVec.ofNat 64 (j + 1) - 1#64 = BitVec.ofNat 64 (j + 1 - 1)
  rw [Nat.add_sub_cancel, BitVec.ofNat_add]
  exact BitVec.add_sub_cancel _ _
theorem lN_0 : lN 0 = 0 := by decide
section
variable {sa : Nat → Nat} {d n t h m : Nat} {Q : mj_Q} {K : Nat → Nat × Nat} {FI : Nat → Nat → Int32} {FL : Nat → Nat → Int64} {FR : Nat → Nat → Option Nat} {AI : Nat → Nat → Int32} {AL : Nat → Nat → Int64} {AR : Nat → Nat → Option Nat} {w : Wl} {hs : Nat → Hg}
variable {a u q : Nat}
theorem c_bits {v : Int64} {p : Nat → Bool} {μ : mj_M} (hv : MkL v p) (hQ : Q (some (.int (nI (ct p 32)))) μ) : EV sa (d + 1) 170 [.long v] μ Q := by
  obtain ⟨m, hm, rfl⟩ := wb_of v
  have hb : ∀ i, i < 64 → m.testBit i = (decide (i < 32) && p i) := fun i hi => by rw [← hv i hi, bL_lN hi]
  have h64 : ct (fun i => m.testBit i) 64 = ct p 32 := by
    have e1 : ct (fun i => m.testBit i) (32 + 32) = ct (fun i => m.testBit i) 32 := ct_none fun k h1 h2 => by rw [hb k (by omega)]; simp; omega
    rw [e1]
    exact ct_congr fun k hk => by rw [hb k (by omega)]; simp [hk]
  have loop : ∀ c, ∀ (z j : Nat), z < 2 ^ 64 → ct (fun i => z.testBit i) 64 = c → j + c = ct p 32 → WP sa (EV sa d) 170 Q 0 0 4 [.long (lN m), mj_u, .int (nI j), .long (lN z), mj_u] [] μ := by
    intro c
    induction c with
    | zero =>
      intro z j hz hc hj
      have z0 : z = 0 := by
        rcases Nat.eq_zero_or_pos z with y | y
        · exact y
        · have := pc_low 64 z y hz
          omega
      subst z0
      rw [e170_4]
      simp only [e170_0, e170_1, e170_2, e170_3, e170_5, e170_6, e170_7, e170_10, e170_13, e170_14, e170_15, e170_16, e170_17, e170_18, e170_19, e170_22, e170_23, lg_cmp_0, lN_0]
      refine ⟨fun _ => ?_, fun y => absurd trivial y⟩
      rw [show j = ct p 32 by omega]
      exact hQ
    | succ c ih =>
      intro z j hz hc hj
      have zp : 0 < z := by
        rcases Nat.eq_zero_or_pos z with y | y
        · subst y
          have : ct (fun i => (0 : Nat).testBit i) 64 = 0 := ct_zero.mpr (ex_false.mpr fun k _ => by simp)
          omega
        · exact y
      have hn0 : ¬ lN z = 0 := fun e => by
        have := congrArg (fun y => y.toBitVec.toNat) e
        simp only [wb_tn hz] at this
        have e0 : (0 : Int64).toBitVec.toNat = 0 := by decide
        omega
      have hp := pc_low 64 z zp hz
      have hlt : z &&& (z - 1) < 2 ^ 64 := Nat.lt_of_le_of_lt Nat.and_le_left hz
      have nx := ih (z &&& (z - 1)) (j + 1) hlt (by omega) (by omega)
      rw [e170_4]
      simp only [e170_0, e170_1, e170_2, e170_3, e170_5, e170_6, e170_7, e170_10, e170_13, e170_14, e170_15, e170_16, e170_17, e170_18, e170_19, e170_22, e170_23, lg_cmp_0, lN_pred zp, wb_and hz (show z - 1 < 2 ^ 64 by omega), nI_1, mj_kl]
      refine ⟨fun y => absurd y hn0, fun _ => ?_⟩
      simpa [mj_u, mj_kl] using nx
  refine n170 ?_
  simp only [e170_0, e170_1, e170_2, e170_3, e170_5, e170_6, e170_7, e170_10, e170_13, e170_14, e170_15, e170_16, e170_17, e170_18, e170_19, e170_22, e170_23, mj_kl]
  have := loop (ct p 32) m 0 hm h64 (by omega)
  simpa [nI_0, mj_u, mj_kl] using this
theorem c_adds (hS : MWS K FR a) (hw : wOK w) (hM : MW FI AI a w) (hH : MHS K FR u) (sep : a + 12 < u ∨ u + 2 < a) (hR : MH AI AL u w hs m) (hm : m < 30) {b x y : Nat} {r : Int32} (ho : onW w b x y) (hQ : ∀ (AI' : Nat → Nat → Int32) (AL' : Nat → Nat → Int64), MH AI' AL' u w (puth hs m (b, x, y, r)) (m + 1) → (∀ j, 121 ≤ j → AI' (u + 1) j = AI (u + 1) j) → AIx AI AI' (u + 1) (u + 1) → ALx AL AL' (u + 2) (u + 2) → Q none (n, K, FI, FL, FR, AI', AL', AR)) : EV sa (d + 2) 154 [.ref u, .ref a, .int (nI b), .int (nI x), .int (nI y), .int r] (n, K, FI, FL, FR, AI, AL, AR) Q := by
  obtain ⟨k0, ⟨f0, k1⟩, ⟨f1, k2⟩⟩ := id hH
  obtain ⟨r1, r2, r3⟩ := hR
  have in0 : vp_in (0 : Int32) 127 := vp_in_nI (n := 0) (by decide) (by decide)
  have i1 : vp_in (nI (1 + m)) 127 := vp_in_nI (by omega) (by decide)
  have c1 : (nI (1 + m)).toNatClampNeg = 1 + m := nI_clamp (by omega)
  have i2 : vp_in (nI (31 + m)) 127 := vp_in_nI (by omega) (by decide)
  have c2 : (nI (31 + m)).toNatClampNeg = 31 + m := nI_clamp (by omega)
  have i3 : vp_in (nI (61 + m)) 127 := vp_in_nI (by omega) (by decide)
  have c3 : (nI (61 + m)).toNatClampNeg = 61 + m := nI_clamp (by omega)
  have i4 : vp_in (nI (91 + m)) 127 := vp_in_nI (by omega) (by decide)
  have c4 : (nI (91 + m)).toNatClampNeg = 91 + m := nI_clamp (by omega)
  have hmin : vp_in (nI m) 30 := vp_in_nI hm (by decide)
  have hmcl : (nI m).toNatClampNeg = m := nI_clamp (by omega)
  refine n154 k0 ?_
  simp only [e154_0, e154_1, e154_4, e154_5, e154_6, e154_8, e154_9, e154_12, e154_13, e154_15, e154_16, e154_17, e154_18, e154_19, e154_22, e154_24, e154_26, e154_27, e154_28, e154_29, e154_30, e154_33, e154_35, e154_37, e154_38, e154_40, e154_41, e154_42, e154_45, e154_47, e154_49, e154_50, e154_52, e154_53, e154_54, e154_57, e154_59, e154_60, e154_61, e154_62, e154_64, e154_67, e154_68, e154_69, e154_72, e154_73, e154_74, e154_75, e154_76, e154_77, e154_78, k0, f0, f1, k1, rf_some, in0, cl0, r1, show (1 : Int32) = nI 1 from rfl, show (31 : Int32) = nI 31 from rfl, show (61 : Int32) = nI 61 from rfl, show (91 : Int32) = nI 91 from rfl, nI_add, i1, c1, i2, c2, i3, c3, i4, c4, true_and, true_or, mj_kl, mj_u]
  refine ⟨by simp, ?_⟩
  generalize hA : mj_u2 (mj_u2 (mj_u2 (mj_u2 AI (u + 1) (1 + m) (nI b)) (u + 1) (31 + m) (nI x)) (u + 1) (61 + m) (nI y)) (u + 1) (91 + m) r = A
  have aA : ∀ z, z ≠ u + 1 → A z = AI z := fun z hz => by rw [← hA]; funext j; rw [mj_u2_1 hz, mj_u2_1 hz, mj_u2_1 hz, mj_u2_1 hz]
  have aV : ∀ j, A (u + 1) j = if j = 91 + m then r else if j = 61 + m then nI y else if j = 31 + m then nI x else if j = 1 + m then nI b else AI (u + 1) j := fun j => by rw [← hA]; simp [mj_u2]
  have hM' : MW FI A a w := by
    obtain ⟨m1, m2, m3⟩ := hM
    refine ⟨m1, fun b hb => ?_, fun v hv => ?_⟩
    · rw [aA _ (by omega), aA _ (by omega), aA _ (by omega), aA _ (by omega), aA _ (by omega)]
      exact m2 b hb
    · rw [aA _ (by omega), aA _ (by omega)]
      exact m3 v hv
  refine c_mcells hS hw hM' ho fun v hv => ?_
  have z0 : A (u + 1) 0 = nI m := by rw [aV, if_neg (by omega), if_neg (by omega), if_neg (by omega), if_neg (by omega)]; exact r1
  simp only [tl_some, e154_0, e154_1, e154_4, e154_5, e154_6, e154_8, e154_9, e154_12, e154_13, e154_15, e154_16, e154_17, e154_18, e154_19, e154_22, e154_24, e154_26, e154_27, e154_28, e154_29, e154_30, e154_33, e154_35, e154_37, e154_38, e154_40, e154_41, e154_42, e154_45, e154_47, e154_49, e154_50, e154_52, e154_53, e154_54, e154_57, e154_59, e154_60, e154_61, e154_62, e154_64, e154_67, e154_68, e154_69, e154_72, e154_73, e154_74, e154_75, e154_76, e154_77, e154_78, k0, f0, k1, k2, rf_some, in0, cl0, hmin, hmcl, z0, nI_1, show nI m + nI 1 = nI (m + 1) from nI_1 m, true_and, true_or]
  refine hQ _ _ ⟨mj_u2_s, by omega, fun k hk => ?_⟩ (fun j hj => ?_) (fun z hz => ?_) (fun z hz => ?_)
  · rw [mj_u2_2 (by omega), mj_u2_2 (by omega), mj_u2_2 (by omega), mj_u2_2 (by omega), aV, aV, aV, aV]
    by_cases e : k = m
    · subst e
      rw [puth_eq, if_neg (by omega), if_neg (by omega), if_neg (by omega), if_pos rfl, if_neg (by omega), if_neg (by omega), if_pos rfl, if_neg (by omega), if_pos rfl, if_pos rfl, mj_u2_s]
      exact ⟨ho, rfl, rfl, rfl, rfl, hv⟩
    · rw [puth_lt (by omega), if_neg (by omega), if_neg (by omega), if_neg (by omega), if_neg (by omega), if_neg (by omega), if_neg (by omega), if_neg (by omega), if_neg (by omega), if_neg (by omega), if_neg (by omega), if_neg (by omega), if_neg (by omega), if_neg (by omega), if_neg (by omega), if_neg (by omega), if_neg (by omega), mj_u2_2 e]
      exact r3 k (by omega)
  · rw [mj_u2_2 (by omega), aV, if_neg (by omega), if_neg (by omega), if_neg (by omega), if_neg (by omega)]
  · funext j
    rw [mj_u2_1 (by omega), aA z (by omega)]
  · funext j
    exact mj_u2_1 (by omega)
theorem MH.cut (hR : MH AI AL u w hs (m + 1)) : MH (mj_u2 AI (u + 1) 0 (nI m)) AL u w hs m := by
  obtain ⟨r1, r2, r3⟩ := hR
  refine ⟨mj_u2_s, by omega, fun k hk => ?_⟩
  rw [mj_u2_2 (by omega), mj_u2_2 (by omega), mj_u2_2 (by omega), mj_u2_2 (by omega)]
  exact r3 k (by omega)
theorem MH.congr {hs' : Nat → Hg} (hR : MH AI AL u w hs m) (e : ∀ k, k < m → hs k = hs' k) : MH AI AL u w hs' m := ⟨hR.1, hR.2.1, fun k hk => by rw [← e k hk]; exact hR.2.2 k hk⟩
/-- which one each cell shows -/
def TopR (AI : Nat → Nat → Int32) (q : Nat) (w : Wl) (hs : Nat → Hg) (m : Nat) : Prop := ∀ c, c < 32 → AI (q + 1) c = oI (tp w hs m c) (-1)
theorem c_looks (hD : MdS K FR q) (hH : MHS K FR u) (sep : q + 1 ≠ u + 1) (hR : MH AI AL u w hs m) (hQ : ∀ AI' : Nat → Nat → Int32, TopR AI' q w hs m → AIx AI AI' (q + 1) (q + 1) → Q none (n, K, FI, FL, FR, AI', AL, AR)) : EV sa (d + 2) 168 [.ref q, .ref a, .ref u] (n, K, FI, FL, FR, AI, AL, AR) Q := by
  obtain ⟨k0, ⟨f0, k1⟩, -⟩ := id hD
  obtain ⟨ku, ⟨g0, ku1⟩, ⟨g1, ku2⟩⟩ := id hH
  obtain ⟨r1, r2, r3⟩ := id hR
  have outer : ∀ rr c, c + rr = 32 → ∀ A : Nat → Nat → Int32, AIx AI A (q + 1) (q + 1) → (∀ j, j < c → A (q + 1) j = oI (tp w hs m j) (-1)) → ∀ x4 : Value, WP sa (EV sa (d + 1)) 168 Q 0 0 2 [.ref q, .ref a, .ref u, .int (nI c), x4] [] (n, K, FI, FL, FR, A, AL, AR) := by
    intro rr
    induction rr with
    | zero =>
      intro c hc A h1 h2 x4
      have hc' : c = 32 := by omega
      subst hc'
      rw [e168_2]
      simp only [e168_0, e168_1, e168_3, e168_5, e168_8, e168_9, e168_12, e168_13, e168_14, e168_15, e168_16, e168_19, e168_20, e168_21, e168_25, e168_28, e168_29, e168_32, e168_33, e168_34, e168_35, e168_38, e168_39, e168_42, e168_44, e168_45, e168_46, e168_47, e168_48, e168_49, e168_50, e168_51, e168_54, e168_55, e168_58, e168_59, e168_61, e168_62, e168_65, e168_71, e168_74]
      exact ⟨fun _ => hQ A h2 h1, fun z => absurd (by decide) z⟩
    | succ rr IH =>
      intro c hc A h1 h2 x4
      have hin : vp_in (nI c) 32 := vp_in_nI (by omega) (by decide)
      have hcl : (nI c).toNatClampNeg = c := nI_clamp (by omega)
      generalize hA0 : mj_u2 A (q + 1) c (-1) = A0
      have a0o : ∀ z, z ≠ q + 1 → A0 z = AI z := fun z hz => by rw [← hA0]; funext j; rw [mj_u2_1 hz, h1 z (by omega)]
      have a0c : A0 (q + 1) c = -1 := by rw [← hA0]; exact mj_u2_s
      have a0j : ∀ j, j ≠ c → A0 (q + 1) j = A (q + 1) j := fun j hj => by rw [← hA0]; exact mj_u2_2 hj
      have next : ∀ B : Nat → Nat → Int32, (∀ z, z ≠ q + 1 → B z = AI z) → B (q + 1) c = oI (tp w hs m c) (-1) → (∀ j, j ≠ c → B (q + 1) j = A (q + 1) j) → ∀ x4 : Value, WP sa (EV sa (d + 1)) 168 Q 0 0 68 [.ref q, .ref a, .ref u, .int (nI c), x4] [] (n, K, FI, FL, FR, B, AL, AR) := by
        intro B g1 g2 g3 x4
        simp only [e168_68, e168_71, nI_1, mj_kl]
        refine IH (c + 1) (by omega) B (fun z hz => g1 z (by omega)) (fun j hj => ?_) _
        by_cases e : j = c
        · subst e; exact g2
        · rw [g3 j e]; exact h2 j (by omega)
      have inner : ∀ i, i ≤ m → tp w hs m c = tp w hs i c → WP sa (EV sa (d + 1)) 168 Q 0 0 23 [.ref q, .ref a, .ref u, .int (nI c), .int (nI i - 1)] [] (n, K, FI, FL, FR, A0, AL, AR) := by
        intro i
        induction i with
        | zero =>
          intro _ ht
          rw [e168_23]
          simp only [e168_0, e168_1, e168_3, e168_5, e168_8, e168_9, e168_12, e168_13, e168_14, e168_15, e168_16, e168_19, e168_20, e168_21, e168_25, e168_28, e168_29, e168_32, e168_33, e168_34, e168_35, e168_38, e168_39, e168_42, e168_44, e168_45, e168_46, e168_47, e168_48, e168_49, e168_50, e168_51, e168_54, e168_55, e168_58, e168_59, e168_61, e168_62, e168_65, e168_71, e168_74]
          exact ⟨fun _ => next A0 a0o (by rw [a0c, ht]; rfl) a0j _, fun z => absurd (by decide) z⟩
        | succ i ih =>
          intro hi ht
          have hin2 : vp_in (nI i) 30 := vp_in_nI (by omega) (by decide)
          have hcl2 : (nI i).toNatClampNeg = i := nI_clamp (by omega)
          have hb := bit_is1 (r3 i (by omega)).2.2.2.2.2 (c := c) (by omega)
          rw [e168_23, nI_pred]
          simp only [e168_0, e168_1, e168_3, e168_5, e168_8, e168_9, e168_12, e168_13, e168_14, e168_15, e168_16, e168_19, e168_20, e168_21, e168_25, e168_28, e168_29, e168_32, e168_33, e168_34, e168_35, e168_38, e168_39, e168_42, e168_44, e168_45, e168_46, e168_47, e168_48, e168_49, e168_50, e168_51, e168_54, e168_55, e168_58, e168_59, e168_61, e168_62, e168_65, e168_71, e168_74, k0, f0, k1, ku, g1, ku2, rf_some, hin, hcl, hin2, hcl2, a0c, lg_cmp_0, hb, true_and, true_or, mj_kl]
          refine ⟨fun z => absurd z (nI_pos (by omega)), fun _ => ⟨fun z => absurd trivial z, fun _ => ⟨fun z => ?_, fun z => ?_⟩⟩⟩
          · have nx := ih (by omega) (by rw [ht]; simp only [tp]; rw [if_neg z])
            simpa [Int32.sub_eq_add_neg] using nx
          · have z' : covg w (hs i) c = true := by simpa using z
            have e : tp w hs m c = some i := by rw [ht]; simp only [tp]; rw [if_pos z']
            generalize hB : mj_u2 A0 (q + 1) c (nI i) = B
            have bv : B (q + 1) c = nI i := by rw [← hB]; exact mj_u2_s
            have go := next B (fun z hz => by rw [← hB]; funext j; rw [mj_u2_1 hz, a0o z hz]) (by rw [bv, e]; rfl) (fun j hj => by rw [← hB, mj_u2_2 hj, a0j j hj])
            rw [e168_23]
            simp only [e168_0, e168_1, e168_3, e168_5, e168_8, e168_9, e168_12, e168_13, e168_14, e168_15, e168_16, e168_19, e168_20, e168_21, e168_25, e168_28, e168_29, e168_32, e168_33, e168_34, e168_35, e168_38, e168_39, e168_42, e168_44, e168_45, e168_46, e168_47, e168_48, e168_49, e168_50, e168_51, e168_54, e168_55, e168_58, e168_59, e168_61, e168_62, e168_65, e168_71, e168_74, k0, f0, k1, rf_some, hin, hcl, bv, true_and, true_or]
            refine ⟨fun _ => go _, fun _ => ⟨fun _ => go _, fun y => absurd ?_ y⟩⟩
            intro e2
            have : nI i < 0 := by rw [e2]; decide
            exact absurd this (nI_pos (by omega))
      rw [e168_2]
      simp only [e168_0, e168_1, e168_3, e168_5, e168_8, e168_9, e168_12, e168_13, e168_14, e168_15, e168_16, e168_19, e168_20, e168_21, e168_25, e168_28, e168_29, e168_32, e168_33, e168_34, e168_35, e168_38, e168_39, e168_42, e168_44, e168_45, e168_46, e168_47, e168_48, e168_49, e168_50, e168_51, e168_54, e168_55, e168_58, e168_59, e168_61, e168_62, e168_65, e168_71, e168_74, k0, f0, k1, rf_some, hin, hcl, hA0, true_and, true_or]
      refine ⟨fun z => absurd z (by rw [show (32 : Int32) = nI 32 from rfl]; exact nI_ge (by omega) (by omega)), fun _ => ⟨by simp, c_many hH ?_⟩⟩
      have z0 : A0 (u + 1) 0 = nI m := by rw [a0o _ (by omega)]; exact r1
      rw [z0]
      simp only [tl_some, e168_0, e168_1, e168_3, e168_5, e168_8, e168_9, e168_12, e168_13, e168_14, e168_15, e168_16, e168_19, e168_20, e168_21, e168_25, e168_28, e168_29, e168_32, e168_33, e168_34, e168_35, e168_38, e168_39, e168_42, e168_44, e168_45, e168_46, e168_47, e168_48, e168_49, e168_50, e168_51, e168_54, e168_55, e168_58, e168_59, e168_61, e168_62, e168_65, e168_71, e168_74, mj_kl]
      exact inner m (Nat.le_refl _) rfl
  refine n168 k0 ?_
  simp only [e168_0, e168_1, e168_3, e168_5, e168_8, e168_9, e168_12, e168_13, e168_14, e168_15, e168_16, e168_19, e168_20, e168_21, e168_25, e168_28, e168_29, e168_32, e168_33, e168_34, e168_35, e168_38, e168_39, e168_42, e168_44, e168_45, e168_46, e168_47, e168_48, e168_49, e168_50, e168_51, e168_54, e168_55, e168_58, e168_59, e168_61, e168_62, e168_65, e168_71, e168_74, mj_kl, mj_u]
  have := outer 32 0 (by omega) AI AIx.rfl' (fun j hj => by omega) mj_u
  simpa [nI_0, mj_u] using this
end
