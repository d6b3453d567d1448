theorem mvp_out {w : Wl} {hs : Nat → Hg} {m b i : Nat} (hw : wOK w) (hb : b < wNB w) (h1 : 32 * b + wW w * wH w ≤ i) (h2 : i < 32 * (b + 1)) : mvp w hs m i = false := by
  have hW : 0 < wW w := by have := hw.1.1; omega
  have eb : i / 32 = b := by omega
  unfold mvp mayAt onAt
  rw [eb]
  have hbb := (hw.2.2.2.2.2.2.1 b hb).2.2.1.1
  have : wH w ≤ i % 32 / wW w := (Nat.le_div_iff_mul_le hW).mpr (by rw [Nat.mul_comm]; omega)
  rw [decide_eq_false (by omega), Bool.false_and]
theorem mvp_at {w : Wl} {hs : Nat → Hg} {m b c : Nat} (hc : c < 32) : mvp w hs m (32 * b + c) = mayAt w hs m b c := by
  unfold mvp
  rw [show (32 * b + c) / 32 = b by omega, show (32 * b + c) % 32 = c by omega]
theorem pushM_at {w : Wl} {hs : Nat → Hg} {m b c : Nat} {r : Int32} (hc : c < 32) : pushM w hs m (32 * b + c) r = puth hs m (b, c % wW w, c / wW w, r) := by
  unfold pushM
  rw [show (32 * b + c) / 32 = b by omega, show (32 * b + c) % 32 = c by omega]
theorem sm_skip {f : Nat → Nat} {a : Nat} : ∀ {k}, (∀ i, a ≤ i → i < a + k → f i = 0) → sm f (a + k) = sm f a
  | 0, _ => rfl
  | k + 1, h => by
    show sm f (a + k) + f (a + k) = sm f a
    rw [sm_skip (fun i h1 h2 => h i h1 (by omega)), h (a + k) (by omega) (by omega)]
    rfl
theorem mxm_skip {f : Nat → Nat} {a : Nat} : ∀ {k}, (∀ i, a ≤ i → i < a + k → f i = 0) → mxm f (a + k) = mxm f a
  | 0, _ => rfl
  | k + 1, h => by
    show max (mxm f (a + k)) (f (a + k)) = mxm f a
    rw [mxm_skip (fun i h1 h2 => h i h1 (by omega)), h (a + k) (by omega) (by omega)]
    omega
theorem mnm_skip {f : Nat → Nat} {top a : Nat} : ∀ {k}, (∀ i, a ≤ i → i < a + k → top ≤ f i) → mnm f top (a + k) = mnm f top a
  | 0, _ => rfl
  | k + 1, h => by
    show min (mnm f top (a + k)) (f (a + k)) = mnm f top a
    rw [mnm_skip (fun i h1 h2 => h i h1 (by omega))]
    have h1 := h (a + k) (by omega) (by omega)
    have h2 := mnm_le_top f top a
    omega
theorem ex_skip {p : Nat → Bool} {a : Nat} : ∀ {k}, (∀ i, a ≤ i → i < a + k → p i = false) → ex p (a + k) = ex p a
  | 0, _ => rfl
  | k + 1, h => by
    show (ex p (a + k) || p (a + k)) = ex p a
    rw [ex_skip (fun i h1 h2 => h i h1 (by omega)), h (a + k) (by omega) (by omega), Bool.or_false]
theorem mayAt_30 {w : Wl} {hs : Nat → Hg} {m b c : Nat} (h : mayAt w hs m b c = true) : m ≠ 30 ∧ onAt w b c = true := by
  unfold mayAt at h
  obtain ⟨h1, h2⟩ := Bool.and_eq_true_iff.mp h
  refine ⟨fun e => ?_, h1⟩
  subst e
  simp [may, could] at h2
section
variable {sa : Nat → Nat} {d n t h m : Nat} {Q : mj_Q} {K : Nat → Nat × Nat} {FI : Nat → Nat → Int32} {FL : Nat → Nat → Int64} {FR : Nat → Nat → Option Nat} {AI : Nat → Nat → Int32} {AL : Nat → Nat → Int64} {AR : Nat → Nat → Option Nat} {w : Wl} {hs : Nat → Hg}
variable {a u q : Nat} {P : PG}
theorem c_mpastedR (hO : MO K FR FI AI AL q a w hs m) {b c : Nat} {r : Int32} (hb : b < wNB w) (hm : mayAt w hs m b c = true) (hQ : ∀ (AI' : Nat → Nat → Int32) (AL' : Nat → Nat → Int64), MO K FR FI AI' AL' q a w (puth hs m (b, c % wW w, c / wW w, r)) (m + 1) → MX q (a + 13) AI AI' AL AL' → Q none (n, K, FI, FL, FR, AI', AL', AR)) : EV sa (d + 2) 154 [.ref (a + 13), .ref a, .int (nI b), .int (nI (c % wW w)), .int (nI (c / wW w)), .int r] (n, K, FI, FL, FR, AI, AL, AR) Q := by
  obtain ⟨h30, hon⟩ := mayAt_30 hm
  have hm30 := hO.mh.2.1
  have s2 := hO.1.2.2.2.2.2.2.2
  refine c_adds hO.1.2.1 hO.ok hO.1.2.2.2.1 hO.1.2.2.2.2.1 (Or.inl s2) hO.mh (by omega) (onAt_on hb hon) fun A L h1 h2 h3 h4 => ?_
  have hX : MX q (a + 13) AI A AL L := ⟨fun z _ _ z3 => h3 z (by omega), h2, fun z hz => h4 z (by omega)⟩
  exact hQ A L (hO.ofX (hO.1.of hX h1)) hX
theorem c_mpasted (hO : MO K FR FI AI AL q a w hs m) {b c : Nat} (hb : b < wNB w) (hc : c < 32) (hm : mayAt w hs m b c = true) (hQ : ∀ (AI' : Nat → Nat → Int32) (AL' : Nat → Nat → Int64), MO K FR FI AI' AL' q a w (puth hs m (b, c % wW w, c / wW w, -2)) (m + 1) → MX q (a + 13) AI AI' AL AL' → Q none (n, K, FI, FL, FR, AI', AL', AR)) : EV sa (d + 3) 247 [.ref q, .int (nI b), .int (nI c)] (n, K, FI, FL, FR, AI, AL, AR) Q := by
  obtain ⟨w1, -⟩ := hO.1.2.2.2.1.1
  have hW := hO.ok.1
  have nW : ¬ nI (wW w) = 0 := nI_ne0 (by omega) (by omega)
  refine n247 hO.k ?_
  simp only [e247_0, e247_1, e247_4, e247_5, e247_8, e247_9, e247_10, e247_11, e247_14, e247_17, e247_18, e247_19, e247_20, e247_23, e247_26, e247_27, e247_29, e247_32, hO.k, hO.2.1, hO.2.2, rf_some, hO.1.2.1.1, w1, nW, pk_div (show c < 2 ^ 31 by omega) (show 0 < wW w by omega) (show wW w < 2 ^ 31 by omega), rem_m1, rem_m2, not_false_eq_true, true_and]
  refine ⟨by simp, c_mpastedR hO hb hm fun A L g1 g2 => ?_⟩
  simp only [tl_none, e247_0, e247_1, e247_4, e247_5, e247_8, e247_9, e247_10, e247_11, e247_14, e247_17, e247_18, e247_19, e247_20, e247_23, e247_26, e247_27, e247_29, e247_32]
  exact hQ A L g1 g2
theorem MO.off (hO : MO K FR FI AI AL q a w hs (m + 1)) : MO K FR FI (mj_u2 AI (a + 13 + 1) 0 (AI (a + 13 + 1) 0 - 1)) AL q a w hs m ∧ MX q (a + 13) AI (mj_u2 AI (a + 13 + 1) 0 (AI (a + 13 + 1) 0 - 1)) AL AL := by
  have hR := hO.mh
  have hX : MX q (a + 13) AI (mj_u2 AI (a + 13 + 1) 0 (nI m)) AL AL := ⟨fun z _ _ z3 => by funext j; exact mj_u2_1 z3, fun j hj => mj_u2_2 (by omega), fun _ _ => rfl⟩
  rw [hR.1, nI_pred]
  exact ⟨hO.ofX (hO.1.of hX hR.cut), hX⟩
theorem MO.congr {hs' : Nat → Hg} (hO : MO K FR FI AI AL q a w hs m) (e : ∀ k, k < m → hs k = hs' k) : MO K FR FI AI AL q a w hs' m := by
  obtain ⟨⟨v1, v2, v3, v4, v5, v6, v7, v8⟩, h⟩ := hO
  exact ⟨⟨v1, v2, v3, v4, v5, v6.congr e, v7, v8⟩, h⟩
theorem c_seenNow (hO : MO K FR FI AI AL q a w hs m) {k : Nat} (hk : k < 1000) (hQ : ∀ (AI' : Nat → Nat → Int32), MO K FR FI AI' AL q a w hs m → MX q (a + 13) AI AI' AL AL → Q (some (.int (nI (ct (fun c => tp w hs m c == some k) 32)))) (n, K, FI, FL, FR, AI', AL, AR)) : EV sa (d + 3) 248 [.ref q, .int (nI k)] (n, K, FI, FL, FR, AI, AL, AR) Q := by
  have k0 := hO.k
  have s1 := hO.1.2.2.2.2.2.2.1
  refine n248 k0 ?_
  simp only [e248_0, e248_1, e248_2, e248_5, e248_6, e248_9, e248_12, e248_13, e248_14, e248_17, e248_20, k0, hO.2.1, hO.2.2, rf_some, true_and]
  refine ⟨by simp, c_looks hO.1.1 hO.1.2.2.2.2.1 (by omega) hO.mh fun A t x' => ?_⟩
  have hX : MX q (a + 13) AI A AL AL := ⟨fun z z1 _ _ => x' z (by omega), fun j _ => by rw [x' _ (by omega)], fun _ _ => rfl⟩
  have hA := hO.ofX (hO.1.of hX (hO.mh.fr (AL' := AL) (x' _ (by omega)) rfl))
  simp only [tl_none, e248_0, e248_1, e248_2, e248_5, e248_6, e248_9, e248_12, e248_13, e248_14, e248_17, e248_20]
  refine ⟨by simp, c_mseenOf hO.1.1 t hO.mh.2.1 hk fun v hv => ?_⟩
  simp only [tl_some, e248_0, e248_1, e248_2, e248_5, e248_6, e248_9, e248_12, e248_13, e248_14, e248_17, e248_20]
  refine ⟨by simp, c_bits hv ?_⟩
  simp only [tl_some, e248_0, e248_1, e248_2, e248_5, e248_6, e248_9, e248_12, e248_13, e248_14, e248_17, e248_20]
  exact hQ A hA hX
theorem c_staysNow (hO : MO K FR FI AI AL q a w hs m) {b c : Nat} (hb : b < wNB w) (hc : c < 32) (hm : mayAt w hs m b c = true) (hQ : ∀ (AI' : Nat → Nat → Int32) (AL' : Nat → Nat → Int64), MO K FR FI AI' AL' q a w hs m → MX q (a + 13) AI AI' AL AL' → Q (some (.int (nI (stayN w hs m b c)))) (n, K, FI, FL, FR, AI', AL', AR)) : EV sa (d + 8) 249 [.ref q, .int (nI b), .int (nI c)] (n, K, FI, FL, FR, AI, AL, AR) Q := by
  have k0 := hO.k
  have h32 := hO.c32
  have hw := hO.ok
  have hn4 := hw.2.2.2.1
  have h30 := hO.mh.2.1
  obtain ⟨hm30, hon⟩ := mayAt_30 hm
  refine n249 k0 ?_
  simp only [e249_0, e249_1, e249_2, e249_3, e249_6, e249_7, e249_10, e249_13, e249_14, e249_15, e249_16, e249_17, e249_18, e249_21, e249_23, e249_24, e249_28, e249_29, e249_32, e249_35, e249_38, e249_39, e249_43, e249_44, e249_47, e249_50, e249_51, e249_53, e249_55, e249_58, e249_61, e249_62, e249_64, e249_66, e249_69, e249_72, e249_75, e249_76, e249_78, e249_80, e249_83, e249_84, e249_85, e249_88, e249_90, e249_92, e249_94, e249_97, e249_99, e249_102, e249_104, e249_106, e249_107, e249_110, e249_113, e249_116, e249_119, e249_122, e249_125, e249_126, e249_129, e249_132, e249_134]
  refine ⟨by simp, c_mpasted hO hb hc hm fun A1 L1 g1 g2 => ?_⟩
  generalize hg : ((b, c % wW w, c / wW w, (-2 : Int32)) : Hg) = g at g1
  have hcg : ∀ z, covg w g z = cov w b (c % wW w) (c / wW w) z := fun z => by rw [← hg]; rfl
  generalize hh : puth hs m g = hs1 at g1
  simp only [tl_none, e249_0, e249_1, e249_2, e249_3, e249_6, e249_7, e249_10, e249_13, e249_14, e249_15, e249_16, e249_17, e249_18, e249_21, e249_23, e249_24, e249_28, e249_29, e249_32, e249_35, e249_38, e249_39, e249_43, e249_44, e249_47, e249_50, e249_51, e249_53, e249_55, e249_58, e249_61, e249_62, e249_64, e249_66, e249_69, e249_72, e249_75, e249_76, e249_78, e249_80, e249_83, e249_84, e249_85, e249_88, e249_90, e249_92, e249_94, e249_97, e249_99, e249_102, e249_104, e249_106, e249_107, e249_110, e249_113, e249_116, e249_119, e249_122, e249_125, e249_126, e249_129, e249_132, e249_134, k0, g1.2.2, rf_some, true_and]
  refine ⟨by simp, c_many g1.1.2.2.2.2.1 ?_⟩
  rw [g1.mh.1]
  simp only [tl_some, e249_0, e249_1, e249_2, e249_3, e249_6, e249_7, e249_10, e249_13, e249_14, e249_15, e249_16, e249_17, e249_18, e249_21, e249_23, e249_24, e249_28, e249_29, e249_32, e249_35, e249_38, e249_39, e249_43, e249_44, e249_47, e249_50, e249_51, e249_53, e249_55, e249_58, e249_61, e249_62, e249_64, e249_66, e249_69, e249_72, e249_75, e249_76, e249_78, e249_80, e249_83, e249_84, e249_85, e249_88, e249_90, e249_92, e249_94, e249_97, e249_99, e249_102, e249_104, e249_106, e249_107, e249_110, e249_113, e249_116, e249_119, e249_122, e249_125, e249_126, e249_129, e249_132, e249_134, nI_pred, mj_kl]
  refine ⟨by simp, c_seenNow g1 (by omega) fun A2 g3 g4 => ?_⟩
  have et0 : ct (fun z => tp w hs1 (m + 1) z == some m) 32 = ct (cov w b (c % wW w) (c / wW w)) 32 := ct_congr fun z _ => by
    rw [← hh, tp_put, hcg]
    by_cases y : cov w b (c % wW w) (c / wW w) z = true
    · rw [if_pos y, y]; simp
    · rw [if_neg y]
      have y' : cov w b (c % wW w) (c / wW w) z = false := by simpa using y
      rw [y']
      cases e : tp w hs m z with
      | none => rfl
      | some k =>
        have := (tp_lt e).1
        have : ¬ k = m := by omega
        simp [this]
  rw [et0]
  generalize hf : (fun i => if mvp w hs1 (m + 1) i then ct (fun z => cov w b (c % wW w) (c / wW w) z && !cov w (i / 32) (i % 32 % wW w) (i % 32 / wW w) z) 32 else 32) = f
  generalize ht : ct (cov w b (c % wW w) (c / wW w)) 32 = top
  have htop : top ≤ 32 := by rw [← ht]; exact ct_le _ _
  have est : stayN w hs m b c = mnm f top (32 * wNB w) := by
    unfold stayN
    rw [ht, hg, hh, hf]
  rw [est] at hQ
  have fi : ∀ i, mvp w hs1 (m + 1) i = false → top ≤ f i := fun i hi => by rw [← hf]; simp only [hi]; exact htop
  have hle : ∀ i, mnm f top i ≤ 32 := fun i => Nat.le_trans (mnm_le_top _ _ _) htop
  have outer : ∀ rr x, x + rr = wNB w → ∀ (A : Nat → Nat → Int32) (L : Nat → Nat → Int64), MO K FR FI A L q a w hs1 (m + 1) → MX q (a + 13) AI A AL L → ∀ x6 x7 : Value, WP sa (EV sa (d + 7)) 249 Q 0 0 26 [.ref q, .int (nI b), .int (nI c), .int (nI m), .int (nI (mnm f top (32 * x))), .int (nI x), x6, x7] [] (n, K, FI, FL, FR, A, L, AR) := by
    intro rr
    induction rr with
    | zero =>
      intro x hx A L hA hX x6 x7
      have hx' : x = wNB w := by omega
      subst hx'
      have w4 := hA.1.2.2.2.1.1.2.2.2.1
      rw [e249_26]
      simp only [e249_0, e249_1, e249_2, e249_3, e249_6, e249_7, e249_10, e249_13, e249_14, e249_15, e249_16, e249_17, e249_18, e249_21, e249_23, e249_24, e249_28, e249_29, e249_32, e249_35, e249_38, e249_39, e249_43, e249_44, e249_47, e249_50, e249_51, e249_53, e249_55, e249_58, e249_61, e249_62, e249_64, e249_66, e249_69, e249_72, e249_75, e249_76, e249_78, e249_80, e249_83, e249_84, e249_85, e249_88, e249_90, e249_92, e249_94, e249_97, e249_99, e249_102, e249_104, e249_106, e249_107, e249_110, e249_113, e249_116, e249_119, e249_122, e249_125, e249_126, e249_129, e249_132, e249_134, k0, hA.2.1, hA.2.2, rf_some, hA.1.2.1.1, w4, true_and]
      refine ⟨fun _ => ⟨by simp, c_takesOff hA.1.2.2.2.2.1 ?_⟩, fun z => absurd (nI_le (Nat.le_refl _) (by omega)) z⟩
      obtain ⟨o1, o2⟩ := hA.off
      simp only [tl_none, e249_0, e249_1, e249_2, e249_3, e249_6, e249_7, e249_10, e249_13, e249_14, e249_15, e249_16, e249_17, e249_18, e249_21, e249_23, e249_24, e249_28, e249_29, e249_32, e249_35, e249_38, e249_39, e249_43, e249_44, e249_47, e249_50, e249_51, e249_53, e249_55, e249_58, e249_61, e249_62, e249_64, e249_66, e249_69, e249_72, e249_75, e249_76, e249_78, e249_80, e249_83, e249_84, e249_85, e249_88, e249_90, e249_92, e249_94, e249_97, e249_99, e249_102, e249_104, e249_106, e249_107, e249_110, e249_113, e249_116, e249_119, e249_122, e249_125, e249_126, e249_129, e249_132, e249_134]
      exact hQ _ _ (o1.congr fun k hk => by rw [← hh]; exact puth_lt hk) (hX.trans o2)
    | succ rr IH =>
      intro x hx A L hA hX x6 x7
      have inner : ∀ sr y, y + sr = wW w * wH w → ∀ (A : Nat → Nat → Int32) (L : Nat → Nat → Int64), MO K FR FI A L q a w hs1 (m + 1) → MX q (a + 13) AI A AL L → ∀ x7 : Value, WP sa (EV sa (d + 7)) 249 Q 0 0 41 [.ref q, .int (nI b), .int (nI c), .int (nI m), .int (nI (mnm f top (32 * x + y))), .int (nI x), .int (nI y), x7] [] (n, K, FI, FL, FR, A, L, AR) := by
        intro sr
        induction sr with
        | zero =>
          intro y hy A L hA hX x7
          have hy' : y = wW w * wH w := by omega
          subst hy'
          rw [e249_41]
          simp only [e249_0, e249_1, e249_2, e249_3, e249_6, e249_7, e249_10, e249_13, e249_14, e249_15, e249_16, e249_17, e249_18, e249_21, e249_23, e249_24, e249_28, e249_29, e249_32, e249_35, e249_38, e249_39, e249_43, e249_44, e249_47, e249_50, e249_51, e249_53, e249_55, e249_58, e249_61, e249_62, e249_64, e249_66, e249_69, e249_72, e249_75, e249_76, e249_78, e249_80, e249_83, e249_84, e249_85, e249_88, e249_90, e249_92, e249_94, e249_97, e249_99, e249_102, e249_104, e249_106, e249_107, e249_110, e249_113, e249_116, e249_119, e249_122, e249_125, e249_126, e249_129, e249_132, e249_134]
          refine ⟨by simp, c_mOcells hA ?_⟩
          simp only [tl_some, e249_0, e249_1, e249_2, e249_3, e249_6, e249_7, e249_10, e249_13, e249_14, e249_15, e249_16, e249_17, e249_18, e249_21, e249_23, e249_24, e249_28, e249_29, e249_32, e249_35, e249_38, e249_39, e249_43, e249_44, e249_47, e249_50, e249_51, e249_53, e249_55, e249_58, e249_61, e249_62, e249_64, e249_66, e249_69, e249_72, e249_75, e249_76, e249_78, e249_80, e249_83, e249_84, e249_85, e249_88, e249_90, e249_92, e249_94, e249_97, e249_99, e249_102, e249_104, e249_106, e249_107, e249_110, e249_113, e249_116, e249_119, e249_122, e249_125, e249_126, e249_129, e249_132, e249_134, nI_1, mj_kl]
          refine ⟨fun _ => ?_, fun z => absurd (nI_le (Nat.le_refl _) (by omega)) z⟩
          have e : mnm f top (32 * (x + 1)) = mnm f top (32 * x + wW w * wH w) := by
            have := mnm_skip (f := f) (top := top) (a := 32 * x + wW w * wH w) (k := 32 - wW w * wH w) (fun i h1 h2 => fi i (mvp_out hw (show x < wNB w by omega) h1 (by omega)))
            rw [← this]
            congr 1
            omega
          rw [← e]
          exact IH (x + 1) (by omega) A L hA hX _ _
        | succ sr ih =>
          intro y hy A L hA hX x7
          have nx := ih (y + 1) (by omega)
          rw [show 32 * x + (y + 1) = 32 * x + y + 1 by omega, show mnm f top (32 * x + y + 1) = min (mnm f top (32 * x + y)) (f (32 * x + y)) from rfl] at nx
          have hl := mnm_le_top f top (32 * x + y)
          rw [e249_41]
          simp only [e249_0, e249_1, e249_2, e249_3, e249_6, e249_7, e249_10, e249_13, e249_14, e249_15, e249_16, e249_17, e249_18, e249_21, e249_23, e249_24, e249_28, e249_29, e249_32, e249_35, e249_38, e249_39, e249_43, e249_44, e249_47, e249_50, e249_51, e249_53, e249_55, e249_58, e249_61, e249_62, e249_64, e249_66, e249_69, e249_72, e249_75, e249_76, e249_78, e249_80, e249_83, e249_84, e249_85, e249_88, e249_90, e249_92, e249_94, e249_97, e249_99, e249_102, e249_104, e249_106, e249_107, e249_110, e249_113, e249_116, e249_122, e249_125, e249_126, e249_129, e249_132, e249_134]
          refine ⟨by simp, c_mOcells hA ?_⟩
          simp only [tl_some, e249_0, e249_1, e249_2, e249_3, e249_6, e249_7, e249_10, e249_13, e249_14, e249_15, e249_16, e249_17, e249_18, e249_21, e249_23, e249_24, e249_28, e249_29, e249_32, e249_35, e249_38, e249_39, e249_43, e249_44, e249_47, e249_50, e249_51, e249_53, e249_55, e249_58, e249_61, e249_62, e249_64, e249_66, e249_69, e249_72, e249_75, e249_76, e249_78, e249_80, e249_83, e249_84, e249_85, e249_88, e249_90, e249_92, e249_94, e249_97, e249_99, e249_102, e249_104, e249_106, e249_107, e249_110, e249_113, e249_116, e249_122, e249_125, e249_126, e249_129, e249_132, e249_134]
          refine ⟨fun z => absurd z (nI_ge (by omega) (by omega)), fun _ => ⟨by simp, c_misOnAt hA (by omega) (by omega) ?_⟩⟩
          simp only [tl_some, e249_0, e249_1, e249_2, e249_3, e249_6, e249_7, e249_10, e249_13, e249_14, e249_15, e249_16, e249_17, e249_18, e249_21, e249_23, e249_24, e249_28, e249_29, e249_32, e249_35, e249_38, e249_39, e249_43, e249_44, e249_47, e249_50, e249_51, e249_53, e249_55, e249_58, e249_61, e249_62, e249_64, e249_66, e249_69, e249_72, e249_75, e249_76, e249_78, e249_80, e249_83, e249_84, e249_85, e249_88, e249_90, e249_92, e249_94, e249_97, e249_99, e249_102, e249_104, e249_106, e249_107, e249_110, e249_113, e249_116, e249_122, e249_125, e249_126, e249_129, e249_132, e249_134, bI_eq0, nI_1, mj_kl]
          refine ⟨fun z => ?_, fun z => ⟨by simp, c_mmayAt hA (by omega) (by omega) (ts_nf z) fun A3 L3 g5 g6 => ?_⟩⟩
          · have e : top ≤ f (32 * x + y) := fi _ (by rw [mvp_at (by omega)]; exact mayAt_no z)
            have := nx A L hA hX x7
            rw [show min (mnm f top (32 * x + y)) (f (32 * x + y)) = mnm f top (32 * x + y) by omega] at this
            exact this
          · simp only [tl_some, e249_0, e249_1, e249_2, e249_3, e249_6, e249_7, e249_10, e249_13, e249_14, e249_15, e249_16, e249_17, e249_18, e249_21, e249_23, e249_24, e249_28, e249_29, e249_32, e249_35, e249_38, e249_39, e249_43, e249_44, e249_47, e249_50, e249_51, e249_53, e249_55, e249_58, e249_61, e249_62, e249_64, e249_66, e249_69, e249_72, e249_75, e249_76, e249_78, e249_80, e249_83, e249_84, e249_85, e249_88, e249_90, e249_92, e249_94, e249_97, e249_99, e249_102, e249_104, e249_106, e249_107, e249_110, e249_113, e249_116, e249_122, e249_125, e249_126, e249_129, e249_132, e249_134, bI_eq0, nI_1, mj_kl]
            refine ⟨fun z2 => ⟨by simp, c_mpasted g5 (by omega) (by omega) (ts_nf z2) fun A4 L4 g7 g8 => ?_⟩, fun z2 => ?_⟩
            · simp only [tl_none, e249_0, e249_1, e249_2, e249_3, e249_6, e249_7, e249_10, e249_13, e249_14, e249_15, e249_16, e249_17, e249_18, e249_21, e249_23, e249_24, e249_28, e249_29, e249_32, e249_35, e249_38, e249_39, e249_43, e249_44, e249_47, e249_50, e249_51, e249_53, e249_55, e249_58, e249_61, e249_62, e249_64, e249_66, e249_69, e249_72, e249_75, e249_76, e249_78, e249_80, e249_83, e249_84, e249_85, e249_88, e249_90, e249_92, e249_94, e249_97, e249_99, e249_102, e249_104, e249_106, e249_107, e249_110, e249_113, e249_116, e249_122, e249_125, e249_126, e249_129, e249_132, e249_134]
              refine ⟨by simp, c_seenNow g7 (by omega) fun A5 g9 g10 => ?_⟩
              have ev : ct (fun z => tp w (puth hs1 (m + 1) (x, y % wW w, y / wW w, -2)) (m + 1 + 1) z == some m) 32 = f (32 * x + y) := by
                rw [← hf]
                simp only [mvp_at (show y < 32 by omega), ts_nf z2, if_true, show (32 * x + y) / 32 = x by omega, show (32 * x + y) % 32 = y by omega]
                refine ct_congr fun z _ => ?_
                rw [tp_put]
                have hc2 : covg w (x, y % wW w, y / wW w, (-2 : Int32)) z = cov w x (y % wW w) (y / wW w) z := rfl
                rw [hc2]
                by_cases v : cov w x (y % wW w) (y / wW w) z = true
                · rw [if_pos v, v]
                  have : ¬ m + 1 = m := by omega
                  simp
                · rw [if_neg v, ← hh, tp_put, hcg]
                  have v' : cov w x (y % wW w) (y / wW w) z = false := by simpa using v
                  rw [v']
                  by_cases v2 : cov w b (c % wW w) (c / wW w) z = true
                  · rw [if_pos v2, v2]; simp
                  · rw [if_neg v2]
                    have v3 : cov w b (c % wW w) (c / wW w) z = false := by simpa using v2
                    rw [v3]
                    cases e : tp w hs m z with
                    | none => rfl
                    | some k =>
                      have := (tp_lt e).1
                      have : ¬ k = m := by omega
                      simp [this]
              rw [ev]
              have fl : f (32 * x + y) ≤ 32 := by rw [← ev]; exact ct_le _ _
              have hl2 := hle (32 * x + y)
              obtain ⟨o1, o2⟩ := g9.off
              have hOn := o1.congr (hs' := hs1) (fun k hk => puth_lt hk)
              have hXn := ((((hX.trans g6).trans g8).trans g10).trans o2)
              have fin := nx _ _ hOn hXn
              simp only [tl_some, e249_0, e249_1, e249_2, e249_3, e249_6, e249_7, e249_10, e249_13, e249_14, e249_15, e249_16, e249_17, e249_18, e249_21, e249_23, e249_24, e249_28, e249_29, e249_32, e249_35, e249_38, e249_39, e249_43, e249_44, e249_47, e249_50, e249_51, e249_53, e249_55, e249_58, e249_61, e249_62, e249_64, e249_66, e249_69, e249_72, e249_75, e249_76, e249_78, e249_80, e249_83, e249_84, e249_85, e249_88, e249_90, e249_92, e249_94, e249_97, e249_99, e249_102, e249_104, e249_106, e249_107, e249_110, e249_113, e249_116, e249_122, e249_125, e249_126, e249_129, e249_132, e249_134, mj_kl, nI_leI (show mnm f top (32 * x + y) < 2 ^ 31 by omega) (show f (32 * x + y) < 2 ^ 31 by omega)]
              refine ⟨fun z3 => ?_, fun z3 => ?_⟩
              · simp only [e249_0, e249_1, e249_2, e249_3, e249_6, e249_7, e249_10, e249_13, e249_14, e249_15, e249_16, e249_17, e249_18, e249_21, e249_23, e249_24, e249_28, e249_29, e249_32, e249_35, e249_38, e249_39, e249_43, e249_44, e249_47, e249_50, e249_51, e249_53, e249_55, e249_58, e249_61, e249_62, e249_64, e249_66, e249_69, e249_72, e249_75, e249_76, e249_78, e249_80, e249_83, e249_84, e249_85, e249_88, e249_90, e249_92, e249_94, e249_97, e249_99, e249_102, e249_104, e249_106, e249_107, e249_110, e249_113, e249_116, e249_122, e249_125, e249_126, e249_129, e249_132, e249_134, k0, g9.2.2, rf_some, true_and, mj_kl]
                refine ⟨by simp, c_takesOff g9.1.2.2.2.2.1 ?_⟩
                simp only [tl_none, e249_0, e249_1, e249_2, e249_3, e249_6, e249_7, e249_10, e249_13, e249_14, e249_15, e249_16, e249_17, e249_18, e249_21, e249_23, e249_24, e249_28, e249_29, e249_32, e249_35, e249_38, e249_39, e249_43, e249_44, e249_47, e249_50, e249_51, e249_53, e249_55, e249_58, e249_61, e249_62, e249_64, e249_66, e249_69, e249_72, e249_75, e249_76, e249_78, e249_80, e249_83, e249_84, e249_85, e249_88, e249_90, e249_92, e249_94, e249_97, e249_99, e249_102, e249_104, e249_106, e249_107, e249_110, e249_113, e249_116, e249_122, e249_125, e249_126, e249_129, e249_132, e249_134, nI_1, mj_kl]
                rw [show min (mnm f top (32 * x + y)) (f (32 * x + y)) = mnm f top (32 * x + y) by omega] at fin
                exact fin _
              · simp only [e249_0, e249_1, e249_2, e249_3, e249_6, e249_7, e249_10, e249_13, e249_14, e249_15, e249_16, e249_17, e249_18, e249_21, e249_23, e249_24, e249_28, e249_29, e249_32, e249_35, e249_38, e249_39, e249_43, e249_44, e249_47, e249_50, e249_51, e249_53, e249_55, e249_58, e249_61, e249_62, e249_64, e249_66, e249_69, e249_72, e249_75, e249_76, e249_78, e249_80, e249_83, e249_84, e249_85, e249_88, e249_90, e249_92, e249_94, e249_97, e249_99, e249_102, e249_104, e249_106, e249_107, e249_110, e249_113, e249_116, e249_122, e249_125, e249_126, e249_129, e249_132, e249_134, k0, g9.2.2, rf_some, true_and, mj_kl]
                refine ⟨by simp, c_takesOff g9.1.2.2.2.2.1 ?_⟩
                simp only [tl_none, e249_0, e249_1, e249_2, e249_3, e249_6, e249_7, e249_10, e249_13, e249_14, e249_15, e249_16, e249_17, e249_18, e249_21, e249_23, e249_24, e249_28, e249_29, e249_32, e249_35, e249_38, e249_39, e249_43, e249_44, e249_47, e249_50, e249_51, e249_53, e249_55, e249_58, e249_61, e249_62, e249_64, e249_66, e249_69, e249_72, e249_75, e249_76, e249_78, e249_80, e249_83, e249_84, e249_85, e249_88, e249_90, e249_92, e249_94, e249_97, e249_99, e249_102, e249_104, e249_106, e249_107, e249_110, e249_113, e249_116, e249_122, e249_125, e249_126, e249_129, e249_132, e249_134, nI_1, mj_kl]
                rw [show min (mnm f top (32 * x + y)) (f (32 * x + y)) = f (32 * x + y) by omega] at fin
                exact fin _
            · have e : top ≤ f (32 * x + y) := fi _ (by rw [mvp_at (by omega)]; simpa using z2)
              have := nx A3 L3 g5 (hX.trans g6) x7
              rw [show min (mnm f top (32 * x + y)) (f (32 * x + y)) = mnm f top (32 * x + y) by omega] at this
              exact this
      have w4 := hA.1.2.2.2.1.1.2.2.2.1
      rw [e249_26]
      simp only [e249_0, e249_1, e249_2, e249_3, e249_6, e249_7, e249_10, e249_13, e249_14, e249_15, e249_16, e249_17, e249_18, e249_21, e249_23, e249_24, e249_28, e249_29, e249_32, e249_35, e249_38, e249_39, e249_43, e249_44, e249_47, e249_50, e249_51, e249_53, e249_55, e249_58, e249_61, e249_62, e249_64, e249_66, e249_69, e249_72, e249_75, e249_76, e249_78, e249_80, e249_83, e249_84, e249_85, e249_88, e249_90, e249_92, e249_94, e249_97, e249_99, e249_102, e249_104, e249_106, e249_107, e249_110, e249_113, e249_116, e249_119, e249_122, e249_125, e249_126, e249_129, e249_132, e249_134, k0, hA.2.1, rf_some, hA.1.2.1.1, w4, true_and, mj_kl]
      refine ⟨fun z => absurd z (nI_ge (by omega) (by omega)), fun _ => ?_⟩
      have := inner (wW w * wH w) 0 (by omega) A L hA hX x7
      simpa [nI_0, mj_kl] using this
  simp only [tl_some, e249_0, e249_1, e249_2, e249_3, e249_6, e249_7, e249_10, e249_13, e249_14, e249_15, e249_16, e249_17, e249_18, e249_21, e249_23, e249_24, e249_28, e249_29, e249_32, e249_35, e249_38, e249_39, e249_43, e249_44, e249_47, e249_50, e249_51, e249_53, e249_55, e249_58, e249_61, e249_62, e249_64, e249_66, e249_69, e249_72, e249_75, e249_76, e249_78, e249_80, e249_83, e249_84, e249_85, e249_88, e249_90, e249_92, e249_94, e249_97, e249_99, e249_102, e249_104, e249_106, e249_107, e249_110, e249_113, e249_116, e249_119, e249_122, e249_125, e249_126, e249_129, e249_132, e249_134, mj_kl]
  have := outer (wNB w) 0 (by omega) A2 L1 g3 (g2.trans g4) mj_u mj_u
  simpa [nI_0, mnm, mj_u, mj_kl] using this
theorem c_m_stays (hV : InvM q P (n, K, FI, FL, FR, AI, AL, AR)) {b x y : Int32} (hQ : ∀ μ', InvM q (rs P (sp_stays P b x y)) μ' → FrM q (n, K, FI, FL, FR, AI, AL, AR) μ' → Q (some (.int (rv (sp_stays P b x y)))) μ') : EV sa (d + 9) 250 [.ref q, .int b, .int x, .int y] (n, K, FI, FL, FR, AI, AL, AR) Q := by
  have hI0 : MInv q P n K FR FI AI AL := hV
  have k0 := hI0.1.1
  refine n250 k0 ?_
  simp only [e250_0, e250_1, e250_2, e250_5, e250_6, e250_7, e250_8, e250_9, e250_12, e250_14, e250_16, e250_19, e250_20, e250_22, e250_25, e250_26, e250_27, e250_28, e250_31, e250_32, e250_35, e250_36, e250_37, e250_38, e250_41, e250_44, e250_45, e250_46, e250_47, e250_48, e250_51, e250_54, e250_55, e250_56, e250_57, e250_58, e250_61, e250_64, e250_67, e250_68, e250_69, e250_72, k0, true_and]
  have hI := hI0.th (v := 0)
  have hF : FrM q (n, K, FI, FL, FR, AI, AL, AR) (n, K, mj_u2 FI 640 q 0, FL, FR, AI, AL, AR) := FrM.f
  generalize mj_u2 FI 640 q 0 = F at hI hF ⊢
  refine ⟨by simp, c_mrefPlace hI ?_⟩
  have esp : sp_stays P b x y = (if isB P b then (match sCor P b x y with
    | none => .inl 2
    | some c => if mayAt (pW P) (pHs P) (pM P) b.toNatClampNeg c then .inr (nI (stayN (pW P) (pHs P) (pM P) b.toNatClampNeg c)) else .inl 5) else .inl 1) := rfl
  unfold rpN
  by_cases hb1 : isB P b = true
  · rw [if_pos hb1] at esp ⊢
    obtain ⟨s, es, eb, hb, p1, p2, p3, p4⟩ := misB hI hb1
    obtain ⟨a, hO, ha1, ha2⟩ := hI.mo es
    cases hc : sCor P b x y with
    | none =>
      rw [hc] at esp
      simp only [tl_some, e250_0, e250_1, e250_2, e250_5, e250_6, e250_7, e250_8, e250_9, e250_12, e250_14, e250_16, e250_19, e250_20, e250_22, e250_25, e250_26, e250_27, e250_28, e250_31, e250_32, e250_35, e250_36, e250_37, e250_38, e250_41, e250_44, e250_45, e250_46, e250_47, e250_48, e250_51, e250_54, e250_55, e250_56, e250_57, e250_58, e250_61, e250_64, e250_67, e250_68, e250_69, e250_72, mj_kl]
      refine ⟨fun z => absurd z (by decide), fun _ => ⟨by simp, c_mrefused k0 ?_⟩⟩
      simp only [tl_some, e250_0, e250_1, e250_2, e250_5, e250_6, e250_7, e250_8, e250_9, e250_12, e250_14, e250_16, e250_19, e250_20, e250_22, e250_25, e250_26, e250_27, e250_28, e250_31, e250_32, e250_35, e250_36, e250_37, e250_38, e250_41, e250_44, e250_45, e250_46, e250_47, e250_48, e250_51, e250_54, e250_55, e250_56, e250_57, e250_58, e250_61, e250_64, e250_67, e250_68, e250_69, e250_72]
      exact mrefQ hI hF hQ (k := 2) (by decide) esp
    | some c =>
      rw [hc] at esp
      replace esp : sp_stays P b x y = if mayAt (pW P) (pHs P) (pM P) b.toNatClampNeg c then .inr (nI (stayN (pW P) (pHs P) (pM P) b.toNatClampNeg c)) else .inl 5 := esp
      obtain ⟨e1, e2, e3, e4, e5⟩ := sCor_at es hO.ok hb hc
      rw [p1, p2, p3] at esp
      generalize hbb : b.toNatClampNeg = B at *
      subst eb
      subst e1
      subst e2
      have h32 := hO.c32
      simp only [tl_some, e250_0, e250_1, e250_2, e250_5, e250_6, e250_7, e250_8, e250_9, e250_12, e250_14, e250_16, e250_19, e250_20, e250_22, e250_25, e250_26, e250_27, e250_28, e250_31, e250_32, e250_35, e250_36, e250_37, e250_38, e250_41, e250_44, e250_45, e250_46, e250_47, e250_48, e250_51, e250_54, e250_55, e250_56, e250_57, e250_58, e250_61, e250_64, e250_67, e250_68, e250_69, e250_72, mj_kl, k0, hO.2.1, hO.2.2, rf_some, true_and]
      refine ⟨fun _ => ⟨by simp, c_mmayGo hO.1 e3 fun A L g1 g2 => ?_⟩, fun z => absurd (by decide) z⟩
      have em : mayAt s.1 s.2.1.1 s.2.1.2.1 B c = may s.1 s.2.1.1 s.2.1.2.1 B (c % wW s.1) (c / wW s.1) := by unfold mayAt; rw [e5, Bool.true_and]
      have hA := hO.ofX g1
      have w1 := hA.1.2.2.2.1.1.1
      rw [← em]
      simp only [tl_some, e250_0, e250_1, e250_2, e250_5, e250_6, e250_7, e250_8, e250_9, e250_12, e250_14, e250_16, e250_19, e250_20, e250_22, e250_25, e250_26, e250_27, e250_28, e250_31, e250_32, e250_35, e250_36, e250_37, e250_38, e250_41, e250_44, e250_45, e250_46, e250_47, e250_48, e250_51, e250_54, e250_55, e250_56, e250_57, e250_58, e250_61, e250_64, e250_67, e250_68, e250_69, e250_72, bI_eq0, k0, hA.2.1, rf_some, hA.1.2.1.1, w1, pk_mul, nI_add, Nat.div_add_mod, true_and]
      refine ⟨fun z => ⟨by simp, c_mrefused k0 ?_⟩, fun z => ⟨by simp, c_staysNow hA hb (by omega) (ts_nf z) fun A2 L2 g3 g4 => ?_⟩⟩
      · simp only [tl_some, e250_0, e250_1, e250_2, e250_5, e250_6, e250_7, e250_8, e250_9, e250_12, e250_14, e250_16, e250_19, e250_20, e250_22, e250_25, e250_26, e250_27, e250_28, e250_31, e250_32, e250_35, e250_36, e250_37, e250_38, e250_41, e250_44, e250_45, e250_46, e250_47, e250_48, e250_51, e250_54, e250_55, e250_56, e250_57, e250_58, e250_61, e250_64, e250_67, e250_68, e250_69, e250_72]
        exact mrefQ (hI.qq es hO.2.1 g2.toMQ hA.mh) (hF.trans (g2.toMQ.frm ha1)) hQ (k := 5) (by decide) (by rw [esp, z]; rfl)
      · simp only [tl_some, e250_0, e250_1, e250_2, e250_5, e250_6, e250_7, e250_8, e250_9, e250_12, e250_14, e250_16, e250_19, e250_20, e250_22, e250_25, e250_26, e250_27, e250_28, e250_31, e250_32, e250_35, e250_36, e250_37, e250_38, e250_41, e250_44, e250_45, e250_46, e250_47, e250_48, e250_51, e250_54, e250_55, e250_56, e250_57, e250_58, e250_61, e250_64, e250_67, e250_68, e250_69, e250_72]
        refine ⟨by simp, c_mgood k0 ?_⟩
        simp only [tl_some, e250_0, e250_1, e250_2, e250_5, e250_6, e250_7, e250_8, e250_9, e250_12, e250_14, e250_16, e250_19, e250_20, e250_22, e250_25, e250_26, e250_27, e250_28, e250_31, e250_32, e250_35, e250_36, e250_37, e250_38, e250_41, e250_44, e250_45, e250_46, e250_47, e250_48, e250_51, e250_54, e250_55, e250_56, e250_57, e250_58, e250_61, e250_64, e250_67, e250_68, e250_69, e250_72]
        have hXX := (g2.trans g4).toMQ (FI := F)
        exact mansQ (hI.qq es hO.2.1 hXX g3.mh) (hF.trans (hXX.frm ha1)) hQ (by rw [esp, if_pos (ts_nf z)])
  · rw [if_neg hb1] at esp ⊢
    simp only [tl_some, e250_0, e250_1, e250_2, e250_5, e250_6, e250_7, e250_8, e250_9, e250_12, e250_14, e250_16, e250_19, e250_20, e250_22, e250_25, e250_26, e250_27, e250_28, e250_31, e250_32, e250_35, e250_36, e250_37, e250_38, e250_41, e250_44, e250_45, e250_46, e250_47, e250_48, e250_51, e250_54, e250_55, e250_56, e250_57, e250_58, e250_61, e250_64, e250_67, e250_68, e250_69, e250_72, mj_kl]
    refine ⟨fun z => absurd z (by decide), fun _ => ⟨by simp, c_mrefused k0 ?_⟩⟩
    simp only [tl_some, e250_0, e250_1, e250_2, e250_5, e250_6, e250_7, e250_8, e250_9, e250_12, e250_14, e250_16, e250_19, e250_20, e250_22, e250_25, e250_26, e250_27, e250_28, e250_31, e250_32, e250_35, e250_36, e250_37, e250_38, e250_41, e250_44, e250_45, e250_46, e250_47, e250_48, e250_51, e250_54, e250_55, e250_56, e250_57, e250_58, e250_61, e250_64, e250_67, e250_68, e250_69, e250_72]
    exact mrefQ hI hF hQ (k := 1) (by decide) esp
theorem c_m_best (hV : InvM q P (n, K, FI, FL, FR, AI, AL, AR)) {b : Int32} (hQ : ∀ μ', InvM q (rs P (sp_best P b)) μ' → FrM q (n, K, FI, FL, FR, AI, AL, AR) μ' → Q (some (.int (rv (sp_best P b)))) μ') : EV sa (d + 9) 251 [.ref q, .int b] (n, K, FI, FL, FR, AI, AL, AR) Q := by
  have hI0 : MInv q P n K FR FI AI AL := hV
  have k0 := hI0.1.1
  refine n251 k0 ?_
  simp only [e251_0, e251_1, e251_2, e251_5, e251_6, e251_7, e251_10, e251_13, e251_14, e251_15, e251_18, e251_19, e251_20, e251_21, e251_22, e251_23, e251_24, e251_28, e251_29, e251_32, e251_35, e251_36, e251_37, e251_39, e251_42, e251_45, e251_46, e251_47, e251_49, e251_52, e251_55, e251_58, e251_59, e251_60, e251_62, e251_65, e251_67, e251_69, e251_70, e251_73, e251_76, e251_78, e251_79, e251_81, e251_82, e251_85, e251_88, e251_89, e251_90, e251_93, e251_94, e251_96, e251_99, e251_102, e251_103, e251_104, e251_107, k0, true_and]
  have hI := hI0.th (v := 0)
  have hF : FrM q (n, K, FI, FL, FR, AI, AL, AR) (n, K, mj_u2 FI 640 q 0, FL, FR, AI, AL, AR) := FrM.f
  generalize mj_u2 FI 640 q 0 = F at hI hF ⊢
  refine ⟨by simp, c_misBill hI ?_⟩
  simp only [tl_some, e251_0, e251_1, e251_2, e251_5, e251_6, e251_7, e251_10, e251_13, e251_14, e251_15, e251_18, e251_19, e251_20, e251_21, e251_22, e251_23, e251_24, e251_28, e251_29, e251_32, e251_35, e251_36, e251_37, e251_39, e251_42, e251_45, e251_46, e251_47, e251_49, e251_52, e251_55, e251_58, e251_59, e251_60, e251_62, e251_65, e251_67, e251_69, e251_70, e251_73, e251_76, e251_78, e251_79, e251_81, e251_82, e251_85, e251_88, e251_89, e251_90, e251_93, e251_94, e251_96, e251_99, e251_102, e251_103, e251_104, e251_107, bI_eq0, mj_kl]
  refine ⟨fun z => ?_, fun z => ⟨by simp, c_mrefused k0 ?_⟩⟩
  · have hb1 := ts_nf z
    obtain ⟨s, es, eb, hb, p1, p2, p3, p4⟩ := misB hI hb1
    obtain ⟨a, hO, ha1, ha2⟩ := hI.mo es
    have h32 := hO.c32
    have esp : sp_best P b = (match bestN s.1 s.2.1.1 s.2.1.2.1 b.toNatClampNeg (wW s.1 * wH s.1) with
      | none => .inl 6
      | some g => .inr (nI g.1)) := by
      unfold sp_best
      rw [if_pos hb1, p1, p2, p3]
      cases bestN s.1 s.2.1.1 s.2.1.2.1 b.toNatClampNeg (wW s.1 * wH s.1) <;> rfl
    generalize hbb : b.toNatClampNeg = B at *
    subst eb
    have loop : ∀ rr c, c + rr = wW s.1 * wH s.1 → ∀ (A : Nat → Nat → Int32) (L : Nat → Nat → Int64), MO K FR F A L q a s.1 s.2.1.1 s.2.1.2.1 → MX q (a + 13) AI A AL L → ∀ x5 : Value, WP sa (EV sa (d + 8)) 251 Q 0 0 26 [.ref q, .int (nI B), .int (oI ((bestN s.1 s.2.1.1 s.2.1.2.1 B c).map Prod.fst) (-1)), .int (oI ((bestN s.1 s.2.1.1 s.2.1.2.1 B c).map Prod.snd) (-1)), .int (nI c), x5] [] (n, K, F, FL, FR, A, L, AR) := by
      intro rr
      induction rr with
      | zero =>
        intro c hc A L hA hX x5
        have hc' : c = wW s.1 * wH s.1 := by omega
        subst hc'
        have hIA := hI.qq es hO.2.1 (hX.toMQ (FI := F)) hA.mh
        have hFA := hF.trans ((hX.toMQ (FI := F)).frm (n := n) (K := K) (FL := FL) (FR := FR) (AR := AR) ha1)
        rw [e251_26]
        simp only [e251_0, e251_1, e251_2, e251_5, e251_6, e251_7, e251_10, e251_13, e251_14, e251_15, e251_18, e251_19, e251_20, e251_21, e251_22, e251_23, e251_24, e251_28, e251_29, e251_32, e251_35, e251_36, e251_37, e251_39, e251_42, e251_45, e251_46, e251_47, e251_49, e251_52, e251_55, e251_58, e251_59, e251_60, e251_62, e251_65, e251_67, e251_69, e251_70, e251_73, e251_76, e251_78, e251_79, e251_81, e251_82, e251_85, e251_88, e251_89, e251_90, e251_93, e251_94, e251_96, e251_99, e251_102, e251_103, e251_104, e251_107]
        refine ⟨by simp, c_mOcells hA ?_⟩
        simp only [tl_some, e251_0, e251_1, e251_2, e251_5, e251_6, e251_7, e251_10, e251_13, e251_14, e251_15, e251_18, e251_19, e251_20, e251_21, e251_22, e251_23, e251_24, e251_28, e251_29, e251_32, e251_35, e251_36, e251_37, e251_39, e251_42, e251_45, e251_46, e251_47, e251_49, e251_52, e251_55, e251_58, e251_59, e251_60, e251_62, e251_65, e251_67, e251_69, e251_70, e251_73, e251_76, e251_78, e251_79, e251_81, e251_82, e251_85, e251_88, e251_89, e251_90, e251_93, e251_94, e251_96, e251_99, e251_102, e251_103, e251_104, e251_107]
        refine ⟨fun _ => ?_, fun z => absurd (nI_le (Nat.le_refl _) (by omega)) z⟩
        cases e : bestN s.1 s.2.1.1 s.2.1.2.1 B (wW s.1 * wH s.1) with
        | none =>
          rw [e] at esp
          simp only [Option.map_none, oI]
          refine ⟨fun z => absurd trivial z, fun _ => ⟨by simp, c_mrefused k0 ?_⟩⟩
          simp only [tl_some, e251_0, e251_1, e251_2, e251_5, e251_6, e251_7, e251_10, e251_13, e251_14, e251_15, e251_18, e251_19, e251_20, e251_21, e251_22, e251_23, e251_24, e251_28, e251_29, e251_32, e251_35, e251_36, e251_37, e251_39, e251_42, e251_45, e251_46, e251_47, e251_49, e251_52, e251_55, e251_58, e251_59, e251_60, e251_62, e251_65, e251_67, e251_69, e251_70, e251_73, e251_76, e251_78, e251_79, e251_81, e251_82, e251_85, e251_88, e251_89, e251_90, e251_93, e251_94, e251_96, e251_99, e251_102, e251_103, e251_104, e251_107]
          exact mrefQ hIA hFA hQ (k := 6) (by decide) esp
        | some g =>
          rw [e] at esp
          have := (bestN_lt e).1
          simp only [Option.map_some, oI]
          refine ⟨fun _ => ⟨by simp, c_mgood k0 ?_⟩, fun z => absurd (fun e2 => ?_) z⟩
          · simp only [tl_some, e251_0, e251_1, e251_2, e251_5, e251_6, e251_7, e251_10, e251_13, e251_14, e251_15, e251_18, e251_19, e251_20, e251_21, e251_22, e251_23, e251_24, e251_28, e251_29, e251_32, e251_35, e251_36, e251_37, e251_39, e251_42, e251_45, e251_46, e251_47, e251_49, e251_52, e251_55, e251_58, e251_59, e251_60, e251_62, e251_65, e251_67, e251_69, e251_70, e251_73, e251_76, e251_78, e251_79, e251_81, e251_82, e251_85, e251_88, e251_89, e251_90, e251_93, e251_94, e251_96, e251_99, e251_102, e251_103, e251_104, e251_107]
            exact mansQ hIA hFA hQ esp
          · have h3 : nI g.1 < 0 := by rw [e2]; decide
            exact absurd h3 (nI_pos (by omega))
      | succ rr ih =>
        intro c hc A L hA hX x5
        have nx := ih (c + 1) (by omega)
        have eN : bestN s.1 s.2.1.1 s.2.1.2.1 B (c + 1) = if mayAt s.1 s.2.1.1 s.2.1.2.1 B c then (match bestN s.1 s.2.1.1 s.2.1.2.1 B c with
          | none => some (c, stayN s.1 s.2.1.1 s.2.1.2.1 B c)
          | some g => if g.2 < stayN s.1 s.2.1.1 s.2.1.2.1 B c then some (c, stayN s.1 s.2.1.1 s.2.1.2.1 B c) else some g) else bestN s.1 s.2.1.1 s.2.1.2.1 B c := by
          simp only [bestN]
          cases bestN s.1 s.2.1.1 s.2.1.2.1 B c <;> rfl
        rw [eN] at nx
        have hst := stayN_le s.1 s.2.1.1 s.2.1.2.1 B c
        rw [e251_26]
        simp only [e251_0, e251_1, e251_2, e251_5, e251_6, e251_7, e251_10, e251_13, e251_14, e251_15, e251_18, e251_19, e251_20, e251_21, e251_22, e251_23, e251_24, e251_28, e251_29, e251_32, e251_35, e251_36, e251_37, e251_39, e251_42, e251_45, e251_46, e251_47, e251_49, e251_52, e251_55, e251_58, e251_59, e251_60, e251_62, e251_65, e251_67, e251_69, e251_70, e251_73, e251_76, e251_78, e251_79, e251_81, e251_82, e251_85, e251_88, e251_89, e251_90, e251_93, e251_94, e251_96, e251_99, e251_102, e251_103, e251_104, e251_107]
        refine ⟨by simp, c_mOcells hA ?_⟩
        simp only [tl_some, e251_0, e251_1, e251_2, e251_5, e251_6, e251_7, e251_10, e251_13, e251_14, e251_15, e251_18, e251_19, e251_20, e251_21, e251_22, e251_23, e251_24, e251_28, e251_29, e251_32, e251_35, e251_36, e251_37, e251_39, e251_42, e251_45, e251_46, e251_47, e251_49, e251_52, e251_55, e251_58, e251_59, e251_60, e251_62, e251_65, e251_67, e251_69, e251_70, e251_73, e251_76, e251_78, e251_79, e251_81, e251_82, e251_85, e251_88, e251_89, e251_90, e251_93, e251_94, e251_96, e251_99, e251_102, e251_103, e251_104, e251_107]
        refine ⟨fun z => absurd z (nI_ge (by omega) (by omega)), fun _ => ⟨by simp, c_misOnAt hA hb (by omega) ?_⟩⟩
        simp only [tl_some, e251_0, e251_1, e251_2, e251_5, e251_6, e251_7, e251_10, e251_13, e251_14, e251_15, e251_18, e251_19, e251_20, e251_21, e251_22, e251_23, e251_24, e251_28, e251_29, e251_32, e251_35, e251_36, e251_37, e251_39, e251_42, e251_45, e251_46, e251_47, e251_49, e251_52, e251_55, e251_58, e251_59, e251_60, e251_62, e251_65, e251_67, e251_69, e251_70, e251_73, e251_76, e251_78, e251_79, e251_81, e251_82, e251_85, e251_88, e251_89, e251_90, e251_93, e251_94, e251_96, e251_99, e251_102, e251_103, e251_104, e251_107, bI_eq0, nI_1, mj_kl]
        refine ⟨fun z => ?_, fun z => ⟨by simp, c_mmayAt hA hb (by omega) (ts_nf z) fun A2 L2 g1 g2 => ?_⟩⟩
        · have := nx A L hA hX x5
          simpa [mayAt_no z, mj_kl] using this
        · simp only [tl_some, e251_0, e251_1, e251_2, e251_5, e251_6, e251_7, e251_10, e251_13, e251_14, e251_15, e251_18, e251_19, e251_20, e251_21, e251_22, e251_23, e251_24, e251_28, e251_29, e251_32, e251_35, e251_36, e251_37, e251_39, e251_42, e251_45, e251_46, e251_47, e251_49, e251_52, e251_55, e251_58, e251_59, e251_60, e251_62, e251_65, e251_67, e251_69, e251_70, e251_73, e251_76, e251_78, e251_79, e251_81, e251_82, e251_85, e251_88, e251_89, e251_90, e251_93, e251_94, e251_96, e251_99, e251_102, e251_103, e251_104, e251_107, bI_eq0, nI_1, mj_kl]
          refine ⟨fun z2 => ⟨by simp, c_staysNow g1 hb (by omega) (ts_nf z2) fun A3 L3 g3 g4 => ?_⟩, fun z2 => ?_⟩
          · have fin := fun x5 => nx A3 L3 g3 ((hX.trans g2).trans g4) x5
            rw [if_pos (ts_nf z2)] at fin
            simp only [tl_some, e251_0, e251_1, e251_2, e251_5, e251_6, e251_7, e251_10, e251_13, e251_14, e251_15, e251_18, e251_19, e251_20, e251_21, e251_22, e251_23, e251_24, e251_28, e251_29, e251_32, e251_35, e251_36, e251_37, e251_39, e251_42, e251_45, e251_46, e251_47, e251_49, e251_52, e251_55, e251_58, e251_59, e251_60, e251_62, e251_65, e251_67, e251_69, e251_70, e251_73, e251_76, e251_78, e251_79, e251_81, e251_82, e251_85, e251_88, e251_89, e251_90, e251_93, e251_94, e251_96, e251_99, e251_102, e251_103, e251_104, e251_107, nI_1, mj_kl]
            cases e : bestN s.1 s.2.1.1 s.2.1.2.1 B c with
            | none =>
              rw [e] at fin
              simp only [Option.map_none, oI] at fin ⊢
              refine ⟨fun z3 => ?_, fun z3 => absurd (show (-1 : Int32) < nI (stayN s.1 s.2.1.1 s.2.1.2.1 B c) from ?_) z3⟩
              · have := fin (.int (nI (stayN s.1 s.2.1.1 s.2.1.2.1 B c)))
                simpa [oI, mj_kl] using this
              · exact Int32.lt_of_lt_of_le (by decide) (nI0_le (by omega))
            | some g =>
              rw [e] at fin
              have hg2 := (bestN_lt e).2
              simp only [Option.map_some, oI] at fin ⊢
              simp only [nI_ltI (show g.2 < 2 ^ 31 by omega) (show stayN s.1 s.2.1.1 s.2.1.2.1 B c < 2 ^ 31 by omega)]
              refine ⟨fun z3 => ?_, fun z3 => ?_⟩
              · have := fin (.int (nI (stayN s.1 s.2.1.1 s.2.1.2.1 B c)))
                simpa [z3, oI, mj_kl] using this
              · have := fin (.int (nI (stayN s.1 s.2.1.1 s.2.1.2.1 B c)))
                simpa [z3, oI, mj_kl] using this
          · have z3 : mayAt s.1 s.2.1.1 s.2.1.2.1 B c = false := by simpa using z2
            have := nx A2 L2 g1 (hX.trans g2) x5
            simpa [z3, mj_kl] using this
    have := loop (wW s.1 * wH s.1) 0 (by omega) AI AL hO MX.rfl' mj_u
    simpa [nI_0, bestN, oI, mj_u, mj_kl] using this
  · simp only [tl_some, e251_0, e251_1, e251_2, e251_5, e251_6, e251_7, e251_10, e251_13, e251_14, e251_15, e251_18, e251_19, e251_20, e251_21, e251_22, e251_23, e251_24, e251_28, e251_29, e251_32, e251_35, e251_36, e251_37, e251_39, e251_42, e251_45, e251_46, e251_47, e251_49, e251_52, e251_55, e251_58, e251_59, e251_60, e251_62, e251_65, e251_67, e251_69, e251_70, e251_73, e251_76, e251_78, e251_79, e251_81, e251_82, e251_85, e251_88, e251_89, e251_90, e251_93, e251_94, e251_96, e251_99, e251_102, e251_103, e251_104, e251_107]
    exact mrefQ hI hF hQ (k := 1) (by decide) (by unfold sp_best; rw [if_neg (by simpa using z)])
end
