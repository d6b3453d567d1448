/-! ## the model: letters, words, where a bill may go -/
theorem rem_m2 (a d : Nat) : nI a - nI (a / d * d) = nI (a % d) := by
  rw [pk_sub (Nat.div_mul_le_self a d)]
  congr 1
  have := Nat.div_add_mod a d
  rw [Nat.mul_comm] at this
  omega
theorem rem_m1 (a d : Nat) : nI a - nI (a / d) * nI d = nI (a % d) := by rw [pk_mul, rem_m2]
def MX (q u : Nat) (AI AI' : Nat → Nat → Int32) (AL AL' : Nat → Nat → Int64) : Prop := (∀ z, z ≠ q + 1 → z ≠ q + 2 → z ≠ u + 1 → AI' z = AI z) ∧ (∀ j, 121 ≤ j → AI' (u + 1) j = AI (u + 1) j) ∧ ∀ z, z ≠ u + 2 → AL' z = AL z
theorem MX.rfl' {q u : Nat} {AI : Nat → Nat → Int32} {AL : Nat → Nat → Int64} : MX q u AI AI AL AL := ⟨fun _ _ _ _ => rfl, fun _ _ => rfl, fun _ _ => rfl⟩
theorem MX.trans {q u : Nat} {AI A1 A2 : Nat → Nat → Int32} {AL L1 L2 : Nat → Nat → Int64} (a : MX q u AI A1 AL L1) (b : MX q u A1 A2 L1 L2) : MX q u AI A2 AL L2 := ⟨fun z h1 h2 h3 => by rw [b.1 z h1 h2 h3, a.1 z h1 h2 h3], fun j hj => by rw [b.2.1 j hj, a.2.1 j hj], fun z hz => by rw [b.2.2 z hz, a.2.2 z hz]⟩
def MV (K : Nat → Nat × Nat) (FR : Nat → Nat → Option Nat) (FI AI : Nat → Nat → Int32) (AL : Nat → Nat → Int64) (q a u : Nat) (w : Wl) (hs : Nat → Hg) (m : Nat) : Prop := MdS K FR q ∧ MWS K FR a ∧ wOK w ∧ MW FI AI a w ∧ MHS K FR u ∧ MH AI AL u w hs m ∧ q + 12 < a ∧ a + 12 < u
theorem MW.fr {FI FI' AI AI' : Nat → Nat → Int32} {a : Nat} {w : Wl} (h : MW FI AI a w) (f : ∀ k, FI' k a = FI k a) (e : ∀ j, 1 ≤ j → j ≤ 7 → AI' (a + j) = AI (a + j)) : MW FI' AI' a w := by
  obtain ⟨h1, h2, h3⟩ := h
  refine ⟨by simp only [f]; exact h1, fun b hb => ?_, fun v hv => ?_⟩
  · rw [e 1 (by omega) (by omega), e 2 (by omega) (by omega), e 3 (by omega) (by omega), e 4 (by omega) (by omega), e 5 (by omega) (by omega)]
    exact h2 b hb
  · rw [e 6 (by omega) (by omega), e 7 (by omega) (by omega)]
    exact h3 v hv
theorem MH.fr {AI AI' : Nat → Nat → Int32} {AL AL' : Nat → Nat → Int64} {u m : Nat} {w : Wl} {hs : Nat → Hg} (h : MH AI AL u w hs m) (e : AI' (u + 1) = AI (u + 1)) (e2 : AL' (u + 2) = AL (u + 2)) : MH AI' AL' u w hs m := by
  unfold MH at h ⊢
  rw [e, e2]
  exact h
theorem MV.of {K : Nat → Nat × Nat} {FR : Nat → Nat → Option Nat} {FI AI AI' : Nat → Nat → Int32} {AL AL' : Nat → Nat → Int64} {q a u m m' : Nat} {w : Wl} {hs hs' : Nat → Hg} (hV : MV K FR FI AI AL q a u w hs m) (hX : MX q u AI AI' AL AL') (hR : MH AI' AL' u w hs' m') : MV K FR FI AI' AL' q a u w hs' m' := by
  obtain ⟨h1, h2, h3, h4, h5, h6, h7, h8⟩ := hV
  exact ⟨h1, h2, h3, h4.fr (fun _ => rfl) (fun j z1 z2 => hX.1 _ (by omega) (by omega) (by omega)), h5, hR, h7, h8⟩
theorem letr_26 {w : Wl} {hs : Nat → Hg} {m c l : Nat} (hw : wOK w) (hg : ∀ k, k < m → gOK w (hs k)) (h : letr w hs m c = some l) : l < 26 := by
  unfold letr at h
  cases e : tp w hs m c with
  | none => rw [e] at h; cases h
  | some k =>
    rw [e] at h
    simp only [Option.map_some, Option.some.injEq] at h
    obtain ⟨-, -, -, ⟨t1, t2⟩, t3⟩ := hw.2.2.2.2.2.2.1 _ (hg k (tp_lt e).1).1
    rw [← h]
    exact t3 _ (Nat.mod_lt _ (by omega))
theorem oI_some {o : Option Nat} {k : Nat} (ho : ∀ j, o = some j → j < 1000) (hk : k < 1000) : oI o (-1) = nI k ↔ o = some k := by
  cases o with
  | none =>
    simp only [oI, reduceCtorEq, iff_false]
    intro z
    have : nI k < 0 := by rw [← z]; decide
    exact absurd this (nI_pos (by omega))
  | some j =>
    have := ho j rfl
    simp only [oI, Option.some.injEq]
    exact nI_eq (by omega) (by omega)
section
variable {sa : Nat → Nat} {d n t h m : Nat} {Q : mj_Q} {K : Nat → Nat × Nat} {FI : Nat → Nat → Int32} {FL : Nat → Nat → Int64} {FR : Nat → Nat → Option Nat} {AI : Nat → Nat → Int32} {AL : Nat → Nat → Int64} {AR : Nat → Nat → Option Nat} {w : Wl} {hs : Nat → Hg}
variable {a u q : Nat}
theorem c_mseenOf (hD : MdS K FR q) (hT : TopR AI q w hs m) (h30 : m ≤ 30) {k : Nat} (hk : k < 1000) (hQ : ∀ v : Int64, MkL v (fun c => tp w hs m c == some k) → Q (some (.long v)) (n, K, FI, FL, FR, AI, AL, AR)) : EV sa (d + 1) 169 [.ref q, .int (nI k)] (n, K, FI, FL, FR, AI, AL, AR) Q := by
  obtain ⟨k0, ⟨f0, k1⟩, -⟩ := hD
  have loop : ∀ rr c, c + rr = 32 → ∀ v : Int64, MkL v (fun j => decide (j < c) && (tp w hs m j == some k)) → WP sa (EV sa d) 169 Q 0 0 5 [.ref q, .int (nI k), .long v, mj_u, .int (nI c)] [] (n, K, FI, FL, FR, AI, AL, AR) := by
    intro rr
    induction rr with
    | zero =>
      intro c hc v hv
      have hc' : c = 32 := by omega
      subst hc'
      rw [e169_5]
      simp only [e169_0, e169_1, e169_2, e169_3, e169_7, e169_9, e169_12, e169_13, e169_14, e169_17, e169_19, e169_20, e169_21, e169_24, e169_25, e169_27, e169_28, e169_31, e169_32, e169_33, e169_34, e169_37, e169_40, e169_41]
      exact ⟨fun _ => hQ v (hv.congr fun j hj => by simp [hj]), fun z => absurd (by decide) z⟩
    | succ rr ih =>
      intro c hc v hv
      have hin : vp_in (nI c) 32 := vp_in_nI (by omega) (by decide)
      have hcl : (nI c).toNatClampNeg = c := nI_clamp (by omega)
      have hiff : (AI (q + 1) c = nI k) ↔ tp w hs m c = some k := by
        rw [hT c (by omega)]
        exact oI_some (fun j hj => by have := (tp_lt hj).1; omega) hk
      rw [e169_5]
      simp only [e169_0, e169_1, e169_2, e169_3, e169_7, e169_9, e169_12, e169_13, e169_14, e169_17, e169_19, e169_20, e169_21, e169_24, e169_25, e169_27, e169_28, e169_31, e169_32, e169_33, e169_34, e169_37, e169_40, e169_41, k0, f0, k1, rf_some, hin, hcl, hiff, nI_1, true_and, true_or, mj_kl]
      refine ⟨fun z => absurd z (nI_ge (b := 32) (by omega) (by decide)), fun _ => ⟨fun z => ?_, fun z => ?_⟩⟩
      · have nx := ih (c + 1) (by omega) v (hv.congr fun j hj => by
          by_cases e : j = c
          · subst e; simp [z]
          · have : (j < c + 1) ↔ j < c := by omega
            simp [this])
        simpa [mj_u, mj_kl] using nx
      · have z' : tp w hs m c = some k := by simpa using z
        have nx := ih (c + 1) (by omega) _ ((hv.set (c := c) (by omega)).congr fun j hj => by
          by_cases e : j = c
          · subst e; simp [z']
          · have : (j < c + 1) ↔ j < c := by omega
            simp [this, e])
        simpa [mj_u, mj_kl] using nx
  refine n169 k0 ?_
  simp only [e169_0, e169_1, e169_2, e169_3, e169_7, e169_9, e169_12, e169_13, e169_14, e169_17, e169_19, e169_20, e169_21, e169_24, e169_25, e169_27, e169_28, e169_31, e169_32, e169_33, e169_34, e169_37, e169_40, e169_41, mj_kl]
  have := loop 32 0 (by omega) 0 (MkL.zero.congr fun j _ => by simp)
  simpa [nI_0, mj_u, mj_kl] using this
theorem c_letterAt (hV : MV K FR FI AI AL q a u w hs m) (hT : TopR AI q w hs m) {c : Nat} (hc : c < wW w * wH w) (hQ : Q (some (.int (oI (letr w hs m c) (-1)))) (n, K, FI, FL, FR, AI, AL, AR)) : EV sa (d + 1) 171 [.ref q, .ref a, .ref u, .int (nI c)] (n, K, FI, FL, FR, AI, AL, AR) Q := by
  obtain ⟨⟨k0, ⟨f0, k1⟩, -⟩, ⟨ka, -, ⟨g2, ka2⟩, -, ⟨g4, ka4⟩, ⟨g5, ka5⟩, -⟩, hw, ⟨⟨w1, -⟩, mb, -⟩, ⟨ku, ⟨h0, ku1⟩, -⟩, ⟨r1, r2, r3⟩, -, -⟩ := hV
  have h32 : wW w * wH w ≤ 32 := Nat.mul_le_mul hw.1.2 hw.2.1.2
  have hW := hw.1
  have hn4 := hw.2.2.2.1
  have hin : vp_in (nI c) 32 := vp_in_nI (by omega) (by decide)
  have hcl : (nI c).toNatClampNeg = c := nI_clamp (by omega)
  have ht := hT c (by omega)
  refine n171 k0 ?_
  simp only [e171_0, e171_1, e171_4, e171_5, e171_6, e171_8, e171_10, e171_11, e171_14, e171_15, e171_16, e171_17, e171_20, e171_21, e171_23, e171_24, e171_25, e171_27, e171_28, e171_29, e171_32, e171_33, e171_34, e171_37, e171_39, e171_41, e171_42, e171_43, e171_44, e171_45, e171_48, e171_50, e171_51, e171_52, e171_53, e171_54, e171_57, e171_58, e171_59, e171_60, e171_63, e171_65, e171_67, e171_68, e171_69, e171_70, e171_72, e171_73, e171_76, e171_78, e171_80, e171_81, e171_83, e171_84, e171_87, e171_89, e171_90, e171_91, e171_92, e171_93, k0, f0, k1, rf_some, hin, hcl, ht, true_and, true_or, mj_kl]
  unfold letr at hQ
  cases e : tp w hs m c with
  | none =>
    rw [e] at hQ
    simp only [oI]
    exact ⟨fun z => absurd trivial z, fun _ => hQ⟩
  | some k =>
    obtain ⟨e1, e2⟩ := tp_lt e
    rw [e] at hQ
    obtain ⟨g1, b1, x1, y1, -, -⟩ := r3 k e1
    obtain ⟨-, m2, -, m4, m5⟩ := mb _ g1.1
    obtain ⟨-, hb2, hb3, ht1, -⟩ := hw.2.2.2.2.2.2.1 _ g1.1
    have hb4 := g1.1
    simp only [covg, cov, decide_eq_true_eq] at e2
    simp only [oI, Option.map_some] at hQ ⊢
    have i1 : vp_in (nI (1 + k)) 127 := vp_in_nI (by omega) (by decide)
    have c1 : (nI (1 + k)).toNatClampNeg = 1 + k := nI_clamp (by omega)
    have i2 : vp_in (nI (31 + k)) 127 := vp_in_nI (by omega) (by decide)
    have c2 : (nI (31 + k)).toNatClampNeg = 31 + k := nI_clamp (by omega)
    have i3 : vp_in (nI (61 + k)) 127 := vp_in_nI (by omega) (by decide)
    have c3 : (nI (61 + k)).toNatClampNeg = 61 + k := nI_clamp (by omega)
    have ib : vp_in (nI (gB (hs k))) 4 := vp_in_nI (by omega) (by decide)
    have cb : (nI (gB (hs k))).toNatClampNeg = gB (hs k) := nI_clamp (by omega)
    have nW : ¬ nI (wW w) = 0 := nI_ne0 (by omega) (by omega)
    have nT : ¬ nI (wTL w (gB (hs k))) = 0 := nI_ne0 (by omega) (by omega)
    have hx8 : c % wW w < wW w := Nat.mod_lt _ (by omega)
    have hy4 : c / wW w < wH w := Nat.div_lt_of_lt_mul hc
    have hH4 := hw.2.1.2
    have hmul : (c / wW w - gY (hs k)) * wBW w (gB (hs k)) ≤ 4 * 8 := Nat.mul_le_mul (by omega) (by omega)
    have hmod : ((c / wW w - gY (hs k)) * wBW w (gB (hs k)) + c % wW w - gX (hs k)) % wTL w (gB (hs k)) < wTL w (gB (hs k)) := Nat.mod_lt _ (by omega)
    have m5' := m5 _ hmod
    have it : vp_in (nI (8 * gB (hs k) + ((c / wW w - gY (hs k)) * wBW w (gB (hs k)) + c % wW w - gX (hs k)) % wTL w (gB (hs k)))) 32 := vp_in_nI (by omega) (by decide)
    have ct' : (nI (8 * gB (hs k) + ((c / wW w - gY (hs k)) * wBW w (gB (hs k)) + c % wW w - gX (hs k)) % wTL w (gB (hs k)))).toNatClampNeg = 8 * gB (hs k) + ((c / wW w - gY (hs k)) * wBW w (gB (hs k)) + c % wW w - gX (hs k)) % wTL w (gB (hs k)) := nI_clamp (by omega)
    simp only [e171_0, e171_1, e171_4, e171_5, e171_6, e171_8, e171_10, e171_11, e171_14, e171_15, e171_16, e171_17, e171_20, e171_21, e171_23, e171_24, e171_25, e171_27, e171_28, e171_29, e171_32, e171_33, e171_34, e171_37, e171_39, e171_41, e171_42, e171_43, e171_44, e171_45, e171_48, e171_50, e171_51, e171_52, e171_53, e171_54, e171_57, e171_58, e171_59, e171_60, e171_63, e171_65, e171_67, e171_68, e171_69, e171_70, e171_72, e171_73, e171_76, e171_78, e171_80, e171_81, e171_83, e171_84, e171_87, e171_89, e171_90, e171_91, e171_92, e171_93, ka, ku, h0, ku1, g2, ka2, g4, ka4, g5, ka5, w1, rf_some, show (1 : Int32) = nI 1 from rfl, show (31 : Int32) = nI 31 from rfl, show (61 : Int32) = nI 61 from rfl, show (8 : Int32) = nI 8 from rfl, nI_add, i1, c1, i2, c2, i3, c3, b1, x1, y1, ib, cb, m2, m4, nW, nT, pk_div (show c < 2 ^ 31 by omega) (show 0 < wW w by omega) (show wW w < 2 ^ 31 by omega), rem_m1, rem_m2, pk_sub (show gY (hs k) ≤ c / wW w by omega), pk_mul, pk_sub (show gX (hs k) ≤ (c / wW w - gY (hs k)) * wBW w (gB (hs k)) + c % wW w by omega), pk_div (show (c / wW w - gY (hs k)) * wBW w (gB (hs k)) + c % wW w - gX (hs k) < 2 ^ 31 by omega) (show 0 < wTL w (gB (hs k)) by omega) (show wTL w (gB (hs k)) < 2 ^ 31 by omega), it, ct', m5', true_and, true_or, not_false_eq_true, mj_kl]
    refine ⟨fun _ => hQ, fun z => absurd ?_ z⟩
    intro z
    have : nI k < 0 := by rw [z]; decide
    exact absurd this (nI_pos (by omega))
theorem c_stands (hV : MV K FR FI AI AL q a u w hs m) (hT : TopR AI q w hs m) {v c : Nat} (hv : v < wNW w) (hc : c < wW w * wH w) (hQ : Q (some (.int (bI (stand w hs m v c)))) (n, K, FI, FL, FR, AI, AL, AR)) : EV sa (d + 2) 172 [.ref q, .ref a, .ref u, .int (nI v), .int (nI c)] (n, K, FI, FL, FR, AI, AL, AR) Q := by
  obtain ⟨⟨k0, -⟩, ⟨ka, -, -, -, -, -, ⟨g6, ka6⟩, ⟨g7, ka7⟩, -⟩, hw, ⟨⟨w1, -⟩, -, mv⟩, -, ⟨r1, r2, r3⟩, -, -⟩ := id hV
  have h32 : wW w * wH w ≤ 32 := Nat.mul_le_mul hw.1.2 hw.2.1.2
  have hW := hw.1
  have hn6 := hw.2.2.2.2.2.1
  obtain ⟨v1, v2⟩ := mv v hv
  obtain ⟨hl, h26⟩ := hw.2.2.2.2.2.2.2 v hv
  have iv' : vp_in (nI v) 6 := vp_in_nI (by omega) (by decide)
  have cv : (nI v).toNatClampNeg = v := nI_clamp (by omega)
  have nW : ¬ nI (wW w) = 0 := nI_ne0 (by omega) (by omega)
  have hx8 : c % wW w < wW w := Nat.mod_lt _ (by omega)
  have hcr := pk_rem (show c < 2 ^ 31 by omega) (show 0 < wW w by omega) (show wW w < 2 ^ 31 by omega)
  have hg : ∀ k, k < m → gOK w (hs k) := fun k hk => (r3 k hk).1
  have loop : c % wW w + wWL w v ≤ wW w → ∀ rr i, i + rr = wWL w v → (∀ j, j < i → letr w hs m (c + j) = some (wWT w v j)) → WP sa (EV sa (d + 1)) 172 Q 0 0 26 [.ref q, .ref a, .ref u, .int (nI v), .int (nI c), .int (nI i)] [] (n, K, FI, FL, FR, AI, AL, AR) := by
    intro hfit rr
    induction rr with
    | zero =>
      intro i hi hj
      have hi' : i = wWL w v := by omega
      subst hi'
      rw [e172_26]
      simp only [e172_0, e172_2, e172_3, e172_6, e172_7, e172_8, e172_11, e172_12, e172_13, e172_14, e172_15, e172_18, e172_21, e172_22, e172_23, e172_24, e172_28, e172_29, e172_32, e172_33, e172_34, e172_37, e172_38, e172_39, e172_40, e172_42, e172_44, e172_45, e172_48, e172_49, e172_52, e172_54, e172_55, e172_56, e172_58, e172_59, e172_60, e172_63, e172_64, e172_65, e172_68, e172_71, e172_72, ka, g6, ka6, rf_some, iv', cv, v1, true_and, true_or, or_true]
      refine ⟨fun _ => ?_, fun z => absurd (nI_le (Nat.le_refl _) (by omega)) z⟩
      have e : stand w hs m v c = true := by
        unfold stand
        rw [decide_eq_true hfit, Bool.true_and, Bool.not_eq_true', ex_false]
        intro k hk
        simp [hj k hk]
      rw [e] at hQ
      exact hQ
    | succ rr ih =>
      intro i hi hj
      have hci : c + i < wW w * wH w := by
        have hy : c / wW w < wH w := Nat.div_lt_of_lt_mul hc
        have e1 : wW w * (c / wW w + 1) ≤ wW w * wH w := Nat.mul_le_mul_left _ hy
        have e2 := Nat.div_add_mod c (wW w)
        rw [Nat.mul_add] at e1
        omega
      have i8 : vp_in (nI (8 * v + i)) 48 := vp_in_nI (by omega) (by decide)
      have c8 : (nI (8 * v + i)).toNatClampNeg = 8 * v + i := nI_clamp (by omega)
      rw [e172_26]
      simp only [e172_0, e172_2, e172_3, e172_6, e172_7, e172_8, e172_11, e172_12, e172_13, e172_14, e172_15, e172_18, e172_21, e172_22, e172_23, e172_24, e172_28, e172_29, e172_32, e172_33, e172_34, e172_37, e172_38, e172_39, e172_40, e172_42, e172_44, e172_45, e172_48, e172_49, e172_52, e172_54, e172_55, e172_56, e172_58, e172_59, e172_60, e172_63, e172_64, e172_65, e172_68, e172_71, e172_72, ka, g6, ka6, rf_some, iv', cv, v1, nI_add, true_and, true_or, or_true]
      refine ⟨fun z => absurd z (nI_ge (by omega) (by omega)), fun _ => ⟨by simp, c_letterAt hV hT hci ?_⟩⟩
      simp only [tl_some, e172_0, e172_2, e172_3, e172_6, e172_7, e172_8, e172_11, e172_12, e172_13, e172_14, e172_15, e172_18, e172_21, e172_22, e172_23, e172_24, e172_28, e172_29, e172_32, e172_33, e172_34, e172_37, e172_38, e172_39, e172_40, e172_42, e172_44, e172_45, e172_48, e172_49, e172_52, e172_54, e172_55, e172_56, e172_58, e172_59, e172_60, e172_63, e172_64, e172_65, e172_68, e172_71, e172_72, ka, g7, ka7, rf_some, show (8 : Int32) = nI 8 from rfl, pk_mul, nI_add, i8, c8, v2 i (by omega), nI_1, oI_some (fun j hj => Nat.lt_trans (letr_26 hw hg hj) (by decide)) (Nat.lt_trans (h26 i (by omega)) (by decide)), true_and, true_or, mj_kl]
      refine ⟨fun z => ?_, fun z => ?_⟩
      · refine ih (i + 1) (by omega) fun j h => ?_
        by_cases e : j = i
        · subst e; exact z
        · exact hj j (by omega)
      · have e : stand w hs m v c = false := by
          unfold stand
          rw [Bool.and_eq_false_iff]
          right
          rw [Bool.not_eq_false', ex_true]
          exact ⟨i, by omega, by simpa using z⟩
        rw [e] at hQ
        exact hQ
  refine n172 k0 ?_
  simp only [e172_0, e172_2, e172_3, e172_6, e172_7, e172_8, e172_11, e172_12, e172_13, e172_14, e172_15, e172_18, e172_21, e172_22, e172_23, e172_24, e172_28, e172_29, e172_32, e172_33, e172_34, e172_37, e172_38, e172_39, e172_40, e172_42, e172_44, e172_45, e172_48, e172_49, e172_52, e172_54, e172_55, e172_56, e172_58, e172_59, e172_60, e172_63, e172_64, e172_65, e172_68, e172_71, e172_72, ka, g6, ka6, rf_some, iv', cv, v1, w1, nW, hcr, nI_add, not_false_eq_true, true_and, true_or, mj_kl]
  refine ⟨fun z => ?_, fun z => ?_⟩
  · have := loop ((nI_leI (by omega) (by omega)).mp z) (wWL w v) 0 (by omega) (fun j h => by omega)
    simpa [nI_0, mj_u, mj_kl] using this
  · have e : stand w hs m v c = false := by
      unfold stand
      rw [Bool.and_eq_false_iff]
      left
      exact decide_eq_false fun y => z (nI_le y (by omega))
    rw [e] at hQ
    exact hQ
theorem c_readsNow (hV : MV K FR FI AI AL q a u w hs m) (hT : TopR AI q w hs m) {v : Nat} (hv : v < wNW w) (hQ : Q (some (.int (nI (reads w hs m v)))) (n, K, FI, FL, FR, AI, AL, AR)) : EV sa (d + 3) 173 [.ref q, .ref a, .ref u, .int (nI v)] (n, K, FI, FL, FR, AI, AL, AR) Q := by
  obtain ⟨⟨k0, -⟩, ⟨ka, -⟩, hw, ⟨⟨w1, w2, -⟩, -, -⟩, -⟩ := id hV
  have h32 : wW w * wH w ≤ 32 := Nat.mul_le_mul hw.1.2 hw.2.1.2
  have loop : ∀ rr c, c + rr = wW w * wH w → WP sa (EV sa (d + 2)) 173 Q 0 0 6 [.ref q, .ref a, .ref u, .int (nI v), .int (nI (ct (fun c => stand w hs m v c) c)), .int (nI c)] [] (n, K, FI, FL, FR, AI, AL, AR) := by
    intro rr
    induction rr with
    | zero =>
      intro c hc
      have hc' : c = wW w * wH w := by omega
      subst hc'
      rw [e173_6]
      simp only [e173_0, e173_1, e173_3, e173_4, e173_8, e173_9, e173_12, e173_13, e173_16, e173_17, e173_20, e173_22, e173_23, e173_24, e173_25, e173_26, e173_28, e173_31, e173_34, e173_35, e173_38, e173_39, e173_40, e173_42, e173_45, e173_48, e173_50, ka, w1, w2, pk_mul, true_and]
      exact ⟨fun _ => hQ, fun z => absurd (nI_le (Nat.le_refl _) (by omega)) z⟩
    | succ rr ih =>
      intro c hc
      rw [e173_6]
      simp only [e173_0, e173_1, e173_3, e173_4, e173_8, e173_9, e173_12, e173_13, e173_16, e173_17, e173_20, e173_22, e173_23, e173_24, e173_25, e173_26, e173_28, e173_31, e173_34, e173_35, e173_38, e173_39, e173_40, e173_42, e173_45, e173_48, e173_50, ka, w1, w2, pk_mul, true_and]
      refine ⟨fun z => absurd z (nI_ge (by omega) (by omega)), fun _ => ⟨by simp, c_stands hV hT hv (by omega) ?_⟩⟩
      have nx := ih (c + 1) (by omega)
      rw [ct_top] at nx
      simp only [tl_some, e173_0, e173_1, e173_3, e173_4, e173_8, e173_9, e173_12, e173_13, e173_16, e173_17, e173_20, e173_22, e173_23, e173_24, e173_25, e173_26, e173_28, e173_31, e173_34, e173_35, e173_38, e173_39, e173_40, e173_42, e173_45, e173_48, e173_50, nI_1, mj_kl, bI_eq0]
      refine ⟨fun z => ?_, fun z => ?_⟩
      · simpa [z] using nx
      · have z' : stand w hs m v c = true := by simpa using z
        simpa [z'] using nx
  refine n173 k0 ?_
  simp only [e173_0, e173_1, e173_3, e173_4, e173_8, e173_9, e173_12, e173_13, e173_16, e173_17, e173_20, e173_22, e173_23, e173_24, e173_25, e173_26, e173_28, e173_31, e173_34, e173_35, e173_38, e173_39, e173_40, e173_42, e173_45, e173_48, e173_50, mj_kl]
  have := loop (wW w * wH w) 0 (by omega)
  simpa [nI_0, ct, mj_u, mj_kl] using this
end
