theorem bt_one : ∀ c, c < 32 → bt 1 c = decide (c = 0) := by decide +kernel
theorem and1_1 (y : Int32) : (y &&& 1 = 1) ↔ bt y 0 = true := by
  constructor
  · intro e
    have := b_and y 1 0
    rw [e, bt_one 0 (by decide)] at this
    simpa using this.symm
  · intro e
    refine b_ext fun c hc => ?_
    rw [b_and, bt_one c hc]
    by_cases z : c = 0
    · subst z; rw [e]; rfl
    · simp [z]
theorem and1_0 (y : Int32) : (y &&& 1 = 0) ↔ bt y 0 = false := by
  constructor
  · intro e
    have := b_and y 1 0
    rw [e, b_0, bt_one 0 (by decide)] at this
    simpa using this.symm
  · intro e
    refine b_ext fun c hc => ?_
    rw [b_and, b_0, bt_one c hc]
    by_cases z : c = 0
    · subst z; rw [e]; rfl
    · simp [z]
theorem bit_k {x : Int32} {k : Nat} (hk : k < 31) : bt (x >>> (nI k &&& 31)) 0 = bt x k := by rw [b_sshr k (by omega) x (by decide), if_pos (by omega)]; rfl
theorem oI_inj {o o' : Option Nat} (h : ∀ j, o = some j → j < 1000) (h' : ∀ j, o' = some j → j < 1000) : oI o (-1) = oI o' (-1) ↔ o = o' := by
  cases o' with
  | some k => exact oI_some h (h' k rfl)
  | none =>
    cases o with
    | none => simp
    | some k =>
      simp only [oI, reduceCtorEq, iff_false]
      intro z
      have h3 : nI k < 0 := by rw [z]; decide
      exact absurd h3 (nI_pos (by have := h k rfl; omega))
/-- the orders' own arrays -/
def OArr (FI AI : Nat → Nat → Int32) (q : Nat) (w : Wl) (hs : Nat → Hg) (m : Nat) (ab : Option (Nat × Nat)) : Prop :=
  (FI 677 q = nI (m - wF w) ∧ wF w ≤ m ∧ m - wF w ≤ 7 ∧ m ≤ 30) ∧ (match ab with
  | none => FI 679 q = -1
  | some x => FI 678 q = nI (x.1 - wF w) ∧ FI 679 q = nI (x.2 - wF w) ∧ wF w ≤ x.1 ∧ x.1 < m ∧ wF w ≤ x.2 ∧ x.2 < m) ∧ (∀ c, c < 32 → AI (q + 7) c = oI (tp w hs m c) (-1)) ∧ ∀ j, j < m - wF w → gOK w (hs (wF w + j)) ∧ AI (q + 8) j = nI (gB (hs (wF w + j))) ∧ AI (q + 9) j = nI (gX (hs (wF w + j))) ∧ AI (q + 10) j = nI (gY (hs (wF w + j))) ∧ AI (q + 12) j = gR (hs (wF w + j))
theorem OArr.fr {FI AI AI' : Nat → Nat → Int32} {q m : Nat} {w : Wl} {hs : Nat → Hg} {ab : Option (Nat × Nat)} (h : OArr FI AI q w hs m ab) (e : ∀ z, (7 ≤ z ∧ z ≤ 10 ∨ z = 12) → AI' (q + z) = AI (q + z)) : OArr FI AI' q w hs m ab := by
  obtain ⟨h1, h2, h3, h4⟩ := h
  refine ⟨h1, h2, ?_, ?_⟩
  · rw [e 7 (by omega)]; exact h3
  · rw [e 8 (by omega), e 9 (by omega), e 10 (by omega), e 12 (by omega)]; exact h4
/-- what the orders change -/
def OZ (q u : Nat) (AI AI' : Nat → Nat → Int32) (AL AL' : Nat → Nat → Int64) : Prop := (∀ z, z ≠ q + 1 → z ≠ q + 2 → z ≠ q + 11 → z ≠ u + 1 → AI' z = AI z) ∧ (∀ j, 121 ≤ j → AI' (u + 1) j = AI (u + 1) j) ∧ ∀ z, z ≠ u + 2 → AL' z = AL z
theorem OZ.rfl' {q u : Nat} {AI : Nat → Nat → Int32} {AL : Nat → Nat → Int64} : OZ q u AI AI AL AL := ⟨fun _ _ _ _ _ => rfl, fun _ _ => rfl, fun _ _ => rfl⟩
theorem OZ.trans {q u : Nat} {AI A1 A2 : Nat → Nat → Int32} {AL L1 L2 : Nat → Nat → Int64} (a : OZ q u AI A1 AL L1) (b : OZ q u A1 A2 L1 L2) : OZ q u AI A2 AL L2 := ⟨fun z h1 h2 h3 h4 => by rw [b.1 z h1 h2 h3 h4, a.1 z h1 h2 h3 h4], fun j hj => by rw [b.2.1 j hj, a.2.1 j hj], fun z hz => by rw [b.2.2 z hz, a.2.2 z hz]⟩
theorem MX.toOZ {q u : Nat} {AI A1 : Nat → Nat → Int32} {AL L1 : Nat → Nat → Int64} (a : MX q u AI A1 AL L1) : OZ q u AI A1 AL L1 := ⟨fun z h1 h2 _ h4 => a.1 z h1 h2 h4, a.2.1, a.2.2⟩
theorem OZ.toMQ {q u : Nat} {FI AI A1 : Nat → Nat → Int32} {AL L1 : Nat → Nat → Int64} (a : OZ q u AI A1 AL L1) : MQx q u FI FI AI A1 AL L1 := ⟨FIx.rfl', fun z h1 h2 h3 h4 => a.1 z h1 h2 (by omega) h4, a.2.1, a.2.2⟩
section
variable {sa : Nat → Nat} {d n t h m : Nat} {Q : mj_Q} {K : Nat → Nat × Nat} {FI : Nat → Nat → Int32} {FL : Nat → Nat → Int64} {FR : Nat → Nat → Option Nat} {AI : Nat → Nat → Int32} {AL : Nat → Nat → Int64} {AR : Nat → Nat → Option Nat} {w : Wl} {hs : Nat → Hg}
variable {a u q : Nat} {P : PG} {ab : Option (Nat × Nat)}
theorem c_looksSame (hSt : MStS K FR q) {hsT : Nat → Hg} {rw_ : Nat → Nat} (hO : MO K FR FI AI AL q a w hsT m) (h3 : ∀ k, k < m → sm3 (hsT k) (hsR w hs rw_ k)) (hA : OArr FI AI q w hs m ab) (hr : ∀ p, p < m - wF w → AI (q + 11) p = nI (rw_ p) ∧ rw_ p < 7) (hQ : ∀ (AI' : Nat → Nat → Int32), MO K FR FI AI' AL q a w hsT m → MX q (a + 13) AI AI' AL AL → Q (some (.int (bI (sameL w hs m rw_)))) (n, K, FI, FL, FR, AI', AL, AR)) : EV sa (d + 3) 267 [.ref q] (n, K, FI, FL, FR, AI, AL, AR) Q := by
  have k0 := hO.k
  have s1 := hO.1.2.2.2.2.2.2.1
  obtain ⟨⟨-, hF, h7, h30⟩, -, hlk, -⟩ := id hA
  obtain ⟨-, ⟨f0, k1⟩, -, -, -, -, -, ⟨f7, k7⟩, -, -, -, ⟨f11, k11⟩, -⟩ := id hSt
  have w7 := hO.1.2.2.2.1.1.2.2.2.2.2.2.1
  have ka := hO.1.2.1.1
  refine n267 k0 ?_
  simp only [e267_0, e267_1, e267_2, e267_5, e267_6, e267_9, e267_12, e267_13, e267_15, e267_17, e267_20, e267_21, e267_24, e267_25, e267_26, e267_27, e267_30, e267_33, e267_36, e267_37, e267_40, e267_41, e267_42, e267_45, e267_46, e267_49, e267_52, e267_53, e267_56, e267_57, e267_60, e267_61, e267_62, e267_63, e267_66, e267_69, e267_70, e267_71, e267_72, e267_73, e267_74, e267_75, e267_78, e267_79, e267_80, e267_83, e267_84, e267_85, e267_88, e267_91, e267_92, k0, hO.2.1, hO.2.2, rf_some, true_and]
  refine ⟨by simp, c_looks hO.1.1 hO.1.2.2.2.2.1 (by omega) hO.mh fun A t x' => ?_⟩
  have hX : MX q (a + 13) AI A AL AL := ⟨fun z z1 _ _ => x' z (by omega), fun j _ => by rw [x' _ (by omega)], fun _ _ => rfl⟩
  have hOA := hO.ofX (hO.1.of hX (hO.mh.fr (AL' := AL) (x' _ (by omega)) rfl))
  have fin := hQ A hOA hX
  generalize hv : (fun c => (tp w (hsR w hs rw_) m c).map (fun k => if k < wF w then k else wF w + rw_ (k - wF w))) = v
  have hv' : ∀ c, (tp w (hsR w hs rw_) m c).map (fun k => if k < wF w then k else wF w + rw_ (k - wF w)) = v c := fun c => by rw [← hv]
  have esm : sameL w hs m rw_ = !(ex (fun c => v c != tp w hs m c) 32) := by unfold sameL; simp only [hv']
  rw [esm] at fin
  have vb : ∀ c j, v c = some j → j < 1000 := fun c j hj => by
    rw [← hv'] at hj
    cases e : tp w (hsR w hs rw_) m c with
    | none => rw [e] at hj; cases hj
    | some k =>
      rw [e] at hj
      have hk := (tp_lt e).1
      simp only [Option.map_some, Option.some.injEq] at hj
      split at hj
      · omega
      · have := (hr (k - wF w) (by omega)).2
        omega
  have loop : ∀ rr c, c + rr = 32 → (∀ j, j < c → v j = tp w hs m j) → ∀ x2 : Value, WP sa (EV sa (d + 2)) 267 Q 0 0 14 [.ref q, .int (nI c), x2] [] (n, K, FI, FL, FR, A, AL, AR) := by
    intro rr
    induction rr with
    | zero =>
      intro c hc hj x2
      have hc' : c = 32 := by omega
      subst hc'
      rw [ex_false.mpr (fun k hk => by rw [hj k hk]; simp)] at fin
      rw [e267_14]
      simp only [e267_0, e267_1, e267_2, e267_5, e267_6, e267_9, e267_12, e267_13, e267_15, e267_17, e267_20, e267_21, e267_24, e267_25, e267_26, e267_27, e267_30, e267_33, e267_36, e267_37, e267_40, e267_41, e267_42, e267_45, e267_46, e267_49, e267_52, e267_53, e267_56, e267_57, e267_60, e267_61, e267_62, e267_63, e267_66, e267_69, e267_70, e267_71, e267_72, e267_73, e267_74, e267_75, e267_78, e267_79, e267_80, e267_83, e267_84, e267_85, e267_88, e267_91, e267_92, or_true, true_and]
      exact ⟨fun _ => fin, fun z => absurd (by decide) z⟩
    | succ rr ih =>
      intro c hc hj x2
      have hin : vp_in (nI c) 32 := vp_in_nI (by omega) (by decide)
      have hcl : (nI c).toNatClampNeg = c := nI_clamp (by omega)
      have ht := t c (by omega)
      rw [tp3 h3] at ht
      have el : A (q + 7) c = oI (tp w hs m c) (-1) := by rw [x' _ (by omega)]; exact hlk c (by omega)
      have einj : (oI (v c) (-1) = oI (tp w hs m c) (-1)) ↔ v c = tp w hs m c := oI_inj (vb c) (fun j hj => by have := (tp_lt hj).1; omega)
      have cmp : ∀ x : Int32, x = oI (v c) (-1) → WP sa (EV sa (d + 2)) 267 Q 0 0 72 [.ref q, .int (nI c), x2] [.int x] (n, K, FI, FL, FR, A, AL, AR) := by
        rintro x rfl
        simp only [e267_0, e267_1, e267_2, e267_5, e267_6, e267_9, e267_12, e267_13, e267_15, e267_17, e267_20, e267_21, e267_24, e267_25, e267_26, e267_27, e267_30, e267_33, e267_36, e267_37, e267_40, e267_41, e267_42, e267_45, e267_46, e267_49, e267_52, e267_53, e267_56, e267_57, e267_60, e267_61, e267_62, e267_63, e267_66, e267_69, e267_70, e267_71, e267_72, e267_73, e267_74, e267_75, e267_78, e267_79, e267_80, e267_83, e267_84, e267_85, e267_88, e267_92, k0, f7, k7, rf_some, hin, hcl, el, einj, nI_1, mj_kl, true_and, true_or]
        refine ⟨fun z => ih (c + 1) (by omega) (fun j h => ?_) _, fun z => ?_⟩
        · by_cases y : j = c
          · subst y; exact z
          · exact hj j (by omega)
        · rw [ex_true.mpr ⟨c, by omega, by simpa using z⟩] at fin
          exact fin
      rw [e267_14]
      simp only [e267_0, e267_1, e267_2, e267_5, e267_6, e267_9, e267_12, e267_13, e267_15, e267_17, e267_20, e267_21, e267_24, e267_25, e267_26, e267_27, e267_30, e267_33, e267_36, e267_37, e267_40, e267_41, e267_42, e267_45, e267_46, e267_49, e267_52, e267_53, e267_56, e267_57, e267_60, e267_61, e267_62, e267_63, e267_66, e267_69, e267_70, e267_71, e267_73, e267_74, e267_75, e267_78, e267_79, e267_80, e267_83, e267_84, e267_85, e267_88, e267_92, k0, f0, k1, hO.2.1, rf_some, hin, hcl, ht, ka, w7, true_and, true_or]
      refine ⟨fun z => absurd z (nI_ge (b := 32) (by omega) (by decide)), fun _ => ?_⟩
      have hvc := hv' c
      cases e : tp w (hsR w hs rw_) m c with
      | none =>
        rw [e] at hvc
        simp only [oI]
        refine ⟨fun z => absurd z ?_, fun _ => cmp _ (by rw [← hvc]; rfl)⟩
        refine Int32.not_le.mpr (Int32.lt_of_lt_of_le (by decide) (nI0_le (by omega)))
      | some k =>
        rw [e] at hvc
        have hk := (tp_lt e).1
        simp only [oI, nI_leI (show wF w < 2 ^ 31 by omega) (show k < 2 ^ 31 by omega)]
        refine ⟨fun z => ?_, fun z => cmp _ (by rw [← hvc]; simp only [Option.map_some]; rw [if_pos (by omega)]; rfl)⟩
        obtain ⟨r1, r2⟩ := hr (k - wF w) (by omega)
        have i1 : vp_in (nI (k - wF w)) 7 := vp_in_nI (by omega) (by decide)
        have c1 : (nI (k - wF w)).toNatClampNeg = k - wF w := nI_clamp (by omega)
        have er : A (q + 11) (k - wF w) = nI (rw_ (k - wF w)) := by rw [x' _ (by omega)]; exact r1
        rw [e] at ht
        simp only [oI] at ht
        simp only [e267_0, e267_1, e267_2, e267_5, e267_6, e267_9, e267_12, e267_13, e267_15, e267_17, e267_20, e267_21, e267_24, e267_25, e267_26, e267_27, e267_30, e267_33, e267_36, e267_37, e267_40, e267_41, e267_42, e267_45, e267_46, e267_49, e267_52, e267_53, e267_56, e267_57, e267_60, e267_61, e267_62, e267_63, e267_66, e267_69, e267_70, e267_71, e267_73, e267_74, e267_75, e267_78, e267_79, e267_80, e267_83, e267_84, e267_85, e267_88, e267_92, pk_sub z, f11, k11, rf_some, i1, c1, er, nI_add, true_and, true_or]
        exact cmp _ (by rw [← hvc]; simp only [Option.map_some]; rw [if_neg (by omega)]; rfl)
  simp only [tl_none, e267_0, e267_1, e267_2, e267_5, e267_6, e267_9, e267_12, e267_13, e267_15, e267_17, e267_20, e267_21, e267_24, e267_25, e267_26, e267_27, e267_30, e267_33, e267_36, e267_37, e267_40, e267_41, e267_42, e267_45, e267_46, e267_49, e267_52, e267_53, e267_56, e267_57, e267_60, e267_61, e267_62, e267_63, e267_66, e267_69, e267_70, e267_71, e267_72, e267_73, e267_74, e267_75, e267_78, e267_79, e267_80, e267_83, e267_84, e267_85, e267_88, e267_91, e267_92, mj_kl]
  have := loop 32 0 (by omega) (fun j h => by omega) mj_u
  simpa [nI_0, mj_u, mj_kl] using this
theorem c_comes (hSt : MStS K FR q) : ∀ (f : Nat) {st : Nat → Bool} {rw_ : Nat → Nat} {t : Nat} {hsT : Nat → Hg} {AI : Nat → Nat → Int32} {AL : Nat → Nat → Int64} {Q : mj_Q} {mst : Int32}, t + f = m - wF w → MO K FR FI AI AL q a w hsT (wF w + t) → (∀ k, k < wF w + t → sm3 (hsT k) (hsR w hs rw_ k)) → OArr FI AI q w hs m ab → (∀ p, p < t → AI (q + 11) p = nI (rw_ p) ∧ rw_ p < 7) → (∀ j, j < 7 → bt mst j = st (wF w + j)) → (∀ (AI' : Nat → Nat → Int32) (AL' : Nat → Nat → Int64), MO K FR FI AI' AL' q a w hsT (wF w + t) → OZ q (a + 13) AI AI' AL AL' → (∀ p, p < t → AI' (q + 11) p = AI (q + 11) p) → Q (some (.int (nI (MC w hs m ab f st rw_ t)))) (n, K, FI, FL, FR, AI', AL', AR)) → EV sa (d + f + 8) 266 [.ref q, .int mst] (n, K, FI, FL, FR, AI, AL, AR) Q := by
  intro f
  induction f with
  | zero =>
    intro st rw_ t hsT AI AL Q mst h1 hO h3 hA hr hst hQ
    obtain ⟨⟨e677, hF, h7, h30⟩, -⟩ := id hA
    have k0 := hO.k
    have w7 := hO.1.2.2.2.1.1.2.2.2.2.2.2.1
    have em : wF w + t = m := by omega
    refine n266 k0 ?_
    simp only [e266_0, e266_1, e266_4, e266_7, e266_8, e266_11, e266_14, e266_15, e266_16, e266_17, e266_18, e266_21, e266_24, e266_25, e266_28, e266_31, e266_32, e266_35, e266_36, e266_37, e266_38, e266_39, e266_40, e266_44, e266_45, e266_48, e266_51, e266_52, e266_54, e266_55, e266_56, e266_57, e266_58, e266_61, e266_63, e266_64, e266_67, e266_70, e266_71, e266_72, e266_75, e266_76, e266_77, e266_78, e266_81, e266_84, e266_85, e266_86, e266_89, e266_90, e266_93, e266_94, e266_97, e266_99, e266_100, e266_101, e266_104, e266_106, e266_107, e266_108, e266_111, e266_113, e266_114, e266_117, e266_120, e266_123, e266_124, e266_127, e266_128, e266_131, e266_132, e266_135, e266_137, e266_138, e266_139, e266_142, e266_144, e266_145, e266_146, e266_149, e266_151, e266_152, e266_154, e266_157, e266_158, e266_161, e266_162, e266_164, e266_165, e266_166, e266_167, e266_168, e266_169, e266_171, e266_172, e266_173, e266_176, e266_177, e266_178, e266_179, e266_182, e266_185, e266_188, e266_191, e266_192, k0, hO.2.2, rf_some, true_and]
    refine ⟨by simp, c_many hO.1.2.2.2.2.1 ?_⟩
    rw [hO.mh.1]
    simp only [tl_some, e266_0, e266_1, e266_4, e266_7, e266_8, e266_11, e266_14, e266_15, e266_16, e266_17, e266_18, e266_21, e266_24, e266_25, e266_28, e266_31, e266_32, e266_35, e266_36, e266_37, e266_38, e266_39, e266_40, e266_44, e266_45, e266_48, e266_51, e266_52, e266_54, e266_55, e266_56, e266_57, e266_58, e266_61, e266_63, e266_64, e266_67, e266_70, e266_71, e266_72, e266_75, e266_76, e266_77, e266_78, e266_81, e266_84, e266_85, e266_86, e266_89, e266_90, e266_93, e266_94, e266_97, e266_99, e266_100, e266_101, e266_104, e266_106, e266_107, e266_108, e266_111, e266_113, e266_114, e266_117, e266_120, e266_123, e266_124, e266_127, e266_128, e266_131, e266_132, e266_135, e266_137, e266_138, e266_139, e266_142, e266_144, e266_145, e266_146, e266_149, e266_151, e266_152, e266_154, e266_157, e266_158, e266_161, e266_162, e266_164, e266_165, e266_166, e266_167, e266_168, e266_169, e266_171, e266_172, e266_173, e266_176, e266_177, e266_178, e266_179, e266_182, e266_185, e266_188, e266_191, e266_192, k0, hO.2.1, rf_some, hO.1.2.1.1, w7, e677, pk_sub (show wF w ≤ wF w + t by omega), Nat.add_sub_cancel_left, mj_kl, true_and, nI_eq (show t < 2 ^ 31 by omega) (show m - wF w < 2 ^ 31 by omega)]
    refine ⟨fun z => absurd (show t = m - wF w by omega) z, fun _ => ⟨by simp, ?_⟩⟩
    rw [em] at hO h3
    have go := fun QQ => c_looksSame (sa := sa) (d := d + 4) (n := n) (FL := FL) (AR := AR) (Q := QQ) (rw_ := rw_) hSt hO h3 hA (fun p hp => hr p (by omega))
    refine go _ fun A g1 g2 => ?_
    have fin := hQ A AL (by rw [em]; exact g1) g2.toOZ (fun p hp => by rw [g2.1 _ (by omega) (by omega) (by have := hO.1.2.2.2.2.2.2.1; omega)])
    simp only [MC] at fin
    simp only [tl_some, e266_0, e266_1, e266_4, e266_7, e266_8, e266_11, e266_14, e266_15, e266_16, e266_17, e266_18, e266_21, e266_24, e266_25, e266_28, e266_31, e266_32, e266_35, e266_36, e266_37, e266_38, e266_39, e266_40, e266_44, e266_45, e266_48, e266_51, e266_52, e266_54, e266_55, e266_56, e266_57, e266_58, e266_61, e266_63, e266_64, e266_67, e266_70, e266_71, e266_72, e266_75, e266_76, e266_77, e266_78, e266_81, e266_84, e266_85, e266_86, e266_89, e266_90, e266_93, e266_94, e266_97, e266_99, e266_100, e266_101, e266_104, e266_106, e266_107, e266_108, e266_111, e266_113, e266_114, e266_117, e266_120, e266_123, e266_124, e266_127, e266_128, e266_131, e266_132, e266_135, e266_137, e266_138, e266_139, e266_142, e266_144, e266_145, e266_146, e266_149, e266_151, e266_152, e266_154, e266_157, e266_158, e266_161, e266_162, e266_164, e266_165, e266_166, e266_167, e266_168, e266_169, e266_171, e266_172, e266_173, e266_176, e266_177, e266_178, e266_179, e266_182, e266_185, e266_188, e266_191, e266_192, bI_eq0]
    refine ⟨fun z => ?_, fun z => ?_⟩
    · rw [z] at fin; exact fin
    · rw [ts_nf z] at fin; exact fin
  | succ f IHf =>
    intro st rw_ t hsT AI AL Q mst h1 hO h3 hA hr hst hQ
    obtain ⟨⟨e677, hF, h7, h30⟩, hab, -, harr⟩ := id hA
    have k0 := hO.k
    have s1 := hO.1.2.2.2.2.2.2.1
    obtain ⟨-, -, -, -, -, -, -, -, ⟨f8, k8⟩, ⟨f9, k9⟩, ⟨f10, k10⟩, ⟨f11, k11⟩, -⟩ := id hSt
    have w7 := hO.1.2.2.2.1.1.2.2.2.2.2.2.1
    have hw := hO.ok
    have hW := hw.1
    generalize hg : (fun j => if !st (wF w + j) && abOK ab st (wF w + j) && mayAt w (hsR w hs rw_) (wF w + t) (gB (hs (wF w + j))) (wW w * gY (hs (wF w + j)) + gX (hs (wF w + j))) then MC w hs m ab f (oSt st (wF w + j)) (upN rw_ t j) (t + 1) else 0) = g
    have eM : MC w hs m ab (f + 1) st rw_ t = sm g (m - wF w) := by simp only [MC, hg]
    rw [eM] at hQ
    have loop : ∀ rr j, j + rr = m - wF w → ∀ (A : Nat → Nat → Int32) (L : Nat → Nat → Int64), MO K FR FI A L q a w hsT (wF w + t) → OZ q (a + 13) AI A AL L → (∀ p, p < t → A (q + 11) p = AI (q + 11) p) → WP sa (EV sa (d + f + 8)) 266 Q 0 0 42 [.ref q, .int mst, .int (nI t), .int (nI (sm g j)), .int (nI j)] [] (n, K, FI, FL, FR, A, L, AR) := by
      intro rr
      induction rr with
      | zero =>
        intro j hj A L hOA hX hrow
        have hj' : j = m - wF w := by omega
        subst hj'
        rw [e266_42]
        simp only [e266_0, e266_1, e266_4, e266_7, e266_8, e266_11, e266_14, e266_15, e266_16, e266_17, e266_18, e266_21, e266_24, e266_25, e266_28, e266_31, e266_32, e266_35, e266_36, e266_37, e266_38, e266_39, e266_40, e266_44, e266_45, e266_48, e266_51, e266_52, e266_54, e266_55, e266_56, e266_57, e266_58, e266_61, e266_63, e266_64, e266_67, e266_70, e266_71, e266_72, e266_75, e266_76, e266_77, e266_78, e266_81, e266_84, e266_85, e266_86, e266_89, e266_90, e266_93, e266_94, e266_97, e266_99, e266_100, e266_101, e266_104, e266_106, e266_107, e266_108, e266_111, e266_113, e266_114, e266_117, e266_120, e266_123, e266_124, e266_127, e266_128, e266_131, e266_132, e266_135, e266_137, e266_138, e266_139, e266_142, e266_144, e266_145, e266_146, e266_149, e266_151, e266_152, e266_154, e266_157, e266_158, e266_161, e266_162, e266_164, e266_165, e266_166, e266_167, e266_168, e266_169, e266_171, e266_172, e266_173, e266_176, e266_177, e266_178, e266_179, e266_182, e266_185, e266_188, e266_191, e266_192, k0, e677, true_and]
        exact ⟨fun _ => hQ A L hOA hX hrow, fun z => absurd (nI_le (Nat.le_refl _) (by omega)) z⟩
      | succ rr ih =>
        intro j hj A L hOA hX hrow
        have nx := ih (j + 1) (by omega)
        rw [show sm g (j + 1) = sm g j + g j from rfl] at nx
        have skip : g j = 0 → ∀ (A : Nat → Nat → Int32) (L : Nat → Nat → Int64), MO K FR FI A L q a w hsT (wF w + t) → OZ q (a + 13) AI A AL L → (∀ p, p < t → A (q + 11) p = AI (q + 11) p) → WP sa (EV sa (d + f + 8)) 266 Q 0 0 42 [.ref q, .int mst, .int (nI t), .int (nI (sm g j)), .int (nI (j + 1))] [] (n, K, FI, FL, FR, A, L, AR) := fun e A L hOA hX hrow => by
          have := nx A L hOA hX hrow
          rw [e, Nat.add_zero] at this
          exact this
        have gz : ∀ x : Bool, (!st (wF w + j) && abOK ab st (wF w + j) && mayAt w (hsR w hs rw_) (wF w + t) (gB (hs (wF w + j))) (wW w * gY (hs (wF w + j)) + gX (hs (wF w + j)))) = x → g j = if x then MC w hs m ab f (oSt st (wF w + j)) (upN rw_ t j) (t + 1) else 0 := fun x hx => by rw [← hg]; simp only [hx]
        obtain ⟨gok, a8, a9, a10, a12⟩ := harr j (by omega)
        have hgb := gok.1
        have hn4 := hw.2.2.2.1
        have jin : vp_in (nI j) 7 := vp_in_nI (by omega) (by decide)
        have jcl : (nI j).toNatClampNeg = j := nI_clamp (by omega)
        have b8 : A (q + 8) j = nI (gB (hs (wF w + j))) := by rw [hX.1 _ (by omega) (by omega) (by omega) (by omega)]; exact a8
        have b9 : A (q + 9) j = nI (gX (hs (wF w + j))) := by rw [hX.1 _ (by omega) (by omega) (by omega) (by omega)]; exact a9
        have b10 : A (q + 10) j = nI (gY (hs (wF w + j))) := by rw [hX.1 _ (by omega) (by omega) (by omega) (by omega)]; exact a10
        have hbit := bit_k (x := mst) (show j < 31 by omega)
        rw [hst j (by omega)] at hbit
        -- the trying
        have go : st (wF w + j) = false → abOK ab st (wF w + j) = true → WP sa (EV sa (d + f + 8)) 266 Q 0 0 84 [.ref q, .int mst, .int (nI t), .int (nI (sm g j)), .int (nI j)] [] (n, K, FI, FL, FR, A, L, AR) := by
          intro hs0 habk
          have e1 : mayAt w hsT (wF w + t) (gB (hs (wF w + j))) (wW w * gY (hs (wF w + j)) + gX (hs (wF w + j))) = may w hsT (wF w + t) (gB (hs (wF w + j))) (gX (hs (wF w + j))) (gY (hs (wF w + j))) := by
            have hxW : gX (hs (wF w + j)) < wW w := by have h1 := gok.2.1; have h2 := (hw.2.2.2.2.2.2.1 _ hgb).2.1.1; omega
            obtain ⟨x1, x2⟩ := cellxy (y := gY (hs (wF w + j))) hxW
            unfold mayAt
            rw [x1, x2]
            have : onAt w (gB (hs (wF w + j))) (wW w * gY (hs (wF w + j)) + gX (hs (wF w + j))) = true := by
              unfold onAt
              rw [x1, x2]
              exact decide_eq_true ⟨gok.2.1, gok.2.2⟩
            rw [this, Bool.true_and]
          rw [may3 h3] at e1
          simp only [e266_0, e266_1, e266_4, e266_7, e266_8, e266_11, e266_14, e266_15, e266_16, e266_17, e266_18, e266_21, e266_24, e266_25, e266_28, e266_31, e266_32, e266_35, e266_36, e266_37, e266_38, e266_39, e266_40, e266_44, e266_45, e266_48, e266_51, e266_52, e266_54, e266_55, e266_56, e266_57, e266_58, e266_61, e266_63, e266_64, e266_67, e266_70, e266_71, e266_72, e266_75, e266_76, e266_77, e266_78, e266_81, e266_84, e266_85, e266_86, e266_89, e266_90, e266_93, e266_94, e266_97, e266_99, e266_100, e266_101, e266_104, e266_106, e266_107, e266_108, e266_111, e266_113, e266_114, e266_117, e266_120, e266_123, e266_124, e266_127, e266_128, e266_131, e266_132, e266_135, e266_137, e266_138, e266_139, e266_142, e266_144, e266_145, e266_146, e266_149, e266_151, e266_152, e266_154, e266_157, e266_158, e266_161, e266_162, e266_164, e266_165, e266_166, e266_167, e266_168, e266_169, e266_171, e266_172, e266_173, e266_176, e266_177, e266_178, e266_179, e266_182, e266_185, e266_188, e266_192, k0, hOA.2.1, hOA.2.2, f8, f9, f10, k8, k9, k10, rf_some, jin, jcl, b8, b9, b10, true_and, true_or]
          refine ⟨by simp, ?_⟩
          have goM := fun QQ => c_mmayGo (sa := sa) (d := d + f + 2) (n := n) (FL := FL) (AR := AR) (Q := QQ) hOA.1 gok
          refine goM _ fun A2 L2 g1 g2 => ?_
          rw [← e1]
          have hO2 := hOA.ofX g1
          have hX2 := hX.trans g2.toOZ
          have row2 : ∀ p, p < t → A2 (q + 11) p = AI (q + 11) p := fun p hp => by rw [g2.1 _ (by omega) (by omega) (by omega)]; exact hrow p hp
          have b8' : A2 (q + 8) j = nI (gB (hs (wF w + j))) := by rw [g2.1 _ (by omega) (by omega) (by omega)]; exact b8
          have b9' : A2 (q + 9) j = nI (gX (hs (wF w + j))) := by rw [g2.1 _ (by omega) (by omega) (by omega)]; exact b9
          have b10' : A2 (q + 10) j = nI (gY (hs (wF w + j))) := by rw [g2.1 _ (by omega) (by omega) (by omega)]; exact b10
          simp only [tl_some, e266_0, e266_1, e266_4, e266_7, e266_8, e266_11, e266_14, e266_15, e266_16, e266_17, e266_18, e266_21, e266_24, e266_25, e266_28, e266_31, e266_32, e266_35, e266_36, e266_37, e266_38, e266_39, e266_40, e266_44, e266_45, e266_48, e266_51, e266_52, e266_54, e266_55, e266_56, e266_57, e266_58, e266_61, e266_63, e266_64, e266_67, e266_70, e266_71, e266_72, e266_75, e266_76, e266_77, e266_78, e266_81, e266_84, e266_85, e266_86, e266_89, e266_90, e266_93, e266_94, e266_97, e266_99, e266_100, e266_101, e266_104, e266_106, e266_107, e266_108, e266_111, e266_113, e266_114, e266_117, e266_120, e266_123, e266_124, e266_127, e266_128, e266_131, e266_132, e266_135, e266_137, e266_138, e266_139, e266_142, e266_144, e266_145, e266_146, e266_149, e266_151, e266_152, e266_154, e266_157, e266_158, e266_161, e266_162, e266_164, e266_165, e266_166, e266_167, e266_168, e266_169, e266_171, e266_172, e266_173, e266_176, e266_177, e266_178, e266_179, e266_182, e266_185, e266_188, e266_192, bI_eq0, k0, hO2.2.1, hO2.2.2, f8, f9, f10, k8, k9, k10, rf_some, jin, jcl, b8', b9', b10', nI_1, mj_kl, true_and, true_or]
          refine ⟨fun z => ⟨by simp, ?_⟩, fun z => ?_⟩
          · have hmy := ts_nf z
            have h30' : wF w + t ≠ 30 := (mayAt_30 hmy).1
            have hm30 := hO2.mh.2.1
            have goA := fun QQ => c_adds (sa := sa) (d := d + f + 6) (n := n) (FL := FL) (AR := AR) (Q := QQ) (r := -2) hO2.1.2.1 hw hO2.1.2.2.2.1 hO2.1.2.2.2.2.1 (Or.inl (by omega)) hO2.mh (show wF w + t < 30 by omega) gok
            refine goA _ fun A3 L3 m1 m2 m3 m4 => ?_
            have tin : vp_in (nI t) 7 := vp_in_nI (by omega) (by decide)
            have tcl : (nI t).toNatClampNeg = t := nI_clamp (by omega)
            have hX3 : OZ q (a + 13) A2 A3 L2 L3 := ⟨fun z _ _ _ z3 => m3 z (by omega), m2, fun z hz => m4 z (by omega)⟩
            simp only [tl_none, e266_0, e266_1, e266_4, e266_7, e266_8, e266_11, e266_14, e266_15, e266_16, e266_17, e266_18, e266_21, e266_24, e266_25, e266_28, e266_31, e266_32, e266_35, e266_36, e266_37, e266_38, e266_39, e266_40, e266_44, e266_45, e266_48, e266_51, e266_52, e266_54, e266_55, e266_56, e266_57, e266_58, e266_61, e266_63, e266_64, e266_67, e266_70, e266_71, e266_72, e266_75, e266_76, e266_77, e266_78, e266_81, e266_84, e266_85, e266_86, e266_89, e266_90, e266_93, e266_94, e266_97, e266_99, e266_100, e266_101, e266_104, e266_106, e266_107, e266_108, e266_111, e266_113, e266_114, e266_117, e266_120, e266_123, e266_124, e266_127, e266_128, e266_131, e266_132, e266_135, e266_137, e266_138, e266_139, e266_142, e266_144, e266_145, e266_146, e266_149, e266_151, e266_152, e266_154, e266_157, e266_158, e266_161, e266_162, e266_164, e266_165, e266_166, e266_167, e266_168, e266_169, e266_171, e266_172, e266_173, e266_176, e266_177, e266_178, e266_179, e266_182, e266_185, e266_188, e266_192, k0, f11, k11, rf_some, tin, tcl, true_and]
            refine ⟨by simp, ?_⟩
            generalize hA4 : mj_u2 A3 (q + 11) t (nI j) = A4
            have a4o : ∀ z, z ≠ q + 11 → A4 z = A3 z := fun z hz => by rw [← hA4]; funext y; exact mj_u2_1 hz
            have hX4 : OZ q (a + 13) A3 A4 L3 L3 := ⟨fun z _ _ z3 _ => a4o z z3, fun y _ => by rw [a4o _ (by omega)], fun _ _ => rfl⟩
            have hXX := (hX2.trans hX3).trans hX4
            have hO4 : MO K FR FI A4 L3 q a w (puth hsT (wF w + t) (gB (hs (wF w + j)), gX (hs (wF w + j)), gY (hs (wF w + j)), -2)) (wF w + (t + 1)) := hO2.ofQ ((hX3.trans hX4).toMQ (FI := FI)) (m1.fr (a4o _ (by omega)) rfl)
            refine IHf (st := oSt st (wF w + j)) (rw_ := upN rw_ t j) (t := t + 1) (by omega) hO4 (fun k hk => ?_) (hA.fr fun z hz => by rw [hXX.1 _ (by omega) (by omega) (by omega) (by omega)]) (fun p hp => ?_) (fun i hi => ?_) fun A5 L5 g5 g6 g7 => ?_
            · by_cases e : k = wF w + t
              · subst e
                rw [puth_eq]
                unfold hsR
                rw [if_neg (by omega), Nat.add_sub_cancel_left, upN_s]
                exact ⟨rfl, rfl, rfl⟩
              · rw [puth_lt (by omega)]
                have := h3 k (by omega)
                unfold hsR at this ⊢
                split
                · rwa [if_pos (by assumption)] at this
                · rw [if_neg (by assumption)] at this
                  rw [upN_o (by omega)]
                  exact this
            · by_cases e : p = t
              · subst e
                rw [upN_s, ← hA4, mj_u2_s]
                exact ⟨rfl, by omega⟩
              · rw [upN_o e, ← hA4, mj_u2_2 e, m3 _ (by omega), row2 p (by omega)]
                exact hr p (by omega)
            · rw [b_or, hst i hi, Mk_one (show j < 32 by omega) i (by omega)]
              unfold oSt
              rw [show decide (wF w + i = wF w + j) = decide (i = j) from decide_eq_decide.mpr (by omega)]
            · have eg := gz true (by rw [hs0, habk, hmy]; rfl)
              simp only [if_true] at eg
              rw [← eg]
              obtain ⟨o1, o2⟩ := (show MO K FR FI A5 L5 q a w (puth hsT (wF w + t) (gB (hs (wF w + j)), gX (hs (wF w + j)), gY (hs (wF w + j)), -2)) (wF w + t + 1) from g5).off
              have hOn := o1.congr (hs' := hsT) (fun k hk => puth_lt hk)
              have hXn := (hXX.trans g6).trans o2.toOZ
              simp only [tl_some, e266_0, e266_1, e266_4, e266_7, e266_8, e266_11, e266_14, e266_15, e266_16, e266_17, e266_18, e266_21, e266_24, e266_25, e266_28, e266_31, e266_32, e266_35, e266_36, e266_37, e266_38, e266_39, e266_40, e266_44, e266_45, e266_48, e266_51, e266_52, e266_54, e266_55, e266_56, e266_57, e266_58, e266_61, e266_63, e266_64, e266_67, e266_70, e266_71, e266_72, e266_75, e266_76, e266_77, e266_78, e266_81, e266_84, e266_85, e266_86, e266_89, e266_90, e266_93, e266_94, e266_97, e266_99, e266_100, e266_101, e266_104, e266_106, e266_107, e266_108, e266_111, e266_113, e266_114, e266_117, e266_120, e266_123, e266_124, e266_127, e266_128, e266_131, e266_132, e266_135, e266_137, e266_138, e266_139, e266_142, e266_144, e266_145, e266_146, e266_149, e266_151, e266_152, e266_154, e266_157, e266_158, e266_161, e266_162, e266_164, e266_165, e266_166, e266_167, e266_168, e266_169, e266_171, e266_172, e266_173, e266_176, e266_177, e266_178, e266_179, e266_182, e266_185, e266_188, e266_192, k0, g5.2.2, rf_some, nI_add, mj_kl, true_and]
              refine ⟨by simp, ?_⟩
              refine c_takesOff (d := d + f + 7) g5.1.2.2.2.2.1 ?_
              simp only [tl_none, e266_0, e266_1, e266_4, e266_7, e266_8, e266_11, e266_14, e266_15, e266_16, e266_17, e266_18, e266_21, e266_24, e266_25, e266_28, e266_31, e266_32, e266_35, e266_36, e266_37, e266_38, e266_39, e266_40, e266_44, e266_45, e266_48, e266_51, e266_52, e266_54, e266_55, e266_56, e266_57, e266_58, e266_61, e266_63, e266_64, e266_67, e266_70, e266_71, e266_72, e266_75, e266_76, e266_77, e266_78, e266_81, e266_84, e266_85, e266_86, e266_89, e266_90, e266_93, e266_94, e266_97, e266_99, e266_100, e266_101, e266_104, e266_106, e266_107, e266_108, e266_111, e266_113, e266_114, e266_117, e266_120, e266_123, e266_124, e266_127, e266_128, e266_131, e266_132, e266_135, e266_137, e266_138, e266_139, e266_142, e266_144, e266_145, e266_146, e266_149, e266_151, e266_152, e266_154, e266_157, e266_158, e266_161, e266_162, e266_164, e266_165, e266_166, e266_167, e266_168, e266_169, e266_171, e266_172, e266_173, e266_176, e266_177, e266_178, e266_179, e266_182, e266_185, e266_188, e266_192, nI_1, mj_kl]
              refine nx _ L5 hOn hXn (fun p hp => ?_)
              rw [mj_u2_1 (by omega), g7 p (by omega), ← hA4, mj_u2_2 (by omega), m3 _ (by omega), row2 p hp]
          · have z' : mayAt w (hsR w hs rw_) (wF w + t) (gB (hs (wF w + j))) (wW w * gY (hs (wF w + j)) + gX (hs (wF w + j))) = false := by simpa using z
            exact skip (by rw [gz false (by rw [z', Bool.and_false])]; rfl) A2 L2 hO2 hX2 row2
        rw [e266_42]
        simp only [e266_0, e266_1, e266_4, e266_7, e266_8, e266_11, e266_14, e266_15, e266_16, e266_17, e266_18, e266_21, e266_24, e266_25, e266_28, e266_31, e266_32, e266_35, e266_36, e266_37, e266_38, e266_39, e266_40, e266_44, e266_45, e266_48, e266_51, e266_52, e266_54, e266_55, e266_56, e266_57, e266_58, e266_61, e266_63, e266_64, e266_67, e266_70, e266_71, e266_72, e266_75, e266_76, e266_77, e266_78, e266_81, e266_85, e266_86, e266_89, e266_90, e266_93, e266_94, e266_97, e266_99, e266_100, e266_101, e266_104, e266_106, e266_107, e266_108, e266_111, e266_113, e266_114, e266_117, e266_120, e266_123, e266_124, e266_127, e266_128, e266_131, e266_132, e266_135, e266_137, e266_138, e266_139, e266_142, e266_144, e266_145, e266_146, e266_149, e266_151, e266_152, e266_154, e266_157, e266_158, e266_161, e266_162, e266_164, e266_165, e266_166, e266_167, e266_168, e266_169, e266_171, e266_172, e266_173, e266_176, e266_177, e266_178, e266_179, e266_182, e266_185, e266_188, e266_192, k0, e677, and1_1, and1_0, hbit, nI_1, mj_kl, true_and]
        refine ⟨fun z => absurd z (nI_ge (by omega) (by omega)), fun _ => ⟨fun z => skip (by rw [gz false (by rw [z]; rfl)]; rfl) A L hOA hX hrow, fun z => ?_⟩⟩
        have hs0 : st (wF w + j) = false := by simpa using z
        cases hab2 : ab with
        | none =>
          rw [hab2] at hab
          simp only [hab]
          refine ⟨fun _ => go hs0 (by rw [hab2]; rfl), fun y => absurd (fun e => ?_) y⟩
          have h3' : nI j < 0 := by rw [e]; decide
          exact absurd h3' (nI_pos (by omega))
        | some x =>
          rw [hab2] at hab
          obtain ⟨x1, x2, x3, x4, x5, x6⟩ := hab
          have hbit2 := bit_k (x := mst) (show x.1 - wF w < 31 by omega)
          rw [hst _ (by omega), show wF w + (x.1 - wF w) = x.1 by omega] at hbit2
          simp only [x1, x2, hbit2, nI_eq (show j < 2 ^ 31 by omega) (show x.2 - wF w < 2 ^ 31 by omega)]
          refine ⟨fun y => go hs0 ?_, fun y => ⟨fun y2 => go hs0 ?_, fun y2 => skip ?_ A L hOA hX hrow⟩⟩
          · rw [hab2]
            have : ¬ wF w + j = x.2 := by omega
            simp [abOK, this]
          · rw [hab2]
            have : st x.1 = true := by simpa using y2
            simp [abOK, this]
          · have e1 : wF w + j = x.2 := by omega
            have e2 : st x.1 = false := by simpa using y2
            rw [gz false (by rw [hab2]; simp [abOK, e1, e2])]
            rfl
    rw [show d + (f + 1) + 8 = (d + f + 8) + 1 by omega]
    refine n266 k0 ?_
    simp only [e266_0, e266_1, e266_4, e266_7, e266_8, e266_11, e266_14, e266_15, e266_16, e266_17, e266_18, e266_21, e266_24, e266_25, e266_28, e266_31, e266_32, e266_35, e266_36, e266_37, e266_38, e266_39, e266_40, e266_44, e266_45, e266_48, e266_51, e266_52, e266_54, e266_55, e266_56, e266_57, e266_58, e266_61, e266_63, e266_64, e266_67, e266_70, e266_71, e266_72, e266_75, e266_76, e266_77, e266_78, e266_81, e266_84, e266_85, e266_86, e266_89, e266_90, e266_93, e266_94, e266_97, e266_99, e266_100, e266_101, e266_104, e266_106, e266_107, e266_108, e266_111, e266_113, e266_114, e266_117, e266_120, e266_123, e266_124, e266_127, e266_128, e266_131, e266_132, e266_135, e266_137, e266_138, e266_139, e266_142, e266_144, e266_145, e266_146, e266_149, e266_151, e266_152, e266_154, e266_157, e266_158, e266_161, e266_162, e266_164, e266_165, e266_166, e266_167, e266_168, e266_169, e266_171, e266_172, e266_173, e266_176, e266_177, e266_178, e266_179, e266_182, e266_185, e266_188, e266_191, e266_192, k0, hO.2.2, rf_some, true_and]
    refine ⟨by simp, ?_⟩
    refine c_many (d := d + f + 7) hO.1.2.2.2.2.1 ?_
    rw [hO.mh.1]
    simp only [tl_some, e266_0, e266_1, e266_4, e266_7, e266_8, e266_11, e266_14, e266_15, e266_16, e266_17, e266_18, e266_21, e266_24, e266_25, e266_28, e266_31, e266_32, e266_35, e266_36, e266_37, e266_38, e266_39, e266_40, e266_44, e266_45, e266_48, e266_51, e266_52, e266_54, e266_55, e266_56, e266_57, e266_58, e266_61, e266_63, e266_64, e266_67, e266_70, e266_71, e266_72, e266_75, e266_76, e266_77, e266_78, e266_81, e266_84, e266_85, e266_86, e266_89, e266_90, e266_93, e266_94, e266_97, e266_99, e266_100, e266_101, e266_104, e266_106, e266_107, e266_108, e266_111, e266_113, e266_114, e266_117, e266_120, e266_123, e266_124, e266_127, e266_128, e266_131, e266_132, e266_135, e266_137, e266_138, e266_139, e266_142, e266_144, e266_145, e266_146, e266_149, e266_151, e266_152, e266_154, e266_157, e266_158, e266_161, e266_162, e266_164, e266_165, e266_166, e266_167, e266_168, e266_169, e266_171, e266_172, e266_173, e266_176, e266_177, e266_178, e266_179, e266_182, e266_185, e266_188, e266_191, e266_192, k0, hO.2.1, rf_some, hO.1.2.1.1, w7, e677, pk_sub (show wF w ≤ wF w + t by omega), Nat.add_sub_cancel_left, mj_kl, true_and, nI_eq (show t < 2 ^ 31 by omega) (show m - wF w < 2 ^ 31 by omega)]
    refine ⟨fun _ => ?_, fun z => absurd (show ¬ t = m - wF w by omega) z⟩
    have := loop (m - wF w) 0 (by omega) AI AL hO OZ.rfl' (fun _ _ => rfl)
    simpa [nI_0, sm, mj_u, mj_kl] using this
end
