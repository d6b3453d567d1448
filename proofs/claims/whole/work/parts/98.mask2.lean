theorem bit_is0 {v : Int64} {p : Nat → Bool} (h : MkL v p) {c : Nat} (hc : c < 32) : ((v >>> ((nI c).toInt64 &&& 63)) &&& 1 = 0) ↔ p c = false := by
  have hb : bL v c = p c := by rw [h c (by omega)]; simp [hc]
  have key := bL_sshr v (show c < 64 by omega)
  rw [hb] at key
  constructor
  · intro e
    rw [e, bL_0] at key
    exact key.symm
  · intro e
    rw [e] at key
    refine bL_ext fun j hj => ?_
    rw [bL_0]
    by_cases z : j = 0
    · subst z; exact key
    · rw [bL_and, bL_one j hj]; simp [z]
theorem sCell_at {P : PG} {s : WS} {u v : Int32} {c : Nat} (es : gW P = some s) (h8 : wW s.1 ≤ 8) (h4 : wH s.1 ≤ 4) (h : sCell P u v = some c) : nI (wW s.1) * v + u = nI c ∧ c < wW s.1 * wH s.1 := by
  have p1 := (pW_some es).1
  have hl := (sCell_lt (by rw [p1]; exact h8) (by rw [p1]; exact h4) h).1
  rw [p1] at hl
  refine ⟨?_, hl⟩
  unfold sCell at h
  rw [p1] at h
  split at h
  · next z =>
    obtain ⟨e1, -⟩ := rng_of (b := u) (N := wW s.1) (by omega) ⟨z.1, z.2.1⟩
    obtain ⟨e2, -⟩ := rng_of (b := v) (N := wH s.1) (by omega) ⟨z.2.2.1, z.2.2.2⟩
    cases h
    rw [← nI_add, ← pk_mul, ← e1, ← e2]
  · cases h
section
variable {sa : Nat → Nat} {d n t h m : Nat} {Q : mj_Q} {K : Nat → Nat × Nat} {FI : Nat → Nat → Int32} {FL : Nat → Nat → Int64} {FR : Nat → Nat → Option Nat} {AI : Nat → Nat → Int32} {AL : Nat → Nat → Int64} {AR : Nat → Nat → Option Nat} {w : Wl} {hs : Nat → Hg}
variable {a u q : Nat} {P : PG}
theorem mcell_wall (hI : MInv q P n K FR FI AI AL) {x y : Int32} {c : Nat} (h : sCell P x y = some c) : ∃ s, gW P = some s := by
  cases es : gW P with
  | some s => exact ⟨s, rfl⟩
  | none =>
    unfold sCell at h
    rw [(pWn es).1, if_neg (fun z => no_rng ⟨z.1, z.2.1⟩)] at h
    cases h
theorem c_m_hanging (hV : InvM q P (n, K, FI, FL, FR, AI, AL, AR)) (hQ : ∀ μ', InvM q (rs P (sp_hanging P)) μ' → FrM q (n, K, FI, FL, FR, AI, AL, AR) μ' → Q (some (.int (rv (sp_hanging P)))) μ') : EV sa (d + 2) 217 [.ref q] (n, K, FI, FL, FR, AI, AL, AR) Q := by
  have hI0 : MInv q P n K FR FI AI AL := hV
  have k0 := hI0.1.1
  refine n217 k0 ?_
  simp only [e217_0, e217_1, e217_2, e217_5, e217_6, k0, true_and]
  have hI := hI0.th (v := 0)
  have hF : FrM q (n, K, FI, FL, FR, AI, AL, AR) (n, K, mj_u2 FI 640 q 0, FL, FR, AI, AL, AR) := FrM.f
  generalize mj_u2 FI 640 q 0 = F at hI hF ⊢
  cases es : gW P with
  | none =>
    simp only [hI.no es, e217_0, e217_1, e217_2, e217_5, e217_6, e217_9, e217_12, e217_13, e217_14, e217_17, e217_20, e217_21, e217_22, e217_25, e217_28, e217_31, e217_9r]
    refine ⟨fun z => absurd trivial z, fun _ => ⟨by simp, c_mrefused k0 ?_⟩⟩
    simp only [tl_some, e217_0, e217_1, e217_2, e217_5, e217_6, e217_9, e217_12, e217_13, e217_14, e217_17, e217_20, e217_21, e217_22, e217_25, e217_28, e217_31, e217_9r]
    exact mrefQ hI hF hQ (k := 1) (by decide) (by unfold sp_hanging; rw [es]; rfl)
  | some s =>
    obtain ⟨a, hO, ha1, ha2⟩ := hI.mo es
    obtain ⟨p1, p2, p3, p4⟩ := pWs es
    simp only [hO.2.1, e217_0, e217_1, e217_2, e217_5, e217_6, e217_9, e217_12, e217_13, e217_14, e217_17, e217_20, e217_21, e217_22, e217_25, e217_28, e217_31, e217_9r, k0, hO.2.2, rf_some, true_and]
    refine ⟨by simp, c_many hO.1.2.2.2.2.1 ?_⟩
    rw [hO.mh.1]
    simp only [tl_some, e217_0, e217_1, e217_2, e217_5, e217_6, e217_9, e217_12, e217_13, e217_14, e217_17, e217_20, e217_21, e217_22, e217_25, e217_28, e217_31, e217_9r]
    refine ⟨by simp, c_mgood k0 ?_⟩
    simp only [tl_some, e217_0, e217_1, e217_2, e217_5, e217_6, e217_9, e217_12, e217_13, e217_14, e217_17, e217_20, e217_21, e217_22, e217_25, e217_28, e217_31, e217_9r]
    exact mansQ hI hF hQ (by unfold sp_hanging; rw [es, p3]; rfl)
theorem c_m_shows (hV : InvM q P (n, K, FI, FL, FR, AI, AL, AR)) {x y : Int32} (hQ : ∀ μ', InvM q (rs P (sp_shows P x y)) μ' → FrM q (n, K, FI, FL, FR, AI, AL, AR) μ' → Q (some (.int (rv (sp_shows P x y)))) μ') : EV sa (d + 3) 219 [.ref q, .int x, .int y] (n, K, FI, FL, FR, AI, AL, AR) Q := by
  have hI0 : MInv q P n K FR FI AI AL := hV
  have k0 := hI0.1.1
  refine n219 k0 ?_
  simp only [e219_0, e219_1, e219_2, e219_5, e219_6, e219_7, e219_8, k0, true_and]
  have hI := hI0.th (v := 0)
  have hF : FrM q (n, K, FI, FL, FR, AI, AL, AR) (n, K, mj_u2 FI 640 q 0, FL, FR, AI, AL, AR) := FrM.f
  generalize mj_u2 FI 640 q 0 = F at hI hF ⊢
  refine ⟨by simp, c_misCell hI ?_⟩
  cases hc : sCell P x y with
  | none =>
    simp only [tl_some, e219_0, e219_1, e219_2, e219_5, e219_6, e219_7, e219_8, e219_11, e219_14, e219_15, e219_16, e219_19, e219_20, e219_21, e219_22, e219_25, e219_26, e219_29, e219_32, e219_33, e219_36, e219_37, e219_40, e219_43, e219_44, e219_45, e219_46, e219_47, e219_48, e219_49, e219_50, e219_51, e219_52, e219_55, e219_57, e219_60, e219_61, e219_64, bI_eq0, Option.isSome_none]
    refine ⟨fun z => absurd trivial z, fun _ => ⟨by simp, c_mrefused k0 ?_⟩⟩
    simp only [tl_some, e219_0, e219_1, e219_2, e219_5, e219_6, e219_7, e219_8, e219_11, e219_14, e219_15, e219_16, e219_19, e219_20, e219_21, e219_22, e219_25, e219_26, e219_29, e219_32, e219_33, e219_36, e219_37, e219_40, e219_43, e219_44, e219_45, e219_46, e219_47, e219_48, e219_49, e219_50, e219_51, e219_52, e219_55, e219_57, e219_60, e219_61, e219_64]
    exact mrefQ hI hF hQ (k := 1) (by decide) (by unfold sp_shows; rw [hc])
  | some c =>
    obtain ⟨s, es⟩ := mcell_wall hI hc
    obtain ⟨a, hO, ha1, ha2⟩ := hI.mo es
    obtain ⟨p1, p2, p3, p4⟩ := pWs es
    have hw := hO.ok
    have h32 := hO.c32
    obtain ⟨ec, hcl⟩ := sCell_at es hw.1.2 hw.2.1.2 hc
    simp only [tl_some, e219_0, e219_1, e219_2, e219_5, e219_6, e219_7, e219_8, e219_11, e219_14, e219_15, e219_16, e219_19, e219_20, e219_21, e219_22, e219_25, e219_26, e219_29, e219_32, e219_33, e219_36, e219_37, e219_40, e219_43, e219_44, e219_45, e219_46, e219_47, e219_48, e219_49, e219_50, e219_51, e219_52, e219_55, e219_57, e219_60, e219_61, e219_64, bI_eq0, Option.isSome_some, k0, hO.2.1, hO.2.2, rf_some, true_and]
    refine ⟨fun _ => ⟨by simp, ?_⟩, fun z => absurd (by decide) z⟩
    refine c_looks hO.1.1 hO.1.2.2.2.2.1 (by omega) hO.mh fun A t x' => ?_
    have hX : MX q (a + 13) AI A AL AL := ⟨fun z z1 _ _ => x' z (by omega), fun j _ => by rw [x' _ (by omega)], fun _ _ => rfl⟩
    have hIA := hI.qq es hO.2.1 hX.toMQ (hO.mh.fr (x' _ (by omega)) rfl)
    have hin : vp_in (nI c) 32 := vp_in_nI (by omega) (by decide)
    have hcl' : (nI c).toNatClampNeg = c := nI_clamp (by omega)
    obtain ⟨-, ⟨f0, k1⟩, -⟩ := hO.1.1
    simp only [tl_none, e219_0, e219_1, e219_2, e219_5, e219_6, e219_7, e219_8, e219_11, e219_14, e219_15, e219_16, e219_19, e219_20, e219_21, e219_22, e219_25, e219_26, e219_29, e219_32, e219_33, e219_36, e219_37, e219_40, e219_43, e219_44, e219_45, e219_46, e219_47, e219_48, e219_49, e219_50, e219_51, e219_52, e219_55, e219_57, e219_60, e219_61, e219_64, k0, f0, k1, hO.2.1, rf_some, hO.1.2.1.1, hO.1.2.2.2.1.1.1, ec, hin, hcl', t c (by omega), true_and, true_or, mj_kl]
    have fin : ∀ v, v = oI (tp s.1 s.2.1.1 s.2.1.2.1 c) (-2) → EV sa (d + 2) 165 [.ref q, .int v] (n, K, F, FL, FR, A, AL, AR) (fun v μ' => WP sa (EV sa (d + 2)) 219 Q 0 0 64 [.ref q, .int x, .int y, .int (oI (tp s.1 s.2.1.1 s.2.1.2.1 c) (-1))] (v.toList ++ []) μ') := by
      rintro v rfl
      refine c_mgood k0 ?_
      simp only [tl_some, e219_0, e219_1, e219_2, e219_5, e219_6, e219_7, e219_8, e219_11, e219_14, e219_15, e219_16, e219_19, e219_20, e219_21, e219_22, e219_25, e219_26, e219_29, e219_32, e219_33, e219_36, e219_37, e219_40, e219_43, e219_44, e219_45, e219_46, e219_47, e219_48, e219_49, e219_50, e219_51, e219_52, e219_55, e219_57, e219_60, e219_61, e219_64]
      exact mansQ hIA (hF.trans (hX.toMQ.frm ha1)) hQ (by unfold sp_shows; rw [hc, p1, p2, p3])
    cases e : tp s.1 s.2.1.1 s.2.1.2.1 c with
    | none =>
      rw [e] at fin
      simp only [oI] at fin ⊢
      exact ⟨fun z => absurd trivial z, fun _ => ⟨by simp, fin _ rfl⟩⟩
    | some k =>
      have := (tp_lt e).1
      have := hO.mh.2.1
      rw [e] at fin
      simp only [oI] at fin ⊢
      refine ⟨fun _ => ⟨by simp, fin _ rfl⟩, fun z => absurd (fun e2 => ?_) z⟩
      have h3 : nI k < 0 := by rw [e2]; decide
      exact absurd h3 (nI_pos (by omega))
theorem c_m_letter (hV : InvM q P (n, K, FI, FL, FR, AI, AL, AR)) {x y : Int32} (hQ : ∀ μ', InvM q (rs P (sp_letter P x y)) μ' → FrM q (n, K, FI, FL, FR, AI, AL, AR) μ' → Q (some (.int (rv (sp_letter P x y)))) μ') : EV sa (d + 3) 220 [.ref q, .int x, .int y] (n, K, FI, FL, FR, AI, AL, AR) Q := by
  have hI0 : MInv q P n K FR FI AI AL := hV
  have k0 := hI0.1.1
  refine n220 k0 ?_
  simp only [e220_0, e220_1, e220_2, e220_5, e220_6, e220_7, e220_8, k0, true_and]
  have hI := hI0.th (v := 0)
  have hF : FrM q (n, K, FI, FL, FR, AI, AL, AR) (n, K, mj_u2 FI 640 q 0, FL, FR, AI, AL, AR) := FrM.f
  generalize mj_u2 FI 640 q 0 = F at hI hF ⊢
  refine ⟨by simp, c_misCell hI ?_⟩
  cases hc : sCell P x y with
  | none =>
    simp only [tl_some, e220_0, e220_1, e220_2, e220_5, e220_6, e220_7, e220_8, e220_11, e220_14, e220_15, e220_16, e220_19, e220_20, e220_21, e220_22, e220_25, e220_26, e220_29, e220_32, e220_33, e220_34, e220_37, e220_38, e220_41, e220_42, e220_45, e220_48, e220_49, e220_50, e220_51, e220_52, e220_55, e220_56, e220_57, e220_58, e220_59, e220_62, e220_64, e220_67, e220_68, e220_71, bI_eq0, Option.isSome_none]
    refine ⟨fun z => absurd trivial z, fun _ => ⟨by simp, c_mrefused k0 ?_⟩⟩
    simp only [tl_some, e220_0, e220_1, e220_2, e220_5, e220_6, e220_7, e220_8, e220_11, e220_14, e220_15, e220_16, e220_19, e220_20, e220_21, e220_22, e220_25, e220_26, e220_29, e220_32, e220_33, e220_34, e220_37, e220_38, e220_41, e220_42, e220_45, e220_48, e220_49, e220_50, e220_51, e220_52, e220_55, e220_56, e220_57, e220_58, e220_59, e220_62, e220_64, e220_67, e220_68, e220_71]
    exact mrefQ hI hF hQ (k := 1) (by decide) (by unfold sp_letter; rw [hc])
  | some c =>
    obtain ⟨s, es⟩ := mcell_wall hI hc
    obtain ⟨a, hO, ha1, ha2⟩ := hI.mo es
    obtain ⟨p1, p2, p3, p4⟩ := pWs es
    have hw := hO.ok
    have h32 := hO.c32
    obtain ⟨ec, hcl⟩ := sCell_at es hw.1.2 hw.2.1.2 hc
    simp only [tl_some, e220_0, e220_1, e220_2, e220_5, e220_6, e220_7, e220_8, e220_11, e220_14, e220_15, e220_16, e220_19, e220_20, e220_21, e220_22, e220_25, e220_26, e220_29, e220_32, e220_33, e220_34, e220_37, e220_38, e220_41, e220_42, e220_45, e220_48, e220_49, e220_50, e220_51, e220_52, e220_55, e220_56, e220_57, e220_58, e220_59, e220_62, e220_64, e220_67, e220_68, e220_71, bI_eq0, Option.isSome_some, k0, hO.2.1, hO.2.2, rf_some, true_and]
    refine ⟨fun _ => ⟨by simp, ?_⟩, fun z => absurd (by decide) z⟩
    refine c_looks hO.1.1 hO.1.2.2.2.2.1 (by omega) hO.mh fun A t x' => ?_
    have hX : MX q (a + 13) AI A AL AL := ⟨fun z z1 _ _ => x' z (by omega), fun j _ => by rw [x' _ (by omega)], fun _ _ => rfl⟩
    have hR' := hO.mh.fr (AL' := AL) (x' _ (by omega)) rfl
    have hIA := hI.qq es hO.2.1 hX.toMQ hR'
    simp only [tl_none, e220_0, e220_1, e220_2, e220_5, e220_6, e220_7, e220_8, e220_11, e220_14, e220_15, e220_16, e220_19, e220_20, e220_21, e220_22, e220_25, e220_26, e220_29, e220_32, e220_33, e220_34, e220_37, e220_38, e220_41, e220_42, e220_45, e220_48, e220_49, e220_50, e220_51, e220_52, e220_55, e220_56, e220_57, e220_58, e220_59, e220_62, e220_64, e220_67, e220_68, e220_71, k0, hO.2.1, hO.2.2, rf_some, hO.1.2.1.1, hO.1.2.2.2.1.1.1, ec, true_and, mj_kl]
    refine ⟨by simp, c_letterAt (hO.1.of hX hR') t hcl ?_⟩
    simp only [tl_some, e220_0, e220_1, e220_2, e220_5, e220_6, e220_7, e220_8, e220_11, e220_14, e220_15, e220_16, e220_19, e220_20, e220_21, e220_22, e220_25, e220_26, e220_29, e220_32, e220_33, e220_34, e220_37, e220_38, e220_41, e220_42, e220_45, e220_48, e220_49, e220_50, e220_51, e220_52, e220_55, e220_56, e220_57, e220_58, e220_59, e220_62, e220_64, e220_67, e220_68, e220_71, mj_kl]
    have fin : ∀ v, v = oI (letr s.1 s.2.1.1 s.2.1.2.1 c) (-2) → EV sa (d + 2) 165 [.ref q, .int v] (n, K, F, FL, FR, A, AL, AR) (fun v μ' => WP sa (EV sa (d + 2)) 220 Q 0 0 71 [.ref q, .int x, .int y, .int (oI (letr s.1 s.2.1.1 s.2.1.2.1 c) (-1))] (v.toList ++ []) μ') := by
      rintro v rfl
      refine c_mgood k0 ?_
      simp only [tl_some, e220_0, e220_1, e220_2, e220_5, e220_6, e220_7, e220_8, e220_11, e220_14, e220_15, e220_16, e220_19, e220_20, e220_21, e220_22, e220_25, e220_26, e220_29, e220_32, e220_33, e220_34, e220_37, e220_38, e220_41, e220_42, e220_45, e220_48, e220_49, e220_50, e220_51, e220_52, e220_55, e220_56, e220_57, e220_58, e220_59, e220_62, e220_64, e220_67, e220_68, e220_71]
      exact mansQ hIA (hF.trans (hX.toMQ.frm ha1)) hQ (by unfold sp_letter; rw [hc, p1, p2, p3])
    cases e : letr s.1 s.2.1.1 s.2.1.2.1 c with
    | none =>
      rw [e] at fin
      simp only [oI] at fin ⊢
      exact ⟨fun z => absurd trivial z, fun _ => ⟨by simp, fin _ rfl⟩⟩
    | some k =>
      have := letr_26 hw (fun k hk => (hO.mh.2.2 k hk).1) e
      rw [e] at fin
      simp only [oI] at fin ⊢
      refine ⟨fun _ => ⟨by simp, fin _ rfl⟩, fun z => absurd (fun e2 => ?_) z⟩
      have h3 : nI k < 0 := by rw [e2]; decide
      exact absurd h3 (nI_pos (by omega))
theorem c_m_under (hV : InvM q P (n, K, FI, FL, FR, AI, AL, AR)) {i : Int32} (hQ : ∀ μ', InvM q (rs P (sp_under P i)) μ' → FrM q (n, K, FI, FL, FR, AI, AL, AR) μ' → Q (some (.int (rv (sp_under P i)))) μ') : EV sa (d + 3) 222 [.ref q, .int i] (n, K, FI, FL, FR, AI, AL, AR) Q := by
  have hI0 : MInv q P n K FR FI AI AL := hV
  have k0 := hI0.1.1
  refine n222 k0 ?_
  simp only [e222_0, e222_1, e222_2, e222_5, e222_6, e222_7, e222_10, e222_13, e222_14, e222_15, e222_18, e222_19, e222_20, e222_21, e222_22, e222_24, e222_25, e222_28, e222_29, e222_30, e222_33, e222_36, e222_37, e222_38, e222_39, e222_42, e222_45, e222_46, e222_47, e222_48, e222_49, e222_50, e222_53, e222_54, e222_55, e222_56, e222_59, e222_60, e222_61, e222_62, e222_65, e222_68, e222_69, e222_70, e222_73, k0, true_and]
  have hI := hI0.th (v := 0)
  have hF : FrM q (n, K, FI, FL, FR, AI, AL, AR) (n, K, mj_u2 FI 640 q 0, FL, FR, AI, AL, AR) := FrM.f
  generalize mj_u2 FI 640 q 0 = F at hI hF ⊢
  refine ⟨by simp, c_misHung hI ?_⟩
  simp only [tl_some, e222_0, e222_1, e222_2, e222_5, e222_6, e222_7, e222_10, e222_13, e222_14, e222_15, e222_18, e222_19, e222_20, e222_21, e222_22, e222_24, e222_25, e222_28, e222_29, e222_30, e222_33, e222_36, e222_37, e222_38, e222_39, e222_42, e222_45, e222_46, e222_47, e222_48, e222_49, e222_50, e222_53, e222_54, e222_55, e222_56, e222_59, e222_60, e222_61, e222_62, e222_65, e222_68, e222_69, e222_70, e222_73, bI_eq0, mj_kl]
  refine ⟨fun z => ?_, fun z => ⟨by simp, c_mrefused k0 ?_⟩⟩
  · obtain ⟨s, es, eb, hb, p1, p2, p3, p4⟩ := misH hI (ts_nf z)
    obtain ⟨a, hO, ha1, ha2⟩ := hI.mo es
    obtain ⟨ku, ⟨g0, ku1⟩, ⟨g1, ku2⟩⟩ := hO.1.2.2.2.2.1
    obtain ⟨r1, r2, r3⟩ := hO.mh
    generalize hbb : i.toNatClampNeg = I at *
    subst eb
    have Iin : vp_in (nI I) 30 := vp_in_nI (by omega) (by decide)
    have Icl : (nI I).toNatClampNeg = I := nI_clamp (by omega)
    have loop : ∀ rr k, k + rr = I → ∀ v : Int32, Mk v (fun c => decide (c < k) && tch s.1 s.2.1.1 c I) → WP sa (EV sa (d + 2)) 222 Q 0 0 23 [.ref q, .int (nI I), .int v, .int (nI k)] [] (n, K, F, FL, FR, AI, AL, AR) := by
      intro rr
      induction rr with
      | zero =>
        intro k hk v hv
        have hk' : k = I := by omega
        subst hk'
        rw [e222_23]
        simp only [e222_0, e222_1, e222_2, e222_5, e222_6, e222_7, e222_10, e222_13, e222_14, e222_15, e222_18, e222_19, e222_20, e222_21, e222_22, e222_24, e222_25, e222_28, e222_29, e222_30, e222_33, e222_36, e222_37, e222_38, e222_39, e222_42, e222_45, e222_46, e222_47, e222_48, e222_49, e222_50, e222_53, e222_54, e222_55, e222_56, e222_59, e222_60, e222_61, e222_62, e222_65, e222_68, e222_69, e222_70, e222_73]
        refine ⟨fun _ => ⟨by simp, c_mgood k0 ?_⟩, fun z => absurd (nI_le (Nat.le_refl _) (by omega)) z⟩
        simp only [tl_some, e222_0, e222_1, e222_2, e222_5, e222_6, e222_7, e222_10, e222_13, e222_14, e222_15, e222_18, e222_19, e222_20, e222_21, e222_22, e222_24, e222_25, e222_28, e222_29, e222_30, e222_33, e222_36, e222_37, e222_38, e222_39, e222_42, e222_45, e222_46, e222_47, e222_48, e222_49, e222_50, e222_53, e222_54, e222_55, e222_56, e222_59, e222_60, e222_61, e222_62, e222_65, e222_68, e222_69, e222_70, e222_73]
        exact mansQ hI hF hQ (by unfold sp_under; rw [if_pos (ts_nf z), p1, p2, hbb, hv.inj (mkI_Mk _)])
      | succ rr ih =>
        intro k hk v hv
        have kin : vp_in (nI k) 30 := vp_in_nI (by omega) (by decide)
        have kcl : (nI k).toNatClampNeg = k := nI_clamp (by omega)
        have e0 : (AL (a + 13 + 2) k &&& AL (a + 13 + 2) I = 0) ↔ tch s.1 s.2.1.1 k I = false := ((r3 k (by omega)).2.2.2.2.2.and (r3 I (by omega)).2.2.2.2.2).eq0
        rw [e222_23]
        simp only [e222_0, e222_1, e222_2, e222_5, e222_6, e222_7, e222_10, e222_13, e222_14, e222_15, e222_18, e222_19, e222_20, e222_21, e222_22, e222_24, e222_25, e222_28, e222_29, e222_30, e222_33, e222_36, e222_37, e222_38, e222_39, e222_42, e222_45, e222_46, e222_47, e222_48, e222_49, e222_50, e222_53, e222_54, e222_55, e222_56, e222_59, e222_60, e222_61, e222_62, e222_65, e222_68, e222_69, e222_70, e222_73, k0, hO.2.2, rf_some, ku, g1, ku2, kin, kcl, Iin, Icl, lg_cmp_0, e0, nI_1, mj_kl, true_and]
        refine ⟨fun z => absurd z (nI_ge (by omega) (by omega)), fun _ => ⟨fun z => ?_, fun z => ?_⟩⟩
        · have := ih (k + 1) (by omega) v (hv.congr fun c hc => by
            by_cases e : c = k
            · subst e; simp [z]
            · have : (c < k + 1) ↔ c < k := by omega
              simp [this])
          simpa using this
        · have z' := ts_nf z
          exact ih (k + 1) (by omega) _ ((hv.or (Mk_one (show k < 32 by omega))).congr fun c hc => by
            by_cases e : c = k
            · subst e; simp [z']
            · have : (c < k + 1) ↔ c < k := by omega
              simp [this, e])
    have := loop I 0 (by omega) 0 (Mk.zero.congr fun c _ => by simp)
    simpa [nI_0, mj_u, mj_kl] using this
  · simp only [tl_some, e222_0, e222_1, e222_2, e222_5, e222_6, e222_7, e222_10, e222_13, e222_14, e222_15, e222_18, e222_19, e222_20, e222_21, e222_22, e222_24, e222_25, e222_28, e222_29, e222_30, e222_33, e222_36, e222_37, e222_38, e222_39, e222_42, e222_45, e222_46, e222_47, e222_48, e222_49, e222_50, e222_53, e222_54, e222_55, e222_56, e222_59, e222_60, e222_61, e222_62, e222_65, e222_68, e222_69, e222_70, e222_73]
    exact mrefQ hI hF hQ (k := 1) (by decide) (by unfold sp_under; rw [if_neg (by simpa using z)])
theorem c_m_over (hV : InvM q P (n, K, FI, FL, FR, AI, AL, AR)) {i : Int32} (hQ : ∀ μ', InvM q (rs P (sp_over P i)) μ' → FrM q (n, K, FI, FL, FR, AI, AL, AR) μ' → Q (some (.int (rv (sp_over P i)))) μ') : EV sa (d + 3) 223 [.ref q, .int i] (n, K, FI, FL, FR, AI, AL, AR) Q := by
  have hI0 : MInv q P n K FR FI AI AL := hV
  have k0 := hI0.1.1
  refine n223 k0 ?_
  simp only [e223_0, e223_1, e223_2, e223_5, e223_6, e223_7, e223_10, e223_13, e223_14, e223_15, e223_18, e223_19, e223_20, e223_21, e223_22, e223_23, e223_24, e223_26, e223_27, e223_30, e223_33, e223_36, e223_37, e223_38, e223_41, e223_44, e223_45, e223_46, e223_47, e223_50, e223_53, e223_54, e223_55, e223_56, e223_57, e223_58, e223_61, e223_62, e223_63, e223_64, e223_67, e223_68, e223_69, e223_70, e223_73, e223_76, e223_77, e223_78, e223_81, k0, true_and]
  have hI := hI0.th (v := 0)
  have hF : FrM q (n, K, FI, FL, FR, AI, AL, AR) (n, K, mj_u2 FI 640 q 0, FL, FR, AI, AL, AR) := FrM.f
  generalize mj_u2 FI 640 q 0 = F at hI hF ⊢
  refine ⟨by simp, c_misHung hI ?_⟩
  simp only [tl_some, e223_0, e223_1, e223_2, e223_5, e223_6, e223_7, e223_10, e223_13, e223_14, e223_15, e223_18, e223_19, e223_20, e223_21, e223_22, e223_23, e223_24, e223_26, e223_27, e223_30, e223_33, e223_36, e223_37, e223_38, e223_41, e223_44, e223_45, e223_46, e223_47, e223_50, e223_53, e223_54, e223_55, e223_56, e223_57, e223_58, e223_61, e223_62, e223_63, e223_64, e223_67, e223_68, e223_69, e223_70, e223_73, e223_76, e223_77, e223_78, e223_81, bI_eq0, mj_kl]
  refine ⟨fun z => ?_, fun z => ⟨by simp, c_mrefused k0 ?_⟩⟩
  · obtain ⟨s, es, eb, hb, p1, p2, p3, p4⟩ := misH hI (ts_nf z)
    obtain ⟨a, hO, ha1, ha2⟩ := hI.mo es
    have hH := hO.1.2.2.2.2.1
    obtain ⟨ku, ⟨g0, ku1⟩, ⟨g1, ku2⟩⟩ := id hH
    obtain ⟨r1, r2, r3⟩ := hO.mh
    generalize hbb : i.toNatClampNeg = I at *
    subst eb
    have Iin : vp_in (nI I) 30 := vp_in_nI (by omega) (by decide)
    have Icl : (nI I).toNatClampNeg = I := nI_clamp (by omega)
    have loop : ∀ rr k, k + rr = s.2.1.2.1 → I < k → ∀ v : Int32, Mk v (fun c => decide (I < c ∧ c < k) && tch s.1 s.2.1.1 c I) → WP sa (EV sa (d + 2)) 223 Q 0 0 25 [.ref q, .int (nI I), .int v, .int (nI k)] [] (n, K, F, FL, FR, AI, AL, AR) := by
      intro rr
      induction rr with
      | zero =>
        intro k hk hIk v hv
        have hk' : k = s.2.1.2.1 := by omega
        subst hk'
        rw [e223_25]
        simp only [e223_0, e223_1, e223_2, e223_5, e223_6, e223_7, e223_10, e223_13, e223_14, e223_15, e223_18, e223_19, e223_20, e223_21, e223_22, e223_23, e223_24, e223_26, e223_27, e223_30, e223_33, e223_36, e223_37, e223_38, e223_41, e223_44, e223_45, e223_46, e223_47, e223_50, e223_53, e223_54, e223_55, e223_56, e223_57, e223_58, e223_61, e223_62, e223_63, e223_64, e223_67, e223_68, e223_69, e223_70, e223_73, e223_76, e223_77, e223_78, e223_81, k0, hO.2.2, rf_some, true_and]
        refine ⟨by simp, c_many hH ?_⟩
        rw [r1]
        simp only [tl_some, e223_0, e223_1, e223_2, e223_5, e223_6, e223_7, e223_10, e223_13, e223_14, e223_15, e223_18, e223_19, e223_20, e223_21, e223_22, e223_23, e223_24, e223_26, e223_27, e223_30, e223_33, e223_36, e223_37, e223_38, e223_41, e223_44, e223_45, e223_46, e223_47, e223_50, e223_53, e223_54, e223_55, e223_56, e223_57, e223_58, e223_61, e223_62, e223_63, e223_64, e223_67, e223_68, e223_69, e223_70, e223_73, e223_76, e223_77, e223_78, e223_81]
        refine ⟨fun _ => ⟨by simp, c_mgood k0 ?_⟩, fun z => absurd (nI_le (Nat.le_refl _) (by omega)) z⟩
        simp only [tl_some, e223_0, e223_1, e223_2, e223_5, e223_6, e223_7, e223_10, e223_13, e223_14, e223_15, e223_18, e223_19, e223_20, e223_21, e223_22, e223_23, e223_24, e223_26, e223_27, e223_30, e223_33, e223_36, e223_37, e223_38, e223_41, e223_44, e223_45, e223_46, e223_47, e223_50, e223_53, e223_54, e223_55, e223_56, e223_57, e223_58, e223_61, e223_62, e223_63, e223_64, e223_67, e223_68, e223_69, e223_70, e223_73, e223_76, e223_77, e223_78, e223_81]
        exact mansQ hI hF hQ (by unfold sp_over; rw [if_pos (ts_nf z), p1, p2, p3, hbb, hv.inj (mkI_Mk _)])
      | succ rr ih =>
        intro k hk hIk v hv
        have kin : vp_in (nI k) 30 := vp_in_nI (by omega) (by decide)
        have kcl : (nI k).toNatClampNeg = k := nI_clamp (by omega)
        have e0 : (AL (a + 13 + 2) k &&& AL (a + 13 + 2) I = 0) ↔ tch s.1 s.2.1.1 k I = false := ((r3 k (by omega)).2.2.2.2.2.and (r3 I (by omega)).2.2.2.2.2).eq0
        rw [e223_25]
        simp only [e223_0, e223_1, e223_2, e223_5, e223_6, e223_7, e223_10, e223_13, e223_14, e223_15, e223_18, e223_19, e223_20, e223_21, e223_22, e223_23, e223_24, e223_26, e223_27, e223_30, e223_33, e223_36, e223_37, e223_38, e223_41, e223_44, e223_45, e223_46, e223_47, e223_50, e223_53, e223_54, e223_55, e223_56, e223_57, e223_58, e223_61, e223_62, e223_63, e223_64, e223_67, e223_68, e223_69, e223_70, e223_73, e223_76, e223_77, e223_78, e223_81, k0, hO.2.2, rf_some, true_and]
        refine ⟨by simp, c_many hH ?_⟩
        rw [r1]
        simp only [tl_some, e223_0, e223_1, e223_2, e223_5, e223_6, e223_7, e223_10, e223_13, e223_14, e223_15, e223_18, e223_19, e223_20, e223_21, e223_22, e223_23, e223_24, e223_26, e223_27, e223_30, e223_33, e223_36, e223_37, e223_38, e223_41, e223_44, e223_45, e223_46, e223_47, e223_50, e223_53, e223_54, e223_55, e223_56, e223_57, e223_58, e223_61, e223_62, e223_63, e223_64, e223_67, e223_68, e223_69, e223_70, e223_73, e223_76, e223_77, e223_78, e223_81, k0, hO.2.2, rf_some, ku, g1, ku2, kin, kcl, Iin, Icl, lg_cmp_0, e0, nI_1, mj_kl, true_and]
        refine ⟨fun z => absurd z (nI_ge (by omega) (by omega)), fun _ => ⟨fun z => ?_, fun z => ?_⟩⟩
        · have := ih (k + 1) (by omega) (by omega) v (hv.congr fun c hc => by
            by_cases e : c = k
            · subst e; simp [z]
            · have : (c < k + 1) ↔ c < k := by omega
              simp [this])
          simpa using this
        · have z' := ts_nf z
          exact ih (k + 1) (by omega) (by omega) _ ((hv.or (Mk_one (show k < 32 by omega))).congr fun c hc => by
            by_cases e : c = k
            · subst e; simp [z', hIk]
            · have : (c < k + 1) ↔ c < k := by omega
              simp [this, e])
    have := loop (s.2.1.2.1 - (I + 1)) (I + 1) (by omega) (by omega) 0 (Mk.zero.congr fun c _ => by
      have : ¬ (I < c ∧ c < I + 1) := by omega
      simp [this])
    simpa [nI_0, nI_1, mj_u, mj_kl] using this
  · simp only [tl_some, e223_0, e223_1, e223_2, e223_5, e223_6, e223_7, e223_10, e223_13, e223_14, e223_15, e223_18, e223_19, e223_20, e223_21, e223_22, e223_23, e223_24, e223_26, e223_27, e223_30, e223_33, e223_36, e223_37, e223_38, e223_41, e223_44, e223_45, e223_46, e223_47, e223_50, e223_53, e223_54, e223_55, e223_56, e223_57, e223_58, e223_61, e223_62, e223_63, e223_64, e223_67, e223_68, e223_69, e223_70, e223_73, e223_76, e223_77, e223_78, e223_81]
    exact mrefQ hI hF hQ (k := 1) (by decide) (by unfold sp_over; rw [if_neg (by simpa using z)])
theorem c_m_beneath (hV : InvM q P (n, K, FI, FL, FR, AI, AL, AR)) {x y i : Int32} (hQ : ∀ μ', InvM q (rs P (sp_beneath P x y i)) μ' → FrM q (n, K, FI, FL, FR, AI, AL, AR) μ' → Q (some (.int (rv (sp_beneath P x y i)))) μ') : EV sa (d + 3) 221 [.ref q, .int x, .int y, .int i] (n, K, FI, FL, FR, AI, AL, AR) Q := by
  have hI0 : MInv q P n K FR FI AI AL := hV
  have k0 := hI0.1.1
  refine n221 k0 ?_
  simp only [e221_0, e221_1, e221_2, e221_5, e221_6, e221_7, e221_8, e221_11, e221_14, e221_15, e221_16, e221_19, e221_20, e221_21, e221_23, e221_24, e221_27, e221_30, e221_31, e221_32, e221_36, e221_39, e221_40, e221_43, e221_46, e221_48, e221_49, e221_50, e221_53, e221_56, e221_57, e221_58, e221_59, e221_60, e221_61, e221_62, e221_63, e221_64, e221_65, e221_68, e221_71, e221_73, e221_74, e221_77, e221_78, e221_80, e221_83, e221_84, e221_87, e221_90, e221_93, e221_94, e221_96, e221_99, k0, true_and]
  have hI := hI0.th (v := 0)
  have hF : FrM q (n, K, FI, FL, FR, AI, AL, AR) (n, K, mj_u2 FI 640 q 0, FL, FR, AI, AL, AR) := FrM.f
  generalize mj_u2 FI 640 q 0 = F at hI hF ⊢
  refine ⟨by simp, c_misCell hI ?_⟩
  cases hc : sCell P x y with
  | none =>
    simp only [tl_some, e221_0, e221_1, e221_2, e221_5, e221_6, e221_7, e221_8, e221_11, e221_14, e221_15, e221_16, e221_19, e221_20, e221_21, e221_23, e221_24, e221_27, e221_30, e221_31, e221_32, e221_36, e221_39, e221_40, e221_43, e221_46, e221_48, e221_49, e221_50, e221_53, e221_56, e221_57, e221_58, e221_59, e221_60, e221_61, e221_62, e221_63, e221_64, e221_65, e221_68, e221_71, e221_73, e221_74, e221_77, e221_78, e221_80, e221_83, e221_84, e221_87, e221_90, e221_93, e221_94, e221_96, e221_99, bI_eq0, Option.isSome_none]
    refine ⟨fun z => absurd trivial z, fun _ => ⟨by simp, c_mrefused k0 ?_⟩⟩
    simp only [tl_some, e221_0, e221_1, e221_2, e221_5, e221_6, e221_7, e221_8, e221_11, e221_14, e221_15, e221_16, e221_19, e221_20, e221_21, e221_23, e221_24, e221_27, e221_30, e221_31, e221_32, e221_36, e221_39, e221_40, e221_43, e221_46, e221_48, e221_49, e221_50, e221_53, e221_56, e221_57, e221_58, e221_59, e221_60, e221_61, e221_62, e221_63, e221_64, e221_65, e221_68, e221_71, e221_73, e221_74, e221_77, e221_78, e221_80, e221_83, e221_84, e221_87, e221_90, e221_93, e221_94, e221_96, e221_99]
    exact mrefQ hI hF hQ (k := 1) (by decide) (by unfold sp_beneath; rw [hc])
  | some c =>
    obtain ⟨s, es⟩ := mcell_wall hI hc
    obtain ⟨a, hO, ha1, ha2⟩ := hI.mo es
    obtain ⟨p1, p2, p3, p4⟩ := pWs es
    have hw := hO.ok
    have h32 := hO.c32
    obtain ⟨ec, hcl⟩ := sCell_at es hw.1.2 hw.2.1.2 hc
    have hH := hO.1.2.2.2.2.1
    obtain ⟨ku, ⟨g0, ku1⟩, ⟨g1, ku2⟩⟩ := id hH
    obtain ⟨r1, r2, r3⟩ := hO.mh
    generalize hp : (fun k => covg s.1 (s.2.1.1 k) c) = p
    have hp' : ∀ k, covg s.1 (s.2.1.1 k) c = p k := fun k => by rw [← hp]
    have esp : sp_beneath P x y i = (match fndD (fun k => p k && decide (i = nI (ct p s.2.1.2.1 - ct p (k + 1)))) s.2.1.2.1 with
      | none => .inl 6
      | some k => .inr (nI k)) := by
      unfold sp_beneath bnd
      rw [hc]
      simp only [p1, p2, p3, hp, hp']
      cases fndD (fun k => p k && decide (i = nI (ct p s.2.1.2.1 - ct p (k + 1)))) s.2.1.2.1 <;> rfl
    generalize hm : s.2.1.2.1 = m at *
    have loop : ∀ j, j ≤ m → fndD (fun k => p k && decide (i = nI (ct p m - ct p (k + 1)))) m = fndD (fun k => p k && decide (i = nI (ct p m - ct p (k + 1)))) j → WP sa (EV sa (d + 2)) 221 Q 0 0 34 [.ref q, .int x, .int y, .int i, .int (nI (ct p m - ct p j)), .int (nI j - 1)] [] (n, K, F, FL, FR, AI, AL, AR) := by
      intro j
      induction j with
      | zero =>
        intro _ hf
        rw [e221_34]
        simp only [e221_0, e221_1, e221_2, e221_5, e221_6, e221_7, e221_8, e221_11, e221_14, e221_15, e221_16, e221_19, e221_20, e221_21, e221_23, e221_24, e221_27, e221_30, e221_31, e221_32, e221_36, e221_39, e221_40, e221_43, e221_46, e221_48, e221_49, e221_50, e221_53, e221_56, e221_57, e221_58, e221_59, e221_60, e221_61, e221_62, e221_63, e221_64, e221_65, e221_68, e221_71, e221_73, e221_74, e221_77, e221_78, e221_80, e221_83, e221_84, e221_87, e221_90, e221_93, e221_94, e221_96, e221_99]
        refine ⟨fun _ => ⟨by simp, c_mrefused k0 ?_⟩, fun z => absurd (by decide) z⟩
        simp only [tl_some, e221_0, e221_1, e221_2, e221_5, e221_6, e221_7, e221_8, e221_11, e221_14, e221_15, e221_16, e221_19, e221_20, e221_21, e221_23, e221_24, e221_27, e221_30, e221_31, e221_32, e221_36, e221_39, e221_40, e221_43, e221_46, e221_48, e221_49, e221_50, e221_53, e221_56, e221_57, e221_58, e221_59, e221_60, e221_61, e221_62, e221_63, e221_64, e221_65, e221_68, e221_71, e221_73, e221_74, e221_77, e221_78, e221_80, e221_83, e221_84, e221_87, e221_90, e221_93, e221_94, e221_96, e221_99]
        exact mrefQ hI hF hQ (k := 6) (by decide) (by rw [esp, hf]; rfl)
      | succ j ih =>
        intro hj hf
        have jin : vp_in (nI j) 30 := vp_in_nI (by omega) (by decide)
        have jcl : (nI j).toNatClampNeg = j := nI_clamp (by omega)
        have hb := bit_is0 (r3 j (by omega)).2.2.2.2.2 (c := c) (by omega)
        rw [hp'] at hb
        have m1 := ct_mono p (show j + 1 ≤ m from hj)
        have e1 := ct_top p j
        rw [e221_34, nI_pred]
        simp only [e221_0, e221_1, e221_2, e221_5, e221_6, e221_7, e221_8, e221_11, e221_14, e221_15, e221_16, e221_19, e221_20, e221_21, e221_23, e221_24, e221_27, e221_30, e221_31, e221_32, e221_36, e221_39, e221_40, e221_43, e221_46, e221_48, e221_49, e221_50, e221_53, e221_56, e221_57, e221_58, e221_59, e221_60, e221_61, e221_62, e221_63, e221_64, e221_65, e221_68, e221_71, e221_73, e221_74, e221_77, e221_78, e221_80, e221_83, e221_84, e221_87, e221_90, e221_93, e221_94, e221_96, e221_99, k0, hO.2.1, hO.2.2, rf_some, ku, g1, ku2, hO.1.2.1.1, hO.1.2.2.2.1.1.1, ec, jin, jcl, lg_cmp_0, hb, true_and, mj_kl]
        refine ⟨fun z => absurd z (nI_pos (by omega)), fun _ => ⟨fun z => ⟨fun z2 => ?_, fun z2 => ⟨by simp, c_mgood k0 ?_⟩⟩, fun z => ?_⟩⟩
        · have z' := ts_nf z
          have z3 : ¬ i = nI (ct p m - ct p (j + 1)) := fun e => z2 e.symm
          have := ih (by omega) (by rw [hf]; simp [fndD, z3])
          simp only [z', if_true] at e1
          rw [show ct p m - ct p j = ct p m - ct p (j + 1) + 1 by omega, ← nI_1] at this
          simpa [Int32.sub_eq_add_neg] using this
        · have z' := ts_nf z
          have z3 : i = nI (ct p m - ct p (j + 1)) := (Classical.not_not.mp z2).symm
          simp only [tl_some, e221_0, e221_1, e221_2, e221_5, e221_6, e221_7, e221_8, e221_11, e221_14, e221_15, e221_16, e221_19, e221_20, e221_21, e221_23, e221_24, e221_27, e221_30, e221_31, e221_32, e221_36, e221_39, e221_40, e221_43, e221_46, e221_48, e221_49, e221_50, e221_53, e221_56, e221_57, e221_58, e221_59, e221_60, e221_61, e221_62, e221_63, e221_64, e221_65, e221_68, e221_71, e221_73, e221_74, e221_77, e221_78, e221_80, e221_83, e221_84, e221_87, e221_90, e221_93, e221_94, e221_96, e221_99]
          exact mansQ hI hF hQ (by rw [esp, hf]; simp [fndD, z', ← z3])
        · have z' : p j = false := by simpa using z
          have := ih (by omega) (by rw [hf]; simp [fndD, z'])
          simp only [z', Bool.false_eq_true, if_false] at e1
          rw [show ct p j = ct p (j + 1) by omega] at this
          simpa [Int32.sub_eq_add_neg] using this
    simp only [tl_some, e221_0, e221_1, e221_2, e221_5, e221_6, e221_7, e221_8, e221_11, e221_14, e221_15, e221_16, e221_19, e221_20, e221_21, e221_23, e221_24, e221_27, e221_30, e221_31, e221_32, e221_36, e221_39, e221_40, e221_43, e221_46, e221_48, e221_49, e221_50, e221_53, e221_56, e221_57, e221_58, e221_59, e221_60, e221_61, e221_62, e221_63, e221_64, e221_65, e221_68, e221_71, e221_73, e221_74, e221_77, e221_78, e221_80, e221_83, e221_84, e221_87, e221_90, e221_93, e221_94, e221_96, e221_99, bI_eq0, Option.isSome_some, k0, hO.2.2, rf_some, true_and, mj_kl]
    refine ⟨fun _ => ⟨by simp, c_many hH ?_⟩, fun z => absurd (by decide) z⟩
    rw [r1]
    simp only [tl_some, e221_0, e221_1, e221_2, e221_5, e221_6, e221_7, e221_8, e221_11, e221_14, e221_15, e221_16, e221_19, e221_20, e221_21, e221_23, e221_24, e221_27, e221_30, e221_31, e221_32, e221_36, e221_39, e221_40, e221_43, e221_46, e221_48, e221_49, e221_50, e221_53, e221_56, e221_57, e221_58, e221_59, e221_60, e221_61, e221_62, e221_63, e221_64, e221_65, e221_68, e221_71, e221_73, e221_74, e221_77, e221_78, e221_80, e221_83, e221_84, e221_87, e221_90, e221_93, e221_94, e221_96, e221_99, mj_kl]
    have := loop m (Nat.le_refl _) rfl
    simpa [nI_0, mj_u, mj_kl] using this
end
