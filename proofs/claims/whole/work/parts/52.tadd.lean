/-! ## a wall as it is being told -/
def upN {α : Type} (f : Nat → α) (i : Nat) (v : α) : Nat → α := fun j => if j = i then v else f j
theorem upN_s {α : Type} {f : Nat → α} {i : Nat} {v : α} : upN f i v i = v := by simp [upN]
theorem upN_o {α : Type} {f : Nat → α} {i j : Nat} {v : α} (h : j ≠ i) : upN f i v j = f j := by simp [upN, h]
def w_0 : Wl := ((0, 0, 0, false), (0, 0, 0, 0), (fun _ => 0, fun _ => 0, fun _ => 0), (fun _ => 0, fun _ _ => 0), (fun _ => 0, fun _ _ => 0))
def w_wall (w : Wl) (W H L : Nat) (B : Bool) : Wl := ((W, H, L, B), w.2)
def w_bill (w : Wl) (k bw bh l : Nat) (T : Nat → Nat) : Wl := (w.1, (wNB w + 1, wNR w, wNW w, wF w), (upN (wK w) (wNB w) k, upN (wBW w) (wNB w) bw, upN (wBH w) (wNB w) bh), (upN (wTL w) (wNB w) l, upN (wTX w) (wNB w) T), w.2.2.2.2)
def w_word (w : Wl) (l : Nat) (T : Nat → Nat) : Wl := (w.1, (wNB w, wNR w, wNW w + 1, wF w), w.2.2.1, w.2.2.2.1, (upN (wWL w) (wNW w) l, upN (wWT w) (wNW w) T))
def w_riv (w : Wl) : Wl := (w.1, (wNB w, wNR w + 1, wNW w, wF w), w.2.2)
def w_fnd (w : Wl) : Wl := (w.1, (wNB w, wNR w, wNW w, wF w + 1), w.2.2)
/-- fields, bills and words of a Told -/
def ToldW (FI : Nat → Nat → Int32) (AI : Nat → Nat → Int32) (AL : Nat → Nat → Int64) (t : Nat) (w : Wl) : Prop :=
  (FI 384 t = nI (wW w) ∧ FI 385 t = nI (wH w) ∧ FI 386 t = nI (wL w) ∧ FI 387 t = bI (wB w) ∧ FI 388 t = nI (wNB w) ∧ FI 389 t = nI (wNR w) ∧ FI 390 t = nI (wNW w)) ∧
  (∀ b, b < wNB w → AI (t + 1) b = nI (wK w b) ∧ AI (t + 2) b = nI (wBW w b) ∧ AI (t + 3) b = nI (wBH w b) ∧ AI (t + 4) b = nI (wTL w b) ∧ Mk (AI (t + 5) b) (cov w b 0 0) ∧ Mk (AI (t + 6) b) (fun c => decide (c % wW w + wBW w b ≤ wW w ∧ c / wW w + wBH w b ≤ wH w)) ∧ PkB (AL (t + 8) b) (5 * wBW w b) ∧ ∀ y, y < wBH w b → PkL (AL (t + 7) (4 * b + y)) (fun x => if x < wBW w b then wTX w b ((wBW w b * y + x) % wTL w b) + 1 else 0)) ∧
  (∀ v, v < wNW w → AI (t + 11) v = nI (wWL w v) ∧ PkB (AL (t + 10) v) (5 * wWL w v) ∧ PkL (AL (t + 9) v) (fun x => if x < wWL w v then wWT w v x + 1 else 0))
def ColR (AI : Nat → Nat → Int32) (t : Nat) (w : Wl) : Prop := ∀ c, c < 32 → AI (t + 12) c = nI (c % wW w) ∧ AI (t + 13) c = nI (c / wW w)
theorem ToldW.toR {FI AI : Nat → Nat → Int32} {AL : Nat → Nat → Int64} {t : Nat} {w : Wl} (h : ToldW FI AI AL t w) (hc : ColR AI t w) : ToldR FI AI AL t w := ⟨h.1, h.2.1, h.2.2, hc⟩
theorem ToldR.toW {FI AI : Nat → Nat → Int32} {AL : Nat → Nat → Int64} {t : Nat} {w : Wl} (h : ToldR FI AI AL t w) : ToldW FI AI AL t w := ⟨h.1, h.2.1, h.2.2.1⟩
section
variable {sa : Nat → Nat} {d n t h m : Nat} {Q : mj_Q} {K : Nat → Nat × Nat} {FI : Nat → Nat → Int32} {FL : Nat → Nat → Int64} {FR : Nat → Nat → Option Nat} {AI : Nat → Nat → Int32} {AL : Nat → Nat → Int64} {AR : Nat → Nat → Option Nat} {w : Wl} {hs : Nat → Hg}
theorem c_tclear (hT : ToldS K FR t) (hQ : ∀ FI' : Nat → Nat → Int32, ToldW FI' AI AL t w_0 → FIx FI FI' t [384, 385, 386, 387, 388, 389, 390] → Q none (n, K, FI', FL, FR, AI, AL, AR)) : EV sa (d + 1) 82 [.ref t] (n, K, FI, FL, FR, AI, AL, AR) Q := by
  have k0 := hT.1
  refine n82 k0 ?_
  simp only [e82_0, e82_1, e82_2, e82_5, e82_6, e82_7, e82_10, e82_11, e82_12, e82_15, e82_16, e82_17, e82_20, e82_21, e82_22, e82_25, e82_26, e82_27, e82_30, e82_31, e82_32, e82_35, k0, true_and, true_or]
  refine hQ _ ⟨?_, fun b hb => absurd hb (Nat.not_lt_zero b), fun b hb => absurd hb (Nat.not_lt_zero b)⟩ ?_
  · simp only [mj_u2]
    refine ⟨?_, ?_, ?_, ?_, ?_, ?_, ?_⟩ <;> simp [w_0, wW, wH, wL, wB, wNB, wNR, wNW, nI_0, bI]
  · intro f a hfa
    simp at hfa
    simp only [mj_u2]
    repeat' split
    all_goals first | rfl | (rename_i z; obtain ⟨rfl, rfl⟩ := z; simp at hfa)
theorem c_setWall (hT : ToldS K FR t) (hW : ToldW FI AI AL t w) (hB : wNB w = 0) {W H L : Nat} {B : Bool} (h2 : 2 ≤ W) (h8 : W ≤ 8) (hQ : ∀ FI' AI' : Nat → Nat → Int32, ToldR FI' AI' AL t (w_wall w W H L B) → FIx FI FI' t [384, 385, 386, 387] → AIx AI AI' (t + 12) (t + 13) → Q none (n, K, FI', FL, FR, AI', AL, AR)) : EV sa (d + 1) 83 [.ref t, .int (nI W), .int (nI H), .int (nI L), .int (bI B)] (n, K, FI, FL, FR, AI, AL, AR) Q := by
  obtain ⟨k0, -, -, -, -, -, -, -, -, -, -, -, ⟨f12, k12⟩, ⟨f13, k13⟩⟩ := id hT
  generalize hF : mj_u2 (mj_u2 (mj_u2 (mj_u2 FI 384 t (nI W)) 385 t (nI H)) 386 t (nI L)) 387 t (bI B) = F
  have F0 : F 384 t = nI W := by rw [← hF]; simp [mj_u2]
  have fx : FIx FI F t [384, 385, 386, 387] := by
    intro f a hfa
    rw [← hF]
    simp at hfa
    simp only [mj_u2]
    repeat' split
    all_goals first | rfl | (rename_i z; obtain ⟨rfl, rfl⟩ := z; simp at hfa)
  have hfields : F 384 t = nI W ∧ F 385 t = nI H ∧ F 386 t = nI L ∧ F 387 t = bI B := by rw [← hF]; simp [mj_u2]
  have loop : ∀ rr i, i + rr = 32 → ∀ A : Nat → Nat → Int32, AIx AI A (t + 12) (t + 13) → (∀ c, c < i → A (t + 12) c = nI (c % W) ∧ A (t + 13) c = nI (c / W)) → WP sa (EV sa d) 83 Q 0 0 24 [.ref t, .int (nI W), .int (nI H), .int (nI L), .int (bI B), .int (nI i)] [] (n, K, F, FL, FR, A, AL, AR) := by
    intro rr
    induction rr with
    | zero =>
      intro i hi A h1 h3
      have hi' : i = 32 := by omega
      subst hi'
      rw [e83_24]
      simp only [e83_0, e83_1, e83_2, e83_5, e83_6, e83_7, e83_10, e83_11, e83_12, e83_15, e83_16, e83_18, e83_21, e83_22, e83_26, e83_28, e83_31, e83_32, e83_35, e83_38, e83_39, e83_42, e83_44, e83_46, e83_47, e83_50, e83_51, e83_52, e83_53, e83_56, e83_58, e83_60, e83_61, e83_64, e83_65, e83_66, e83_69, e83_72]
      refine ⟨fun _ => hQ F A ⟨?_, fun b hb => ?_, fun v hv => ?_, h3⟩ fx h1, fun q => absurd (by decide) q⟩
      · obtain ⟨a1, a2, a3, a4⟩ := hfields
        obtain ⟨-, -, -, -, b1, b2, b3⟩ := hW.1
        refine ⟨a1, a2, a3, a4, ?_, ?_, ?_⟩
        · rw [fx 388 t (by simp)]; exact b1
        · rw [fx 389 t (by simp)]; exact b2
        · rw [fx 390 t (by simp)]; exact b3
      · have : b < wNB w := hb
        omega
      · rw [h1 (t + 11) (by omega)]
        exact hW.2.2 v hv
    | succ rr ih =>
      intro i hi A h1 h3
      have hin : vp_in (nI i) 32 := vp_in_nI (by omega) (by decide)
      have hcl : (nI i).toNatClampNeg = i := nI_clamp (by omega)
      have n0 : ¬ nI W = 0 := nI_ne0 (by omega) (by omega)
      have er := pk_rem (a := i) (d := W) (by omega) (by omega) (by omega)
      have ed := pk_div (a := i) (d := W) (by omega) (by omega) (by omega)
      rw [e83_24]
      simp only [e83_0, e83_1, e83_2, e83_5, e83_6, e83_7, e83_10, e83_11, e83_12, e83_15, e83_16, e83_18, e83_21, e83_22, e83_26, e83_28, e83_31, e83_32, e83_35, e83_38, e83_39, e83_42, e83_44, e83_46, e83_47, e83_50, e83_51, e83_52, e83_53, e83_56, e83_58, e83_60, e83_61, e83_64, e83_65, e83_66, e83_69, e83_72, k0, f12, f13, k12, k13, rf_some, F0, hin, hcl, er, n0, not_false_eq_true, true_and, nI_1, mj_kl]
      rw [ed]
      refine ⟨fun q => absurd q (by rw [show (32 : Int32) = nI 32 from rfl]; exact nI_ge (by omega) (by omega)), fun _ => ⟨fun q => absurd q (nI_nle (by omega) (by omega)), fun _ => ih (i + 1) (by omega) _ ?_ ?_⟩⟩
      · intro q hq
        funext z
        rw [mj_u2_1 (by omega), mj_u2_1 (by omega), h1 q hq]
      · intro c hc
        by_cases e : c = i
        · subst e
          rw [mj_u2_1 (by omega), mj_u2_s, mj_u2_s]
          exact ⟨rfl, rfl⟩
        · rw [mj_u2_2 e, mj_u2_2 e, mj_u2_2 e, mj_u2_2 e]
          exact h3 c (by omega)
  refine n83 k0 ?_
  simp only [e83_0, e83_1, e83_2, e83_5, e83_6, e83_7, e83_10, e83_11, e83_12, e83_15, e83_16, e83_18, e83_21, e83_22, e83_26, e83_28, e83_31, e83_32, e83_35, e83_38, e83_39, e83_42, e83_44, e83_46, e83_47, e83_50, e83_51, e83_52, e83_53, e83_56, e83_58, e83_60, e83_61, e83_64, e83_65, e83_66, e83_69, e83_72, k0, true_and, bI_01, mj_kl, mj_u, hF]
  have := loop 32 0 (by omega) AI AIx.rfl' (fun c hc => by omega)
  simpa [nI_0] using this
theorem c_addWord (hT : ToldS K FR t) (hW : ToldW FI AI AL t w) (hn : wNW w < 6) {l : Nat} {T : Nat → Nat} {v : Int64} (hl : l < 9) (hv : PkL v (fun x => if x < l then T x + 1 else 0)) (hQ : ∀ (FI' AI' : Nat → Nat → Int32) (AL' : Nat → Nat → Int64), ToldW FI' AI' AL' t (w_word w l T) → FIx FI FI' t [390] → AIx AI AI' (t + 11) (t + 11) → ALx AL AL' (t + 9) (t + 10) → Q none (n, K, FI', FL, FR, AI', AL', AR)) : EV sa (d + 2) 87 [.ref t, .long v, .int (nI l)] (n, K, FI, FL, FR, AI, AL, AR) Q := by
  obtain ⟨k0, -, -, -, -, -, -, -, -, ⟨f9, k9⟩, ⟨f10, k10⟩, ⟨f11, k11⟩, -⟩ := id hT
  obtain ⟨⟨a1, a2, a3, a4, a5, a6, a7⟩, hb, hw⟩ := id hW
  have hin : vp_in (nI (wNW w)) 6 := vp_in_nI hn (by decide)
  have hcl : (nI (wNW w)).toNatClampNeg = wNW w := nI_clamp (by omega)
  refine n87 k0 ?_
  simp only [e87_0, e87_1, e87_4, e87_6, e87_9, e87_10, e87_11, e87_14, e87_15, e87_18, e87_19, e87_20, e87_21, e87_24, e87_25, e87_28, e87_29, e87_32, e87_33, e87_34, e87_37, e87_38, e87_41, e87_42, e87_43, e87_44, e87_44i, e87_45, e87_48, e87_49, e87_50, e87_53, k0, f9, f10, k9, k10, a7, rf_some, hin, hcl, true_and, true_or, mj_kl]
  refine ⟨fun _ => ⟨by simp, c_lettersBits hl fun u hu => ?_⟩, fun q => absurd (nI_lt (b := 6) hn (by decide)) q⟩
  simp only [tl_some, e87_0, e87_1, e87_4, e87_6, e87_9, e87_10, e87_11, e87_14, e87_15, e87_18, e87_19, e87_20, e87_21, e87_24, e87_25, e87_28, e87_29, e87_32, e87_33, e87_34, e87_37, e87_38, e87_41, e87_42, e87_43, e87_44, e87_44i, e87_45, e87_48, e87_49, e87_50, e87_53, k0, f11, k10, k11, a7, rf_some, hin, hcl, true_and, true_or, mj_kl, nI_1]
  refine hQ _ _ _ ⟨⟨?_, ?_, ?_, ?_, ?_, ?_, ?_⟩, fun b h => ?_, fun x h => ?_⟩ ?_ ?_ ?_
  · rw [mj_u2_1 (by decide)]; exact a1
  · rw [mj_u2_1 (by decide)]; exact a2
  · rw [mj_u2_1 (by decide)]; exact a3
  · rw [mj_u2_1 (by decide)]; exact a4
  · rw [mj_u2_1 (by decide)]; exact a5
  · rw [mj_u2_1 (by decide)]; exact a6
  · rw [mj_u2_s]; rfl
  · have := hb b h
    rw [mj_u2_1 (by omega), mj_u2_1 (by omega), mj_u2_1 (by omega), mj_u2_1 (by omega), mj_u2_1 (by omega), mj_u2_1 (by omega), mj_u2_1 (by omega), mj_u2_1 (by omega)]
    obtain ⟨z1, z2, z3, z4, z5, z6, z7, z8⟩ := this
    refine ⟨z1, z2, z3, z4, z5, z6, z7, fun y hy => ?_⟩
    rw [mj_u2_1 (by omega), mj_u2_1 (by omega)]
    exact z8 y hy
  · have h' : x < wNW w + 1 := h
    show _ = nI (upN (wWL w) (wNW w) l x) ∧ PkB _ (5 * upN (wWL w) (wNW w) l x) ∧ PkL _ (fun i => if i < upN (wWL w) (wNW w) l x then upN (wWT w) (wNW w) T x i + 1 else 0)
    by_cases e : x = wNW w
    · subst e
      rw [upN_s, upN_s, mj_u2_s, mj_u2_s, mj_u2_1 (by omega), mj_u2_s]
      exact ⟨rfl, hu, hv⟩
    · rw [upN_o e, upN_o e, mj_u2_2 e, mj_u2_2 e, mj_u2_2 e, mj_u2_2 e, mj_u2_2 e]
      exact hw x (by omega)
  · intro f a hfa
    refine if_neg fun z => ?_
    obtain ⟨rfl, rfl⟩ := z
    simp at hfa
  · intro q hq
    funext z
    exact mj_u2_1 (by omega)
  · intro q hq
    funext z
    rw [mj_u2_1 (by omega), mj_u2_1 (by omega)]
theorem c_addBill (hT : ToldS K FR t) (hW : ToldW FI AI AL t w) (hn : wNB w < 4) (hbh : ∀ b, b < wNB w → wBH w b ≤ 4) {kd bw bh l : Nat} {T : Nat → Nat} {v : Int64} (h2 : 2 ≤ wW w) (h8 : wW w ≤ 8) (hH4 : wH w ≤ 4) (hb1 : 1 ≤ bw) (hb2 : bw ≤ wW w) (hh1 : 1 ≤ bh) (hh2 : bh ≤ wH w) (hl1 : 1 ≤ l) (hl : l < 9) (hT26 : ∀ i, i < l → T i < 26) (hv : PkL v (fun x => if x < l then T x + 1 else 0)) (hQ : ∀ (FI' AI' : Nat → Nat → Int32) (AL' : Nat → Nat → Int64), ToldW FI' AI' AL' t (w_bill w kd bw bh l T) → FIx FI FI' t [388] → AIx AI AI' (t + 1) (t + 6) → ALx AL AL' (t + 7) (t + 8) → Q none (n, K, FI', FL, FR, AI', AL', AR)) : EV sa (d + 3) 84 [.ref t, .int (nI kd), .int (nI bw), .int (nI bh), .long v, .int (nI l)] (n, K, FI, FL, FR, AI, AL, AR) Q := by
  obtain ⟨k0, ⟨f1, k1⟩, ⟨f2, k2⟩, ⟨f3, k3⟩, ⟨f4, k4⟩, ⟨f5, k5⟩, ⟨f6, k6⟩, ⟨f7, k7⟩, ⟨f8, k8⟩, -⟩ := id hT
  obtain ⟨⟨a1, a2, a3, a4, a5, a6, a7⟩, hb, hw⟩ := id hW
  have hin : vp_in (nI (wNB w)) 4 := vp_in_nI hn (by decide)
  have hcl : (nI (wNB w)).toNatClampNeg = wNB w := nI_clamp (by omega)
  refine n84 k0 ?_
  simp only [e84_0, e84_1, e84_4, e84_5, e84_8, e84_10, e84_13, e84_14, e84_15, e84_18, e84_20, e84_21, e84_24, e84_26, e84_27, e84_28, e84_29, e84_32, e84_34, e84_35, e84_36, e84_37, e84_40, e84_42, e84_43, e84_44, e84_45, e84_48, e84_50, e84_52, e84_53, e84_54, e84_57, e84_59, e84_60, e84_61, e84_62, e84_65, e84_66, e84_67, e84_70, e84_72, e84_73, e84_74, e84_77, e84_78, e84_79, e84_80, e84_81, e84_82, e84_85, e84_86, e84_87, e84_88, e84_89, e84_92, e84_93, e84_94, e84_97, e84_99, e84_100, e84_103, e84_104, e84_105, e84_109, e84_110, e84_113, e84_115, e84_116, e84_119, e84_120, e84_123, e84_125, e84_126, e84_127, e84_129, e84_130, e84_131, e84_133, e84_135, e84_137, e84_140, e84_141, e84_144, e84_147, e84_148, e84_148i, e84_149, e84_152, e84_153, e84_154, e84_157, k0, f1, f2, f3, f4, f5, k1, k2, k3, k4, k5, a5, rf_some, hin, hcl, true_and, true_or, mj_kl]
  refine ⟨fun q => absurd q (nI_ge (b := 4) hn (by decide)), fun _ => ⟨fun _ => ⟨by simp, c_block hT a1 h2 h8 hb2 (by omega) fun s hs => ?_⟩, fun q => absurd (nI_lt (a := 0) hl1 (by omega)) q⟩⟩
  have ex1 : nI (wW w) - nI bw + 1 = nI (wW w - bw + 1) := by rw [nq_sub hb2, nI_1]
  have ex2 : nI (wH w) - nI bh + 1 = nI (wH w - bh + 1) := by rw [nq_sub hh2, nI_1]
  simp only [tl_some, e84_0, e84_1, e84_4, e84_5, e84_8, e84_10, e84_13, e84_14, e84_15, e84_18, e84_20, e84_21, e84_24, e84_26, e84_27, e84_28, e84_29, e84_32, e84_34, e84_35, e84_36, e84_37, e84_40, e84_42, e84_43, e84_44, e84_45, e84_48, e84_50, e84_52, e84_53, e84_54, e84_57, e84_59, e84_60, e84_61, e84_62, e84_65, e84_66, e84_67, e84_70, e84_72, e84_73, e84_74, e84_77, e84_78, e84_79, e84_80, e84_81, e84_82, e84_85, e84_86, e84_87, e84_88, e84_89, e84_92, e84_93, e84_94, e84_97, e84_99, e84_100, e84_103, e84_104, e84_105, e84_109, e84_110, e84_113, e84_115, e84_116, e84_119, e84_120, e84_123, e84_125, e84_126, e84_127, e84_129, e84_130, e84_131, e84_133, e84_135, e84_137, e84_140, e84_141, e84_144, e84_147, e84_148, e84_148i, e84_149, e84_152, e84_153, e84_154, e84_157, k0, f6, k5, k6, a1, a2, rf_some, hin, hcl, true_and, true_or, mj_kl, ex1, ex2]
  refine ⟨by simp, c_block hT a1 h2 h8 (by omega) (by omega) fun c hc => ?_⟩
  simp only [tl_some, e84_0, e84_1, e84_4, e84_5, e84_8, e84_10, e84_13, e84_14, e84_15, e84_18, e84_20, e84_21, e84_24, e84_26, e84_27, e84_28, e84_29, e84_32, e84_34, e84_35, e84_36, e84_37, e84_40, e84_42, e84_43, e84_44, e84_45, e84_48, e84_50, e84_52, e84_53, e84_54, e84_57, e84_59, e84_60, e84_61, e84_62, e84_65, e84_66, e84_67, e84_70, e84_72, e84_73, e84_74, e84_77, e84_78, e84_79, e84_80, e84_81, e84_82, e84_85, e84_86, e84_87, e84_88, e84_89, e84_92, e84_93, e84_94, e84_97, e84_99, e84_100, e84_103, e84_104, e84_105, e84_109, e84_110, e84_113, e84_115, e84_116, e84_119, e84_120, e84_123, e84_125, e84_126, e84_127, e84_129, e84_130, e84_131, e84_133, e84_135, e84_137, e84_140, e84_141, e84_144, e84_147, e84_148, e84_148i, e84_149, e84_152, e84_153, e84_154, e84_157, k0, f8, k6, k8, rf_some, hin, hcl, true_and, true_or, mj_kl]
  refine ⟨by simp, c_lettersBits (by omega) fun u hu => ?_⟩
  simp only [tl_some, e84_0, e84_1, e84_4, e84_5, e84_8, e84_10, e84_13, e84_14, e84_15, e84_18, e84_20, e84_21, e84_24, e84_26, e84_27, e84_28, e84_29, e84_32, e84_34, e84_35, e84_36, e84_37, e84_40, e84_42, e84_43, e84_44, e84_45, e84_48, e84_50, e84_52, e84_53, e84_54, e84_57, e84_59, e84_60, e84_61, e84_62, e84_65, e84_66, e84_67, e84_70, e84_72, e84_73, e84_74, e84_77, e84_78, e84_79, e84_80, e84_81, e84_82, e84_85, e84_86, e84_87, e84_88, e84_89, e84_92, e84_93, e84_94, e84_97, e84_99, e84_100, e84_103, e84_104, e84_105, e84_109, e84_110, e84_113, e84_115, e84_116, e84_119, e84_120, e84_123, e84_125, e84_126, e84_127, e84_129, e84_130, e84_131, e84_133, e84_135, e84_137, e84_140, e84_141, e84_144, e84_147, e84_148, e84_148i, e84_149, e84_152, e84_153, e84_154, e84_157, k8, rf_some, hin, hcl, true_and, true_or, mj_kl]
  generalize hA : mj_u2 (mj_u2 (mj_u2 (mj_u2 (mj_u2 (mj_u2 AI (t + 1) (wNB w) (nI kd)) (t + 2) (wNB w) (nI bw)) (t + 3) (wNB w) (nI bh)) (t + 4) (wNB w) (nI l)) (t + 5) (wNB w) s) (t + 6) (wNB w) c = A
  have hAv : A (t + 1) (wNB w) = nI kd ∧ A (t + 2) (wNB w) = nI bw ∧ A (t + 3) (wNB w) = nI bh ∧ A (t + 4) (wNB w) = nI l ∧ A (t + 5) (wNB w) = s ∧ A (t + 6) (wNB w) = c := by
    rw [← hA]
    simp [mj_u2]
  have hAo : ∀ q z, z ≠ wNB w → A q z = AI q z := fun q z hz => by
    rw [← hA]
    rw [mj_u2_2 hz, mj_u2_2 hz, mj_u2_2 hz, mj_u2_2 hz, mj_u2_2 hz, mj_u2_2 hz]
  have hAx : AIx AI A (t + 1) (t + 6) := fun q hq => by
    rw [← hA]
    funext z
    rw [mj_u2_1 (by omega), mj_u2_1 (by omega), mj_u2_1 (by omega), mj_u2_1 (by omega), mj_u2_1 (by omega), mj_u2_1 (by omega)]
  have loop : ∀ rr i, i + rr = bh → ∀ B : Nat → Nat → Int64, ALx AL B (t + 7) (t + 8) → (∀ z, z ≠ wNB w → B (t + 8) z = AL (t + 8) z) → B (t + 8) (wNB w) = u → (∀ z, z < 4 * wNB w → B (t + 7) z = AL (t + 7) z) → (∀ y, y < i → PkL (B (t + 7) (4 * wNB w + y)) (fun x => if x < bw then T ((bw * y + x) % l) + 1 else 0)) → WP sa (EV sa (d + 2)) 84 Q 0 0 107 [.ref t, .int (nI kd), .int (nI bw), .int (nI bh), .long v, mj_u, .int (nI l), .int (nI (wNB w)), .int (nI i)] [] (n, K, FI, FL, FR, A, B, AR) := by
    intro rr
    induction rr with
    | zero =>
      intro i hi B h1 h2' h3 h4 h5
      have hi' : i = bh := by omega
      subst hi'
      rw [e84_107]
      simp only [e84_0, e84_1, e84_4, e84_5, e84_8, e84_10, e84_13, e84_14, e84_15, e84_18, e84_20, e84_21, e84_24, e84_26, e84_27, e84_28, e84_29, e84_32, e84_34, e84_35, e84_36, e84_37, e84_40, e84_42, e84_43, e84_44, e84_45, e84_48, e84_50, e84_52, e84_53, e84_54, e84_57, e84_59, e84_60, e84_61, e84_62, e84_65, e84_66, e84_67, e84_70, e84_72, e84_73, e84_74, e84_77, e84_78, e84_79, e84_80, e84_81, e84_82, e84_85, e84_86, e84_87, e84_88, e84_89, e84_92, e84_93, e84_94, e84_97, e84_99, e84_100, e84_103, e84_104, e84_105, e84_109, e84_110, e84_113, e84_115, e84_116, e84_119, e84_120, e84_123, e84_125, e84_126, e84_127, e84_129, e84_130, e84_131, e84_133, e84_135, e84_137, e84_140, e84_141, e84_144, e84_147, e84_148, e84_148i, e84_149, e84_152, e84_153, e84_154, e84_157, k0, a5, true_and, nI_1]
      refine ⟨fun _ => ?_, fun q => absurd (nI_le (Nat.le_refl _) (by omega)) q⟩
      refine hQ _ A B ⟨⟨?_, ?_, ?_, ?_, ?_, ?_, ?_⟩, fun b h => ?_, fun x h => ?_⟩ ?_ hAx h1
      · rw [mj_u2_1 (by decide)]; exact a1
      · rw [mj_u2_1 (by decide)]; exact a2
      · rw [mj_u2_1 (by decide)]; exact a3
      · rw [mj_u2_1 (by decide)]; exact a4
      · rw [mj_u2_s]; rfl
      · rw [mj_u2_1 (by decide)]; exact a6
      · rw [mj_u2_1 (by decide)]; exact a7
      · have h' : b < wNB w + 1 := h
        by_cases e : b = wNB w
        · subst e
          obtain ⟨z1, z2, z3, z4, z5, z6⟩ := hAv
          have eK : wK (w_bill w kd bw i l T) (wNB w) = kd := upN_s
          have eW : wBW (w_bill w kd bw i l T) (wNB w) = bw := upN_s
          have eH : wBH (w_bill w kd bw i l T) (wNB w) = i := upN_s
          have eL : wTL (w_bill w kd bw i l T) (wNB w) = l := upN_s
          have eT : wTX (w_bill w kd bw i l T) (wNB w) = T := upN_s
          have eWW : wW (w_bill w kd bw i l T) = wW w := rfl
          have eHH : wH (w_bill w kd bw i l T) = wH w := rfl
          rw [z1, z2, z3, z4, z5, z6, h3, eK, eW, eH, eL, eT]
          refine ⟨rfl, rfl, rfl, rfl, hs.congr fun z _ => ?_, hc.congr fun z _ => ?_, hu, h5⟩
          · unfold cov
            rw [eW, eH, eWW]
            simp
          · rw [eWW, eHH, decide_eq_decide]
            omega
        · have eK : wK (w_bill w kd bw i l T) b = wK w b := upN_o e
          have eW : wBW (w_bill w kd bw i l T) b = wBW w b := upN_o e
          have eH : wBH (w_bill w kd bw i l T) b = wBH w b := upN_o e
          have eL : wTL (w_bill w kd bw i l T) b = wTL w b := upN_o e
          have eT : wTX (w_bill w kd bw i l T) b = wTX w b := upN_o e
          have eWW : wW (w_bill w kd bw i l T) = wW w := rfl
          have eHH : wH (w_bill w kd bw i l T) = wH w := rfl
          have eC : cov (w_bill w kd bw i l T) b 0 0 = cov w b 0 0 := by
            funext z
            unfold cov
            rw [eW, eH, eWW]
          rw [eK, eW, eH, eL, eT, eWW, eHH, eC, hAo _ _ e, hAo _ _ e, hAo _ _ e, hAo _ _ e, hAo _ _ e, hAo _ _ e, h2' _ e]
          obtain ⟨z1, z2, z3, z4, z5, z6, z7, z8⟩ := hb b (by omega)
          have hb4 := hbh b (by omega)
          refine ⟨z1, z2, z3, z4, z5, z6, z7, fun y hy => ?_⟩
          rw [h4 _ (by omega)]
          exact z8 y hy
      · rw [hAx (t + 11) (by omega), h1 (t + 10) (by omega), h1 (t + 9) (by omega)]
        exact hw x h
      · intro f a hfa
        refine if_neg fun z => ?_
        obtain ⟨rfl, rfl⟩ := z
        simp at hfa
    | succ rr ih =>
      intro i hi B h1 h2' h3 h4 h5
      have i4 : i < 4 := by omega
      have e4 : nI (wNB w) * 4 + nI i = nI (4 * wNB w + i) := by rw [show (4 : Int32) = nI 4 from rfl, pk_mul, nI_add, Nat.mul_comm]
      have hkin : vp_in (nI (4 * wNB w + i)) 16 := vp_in_nI (by omega) (by decide)
      have hkcl : (nI (4 * wNB w + i)).toNatClampNeg = 4 * wNB w + i := nI_clamp (by omega)
      rw [e84_107]
      simp only [e84_0, e84_1, e84_4, e84_5, e84_8, e84_10, e84_13, e84_14, e84_15, e84_18, e84_20, e84_21, e84_24, e84_26, e84_27, e84_28, e84_29, e84_32, e84_34, e84_35, e84_36, e84_37, e84_40, e84_42, e84_43, e84_44, e84_45, e84_48, e84_50, e84_52, e84_53, e84_54, e84_57, e84_59, e84_60, e84_61, e84_62, e84_65, e84_66, e84_67, e84_70, e84_72, e84_73, e84_74, e84_77, e84_78, e84_79, e84_80, e84_81, e84_82, e84_85, e84_86, e84_87, e84_88, e84_89, e84_92, e84_93, e84_94, e84_97, e84_99, e84_100, e84_103, e84_104, e84_105, e84_109, e84_110, e84_113, e84_115, e84_116, e84_119, e84_120, e84_123, e84_125, e84_126, e84_127, e84_129, e84_130, e84_131, e84_133, e84_135, e84_137, e84_140, e84_141, e84_144, e84_147, e84_148, e84_148i, e84_149, e84_152, e84_153, e84_154, e84_157, k0, f7, k7, rf_some, e4, true_and, nI_1, mj_kl]
      refine ⟨fun q => absurd q (nI_ge (by omega) (by omega)), fun _ => ⟨fun q => absurd q (nI_ge (b := 4) i4 (by decide)), fun _ => ⟨by simp, c_inkedRow (by omega) i4 hl1 (by omega) hT26 hv fun z hz => ?_⟩⟩⟩
      simp only [tl_some, e84_0, e84_1, e84_4, e84_5, e84_8, e84_10, e84_13, e84_14, e84_15, e84_18, e84_20, e84_21, e84_24, e84_26, e84_27, e84_28, e84_29, e84_32, e84_34, e84_35, e84_36, e84_37, e84_40, e84_42, e84_43, e84_44, e84_45, e84_48, e84_50, e84_52, e84_53, e84_54, e84_57, e84_59, e84_60, e84_61, e84_62, e84_65, e84_66, e84_67, e84_70, e84_72, e84_73, e84_74, e84_77, e84_78, e84_79, e84_80, e84_81, e84_82, e84_85, e84_86, e84_87, e84_88, e84_89, e84_92, e84_93, e84_94, e84_97, e84_99, e84_100, e84_103, e84_104, e84_105, e84_109, e84_110, e84_113, e84_115, e84_116, e84_119, e84_120, e84_123, e84_125, e84_126, e84_127, e84_129, e84_130, e84_131, e84_133, e84_135, e84_137, e84_140, e84_141, e84_144, e84_147, e84_148, e84_148i, e84_149, e84_152, e84_153, e84_154, e84_157, k7, hkin, hkcl, true_and, nI_1, mj_kl]
      refine ih (i + 1) (by omega) _ ?_ ?_ ?_ ?_ ?_
      · intro q hq
        funext y
        rw [mj_u2_1 (by omega), h1 q hq]
      · intro y hy
        rw [mj_u2_1 (by omega)]; exact h2' y hy
      · rw [mj_u2_1 (by omega)]; exact h3
      · intro y hy
        rw [mj_u2_2 (by omega)]; exact h4 y hy
      · intro y hy
        by_cases e : y = i
        · subst e
          rw [mj_u2_s]
          exact hz
        · rw [mj_u2_2 (by omega)]
          exact h5 y (by omega)
  have := loop bh 0 (by omega) (mj_u2 AL (t + 8) (wNB w) u) (fun q hq => by funext z; exact mj_u2_1 (by omega)) (fun z hz => mj_u2_2 hz) mj_u2_s (fun z hz => mj_u2_1 (by omega)) (fun y hy => by omega)
  simpa [nI_0, mj_u, mj_kl] using this
end
