/-- what a question may change: a region, and the letters of one Hung -/
def QX (lo hi o : Nat) (FI FI' AI AI' : Nat → Nat → Int32) (AL AL' : Nat → Nat → Int64) : Prop := ∀ a, (a < lo ∨ hi < a) → (∀ f, (a = o → f ≠ 12) → FI' f a = FI f a) ∧ AI' a = AI a ∧ (a ≠ o + 22 → AL' a = AL a)
theorem QX.rfl' {lo hi o : Nat} {FI AI : Nat → Nat → Int32} {AL : Nat → Nat → Int64} : QX lo hi o FI FI AI AI AL AL := fun _ _ => ⟨fun _ _ => rfl, rfl, fun _ => rfl⟩
theorem QX.trans {lo hi o : Nat} {FI F1 F2 AI A1 A2 : Nat → Nat → Int32} {AL L1 L2 : Nat → Nat → Int64} (a : QX lo hi o FI F1 AI A1 AL L1) (b : QX lo hi o F1 F2 A1 A2 L1 L2) : QX lo hi o FI F2 AI A2 AL L2 := fun z hz => ⟨fun f h => by rw [(b z hz).1 f h, (a z hz).1 f h], by rw [(b z hz).2.1, (a z hz).2.1], fun h => by rw [(b z hz).2.2 h, (a z hz).2.2 h]⟩
theorem Fr.toQX {lo hi o : Nat} {FI F1 AI A1 : Nat → Nat → Int32} {AL L1 : Nat → Nat → Int64} (a : Fr lo hi FI F1 AI A1 AL L1) : QX lo hi o FI F1 AI A1 AL L1 := fun z hz => ⟨fun f _ => (a z hz).1 f, (a z hz).2.1, fun _ => (a z hz).2.2⟩
theorem LX.toQX {lo hi o : Nat} {FI F1 AI : Nat → Nat → Int32} {AL L1 : Nat → Nat → Int64} (a : LX FI F1 AL L1 o) : QX lo hi o FI F1 AI AI AL L1 := fun z _ => ⟨fun f h => a.1 f z (by
  by_cases e : z = o
  · exact Or.inr (by simp; exact h e)
  · exact Or.inl e), rfl, fun h => a.2 z (by omega)⟩
theorem lifeB_le {w : Wl} {k : Nat} {hang : Bool} : ∀ {b : Nat} {s : (Nat → Hg) × Nat}, s.2 ≤ (lifeB w k hang b s).2
  | 0, s => Nat.le_refl _
  | b + 1, s => by
    have ih := lifeB_le (w := w) (k := k) (hang := hang) (b := b) (s := s)
    simp only [lifeB]
    split
    · simp only []; omega
    · exact ih
section
variable {sa : Nat → Nat} {d n t h m : Nat} {Q : mj_Q} {K : Nat → Nat × Nat} {FI : Nat → Nat → Int32} {FL : Nat → Nat → Int64} {FR : Nat → Nat → Option Nat} {AI : Nat → Nat → Int32} {AL : Nat → Nat → Int64} {AR : Nat → Nat → Option Nat} {w : Wl} {hs : Nat → Hg}
variable {q o : Nat}
theorem c_bestCorner (hS : RowS K FR q) (hO : HC K FR FI AI AL o t w hs m) (sep : q + 23 < o ∨ o + 22 < q) (sep2 : t + 13 < q ∨ q + 23 < t) {b : Nat} (hb : b < wNB w) (hQ : ∀ (FI' AI' : Nat → Nat → Int32) (AL' : Nat → Nat → Int64) (FR' : Nat → Nat → Option Nat), (FR' = FR ∨ FR' = mj_u2 FR 0 (q + 1) (some t)) → HC K FR' FI' AI' AL' o t w hs m → QX q (q + 23) o FI FI' AI AI' AL AL' → Q (some (.int (oI ((bestN w hs m b (wW w * wH w)).map Prod.fst) (-1)))) (n, K, FI', FL, FR', AI', AL', AR)) : EV sa (d + 6) 38 [.ref q, .ref o, .int (nI b)] (n, K, FI, FL, FR, AI, AL, AR) Q := by
  have k0 := hS.1
  have h32 := hO.cells.2
  have loop : ∀ rr i, i + rr = wW w * wH w → ∀ (F A : Nat → Nat → Int32) (L : Nat → Nat → Int64) (R : Nat → Nat → Option Nat), (R = FR ∨ R = mj_u2 FR 0 (q + 1) (some t)) → HC K R F A L o t w hs m → QX q (q + 23) o FI F AI A AL L → ∀ x6 : Value, WP sa (EV sa (d + 5)) 38 Q 0 0 8 [.ref q, .ref o, .int (nI b), .int (oI ((bestN w hs m b i).map Prod.fst) (-1)), .int (oI ((bestN w hs m b i).map Prod.snd) (-1)), .int (nI i), x6] [] (n, K, F, FL, R, A, L, AR) := by
    intro rr
    induction rr with
    | zero =>
      intro i hi F A L R hR h1 h2 x6
      have hi' : i = wW w * wH w := by omega
      subst hi'
      rw [e38_8]
      simp only [e38_0, e38_1, e38_2, e38_3, e38_5, e38_6, e38_10, e38_11, e38_14, e38_17, e38_20, e38_21, e38_22, e38_24, e38_27, e38_30, e38_31, e38_32, e38_33, e38_35, e38_38, e38_41, e38_42, e38_44, e38_46, e38_48, e38_51, e38_53, e38_55, e38_57, e38_58, e38_61, e38_64, e38_65, h1.1.1, h1.2.2.1, rf_some, true_and]
      refine ⟨by simp, c_cells h1.2.1 ?_⟩
      rw [h1.cells.1]
      simp only [tl_some, e38_0, e38_1, e38_2, e38_3, e38_5, e38_6, e38_10, e38_11, e38_14, e38_17, e38_20, e38_21, e38_22, e38_24, e38_27, e38_30, e38_31, e38_32, e38_33, e38_35, e38_38, e38_41, e38_42, e38_44, e38_46, e38_48, e38_51, e38_53, e38_55, e38_57, e38_58, e38_61, e38_64, e38_65]
      exact ⟨fun _ => hQ F A L R hR h1 h2, fun z => absurd (nI_le (Nat.le_refl _) (by omega)) z⟩
    | succ rr ih =>
      intro i hi F A L R hR h1 h2 x6
      have hRs : RowS K R q := hR.elim (fun e => by rw [e]; exact hS) (fun e => by rw [e]; exact hS.told)
      have hRu : mj_u2 R 0 (q + 1) (some t) = mj_u2 FR 0 (q + 1) (some t) := hR.elim (fun e => by rw [e]) (fun e => by rw [e]; exact u2_u2)
      rw [e38_8]
      simp only [e38_0, e38_1, e38_2, e38_3, e38_5, e38_6, e38_10, e38_11, e38_14, e38_17, e38_20, e38_21, e38_22, e38_24, e38_27, e38_30, e38_31, e38_32, e38_33, e38_35, e38_38, e38_41, e38_42, e38_44, e38_46, e38_48, e38_51, e38_53, e38_55, e38_57, e38_58, e38_61, e38_64, e38_65, h1.1.1, h1.2.2.1, rf_some, true_and]
      refine ⟨by simp, c_cells h1.2.1 ?_⟩
      rw [h1.cells.1]
      simp only [tl_some, e38_0, e38_1, e38_2, e38_3, e38_5, e38_6, e38_10, e38_11, e38_14, e38_17, e38_20, e38_21, e38_22, e38_24, e38_27, e38_30, e38_31, e38_32, e38_33, e38_35, e38_38, e38_41, e38_42, e38_44, e38_46, e38_48, e38_51, e38_53, e38_55, e38_57, e38_58, e38_61, e38_64, e38_65]
      refine ⟨fun z => absurd z (nI_ge (by omega) (by omega)), fun _ => ⟨by simp, c_mayGo h1 hb (by omega) fun F' L' a1 a2 => ?_⟩⟩
      simp only [tl_some, e38_0, e38_1, e38_2, e38_3, e38_5, e38_6, e38_10, e38_11, e38_14, e38_17, e38_20, e38_21, e38_22, e38_24, e38_27, e38_30, e38_31, e38_32, e38_33, e38_35, e38_38, e38_41, e38_42, e38_44, e38_46, e38_48, e38_51, e38_53, e38_55, e38_57, e38_58, e38_61, e38_64, e38_65, bI_eq0, mj_kl]
      refine ⟨fun y => ?_, fun y => ⟨by simp, ?_⟩⟩
      · have eb : bestN w hs m b (i + 1) = bestN w hs m b i := by simp only [bestN]; rw [y]; rfl
        have nx := ih (i + 1) (by omega) F' A L' R hR a1 (h2.trans a2.toQX)
        rw [eb] at nx
        simp only [nI_1]
        refine ⟨fun _ => nx _, fun z => absurd ?_ z⟩
        cases hc : bestN w hs m b i with
        | none => decide
        | some g =>
          have := (bestN_lt hc).2
          simp only [Option.map_some, oI]
          exact Int32.le_trans (by decide : (-1 : Int32) ≤ 0) (nI_pos' (by omega))
      · have y' : mayAt w hs m b i = true := by simpa using y
        refine c_staysSeen hRs a1 sep sep2 y' hb (by omega) fun F3 A3 L3 b1 b2 => ?_
        rw [hRu] at b1 ⊢
        have hsl := stayN_le w hs m b i
        have nx := ih (i + 1) (by omega) F3 A3 L3 _ (Or.inr rfl) b1 ((h2.trans a2.toQX).trans b2.toQX)
        simp only [tl_some, e38_0, e38_1, e38_2, e38_3, e38_5, e38_6, e38_10, e38_11, e38_14, e38_17, e38_20, e38_21, e38_22, e38_24, e38_27, e38_30, e38_31, e38_32, e38_33, e38_35, e38_38, e38_41, e38_42, e38_44, e38_46, e38_48, e38_51, e38_53, e38_55, e38_57, e38_58, e38_61, e38_64, e38_65, nI_1, mj_kl]
        cases hc : bestN w hs m b i with
        | none =>
          have eb : bestN w hs m b (i + 1) = some (i, stayN w hs m b i) := by simp only [bestN]; rw [y', hc]; rfl
          rw [eb] at nx
          simp only [Option.map_some, Option.map_none, oI] at nx ⊢
          refine ⟨fun z => absurd z ?_, fun _ => nx _⟩
          exact fun z => absurd (Int32.lt_of_le_of_lt z (by decide : (-1 : Int32) < 0)) (nI_pos (by omega))
        | some g =>
          have hg := (bestN_lt hc).2
          by_cases z0 : g.2 < stayN w hs m b i
          · have eb : bestN w hs m b (i + 1) = some (i, stayN w hs m b i) := by simp only [bestN]; rw [y', hc]; simp [z0]
            rw [eb] at nx
            simp only [Option.map_some, oI] at nx ⊢
            exact ⟨fun z => absurd z (nI_ge z0 (by omega)), fun _ => nx _⟩
          · have eb : bestN w hs m b (i + 1) = some g := by simp only [bestN]; rw [y', hc]; simp [z0]
            rw [eb] at nx
            simp only [Option.map_some, oI] at nx ⊢
            exact ⟨fun _ => nx _, fun z => absurd (nI_le (by omega) (by omega)) z⟩
  refine n38 k0 ?_
  simp only [e38_0, e38_1, e38_2, e38_3, e38_5, e38_6, e38_10, e38_11, e38_14, e38_17, e38_20, e38_21, e38_22, e38_24, e38_27, e38_30, e38_31, e38_32, e38_33, e38_35, e38_38, e38_41, e38_42, e38_44, e38_46, e38_48, e38_51, e38_53, e38_55, e38_57, e38_58, e38_61, e38_64, e38_65, mj_kl, mj_u]
  have := loop (wW w * wH w) 0 (by omega) FI AI AL FR (Or.inl rfl) hO QX.rfl' mj_u
  simpa [bestN, oI, nI_0, mj_u] using this
theorem c_liveBy (hS : RowS K FR q) (hO : HC K FR FI AI AL o t w hs m) (sep : q + 23 < o ∨ o + 22 < q) (sep2 : t + 13 < q ∨ q + 23 < t) {k : Nat} {hang : Bool} (hk : k < 100) (hQ : ∀ (FI' AI' : Nat → Nat → Int32) (AL' : Nat → Nat → Int64), HC K (mj_u2 FR 0 (q + 1) (some t)) FI' AI' AL' o t w hs m → Fr q (q + 23) FI FI' AI AI' AL AL' → Q (some (.int (nI ((lifeN w k hang 31 (hs, m)).2 - m)))) (n, K, FI', FL, mj_u2 FR 0 (q + 1) (some t), AI', AL', AR)) : EV sa (d + 5) 39 [.ref q, .ref o, .int (nI k), .int (bI hang)] (n, K, FI, FL, FR, AI, AL, AR) Q := by
  have hS' := hS.told (a := q + 1) (v := some t)
  have k0 := hS.1
  have f0 := hS'.2.1
  have hw := hO.2.2.2.1
  have hn4 := hw.2.2.2.1
  refine n39 hS.1 ?_
  simp only [e39_0, e39_1, e39_4, e39_5, e39_8, e39_9, e39_11, e39_12, e39_14, e39_15, e39_19, e39_21, e39_24, e39_26, e39_28, e39_31, e39_33, e39_35, e39_36, e39_40, e39_41, e39_44, e39_47, e39_50, e39_53, e39_54, e39_57, e39_59, e39_60, e39_61, e39_62, e39_65, e39_67, e39_69, e39_72, e39_73, e39_76, e39_78, e39_80, e39_82, e39_85, e39_88, e39_91, e39_94, e39_97, e39_100, e39_102, k0, hS.2.1, rf_some, true_and]
  refine ⟨by simp, C_hangAs hS.2.2 hO (by omega) (by omega) fun F1 A1 b1 b2 b3 b4 => ?_⟩
  have fr1 : Fr q (q + 23) FI F1 AI A1 AL AL := fun a ha => ⟨fun f => b3 f a (Or.inl (by omega)), b4 a (by omega), rfl⟩
  have fin : ∀ (F A : Nat → Nat → Int32) (L : Nat → Nat → Int64) (s : (Nat → Hg) × Nat), s = lifeN w k hang 31 (hs, m) → TX F1 F A1 A AL L (q + 1) → ∀ x5 x6 x7 x8 : Value, WP sa (EV sa (d + 4)) 39 Q 0 0 100 [.ref q, .ref o, .int (nI k), .int (bI hang), .int (nI (s.2 - m)), x5, x6, x7, x8] [] (n, K, F, FL, mj_u2 FR 0 (q + 1) (some t), A, L, AR) := by
    intro F A L s hs' h2 x5 x6 x7 x8
    simp only [e39_100, e39_102]
    rw [hs']
    exact hQ F A L (b2.fr h2.toFr (by omega) (by omega)) (fr1.trans (h2.toFr.wide (by omega) (by omega)))
  have outer : ∀ fuel i, i + fuel = 31 → ∀ (F A : Nat → Nat → Int32) (L : Nat → Nat → Int64) (s : (Nat → Hg) × Nat) (bf : Int32), m ≤ s.2 → bf < nI (s.2 - m) → lifeN w k hang fuel s = lifeN w k hang 31 (hs, m) → HC K (mj_u2 FR 0 (q + 1) (some t)) F A L (q + 1) t w s.1 s.2 → TX F1 F A1 A AL L (q + 1) → ∀ x7 x8 : Value, WP sa (EV sa (d + 4)) 39 Q 0 0 17 [.ref q, .ref o, .int (nI k), .int (bI hang), .int (nI (s.2 - m)), .int bf, .int (nI i), x7, x8] [] (n, K, F, FL, mj_u2 FR 0 (q + 1) (some t), A, L, AR) := by
    intro fuel
    induction fuel with
    | zero =>
      intro i hi F A L s bf hms hbf hl h1 h2 x7 x8
      have h30 := h1.2.2.2.2.2.1.2.1
      rw [e39_17]
      simp only [e39_19, e39_21, e39_24, e39_26, e39_28]
      refine ⟨fun z => absurd hbf (Int32.not_lt.mpr z), fun _ => ⟨fun _ => fin F A L s hl h2 _ _ _ _, fun z => absurd ?_ z⟩⟩
      rw [show (30 : Int32) = nI 30 from rfl]
      exact nI_lt (by omega) (by omega)
    | succ fuel IH =>
      intro i hi F A L s bf hms hbf hl h1 h2 x7 x8
      have h30 := h1.2.2.2.2.2.1.2.1
      simp only [lifeN] at hl
      have inner : ∀ rr j, j + rr = wNB w → ∀ (F A : Nat → Nat → Int32) (L : Nat → Nat → Int64), HC K (mj_u2 FR 0 (q + 1) (some t)) F A L (q + 1) t w (lifeB w k hang j s).1 (lifeB w k hang j s).2 → TX F1 F A1 A AL L (q + 1) → ∀ x8 : Value, WP sa (EV sa (d + 4)) 39 Q 0 0 38 [.ref q, .ref o, .int (nI k), .int (bI hang), .int (nI ((lifeB w k hang j s).2 - m)), .int (nI (s.2 - m)), .int (nI i), .int (nI j), x8] [] (n, K, F, FL, mj_u2 FR 0 (q + 1) (some t), A, L, AR) := by
        intro rr
        induction rr with
        | zero =>
          intro j hj F A L h1 h2 x8
          have hj' : j = wNB w := by omega
          subst hj'
          have h30' := h1.2.2.2.2.2.1.2.1
          rw [e39_38]
          simp only [e39_0, e39_1, e39_4, e39_5, e39_8, e39_9, e39_11, e39_12, e39_14, e39_15, e39_19, e39_21, e39_24, e39_26, e39_28, e39_31, e39_33, e39_35, e39_36, e39_40, e39_41, e39_44, e39_47, e39_50, e39_53, e39_54, e39_57, e39_59, e39_60, e39_61, e39_62, e39_65, e39_67, e39_69, e39_72, e39_73, e39_76, e39_78, e39_80, e39_82, e39_85, e39_88, e39_91, e39_94, e39_97, e39_102, k0, f0, rf_some, h1.1.1, h1.2.2.1, h1.2.1.1, h1.2.2.2.2.1.1.2.2.2.2.1, true_and, nI_1, mj_kl]
          refine ⟨fun _ => ?_, fun z => absurd (nI_le (Nat.le_refl _) (by omega)) z⟩
          by_cases y : s.2 < (lifeB w k hang (wNB w) s).2
          · rw [if_pos y] at hl
            exact IH (i + 1) (by omega) F A L _ _ (by omega) (nI_lt (by omega) (by omega)) hl h1 h2 _ _
          · rw [if_neg y] at hl
            have hle := lifeB_le (w := w) (k := k) (hang := hang) (b := wNB w) (s := s)
            rw [e39_17]
            simp only [e39_19, e39_21]
            refine ⟨fun _ => fin F A L _ hl h2 _ _ _ _, fun z => absurd (nI_le (by omega) (by omega)) z⟩
        | succ rr ih =>
          intro j hj F A L h1 h2 x8
          have h30' := h1.2.2.2.2.2.1.2.1
          have hle := lifeB_le (w := w) (k := k) (hang := hang) (b := j) (s := s)
          have h32 := h1.cells.2
          rw [e39_38]
          simp only [e39_0, e39_1, e39_4, e39_5, e39_8, e39_9, e39_11, e39_12, e39_14, e39_15, e39_19, e39_21, e39_24, e39_26, e39_28, e39_31, e39_33, e39_35, e39_36, e39_40, e39_41, e39_44, e39_47, e39_50, e39_53, e39_54, e39_57, e39_59, e39_60, e39_61, e39_62, e39_65, e39_67, e39_69, e39_72, e39_73, e39_76, e39_78, e39_80, e39_82, e39_85, e39_88, e39_91, e39_94, e39_97, e39_102, k0, f0, rf_some, h1.1.1, h1.2.2.1, h1.2.1.1, h1.2.2.2.2.1.1.2.2.2.2.1, true_and, nI_1, mj_kl]
          refine ⟨fun z => absurd z (nI_ge (by omega) (by omega)), fun _ => ⟨by simp, c_findPlace h1 (by omega) hk fun F' L' a1 a2 => ?_⟩⟩
          rw [fnd_first (by omega)]
          have tx : TX F F' A A L L' (q + 1) := a2.toTX
          have es : lifeB w k hang (j + 1) s = match fnd (fun c => couldAt w (lifeB w k hang j s).1 (lifeB w k hang j s).2 j c k hang) (wW w * wH w) with
            | some c => (puth (lifeB w k hang j s).1 (lifeB w k hang j s).2 (j, c % wW w, c / wW w, -2), (lifeB w k hang j s).2 + 1)
            | none => lifeB w k hang j s := rfl
          have nx := ih (j + 1) (by omega)
          rw [es] at nx
          cases hf : fnd (fun c => couldAt w (lifeB w k hang j s).1 (lifeB w k hang j s).2 j c k hang) (wW w * wH w) with
          | none =>
            rw [hf] at nx
            simp only [tl_some, e39_0, e39_1, e39_4, e39_5, e39_8, e39_9, e39_11, e39_12, e39_14, e39_15, e39_19, e39_21, e39_24, e39_26, e39_28, e39_31, e39_33, e39_35, e39_36, e39_40, e39_41, e39_44, e39_47, e39_50, e39_53, e39_54, e39_57, e39_59, e39_60, e39_61, e39_62, e39_65, e39_67, e39_69, e39_72, e39_73, e39_76, e39_78, e39_80, e39_82, e39_85, e39_88, e39_91, e39_94, e39_97, e39_102, oI, mj_kl, nI_1]
            exact ⟨fun _ => nx F' A L' a1 (h2.trans tx) _, fun z => absurd (by decide) z⟩
          | some c =>
            rw [hf] at nx
            obtain ⟨c1, c2, -⟩ := fnd_some hf
            have con : onW w j (c % wW w) (c / wW w) ∧ (lifeB w k hang j s).2 ≠ 30 := by
              simp only [couldAt, Bool.and_eq_true] at c2
              have c3 := c2.1
              simp only [onAt, decide_eq_true_eq] at c3
              refine ⟨⟨by omega, c3.1, c3.2⟩, fun e => ?_⟩
              have c4 := c2.2
              rw [e] at c4
              simp [could] at c4
            simp only [tl_some, e39_0, e39_1, e39_4, e39_5, e39_8, e39_9, e39_11, e39_12, e39_14, e39_15, e39_19, e39_21, e39_24, e39_26, e39_28, e39_31, e39_33, e39_35, e39_36, e39_40, e39_41, e39_44, e39_47, e39_50, e39_53, e39_54, e39_57, e39_59, e39_60, e39_61, e39_62, e39_65, e39_67, e39_69, e39_72, e39_73, e39_76, e39_78, e39_80, e39_82, e39_85, e39_88, e39_91, e39_94, e39_97, e39_102, oI, mj_kl, nI_1, k0, f0, rf_some, true_and]
            refine ⟨fun z => absurd z (nI_pos (by omega)), fun _ => ⟨by simp, ?_⟩⟩
            have pt := C_put (sa := sa) (d := d + 2) (n := n) (FL := FL) (AR := AR) (Q := fun v μ => WP sa (EV sa (d + 4)) 39 Q 0 0 38 [.ref q, .ref o, .int (nI k), .int (bI hang), .int (nI ((lifeB w k hang j s).2 - m + 1)), .int (nI (s.2 - m)), .int (nI i), .int (nI (j + 1)), .int (nI c)] (v.toList ++ []) μ) a1 (by omega) (r := -2) con.1
            rw [Nat.div_add_mod] at pt
            refine pt fun F2 A2 g1 g2 g3 => ?_
            have := nx F2 A2 L' g1 (h2.trans (tx.trans (g2.toTX g3))) (.int (nI c))
            simp only [] at this
            rw [show (lifeB w k hang j s).2 + 1 - m = (lifeB w k hang j s).2 - m + 1 by omega] at this
            exact this
      rw [e39_17]
      simp only [e39_0, e39_1, e39_4, e39_5, e39_8, e39_9, e39_11, e39_12, e39_14, e39_15, e39_19, e39_21, e39_24, e39_26, e39_28, e39_31, e39_33, e39_35, e39_36, e39_40, e39_41, e39_44, e39_47, e39_50, e39_53, e39_54, e39_57, e39_59, e39_60, e39_61, e39_62, e39_65, e39_67, e39_69, e39_72, e39_73, e39_76, e39_78, e39_80, e39_82, e39_85, e39_88, e39_91, e39_94, e39_97, e39_102, mj_kl]
      refine ⟨fun z => absurd hbf (Int32.not_lt.mpr z), fun _ => ⟨fun z => absurd z ?_, fun _ => ?_⟩⟩
      · rw [show (30 : Int32) = nI 30 from rfl]
        exact nI_nlt (by omega) (by omega)
      · have := inner (wNB w) 0 (by omega) F A L h1 h2 x8
        simpa [lifeB, nI_0] using this
  simp only [tl_none, e39_0, e39_1, e39_4, e39_5, e39_8, e39_9, e39_11, e39_12, e39_14, e39_15, e39_19, e39_21, e39_24, e39_26, e39_28, e39_31, e39_33, e39_35, e39_36, e39_40, e39_41, e39_44, e39_47, e39_50, e39_53, e39_54, e39_57, e39_59, e39_60, e39_61, e39_62, e39_65, e39_67, e39_69, e39_72, e39_73, e39_76, e39_78, e39_80, e39_82, e39_85, e39_88, e39_91, e39_94, e39_97, e39_102, mj_kl, mj_u]
  have := outer 31 0 (by omega) F1 A1 AL (hs, m) (-1) (Nat.le_refl _) (by simp [nI_0]) rfl b1 TX.rfl' mj_u mj_u
  simpa [nI_0, mj_u] using this
end
