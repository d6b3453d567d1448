def goalOf (w : Wl) (r : Int32) (hs : Nat → Hg) (m : Nat) : Bool := if r = -2 then isFullP w hs m else allP w hs m r
theorem bI_inj {a b : Bool} : bI a = bI b ↔ a = b := by cases a <;> cases b <;> decide
section
variable {sa : Nat → Nat} {d n t h m : Nat} {Q : mj_Q} {K : Nat → Nat × Nat} {FI : Nat → Nat → Int32} {FL : Nat → Nat → Int64} {FR : Nat → Nat → Option Nat} {AI : Nat → Nat → Int32} {AL : Nat → Nat → Int64} {AR : Nat → Nat → Option Nat} {w : Wl} {hs : Nat → Hg}
variable {q : Nat}
theorem c_shortestBehind (hS : RowS K FR q) {r : Int32} : ∀ (F : Nat) {f : Nat} {hs : Nat → Hg} {m : Nat} {FI AI : Nat → Nat → Int32} {AL : Nat → Nat → Int64} {Q : mj_Q} {len M : Nat}, f ≤ F → HC K FR FI AI AL (q + 1) t w hs m → len + f = M → M ≤ 4 → (∀ (FI' AI' : Nat → Nat → Int32) (AL' : Nat → Nat → Int64), HC K FR FI' AI' AL' (q + 1) t w hs m → TX FI FI' AI AI' AL AL' (q + 1) → Q (some (.int (nI (len + SRw w (goalOf w r) r f hs m)))) (n, K, FI', FL, FR, AI', AL', AR)) → EV sa (d + F + 6) 34 [.ref q, .int r, .int (nI len), .int (nI M)] (n, K, FI, FL, FR, AI, AL, AR) Q := by
  have k0 := hS.1
  have f0 := hS.2.1
  intro F
  induction F with
  | zero =>
    intro f hs m FI AI AL Q len M hfF hC hM hM4 hQ
    have hf0 : f = 0 := by omega
    subst hf0
    simp only [SRw] at hQ
    have yes : goalOf w r hs m = true → ∀ (F A : Nat → Nat → Int32) (L : Nat → Nat → Int64), HC K FR F A L (q + 1) t w hs m → TX FI F AI A AL L (q + 1) → Q (some (.int (nI len))) (n, K, F, FL, FR, A, L, AR) := fun e F A L h1 h2 => by
      have := hQ F A L h1 h2
      rwa [e, if_pos rfl, Nat.add_zero] at this
    have no : goalOf w r hs m = false → ∀ (F A : Nat → Nat → Int32) (L : Nat → Nat → Int64), HC K FR F A L (q + 1) t w hs m → TX FI F AI A AL L (q + 1) → WP sa (EV sa (d + 5)) 34 Q 0 0 41 [.ref q, .int r, .int (nI len), .int (nI M), mj_u, mj_u] [] (n, K, F, FL, FR, A, L, AR) := fun e F A L h1 h2 => by
      have := hQ F A L h1 h2
      rw [e] at this
      simp only [e34_0, e34_1, e34_2, e34_5, e34_6, e34_7, e34_8, e34_9, e34_10, e34_12, e34_15, e34_16, e34_19, e34_22, e34_25, e34_28, e34_29, e34_32, e34_33, e34_36, e34_39, e34_40, e34_41, e34_42, e34_43, e34_44, e34_46, e34_47, e34_50, e34_51, e34_52, e34_54, e34_57, e34_59, e34_60, e34_63, e34_66, e34_67, e34_70, e34_72, e34_75, e34_77, e34_80, e34_83, e34_86, e34_87, e34_89, e34_90, e34_93, e34_94, e34_95, e34_96, e34_97, e34_98, e34_100, e34_101, e34_102, e34_105, e34_107, e34_108, e34_111, e34_114, e34_117, e34_119, mj_kl, mj_u, nI_1]
      rw [e34_49]
      simp only [e34_0, e34_1, e34_2, e34_5, e34_6, e34_7, e34_8, e34_9, e34_10, e34_12, e34_15, e34_16, e34_19, e34_22, e34_25, e34_28, e34_29, e34_32, e34_33, e34_36, e34_39, e34_40, e34_41, e34_42, e34_43, e34_44, e34_46, e34_47, e34_50, e34_51, e34_52, e34_54, e34_57, e34_59, e34_60, e34_63, e34_66, e34_67, e34_70, e34_72, e34_75, e34_77, e34_80, e34_83, e34_86, e34_87, e34_89, e34_90, e34_93, e34_94, e34_95, e34_96, e34_97, e34_98, e34_100, e34_101, e34_102, e34_105, e34_107, e34_108, e34_111, e34_114, e34_117, e34_119, nI_1]
      refine ⟨fun _ => ?_, fun z => absurd (nI_le (by omega) (by omega)) z⟩
      have hM' : M = len := by omega
      subst hM'
      simpa using this
    refine n34 k0 ?_
    simp only [e34_0, e34_1, e34_2, e34_5, e34_6, e34_7, e34_8, e34_9, e34_10, e34_12, e34_15, e34_16, e34_19, e34_22, e34_25, e34_28, e34_29, e34_32, e34_33, e34_36, e34_39, e34_40, e34_42, e34_43, e34_44, e34_46, e34_47, e34_50, e34_51, e34_52, e34_54, e34_57, e34_59, e34_60, e34_63, e34_66, e34_67, e34_70, e34_72, e34_75, e34_77, e34_80, e34_83, e34_86, e34_87, e34_89, e34_90, e34_93, e34_94, e34_95, e34_96, e34_97, e34_98, e34_100, e34_101, e34_102, e34_105, e34_107, e34_108, e34_111, e34_114, e34_117, e34_119, k0, f0, rf_some, true_and]
    refine ⟨fun _ => ⟨fun z => ⟨by simp, c_isAllOf hC.1 hC.2.1 hC.2.2.1 hC.2.2.2.1 hC.2.2.2.2.1 hC.2.2.2.2.2.1 ?_⟩, fun z => ⟨by simp, c_isFull hC fun F' L' a1 a2 => ?_⟩⟩, fun z => absurd (nI_le (by omega) (by omega)) z⟩
    · have eg : goalOf w r hs m = allP w hs m r := if_neg z
      simp only [tl_some, e34_0, e34_1, e34_2, e34_5, e34_6, e34_7, e34_8, e34_9, e34_10, e34_12, e34_15, e34_16, e34_19, e34_22, e34_25, e34_28, e34_29, e34_32, e34_33, e34_36, e34_39, e34_40, e34_42, e34_43, e34_44, e34_46, e34_47, e34_50, e34_51, e34_52, e34_54, e34_57, e34_59, e34_60, e34_63, e34_66, e34_67, e34_70, e34_72, e34_75, e34_77, e34_80, e34_83, e34_86, e34_87, e34_89, e34_90, e34_93, e34_94, e34_95, e34_96, e34_97, e34_98, e34_100, e34_101, e34_102, e34_105, e34_107, e34_108, e34_111, e34_114, e34_117, e34_119, bI_eq0, ← eg]
      exact ⟨fun y => no y _ _ _ hC TX.rfl', fun y => yes (by simpa using y) _ _ _ hC TX.rfl'⟩
    · have eg : goalOf w r hs m = isFullP w hs m := if_pos (by simpa using z)
      simp only [tl_some, e34_0, e34_1, e34_2, e34_5, e34_6, e34_7, e34_8, e34_9, e34_10, e34_12, e34_15, e34_16, e34_19, e34_22, e34_25, e34_28, e34_29, e34_32, e34_33, e34_36, e34_39, e34_40, e34_42, e34_43, e34_44, e34_46, e34_47, e34_50, e34_51, e34_52, e34_54, e34_57, e34_59, e34_60, e34_63, e34_66, e34_67, e34_70, e34_72, e34_75, e34_77, e34_80, e34_83, e34_86, e34_87, e34_89, e34_90, e34_93, e34_94, e34_95, e34_96, e34_97, e34_98, e34_100, e34_101, e34_102, e34_105, e34_107, e34_108, e34_111, e34_114, e34_117, e34_119, bI_eq0, ← eg]
      exact ⟨fun y => no y _ _ _ a1 a2.toTX, fun y => yes (by simpa using y) _ _ _ a1 a2.toTX⟩
  | succ F IH =>
    intro f hs m FI AI AL Q len M hfF hC hM hM4 hQ
    have hn4 := hC.2.2.2.1.2.2.2.1
    rw [show d + (F + 1) + 6 = (d + F + 6) + 1 by omega]
    have yes : goalOf w r hs m = true → ∀ (F A : Nat → Nat → Int32) (L : Nat → Nat → Int64), HC K FR F A L (q + 1) t w hs m → TX FI F AI A AL L (q + 1) → Q (some (.int (nI len))) (n, K, F, FL, FR, A, L, AR) := fun e F A L h1 h2 => by
      have := hQ F A L h1 h2
      cases f with
      | zero => simp only [SRw] at this; rwa [e, if_pos rfl, Nat.add_zero] at this
      | succ f => simp only [SRw] at this; rwa [e, if_pos rfl, Nat.add_zero] at this
    have no : goalOf w r hs m = false → ∀ (F0 A : Nat → Nat → Int32) (L : Nat → Nat → Int64), HC K FR F0 A L (q + 1) t w hs m → TX FI F0 AI A AL L (q + 1) → WP sa (EV sa (d + F + 6)) 34 Q 0 0 41 [.ref q, .int r, .int (nI len), .int (nI M), mj_u, mj_u] [] (n, K, F0, FL, FR, A, L, AR) := fun e F0 A0 L0 h1 h2 => by
      simp only [e34_0, e34_1, e34_2, e34_5, e34_6, e34_7, e34_8, e34_9, e34_10, e34_12, e34_15, e34_16, e34_19, e34_22, e34_25, e34_28, e34_29, e34_32, e34_33, e34_36, e34_39, e34_40, e34_41, e34_42, e34_43, e34_44, e34_46, e34_47, e34_50, e34_51, e34_52, e34_54, e34_57, e34_59, e34_60, e34_63, e34_66, e34_67, e34_70, e34_72, e34_75, e34_77, e34_80, e34_83, e34_86, e34_87, e34_89, e34_90, e34_93, e34_94, e34_95, e34_96, e34_97, e34_98, e34_100, e34_101, e34_102, e34_105, e34_107, e34_108, e34_111, e34_114, e34_117, e34_119, mj_kl, mj_u, nI_1]
      cases f with
      | zero =>
        have := hQ F0 A0 L0 h1 h2
        simp only [SRw] at this
        rw [e] at this
        rw [e34_49]
        simp only [e34_0, e34_1, e34_2, e34_5, e34_6, e34_7, e34_8, e34_9, e34_10, e34_12, e34_15, e34_16, e34_19, e34_22, e34_25, e34_28, e34_29, e34_32, e34_33, e34_36, e34_39, e34_40, e34_41, e34_42, e34_43, e34_44, e34_46, e34_47, e34_50, e34_51, e34_52, e34_54, e34_57, e34_59, e34_60, e34_63, e34_66, e34_67, e34_70, e34_72, e34_75, e34_77, e34_80, e34_83, e34_86, e34_87, e34_89, e34_90, e34_93, e34_94, e34_95, e34_96, e34_97, e34_98, e34_100, e34_101, e34_102, e34_105, e34_107, e34_108, e34_111, e34_114, e34_117, e34_119, nI_1]
        refine ⟨fun _ => ?_, fun z => absurd (nI_le (by omega) (by omega)) z⟩
        have hM' : M = len := by omega
        subst hM'
        simpa using this
      | succ f =>
        simp only [SRw, e, Bool.false_eq_true, if_false] at hQ
        generalize hp0 : mvp w hs m = p at *
        have hp : ∀ i, mayAt w hs m (i / 32) (i % 32) = p i := fun i => by rw [← hp0]; rfl
        generalize hg : (fun i => if p i then 1 + SRw w (goalOf w r) r f (pushM w hs m i r) (m + 1) else f + 2) = g at hQ
        have hg' : ∀ i, g i = if p i then 1 + SRw w (goalOf w r) r f (pushM w hs m i r) (m + 1) else f + 2 := fun i => by rw [← hg]
        have ge1 : ∀ i, 1 ≤ mnm g (f + 2) i := fun i => mnm_ge (by omega) fun k _ => by rw [hg']; split <;> omega
        have letop := mnm_le_top g (f + 2)
        have loop : ∀ rr i, i + rr = 32 * wNB w → ∀ (F1 A : Nat → Nat → Int32) (L : Nat → Nat → Int64), HC K FR F1 A L (q + 1) t w hs m → TX FI F1 AI A AL L (q + 1) → WP sa (EV sa (d + F + 6)) 34 Q 0 0 49 [.ref q, .int r, .int (nI len), .int (nI M), .int (nI (len + mnm g (f + 2) i)), .int (nI i)] [] (n, K, F1, FL, FR, A, L, AR) := by
          intro rr
          induction rr with
          | zero =>
            intro i hi F1 A L h1 h2
            have hi' : i = 32 * wNB w := by omega
            subst hi'
            have hq := hQ F1 A L h1 h2
            rw [e34_49]
            simp only [e34_0, e34_1, e34_2, e34_5, e34_6, e34_7, e34_8, e34_9, e34_10, e34_12, e34_15, e34_16, e34_19, e34_22, e34_25, e34_28, e34_29, e34_32, e34_33, e34_36, e34_39, e34_40, e34_41, e34_42, e34_43, e34_44, e34_46, e34_47, e34_50, e34_51, e34_52, e34_54, e34_57, e34_59, e34_60, e34_63, e34_66, e34_67, e34_70, e34_72, e34_75, e34_77, e34_80, e34_83, e34_86, e34_87, e34_89, e34_90, e34_93, e34_94, e34_95, e34_96, e34_97, e34_98, e34_100, e34_101, e34_102, e34_105, e34_107, e34_108, e34_111, e34_114, e34_117, e34_119, nI_1]
            refine ⟨fun _ => hq, fun _ => ⟨by simp, c_moves hS h1 ?_⟩⟩
            simp only [tl_some, e34_0, e34_1, e34_2, e34_5, e34_6, e34_7, e34_8, e34_9, e34_10, e34_12, e34_15, e34_16, e34_19, e34_22, e34_25, e34_28, e34_29, e34_32, e34_33, e34_36, e34_39, e34_40, e34_41, e34_42, e34_43, e34_44, e34_46, e34_47, e34_50, e34_51, e34_52, e34_54, e34_57, e34_59, e34_60, e34_63, e34_66, e34_67, e34_70, e34_72, e34_75, e34_77, e34_80, e34_83, e34_86, e34_87, e34_89, e34_90, e34_93, e34_94, e34_95, e34_96, e34_97, e34_98, e34_100, e34_101, e34_102, e34_105, e34_107, e34_108, e34_111, e34_114, e34_117, e34_119]
            exact ⟨fun _ => hq, fun z => absurd (nI_le (Nat.le_refl _) (by omega)) z⟩
          | succ rr ih =>
            intro i hi F1 A L h1 h2
            have l1 := letop i
            have l2 := ge1 i
            have hmi : mnm g (f + 2) (i + 1) = min (mnm g (f + 2) i) (g i) := rfl
            rw [e34_49]
            simp only [e34_0, e34_1, e34_2, e34_5, e34_6, e34_7, e34_8, e34_9, e34_10, e34_12, e34_15, e34_16, e34_19, e34_22, e34_25, e34_28, e34_29, e34_32, e34_33, e34_36, e34_39, e34_40, e34_41, e34_42, e34_43, e34_44, e34_46, e34_47, e34_50, e34_51, e34_52, e34_54, e34_57, e34_59, e34_60, e34_63, e34_66, e34_67, e34_70, e34_72, e34_75, e34_77, e34_80, e34_83, e34_86, e34_87, e34_89, e34_90, e34_93, e34_94, e34_95, e34_96, e34_97, e34_98, e34_100, e34_101, e34_102, e34_105, e34_107, e34_108, e34_111, e34_114, e34_117, e34_119, nI_1]
            refine ⟨fun z => ?_, fun z => ⟨by simp, c_moves hS h1 ?_⟩⟩
            · have z' := (nI_leI (by omega) (by omega)).mp z
              have h3 := mnm_mono g (f + 2) (show i ≤ 32 * wNB w by omega)
              have h4 := ge1 (32 * wNB w)
              have e4 : mnm g (f + 2) i = mnm g (f + 2) (32 * wNB w) := by omega
              rw [e4]
              exact hQ F1 A L h1 h2
            have z' : ¬ mnm g (f + 2) i ≤ 1 := fun e => z (nI_le (by omega) (by omega))
            simp only [tl_some, e34_0, e34_1, e34_2, e34_5, e34_6, e34_7, e34_8, e34_9, e34_10, e34_12, e34_15, e34_16, e34_19, e34_22, e34_25, e34_28, e34_29, e34_32, e34_33, e34_36, e34_39, e34_40, e34_41, e34_42, e34_43, e34_44, e34_46, e34_47, e34_50, e34_51, e34_52, e34_54, e34_57, e34_59, e34_60, e34_63, e34_66, e34_67, e34_70, e34_72, e34_75, e34_77, e34_80, e34_83, e34_86, e34_87, e34_89, e34_90, e34_93, e34_94, e34_95, e34_96, e34_97, e34_98, e34_100, e34_101, e34_102, e34_105, e34_107, e34_108, e34_111, e34_114, e34_117, e34_119, k0, f0, rf_some, true_and]
            refine ⟨fun z => absurd z (nI_ge (by omega) (by omega)), fun _ => ⟨by simp, c_billOf (by omega) ?_⟩⟩
            simp only [tl_some, e34_0, e34_1, e34_2, e34_5, e34_6, e34_7, e34_8, e34_9, e34_10, e34_12, e34_15, e34_16, e34_19, e34_22, e34_25, e34_28, e34_29, e34_32, e34_33, e34_36, e34_39, e34_40, e34_41, e34_42, e34_43, e34_44, e34_46, e34_47, e34_50, e34_51, e34_52, e34_54, e34_57, e34_59, e34_60, e34_63, e34_66, e34_67, e34_70, e34_72, e34_75, e34_77, e34_80, e34_83, e34_86, e34_87, e34_89, e34_90, e34_93, e34_94, e34_95, e34_96, e34_97, e34_98, e34_100, e34_101, e34_102, e34_105, e34_107, e34_108, e34_111, e34_114, e34_117, e34_119]
            refine ⟨by simp, c_cornerOf (by omega) ?_⟩
            simp only [tl_some, e34_0, e34_1, e34_2, e34_5, e34_6, e34_7, e34_8, e34_9, e34_10, e34_12, e34_15, e34_16, e34_19, e34_22, e34_25, e34_28, e34_29, e34_32, e34_33, e34_36, e34_39, e34_40, e34_41, e34_42, e34_43, e34_44, e34_46, e34_47, e34_50, e34_51, e34_52, e34_54, e34_57, e34_59, e34_60, e34_63, e34_66, e34_67, e34_70, e34_72, e34_75, e34_77, e34_80, e34_83, e34_86, e34_87, e34_89, e34_90, e34_93, e34_94, e34_95, e34_96, e34_97, e34_98, e34_100, e34_101, e34_102, e34_105, e34_107, e34_108, e34_111, e34_114, e34_117, e34_119]
            refine ⟨by simp, c_mayGo h1 (by omega) (by omega) fun F' L' a1 a2 => ?_⟩
            rw [hp i]
            have tx : TX F1 F' A A L L' (q + 1) := a2.toTX
            simp only [tl_some, e34_0, e34_1, e34_2, e34_5, e34_6, e34_7, e34_8, e34_9, e34_10, e34_12, e34_15, e34_16, e34_19, e34_22, e34_25, e34_28, e34_29, e34_32, e34_33, e34_36, e34_39, e34_40, e34_41, e34_42, e34_43, e34_44, e34_46, e34_47, e34_50, e34_51, e34_52, e34_54, e34_57, e34_59, e34_60, e34_63, e34_66, e34_67, e34_70, e34_72, e34_75, e34_77, e34_80, e34_83, e34_86, e34_87, e34_89, e34_90, e34_93, e34_94, e34_95, e34_96, e34_97, e34_98, e34_100, e34_101, e34_102, e34_105, e34_107, e34_108, e34_111, e34_114, e34_117, e34_119, bI_eq0, nI_1, mj_kl]
            refine ⟨fun y => ?_, fun y => ⟨by simp, ?_⟩⟩
            · have gi : g i = f + 2 := by rw [hg', y]; rfl
              have := ih (i + 1) (by omega) F' A L' a1 (h2.trans tx)
              rw [hmi, gi, Nat.min_eq_left l1] at this
              exact this
            · have y' : p i = true := by simpa using y
              have gi : g i = 1 + SRw w (goalOf w r) r f (pushM w hs m i r) (m + 1) := by rw [hg', if_pos y']
              obtain ⟨k, hk⟩ : ∃ k, mnm g (f + 2) i = k + 2 := ⟨mnm g (f + 2) i - 2, by omega⟩
              have em : nI (len + mnm g (f + 2) i) - 1 = nI (len + 1 + k) := by rw [hk, show len + (k + 2) = (len + 1 + k) + 1 by omega, nI_pred]
              refine c_push hS a1 (by omega) (by rw [hp0]; exact y') fun F3 A3 b1 b2 => ?_
              simp only [tl_none, e34_0, e34_1, e34_2, e34_5, e34_6, e34_7, e34_8, e34_9, e34_10, e34_12, e34_15, e34_16, e34_19, e34_22, e34_25, e34_28, e34_29, e34_32, e34_33, e34_36, e34_39, e34_40, e34_41, e34_42, e34_43, e34_44, e34_46, e34_47, e34_50, e34_51, e34_52, e34_54, e34_57, e34_59, e34_60, e34_63, e34_66, e34_67, e34_70, e34_72, e34_75, e34_77, e34_80, e34_83, e34_86, e34_87, e34_89, e34_90, e34_93, e34_94, e34_95, e34_96, e34_97, e34_98, e34_100, e34_101, e34_102, e34_105, e34_107, e34_108, e34_111, e34_114, e34_117, e34_119, nI_1, em]
              refine ⟨by simp, IH (f := k) (by omega) b1 rfl (by omega) fun F4 A4 L4 e1 e2 => ?_⟩
              simp only [tl_some, e34_0, e34_1, e34_2, e34_5, e34_6, e34_7, e34_8, e34_9, e34_10, e34_12, e34_15, e34_16, e34_19, e34_22, e34_25, e34_28, e34_29, e34_32, e34_33, e34_36, e34_39, e34_40, e34_41, e34_42, e34_43, e34_44, e34_46, e34_47, e34_50, e34_51, e34_52, e34_54, e34_57, e34_59, e34_60, e34_63, e34_66, e34_67, e34_70, e34_72, e34_75, e34_77, e34_80, e34_83, e34_86, e34_87, e34_89, e34_90, e34_93, e34_94, e34_95, e34_96, e34_97, e34_98, e34_100, e34_101, e34_102, e34_105, e34_107, e34_108, e34_111, e34_114, e34_117, e34_119, mj_kl]
              refine ⟨by simp, c_pop hS e1 fun F5 A5 g1 g2 => ?_⟩
              simp only [tl_none, e34_0, e34_1, e34_2, e34_5, e34_6, e34_7, e34_8, e34_9, e34_10, e34_12, e34_15, e34_16, e34_19, e34_22, e34_25, e34_28, e34_29, e34_32, e34_33, e34_36, e34_39, e34_40, e34_41, e34_42, e34_43, e34_44, e34_46, e34_47, e34_50, e34_51, e34_52, e34_54, e34_57, e34_59, e34_60, e34_63, e34_66, e34_67, e34_70, e34_72, e34_75, e34_77, e34_80, e34_83, e34_86, e34_87, e34_89, e34_90, e34_93, e34_94, e34_95, e34_96, e34_97, e34_98, e34_100, e34_101, e34_102, e34_105, e34_107, e34_108, e34_111, e34_114, e34_117, e34_119, mj_kl, nI_1]
              have := ih (i + 1) (by omega) F5 A5 L4 g1 (h2.trans (tx.trans (b2.trans (e2.trans g2))))
              have e5 : len + 1 + SRw w (goalOf w r) r k (pushM w hs m i r) (m + 1) = len + mnm g (f + 2) (i + 1) := by
                rw [SRw_cut w (goalOf w r) r k f _ _ (by omega), hmi, gi, hk]
                omega
              rw [e5]
              exact this
        have := loop (32 * wNB w) 0 (by omega) F0 A0 L0 h1 h2
        have e6 : len + mnm g (f + 2) 0 = M + 1 := by simp only [mnm]; omega
        rw [e6] at this
        simpa [nI_0] using this
    refine n34 k0 ?_
    simp only [e34_0, e34_1, e34_2, e34_5, e34_6, e34_7, e34_8, e34_9, e34_10, e34_12, e34_15, e34_16, e34_19, e34_22, e34_25, e34_28, e34_29, e34_32, e34_33, e34_36, e34_39, e34_40, e34_42, e34_43, e34_44, e34_46, e34_47, e34_50, e34_51, e34_52, e34_54, e34_57, e34_59, e34_60, e34_63, e34_66, e34_67, e34_70, e34_72, e34_75, e34_77, e34_80, e34_83, e34_86, e34_87, e34_89, e34_90, e34_93, e34_94, e34_95, e34_96, e34_97, e34_98, e34_100, e34_101, e34_102, e34_105, e34_107, e34_108, e34_111, e34_114, e34_117, e34_119, k0, f0, rf_some, true_and]
    refine ⟨fun _ => ⟨fun z => ⟨by simp, c_isAllOf hC.1 hC.2.1 hC.2.2.1 hC.2.2.2.1 hC.2.2.2.2.1 hC.2.2.2.2.2.1 ?_⟩, fun z => ⟨by simp, c_isFull hC fun F' L' a1 a2 => ?_⟩⟩, fun z => absurd (nI_le (by omega) (by omega)) z⟩
    · have eg : goalOf w r hs m = allP w hs m r := if_neg z
      simp only [tl_some, e34_0, e34_1, e34_2, e34_5, e34_6, e34_7, e34_8, e34_9, e34_10, e34_12, e34_15, e34_16, e34_19, e34_22, e34_25, e34_28, e34_29, e34_32, e34_33, e34_36, e34_39, e34_40, e34_42, e34_43, e34_44, e34_46, e34_47, e34_50, e34_51, e34_52, e34_54, e34_57, e34_59, e34_60, e34_63, e34_66, e34_67, e34_70, e34_72, e34_75, e34_77, e34_80, e34_83, e34_86, e34_87, e34_89, e34_90, e34_93, e34_94, e34_95, e34_96, e34_97, e34_98, e34_100, e34_101, e34_102, e34_105, e34_107, e34_108, e34_111, e34_114, e34_117, e34_119, bI_eq0, ← eg]
      exact ⟨fun y => no y _ _ _ hC TX.rfl', fun y => yes (by simpa using y) _ _ _ hC TX.rfl'⟩
    · have eg : goalOf w r hs m = isFullP w hs m := if_pos (by simpa using z)
      simp only [tl_some, e34_0, e34_1, e34_2, e34_5, e34_6, e34_7, e34_8, e34_9, e34_10, e34_12, e34_15, e34_16, e34_19, e34_22, e34_25, e34_28, e34_29, e34_32, e34_33, e34_36, e34_39, e34_40, e34_42, e34_43, e34_44, e34_46, e34_47, e34_50, e34_51, e34_52, e34_54, e34_57, e34_59, e34_60, e34_63, e34_66, e34_67, e34_70, e34_72, e34_75, e34_77, e34_80, e34_83, e34_86, e34_87, e34_89, e34_90, e34_93, e34_94, e34_95, e34_96, e34_97, e34_98, e34_100, e34_101, e34_102, e34_105, e34_107, e34_108, e34_111, e34_114, e34_117, e34_119, bI_eq0, ← eg]
      exact ⟨fun y => no y _ _ _ a1 a2.toTX, fun y => yes (by simpa using y) _ _ _ a1 a2.toTX⟩
theorem c_bringsAbout (hS : RowS K FR q) : ∀ (f : Nat) {own : Bool} {hs : Nat → Hg} {m : Nat} {FI AI : Nat → Nat → Int32} {AL : Nat → Nat → Int64} {Q : mj_Q}, f ≤ 4 → HC K FR FI AI AL (q + 1) t w hs m → (∀ (FI' AI' : Nat → Nat → Int32) (AL' : Nat → Nat → Int64), HC K FR FI' AI' AL' (q + 1) t w hs m → TX FI FI' AI AI' AL AL' (q + 1) → Q (some (.int (bI (WNw w f own hs m)))) (n, K, FI', FL, FR, AI', AL', AR)) → EV sa (d + f + 6) 36 [.ref q, .int (bI own), .int (nI f)] (n, K, FI, FL, FR, AI, AL, AR) Q := by
  have k0 := hS.1
  have f0 := hS.2.1
  intro f
  induction f with
  | zero =>
    intro own hs m FI AI AL Q _ hC hQ
    simp only [WNw] at hQ
    refine n36 k0 ?_
    simp only [e36_0, e36_1, e36_4, e36_5, e36_8, e36_9, e36_12, e36_15, e36_18, e36_19, e36_22, e36_23, e36_24, e36_25, e36_26, e36_27, e36_30, e36_33, e36_35, e36_36, e36_39, e36_42, e36_43, e36_46, e36_48, e36_51, e36_53, e36_56, e36_59, e36_62, e36_63, e36_65, e36_67, e36_70, e36_71, e36_72, e36_75, e36_76, e36_79, e36_80, e36_81, e36_82, e36_83, e36_86, e36_87, e36_90, e36_91, e36_94, e36_95, e36_96, e36_97, e36_100, e36_103, e36_106, e36_107, e36_108, e36_111, e36_112, e36_115, e36_116, k0, f0, rf_some, true_and, true_or, or_true, bI_eq0]
    refine ⟨fun z => absurd z (by decide), fun _ => ⟨fun z => ?_, fun z => ⟨by simp, c_isFull hC fun F' L' a1 a2 => ?_⟩⟩⟩
    · have z' : own = true := by simpa using z
      subst z'
      exact hQ FI AI AL hC TX.rfl'
    · have z' : own = false := by simpa using z
      subst z'
      have hq := hQ F' AI L' a1 a2.toTX
      simp only [tl_some, e36_0, e36_1, e36_4, e36_5, e36_8, e36_9, e36_12, e36_15, e36_18, e36_19, e36_22, e36_23, e36_24, e36_25, e36_26, e36_27, e36_30, e36_33, e36_35, e36_36, e36_39, e36_42, e36_43, e36_46, e36_48, e36_51, e36_53, e36_56, e36_59, e36_62, e36_63, e36_65, e36_67, e36_70, e36_71, e36_72, e36_75, e36_76, e36_79, e36_80, e36_81, e36_82, e36_83, e36_86, e36_87, e36_90, e36_91, e36_94, e36_95, e36_96, e36_97, e36_100, e36_103, e36_106, e36_107, e36_108, e36_111, e36_112, e36_115, e36_116, bI_eq0, true_and, true_or, or_true]
      refine ⟨fun y => ?_, fun y => ?_⟩
      · rw [y] at hq; exact hq
      · rw [show isFullP w hs m = true by simpa using y] at hq; exact hq
  | succ f IH =>
    intro own hs m FI AI AL Q hf hC hQ
    have hn4 := hC.2.2.2.1.2.2.2.1
    rw [show d + (f + 1) + 6 = (d + f + 6) + 1 by omega]
    simp only [WNw] at hQ
    generalize hp0 : mvp w hs m = p at *
    have hp : ∀ i, mayAt w hs m (i / 32) (i % 32) = p i := fun i => by rw [← hp0]; rfl
    generalize hg : (fun i => p i && (WNw w f (!own) (pushM w hs m i (-2)) (m + 1) == own)) = g at hQ
    have hg' : ∀ i, g i = (p i && (WNw w f (!own) (pushM w hs m i (-2)) (m + 1) == own)) := fun i => by rw [← hg]
    have fin : ∀ (b : Bool), ex g (32 * wNB w) = b → ∀ (F1 A : Nat → Nat → Int32) (L : Nat → Nat → Int64), HC K FR F1 A L (q + 1) t w hs m → TX FI F1 AI A AL L (q + 1) → ∀ x4 : Value, WP sa (EV sa (d + f + 6)) 36 Q 0 0 106 [.ref q, .int (bI own), .int (nI (f + 1)), .int (bI b), x4] [] (n, K, F1, FL, FR, A, L, AR) := by
      intro b hb F1 A L h1 h2 x4
      have hq := hQ F1 A L h1 h2
      rw [hb] at hq
      simp only [e36_0, e36_1, e36_4, e36_5, e36_8, e36_9, e36_12, e36_15, e36_18, e36_19, e36_22, e36_23, e36_24, e36_25, e36_26, e36_27, e36_30, e36_33, e36_35, e36_36, e36_39, e36_42, e36_43, e36_46, e36_48, e36_51, e36_53, e36_56, e36_59, e36_62, e36_63, e36_65, e36_67, e36_70, e36_71, e36_72, e36_75, e36_76, e36_79, e36_80, e36_81, e36_82, e36_83, e36_86, e36_87, e36_90, e36_91, e36_94, e36_95, e36_96, e36_97, e36_100, e36_103, e36_106, e36_107, e36_108, e36_111, e36_112, e36_115, e36_116, bI_inj, true_or, or_true, true_and]
      refine ⟨fun z => ?_, fun z => ?_⟩
      · rw [show (b == own) = false by simpa using z] at hq; exact hq
      · rw [show (b == own) = true by simpa using z] at hq; exact hq
    have stop : ex g (32 * wNB w) = true → ∀ (F1 A : Nat → Nat → Int32) (L : Nat → Nat → Int64), HC K FR F1 A L (q + 1) t w hs m → TX FI F1 AI A AL L (q + 1) → ∀ x4 : Value, WP sa (EV sa (d + f + 6)) 36 Q 0 0 29 [.ref q, .int (bI own), .int (nI (f + 1)), .int 1, x4] [] (n, K, F1, FL, FR, A, L, AR) := by
      intro hb F1 A L h1 h2 x4
      rw [e36_29]
      simp only [e36_30]
      exact ⟨fun _ => fin true hb F1 A L h1 h2 x4, fun z => absurd (by decide) z⟩
    have loop : ∀ rr i, i + rr = 32 * wNB w → ex g i = false → ∀ (F1 A : Nat → Nat → Int32) (L : Nat → Nat → Int64), HC K FR F1 A L (q + 1) t w hs m → TX FI F1 AI A AL L (q + 1) → WP sa (EV sa (d + f + 6)) 36 Q 0 0 29 [.ref q, .int (bI own), .int (nI (f + 1)), .int 0, .int (nI i)] [] (n, K, F1, FL, FR, A, L, AR) := by
      intro rr
      induction rr with
      | zero =>
        intro i hi hn F1 A L h1 h2
        have hi' : i = 32 * wNB w := by omega
        subst hi'
        rw [e36_29]
        simp only [e36_0, e36_1, e36_4, e36_5, e36_8, e36_9, e36_12, e36_15, e36_18, e36_19, e36_22, e36_23, e36_24, e36_25, e36_26, e36_27, e36_30, e36_33, e36_35, e36_36, e36_39, e36_42, e36_43, e36_46, e36_48, e36_51, e36_53, e36_56, e36_59, e36_62, e36_63, e36_65, e36_67, e36_70, e36_71, e36_72, e36_75, e36_76, e36_79, e36_80, e36_81, e36_82, e36_83, e36_86, e36_87, e36_90, e36_91, e36_94, e36_95, e36_96, e36_97, e36_100, e36_103, e36_107, e36_108, e36_111, e36_112, e36_115, e36_116]
        refine ⟨fun z => absurd trivial z, fun _ => ⟨by simp, c_moves hS h1 ?_⟩⟩
        simp only [tl_some, e36_0, e36_1, e36_4, e36_5, e36_8, e36_9, e36_12, e36_15, e36_18, e36_19, e36_22, e36_23, e36_24, e36_25, e36_26, e36_27, e36_30, e36_33, e36_35, e36_36, e36_39, e36_42, e36_43, e36_46, e36_48, e36_51, e36_53, e36_56, e36_59, e36_62, e36_63, e36_65, e36_67, e36_70, e36_71, e36_72, e36_75, e36_76, e36_79, e36_80, e36_81, e36_82, e36_83, e36_86, e36_87, e36_90, e36_91, e36_94, e36_95, e36_96, e36_97, e36_100, e36_103, e36_107, e36_108, e36_111, e36_112, e36_115, e36_116]
        exact ⟨fun _ => fin false hn F1 A L h1 h2 _, fun z => absurd (nI_le (Nat.le_refl _) (by omega)) z⟩
      | succ rr ih =>
        intro i hi hn F1 A L h1 h2
        rw [e36_29]
        simp only [e36_0, e36_1, e36_4, e36_5, e36_8, e36_9, e36_12, e36_15, e36_18, e36_19, e36_22, e36_23, e36_24, e36_25, e36_26, e36_27, e36_30, e36_33, e36_35, e36_36, e36_39, e36_42, e36_43, e36_46, e36_48, e36_51, e36_53, e36_56, e36_59, e36_62, e36_63, e36_65, e36_67, e36_70, e36_71, e36_72, e36_75, e36_76, e36_79, e36_80, e36_81, e36_82, e36_83, e36_86, e36_87, e36_90, e36_91, e36_94, e36_95, e36_96, e36_97, e36_100, e36_103, e36_107, e36_108, e36_111, e36_112, e36_115, e36_116]
        refine ⟨fun z => absurd trivial z, fun _ => ⟨by simp, c_moves hS h1 ?_⟩⟩
        simp only [tl_some, e36_0, e36_1, e36_4, e36_5, e36_8, e36_9, e36_12, e36_15, e36_18, e36_19, e36_22, e36_23, e36_24, e36_25, e36_26, e36_27, e36_30, e36_33, e36_35, e36_36, e36_39, e36_42, e36_43, e36_46, e36_48, e36_51, e36_53, e36_56, e36_59, e36_62, e36_63, e36_65, e36_67, e36_70, e36_71, e36_72, e36_75, e36_76, e36_79, e36_80, e36_81, e36_82, e36_83, e36_86, e36_87, e36_90, e36_91, e36_94, e36_95, e36_96, e36_97, e36_100, e36_103, e36_107, e36_108, e36_111, e36_112, e36_115, e36_116, k0, f0, rf_some, true_and]
        refine ⟨fun z => absurd z (nI_ge (by omega) (by omega)), fun _ => ⟨by simp, c_billOf (by omega) ?_⟩⟩
        simp only [tl_some, e36_0, e36_1, e36_4, e36_5, e36_8, e36_9, e36_12, e36_15, e36_18, e36_19, e36_22, e36_23, e36_24, e36_25, e36_26, e36_27, e36_30, e36_33, e36_35, e36_36, e36_39, e36_42, e36_43, e36_46, e36_48, e36_51, e36_53, e36_56, e36_59, e36_62, e36_63, e36_65, e36_67, e36_70, e36_71, e36_72, e36_75, e36_76, e36_79, e36_80, e36_81, e36_82, e36_83, e36_86, e36_87, e36_90, e36_91, e36_94, e36_95, e36_96, e36_97, e36_100, e36_103, e36_107, e36_108, e36_111, e36_112, e36_115, e36_116]
        refine ⟨by simp, c_cornerOf (by omega) ?_⟩
        simp only [tl_some, e36_0, e36_1, e36_4, e36_5, e36_8, e36_9, e36_12, e36_15, e36_18, e36_19, e36_22, e36_23, e36_24, e36_25, e36_26, e36_27, e36_30, e36_33, e36_35, e36_36, e36_39, e36_42, e36_43, e36_46, e36_48, e36_51, e36_53, e36_56, e36_59, e36_62, e36_63, e36_65, e36_67, e36_70, e36_71, e36_72, e36_75, e36_76, e36_79, e36_80, e36_81, e36_82, e36_83, e36_86, e36_87, e36_90, e36_91, e36_94, e36_95, e36_96, e36_97, e36_100, e36_103, e36_107, e36_108, e36_111, e36_112, e36_115, e36_116]
        refine ⟨by simp, c_mayGo h1 (by omega) (by omega) fun F' L' a1 a2 => ?_⟩
        rw [hp i]
        have tx : TX F1 F' A A L L' (q + 1) := a2.toTX
        simp only [tl_some, e36_0, e36_1, e36_4, e36_5, e36_8, e36_9, e36_12, e36_15, e36_18, e36_19, e36_22, e36_23, e36_24, e36_25, e36_26, e36_27, e36_30, e36_33, e36_35, e36_36, e36_39, e36_42, e36_43, e36_46, e36_48, e36_51, e36_53, e36_56, e36_59, e36_62, e36_63, e36_65, e36_67, e36_70, e36_71, e36_72, e36_75, e36_76, e36_79, e36_80, e36_81, e36_82, e36_83, e36_86, e36_87, e36_90, e36_91, e36_94, e36_95, e36_96, e36_97, e36_100, e36_103, e36_107, e36_108, e36_111, e36_112, e36_115, e36_116, bI_eq0, nI_1, mj_kl]
        refine ⟨fun y => ?_, fun y => ⟨by simp, ?_⟩⟩
        · exact ih (i + 1) (by omega) (by simp [ex, hn, hg', y]) F' A L' a1 (h2.trans tx)
        · have y' : p i = true := by simpa using y
          refine c_push hS a1 (by omega) (by rw [hp0]; exact y') fun F3 A3 b1 b2 => ?_
          have gi : g i = (WNw w f (!own) (pushM w hs m i (-2)) (m + 1) == own) := by rw [hg', y', Bool.true_and]
          have next : ∀ (F4 A4 : Nat → Nat → Int32) (L4 : Nat → Nat → Int64), HC K FR F4 A4 L4 (q + 1) t w (pushM w hs m i (-2)) (m + 1) → TX F3 F4 A3 A4 L' L4 (q + 1) → WP sa (EV sa (d + f + 6)) 36 Q 0 0 86 [.ref q, .int (bI own), .int (nI (f + 1)), .int 0, .int (nI i)] [.int (bI (WNw w f (!own) (pushM w hs m i (-2)) (m + 1)))] (n, K, F4, FL, FR, A4, L4, AR) := by
            intro F4 A4 L4 e1 e2
            simp only [e36_0, e36_1, e36_4, e36_5, e36_8, e36_9, e36_12, e36_15, e36_18, e36_19, e36_22, e36_23, e36_24, e36_25, e36_26, e36_27, e36_30, e36_33, e36_35, e36_36, e36_39, e36_42, e36_43, e36_46, e36_48, e36_51, e36_53, e36_56, e36_59, e36_62, e36_63, e36_65, e36_67, e36_70, e36_71, e36_72, e36_75, e36_76, e36_79, e36_80, e36_81, e36_82, e36_83, e36_86, e36_87, e36_90, e36_91, e36_94, e36_95, e36_96, e36_97, e36_100, e36_103, e36_107, e36_108, e36_111, e36_112, e36_115, e36_116, bI_inj, mj_kl]
            refine ⟨fun z => ⟨by simp, c_pop hS e1 fun F5 A5 g1 g2 => ?_⟩, fun z => ⟨by simp, c_pop hS e1 fun F5 A5 g1 g2 => ?_⟩⟩
            · simp only [tl_none, e36_0, e36_1, e36_4, e36_5, e36_8, e36_9, e36_12, e36_15, e36_18, e36_19, e36_22, e36_23, e36_24, e36_25, e36_26, e36_27, e36_30, e36_33, e36_35, e36_36, e36_39, e36_42, e36_43, e36_46, e36_48, e36_51, e36_53, e36_56, e36_59, e36_62, e36_63, e36_65, e36_67, e36_70, e36_71, e36_72, e36_75, e36_76, e36_79, e36_80, e36_81, e36_82, e36_83, e36_86, e36_87, e36_90, e36_91, e36_94, e36_95, e36_96, e36_97, e36_100, e36_103, e36_107, e36_108, e36_111, e36_112, e36_115, e36_116, mj_kl, nI_1]
              exact ih (i + 1) (by omega) (by simp only [ex, hn, gi, Bool.false_or]; simpa using z) F5 A5 L4 g1 (h2.trans (tx.trans (b2.trans (e2.trans g2))))
            · simp only [tl_none, e36_0, e36_1, e36_4, e36_5, e36_8, e36_9, e36_12, e36_15, e36_18, e36_19, e36_22, e36_23, e36_24, e36_25, e36_26, e36_27, e36_30, e36_33, e36_35, e36_36, e36_39, e36_42, e36_43, e36_46, e36_48, e36_51, e36_53, e36_56, e36_59, e36_62, e36_63, e36_65, e36_67, e36_70, e36_71, e36_72, e36_75, e36_76, e36_79, e36_80, e36_81, e36_82, e36_83, e36_86, e36_87, e36_90, e36_91, e36_94, e36_95, e36_96, e36_97, e36_100, e36_103, e36_107, e36_108, e36_111, e36_112, e36_115, e36_116, mj_kl, nI_1]
              exact stop (ex_true.mpr ⟨i, by omega, by rw [gi]; simpa using z⟩) F5 A5 L4 g1 (h2.trans (tx.trans (b2.trans (e2.trans g2)))) _
          simp only [tl_none, e36_0, e36_1, e36_4, e36_5, e36_8, e36_9, e36_12, e36_15, e36_18, e36_19, e36_22, e36_23, e36_24, e36_25, e36_26, e36_27, e36_30, e36_33, e36_35, e36_36, e36_39, e36_42, e36_43, e36_46, e36_48, e36_51, e36_53, e36_56, e36_59, e36_62, e36_63, e36_65, e36_67, e36_70, e36_71, e36_72, e36_75, e36_76, e36_79, e36_80, e36_81, e36_82, e36_83, e36_87, e36_90, e36_91, e36_94, e36_95, e36_96, e36_97, e36_100, e36_103, e36_107, e36_108, e36_111, e36_112, e36_115, e36_116, nI_pred, bI_eq0]
          refine ⟨fun z => ⟨by simp, ?_⟩, fun z => ⟨by simp, ?_⟩⟩
          · have z' : own = true := by simpa using z
            have := IH (own := false) (Q := fun v μ => WP sa (EV sa (d + f + 6)) 36 Q 0 0 86 [.ref q, .int (bI own), .int (nI (f + 1)), .int 0, .int (nI i)] (v.toList ++ []) μ) (by omega) b1 fun F4 A4 L4 e1 e2 => by
              have := next F4 A4 L4 e1 e2
              rw [z'] at this ⊢
              exact this
            simp only [e36_86] at this
            exact this
          · have z' : own = false := by simpa using z
            have := IH (own := true) (Q := fun v μ => WP sa (EV sa (d + f + 6)) 36 Q 0 0 86 [.ref q, .int (bI own), .int (nI (f + 1)), .int 0, .int (nI i)] (v.toList ++ []) μ) (by omega) b1 fun F4 A4 L4 e1 e2 => by
              have := next F4 A4 L4 e1 e2
              rw [z'] at this ⊢
              exact this
            simp only [e36_86] at this
            exact this
    refine n36 k0 ?_
    simp only [e36_0, e36_1, e36_4, e36_5, e36_8, e36_9, e36_12, e36_15, e36_18, e36_19, e36_22, e36_23, e36_24, e36_25, e36_26, e36_27, e36_30, e36_33, e36_35, e36_36, e36_39, e36_42, e36_43, e36_46, e36_48, e36_51, e36_53, e36_56, e36_59, e36_62, e36_63, e36_65, e36_67, e36_70, e36_71, e36_72, e36_75, e36_76, e36_79, e36_80, e36_81, e36_82, e36_83, e36_86, e36_87, e36_90, e36_91, e36_94, e36_95, e36_96, e36_97, e36_100, e36_103, e36_106, e36_107, e36_108, e36_111, e36_112, e36_115, e36_116, k0, mj_kl, mj_u]
    refine ⟨fun _ => ?_, fun z => absurd (nI_lt (a := 0) (by omega) (by omega)) z⟩
    have := loop (32 * wNB w) 0 (by omega) rfl FI AI AL hC TX.rfl'
    simpa [nI_0] using this
end
