/-- where Telling has its things -/
def TelS (K : Nat → Nat × Nat) (FR : Nat → Nat → Option Nat) (te h ta : Nat) : Prop := K te = (1, 4) ∧ FR 256 te = some (te + 1) ∧ TokS K FR (te + 1) ta ∧ (FR 257 te = some (te + 3) ∧ K (te + 3) = (4, 4)) ∧ (FR 258 te = some (te + 4) ∧ K (te + 4) = (4, 3)) ∧ FR 259 te = some h ∧ FR 260 te = some (h + 1) ∧ HungS K FR h ∧ ToldS K FR (h + 1) ∧ FR 0 h = some (h + 1) ∧ (te + 4 < h ∨ h + 22 < te) ∧ (ta < te ∨ te + 4 < ta) ∧ (ta < h ∨ h + 22 < ta)
def TK (FI FI' : Nat → Nat → Int32) (FL FL' : Nat → Nat → Int64) (te : Nat) : Prop := FIx FI FI' (te + 1) [322, 323, 324, 325, 327] ∧ FLx FL FL' (te + 1) [326]
def TE (FI FI' : Nat → Nat → Int32) (FL FL' : Nat → Nat → Int64) (te : Nat) : Prop := (∀ f a, a ≠ te + 1 → (a ≠ te ∨ f ∉ [262, 263, 264, 266]) → FI' f a = FI f a) ∧ (∀ f a, a ≠ te + 1 → (a ≠ te ∨ f ≠ 265) → FL' f a = FL f a)
theorem TE.rfl' {FI : Nat → Nat → Int32} {FL : Nat → Nat → Int64} {te : Nat} : TE FI FI FL FL te := ⟨fun _ _ _ _ => rfl, fun _ _ _ _ => rfl⟩
theorem TE.trans {FI F1 F2 : Nat → Nat → Int32} {FL L1 L2 : Nat → Nat → Int64} {te : Nat} (a : TE FI F1 FL L1 te) (b : TE F1 F2 L1 L2 te) : TE FI F2 FL L2 te := ⟨fun f z h1 h2 => by rw [b.1 f z h1 h2, a.1 f z h1 h2], fun f z h1 h2 => by rw [b.2 f z h1 h2, a.2 f z h1 h2]⟩
def TG (FI FI' : Nat → Nat → Int32) (FL FL' : Nat → Nat → Int64) (te : Nat) : Prop := (∀ f a, a ≠ te + 1 → (a ≠ te ∨ f ∉ [264, 266]) → FI' f a = FI f a) ∧ (∀ f a, a ≠ te + 1 → (a ≠ te ∨ f ≠ 265) → FL' f a = FL f a)
theorem TG.trans {FI F1 F2 : Nat → Nat → Int32} {FL L1 L2 : Nat → Nat → Int64} {te : Nat} (a : TG FI F1 FL L1 te) (b : TG F1 F2 L1 L2 te) : TG FI F2 FL L2 te := ⟨fun f z h1 h2 => by rw [b.1 f z h1 h2, a.1 f z h1 h2], fun f z h1 h2 => by rw [b.2 f z h1 h2, a.2 f z h1 h2]⟩
theorem TG.toTE {FI F1 : Nat → Nat → Int32} {FL L1 : Nat → Nat → Int64} {te : Nat} (a : TG FI F1 FL L1 te) : TE FI F1 FL L1 te := ⟨fun f z h1 h2 => a.1 f z h1 (h2.imp id (fun y y2 => y (by simp at y2 ⊢; omega))), a.2⟩
theorem TG.fault {FI F1 : Nat → Nat → Int32} {FL L1 : Nat → Nat → Int64} {te : Nat} (a : TG FI F1 FL L1 te) : F1 262 te = FI 262 te := a.1 262 te (by omega) (Or.inr (by simp))
theorem TK.toTG {FI F1 : Nat → Nat → Int32} {FL L1 : Nat → Nat → Int64} {te : Nat} (a : TK FI F1 FL L1 te) : TG FI F1 FL L1 te := ⟨fun f z h1 _ => a.1 f z (Or.inl h1), fun f z h1 _ => a.2 f z (Or.inl h1)⟩
theorem FIx.toTG {FI F1 : Nat → Nat → Int32} {FL : Nat → Nat → Int64} {te : Nat} {fs : List Nat} (a : FIx FI F1 te fs) (hs : ∀ f ∈ fs, f ∈ [264, 266]) : TG FI F1 FL FL te := ⟨fun f z _ h2 => a f z (h2.imp id (fun y y2 => y (hs f y2))), fun _ _ _ _ => rfl⟩
theorem TK.toTE {FI F1 : Nat → Nat → Int32} {FL L1 : Nat → Nat → Int64} {te : Nat} (a : TK FI F1 FL L1 te) : TE FI F1 FL L1 te := ⟨fun f z h1 _ => a.1 f z (Or.inl h1), fun f z h1 _ => a.2 f z (Or.inl h1)⟩
theorem FIx.toTE {FI F1 : Nat → Nat → Int32} {FL : Nat → Nat → Int64} {te : Nat} {fs : List Nat} (a : FIx FI F1 te fs) (hs : ∀ f ∈ fs, f ∈ [262, 263, 264, 266]) : TE FI F1 FL FL te := ⟨fun f z _ h2 => a f z (h2.imp id (fun y y2 => y (hs f y2))), fun _ _ _ _ => rfl⟩
section
variable {sa : Nat → Nat} {d n t h m : Nat} {Q : mj_Q} {K : Nat → Nat × Nat} {FI : Nat → Nat → Int32} {FL : Nat → Nat → Int64} {FR : Nat → Nat → Option Nat} {AI : Nat → Nat → Int32} {AL : Nat → Nat → Int64} {AR : Nat → Nat → Option Nat} {w : Wl} {hs : Nat → Hg}
variable {te ta E p : Nat}
theorem TokR.fx {F F' : Nat → Nat → Int32} {G G' : Nat → Nat → Int64} {tk : Nat} {T : Nat → Int32} (h : TokR F G tk T E p) (e : ∀ f, F' f tk = F f tk) (e2 : ∀ f, G' f tk = G f tk) : TokR F' G' tk T E p := by
  unfold TokR at h ⊢
  simp only [e, e2]
  exact h
theorem c_wrong (hS : TelS K FR te h ta) (hR : TokR FI FL (te + 1) (AI ta) E p) {f : Nat} (hQ : ∀ FI' : Nat → Nat → Int32, FI' 262 te = nI f → FI' 263 te = nI p → FIx FI FI' te [262, 263] → Q (some (.int 0)) (n, K, FI', FL, FR, AI, AL, AR)) : EV sa (d + 1) 54 [.ref te, .int (nI f)] (n, K, FI, FL, FR, AI, AL, AR) Q := by
  obtain ⟨k0, f0, ⟨kt, -⟩, -⟩ := hS
  have r4 := hR.2.2.2.2.1
  have u : mj_u2 FI 262 te (nI f) 324 (te + 1) = nI p := by rw [mj_u2_1 (by decide)]; exact r4
  refine n54 k0 ?_
  simp only [e54_0, e54_1, e54_2, e54_5, e54_6, e54_7, e54_10, e54_13, e54_16, e54_17, k0, f0, kt, rf_some, true_and, u, true_or]
  exact hQ _ (by rw [mj_u2_1 (by decide), mj_u2_s]) mj_u2_s ((FIx_u2 (by simp)).same (FIx_u2 (by simp)))
theorem c_stepT (hS : TelS K FR te h ta) (hR : TokR FI FL (te + 1) (AI ta) E p) (hE : E ≤ 900) (hQ : ∀ (FI' : Nat → Nat → Int32) (FL' : Nat → Nat → Int64), TokR FI' FL' (te + 1) (AI ta) E (stp (AI ta) E p) → TK FI FI' FL FL' te → Q none (n, K, FI', FL', FR, AI, AL, AR)) : EV sa (d + 3) 73 [.ref (te + 1)] (n, K, FI, FL, FR, AI, AL, AR) Q :=
  c_step hS.2.2.1 hE (nxt_le hR.2.1) hR.1 hR.2.2.1 fun F' G' a1 a2 a3 => hQ F' G' a1 ⟨a2, a3⟩
theorem c_takeFirst (hS : TelS K FR te h ta) (hR : TokR FI FL (te + 1) (AI ta) E p) (hE : E ≤ 900) {room time : Bool} (hno : ∀ f a, pFirst (AI ta) E room time p = .inl (f, a) → ∀ FI' : Nat → Nat → Int32, FI' 262 te = nI f → FI' 263 te = nI a → TE FI FI' FL FL te → Q (some (.int 0)) (n, K, FI', FL, FR, AI, AL, AR)) (hok : ∀ p', pFirst (AI ta) E room time p = .inr p' → ∀ (FI' : Nat → Nat → Int32) (FL' : Nat → Nat → Int64), TokR FI' FL' (te + 1) (AI ta) E p' → TK FI FI' FL FL' te → Q (some (.int 1)) (n, K, FI', FL', FR, AI, AL, AR)) : EV sa (d + 4) 62 [.ref te, .int (bI room), .int (bI time)] (n, K, FI, FL, FR, AI, AL, AR) Q := by
  obtain ⟨k0, f0, ⟨kt, -⟩, -⟩ := id hS
  refine n62 k0 ?_
  simp only [e62_0, e62_1, e62_4, e62_5, e62_6, e62_9, e62_10, e62_11, e62_14, e62_15, e62_17, e62_20, e62_21, e62_22, e62_25, e62_28, e62_29, k0, f0, rf_some, true_and, bI_eq0, or_true]
  refine ⟨fun z => ⟨fun z2 => ⟨by simp, c_stepT hS hR hE fun F' G' a1 a2 => ?_⟩, fun z2 => ⟨by simp, ?_⟩⟩, fun z => ⟨by simp, ?_⟩⟩
  · simp only [tl_none, e62_0, e62_1, e62_4, e62_5, e62_6, e62_9, e62_10, e62_11, e62_14, e62_15, e62_17, e62_20, e62_21, e62_22, e62_25, e62_28, e62_29, or_true, true_and]
    exact hok _ (by simp [pFirst, show room = true by simpa using z, show time = true by simpa using z2]) F' G' a1 a2
  · refine c_wrong (f := 6) hS hR fun F' a1 a2 a3 => ?_
    simp only [tl_some, e62_0, e62_1, e62_4, e62_5, e62_6, e62_9, e62_10, e62_11, e62_14, e62_15, e62_17, e62_20, e62_21, e62_22, e62_25, e62_28, e62_29, true_or, true_and]
    exact hno 6 p (by simp [pFirst, show room = true by simpa using z, show time = false by simpa using z2]) F' a1 a2 (a3.toTE (by simp))
  · refine c_wrong (f := 5) hS hR fun F' a1 a2 a3 => ?_
    simp only [tl_some, e62_0, e62_1, e62_4, e62_5, e62_6, e62_9, e62_10, e62_11, e62_14, e62_15, e62_17, e62_20, e62_21, e62_22, e62_25, e62_28, e62_29, true_or, true_and]
    exact hno 5 p (by simp [pFirst, show room = false by simpa using z]) F' a1 a2 (a3.toTE (by simp))
theorem c_takeKey (hS : TelS K FR te h ta) (hR : TokR FI FL (te + 1) (AI ta) E p) (hE : E ≤ 900) {x : Nat} (hx : x < 19) (hno : ∀ f a, pKey (AI ta) E x p = .inl (f, a) → ∀ FI' : Nat → Nat → Int32, FI' 262 te = nI f → FI' 263 te = nI a → TE FI FI' FL FL te → Q (some (.int 0)) (n, K, FI', FL, FR, AI, AL, AR)) (hok : ∀ p', pKey (AI ta) E x p = .inr p' → ∀ (FI' : Nat → Nat → Int32) (FL' : Nat → Nat → Int64), TokR FI' FL' (te + 1) (AI ta) E p' → TK FI FI' FL FL' te → Q (some (.int 1)) (n, K, FI', FL', FR, AI, AL, AR)) : EV sa (d + 11) 63 [.ref te, .ref (sa x)] (n, K, FI, FL, FR, AI, AL, AR) Q := by
  obtain ⟨k0, f0, hTk, -⟩ := id hS
  refine n63 k0 ?_
  simp only [e63_0, e63_1, e63_4, e63_5, e63_8, e63_11, e63_12, e63_13, e63_16, e63_17, e63_18, e63_21, e63_24, e63_25, k0, f0, rf_some, true_and]
  refine ⟨by simp, c_isThe hTk hR hE hx ?_⟩
  simp only [tl_some, e63_0, e63_1, e63_4, e63_5, e63_8, e63_11, e63_12, e63_13, e63_16, e63_17, e63_18, e63_21, e63_24, e63_25, k0, f0, rf_some, true_and, bI_eq0, or_true]
  refine ⟨fun z => ⟨by simp, c_stepT hS hR hE fun F' G' a1 a2 => ?_⟩, fun z => ⟨by simp, ?_⟩⟩
  · simp only [tl_none, e63_0, e63_1, e63_4, e63_5, e63_8, e63_11, e63_12, e63_13, e63_16, e63_17, e63_18, e63_21, e63_24, e63_25, or_true, true_and]
    exact hok _ (by simp [pKey, show isK (AI ta) E p x = true by simpa using z]) F' G' a1 a2
  · refine c_wrong (f := 1) hS hR fun F' a1 a2 a3 => ?_
    simp only [tl_some, e63_0, e63_1, e63_4, e63_5, e63_8, e63_11, e63_12, e63_13, e63_16, e63_17, e63_18, e63_21, e63_24, e63_25, true_or, true_and]
    exact hno 1 p (by simp [pKey, show isK (AI ta) E p x = false by simpa using z]) F' a1 a2 (a3.toTE (by simp))
theorem c_takeWhole (hS : TelS K FR te h ta) (hR : TokR FI FL (te + 1) (AI ta) E p) (hE : E ≤ 900) {lo hi : Nat} (hlo : lo < 1000) (hhi : hi < 1000) (hno : ∀ f a, pWh (AI ta) E lo hi p = .inl (f, a) → ∀ FI' : Nat → Nat → Int32, FI' 262 te = nI f → FI' 263 te = nI a → TE FI FI' FL FL te → Q (some (.int 0)) (n, K, FI', FL, FR, AI, AL, AR)) (hok : ∀ v p', pWh (AI ta) E lo hi p = .inr (v, p') → lo ≤ v → v ≤ hi → ∀ (FI' : Nat → Nat → Int32) (FL' : Nat → Nat → Int64), TokR FI' FL' (te + 1) (AI ta) E p' → FI' 264 te = nI v → TG FI FI' FL FL' te → Q (some (.int 1)) (n, K, FI', FL', FR, AI, AL, AR)) : EV sa (d + 4) 64 [.ref te, .int (nI lo), .int (nI hi)] (n, K, FI, FL, FR, AI, AL, AR) Q := by
  obtain ⟨k0, f0, ⟨kt, -⟩, -⟩ := id hS
  have r3 := hR.2.2.2.1
  have h5 := srt_5 (T := AI ta) (E := E) (p := p)
  have es : (nI (srt (AI ta) E p) = 2) ↔ srt (AI ta) E p = 2 := by rw [show (2 : Int32) = nI 2 from rfl, nI_eq (by omega) (by decide)]
  refine n64 k0 ?_
  simp only [e64_0, e64_1, e64_4, e64_7, e64_8, e64_11, e64_12, e64_13, e64_16, e64_17, e64_18, e64_21, e64_24, e64_25, e64_28, e64_29, e64_32, e64_35, e64_36, e64_39, e64_40, e64_41, e64_44, e64_45, e64_46, e64_47, e64_50, e64_53, e64_56, e64_57, e64_60, e64_63, e64_64, k0, f0, kt, rf_some, r3, es, true_and]
  refine ⟨fun z => ?_, fun z => ⟨by simp, ?_⟩⟩
  · have r6 := hR.2.2.2.2.2.2 z
    have hn := nmv_lt z
    have e4 : nmv (AI ta) E p < lo ∨ hi < nmv (AI ta) E p → pWh (AI ta) E lo hi p = .inl (4, p) := fun y => by
      unfold pWh
      rw [if_pos z, if_neg (by omega)]
    simp only [r6]
    refine ⟨fun y => ⟨by simp, ?_⟩, fun y => ⟨fun y2 => ?_, fun y2 => ⟨by simp, ?_⟩⟩⟩
    · refine c_wrong (f := 4) hS hR fun F' a1 a2 a3 => ?_
      simp only [tl_some, e64_0, e64_1, e64_4, e64_7, e64_8, e64_11, e64_12, e64_13, e64_16, e64_17, e64_18, e64_21, e64_24, e64_25, e64_28, e64_29, e64_32, e64_35, e64_36, e64_39, e64_40, e64_41, e64_44, e64_45, e64_46, e64_47, e64_50, e64_53, e64_56, e64_57, e64_60, e64_63, e64_64, true_or, true_and]
      exact hno 4 p (e4 (Or.inl ((nI_ltI (by omega) (by omega)).mp y))) F' a1 a2 (a3.toTE (by simp))
    · have y1' : ¬ nmv (AI ta) E p < lo := fun q => y (nI_lt q (by omega))
      have y2' := (nI_leI (by omega) (by omega)).mp y2
      have hR2 : TokR (mj_u2 FI 264 te (nI (nmv (AI ta) E p))) FL (te + 1) (AI ta) E p := hR.fx (fun f => mj_u2_2 (by omega)) (fun _ => rfl)
      refine ⟨by simp, c_stepT hS hR2 hE fun F' G' a1 a2 => ?_⟩
      simp only [tl_none, e64_0, e64_1, e64_4, e64_7, e64_8, e64_11, e64_12, e64_13, e64_16, e64_17, e64_18, e64_21, e64_24, e64_25, e64_28, e64_29, e64_32, e64_35, e64_36, e64_39, e64_40, e64_41, e64_44, e64_45, e64_46, e64_47, e64_50, e64_53, e64_56, e64_57, e64_60, e64_63, e64_64, or_true, true_and]
      refine hok (nmv (AI ta) E p) (stp (AI ta) E p) (by unfold pWh; rw [if_pos z, if_pos (by omega)]) (by omega) y2' F' G' a1 ?_ ?_
      · rw [a2.1 264 te (Or.inl (by omega)), mj_u2_s]
      · exact TG.trans ((FIx_u2 (fs := [264]) (by simp)).toTG (by simp)) a2.toTG
    · refine c_wrong (f := 4) hS hR fun F' a1 a2 a3 => ?_
      simp only [tl_some, e64_0, e64_1, e64_4, e64_7, e64_8, e64_11, e64_12, e64_13, e64_16, e64_17, e64_18, e64_21, e64_24, e64_25, e64_28, e64_29, e64_32, e64_35, e64_36, e64_39, e64_40, e64_41, e64_44, e64_45, e64_46, e64_47, e64_50, e64_53, e64_56, e64_57, e64_60, e64_63, e64_64, true_or, true_and]
      have y2' : hi < nmv (AI ta) E p := by
        rcases Nat.lt_or_ge hi (nmv (AI ta) E p) with q | q
        · exact q
        · exact absurd (nI_le q (by omega)) y2
      exact hno 4 p (e4 (Or.inr y2')) F' a1 a2 (a3.toTE (by simp))
  · refine c_wrong (f := 1) hS hR fun F' a1 a2 a3 => ?_
    simp only [tl_some, e64_0, e64_1, e64_4, e64_7, e64_8, e64_11, e64_12, e64_13, e64_16, e64_17, e64_18, e64_21, e64_24, e64_25, e64_28, e64_29, e64_32, e64_35, e64_36, e64_39, e64_40, e64_41, e64_44, e64_45, e64_46, e64_47, e64_50, e64_53, e64_56, e64_57, e64_60, e64_63, e64_64, true_or, true_and]
    exact hno 1 p (by unfold pWh; rw [if_neg z]) F' a1 a2 (a3.toTE (by simp))
theorem c_takeWord (hS : TelS K FR te h ta) (hR : TokR FI FL (te + 1) (AI ta) E p) (hE : E ≤ 900) (hno : ∀ f a, pWd (AI ta) E p = .inl (f, a) → ∀ FI' : Nat → Nat → Int32, FI' 262 te = nI f → FI' 263 te = nI a → TE FI FI' FL FL te → Q (some (.int 0)) (n, K, FI', FL, FR, AI, AL, AR)) (hok : ∀ p', pWd (AI ta) E p = .inr p' → srt (AI ta) E p = 1 → ∀ (FI' : Nat → Nat → Int32) (FL' : Nat → Nat → Int64), TokR FI' FL' (te + 1) (AI ta) E p' → FI' 266 te = nI (wl (AI ta) E p) → PkL (FL' 265 te) (fun k => if k < wl (AI ta) E p then lt (AI ta) p k + 1 else 0) → TG FI FI' FL FL' te → Q (some (.int 1)) (n, K, FI', FL', FR, AI, AL, AR)) : EV sa (d + 4) 65 [.ref te] (n, K, FI, FL, FR, AI, AL, AR) Q := by
  obtain ⟨k0, f0, ⟨kt, -⟩, -⟩ := id hS
  have r3 := hR.2.2.2.1
  have h5 := srt_5 (T := AI ta) (E := E) (p := p)
  have es : (nI (srt (AI ta) E p) = 1) ↔ srt (AI ta) E p = 1 := by rw [show (1 : Int32) = nI 1 from rfl, nI_eq (by omega) (by decide)]
  refine n65 k0 ?_
  simp only [e65_0, e65_1, e65_4, e65_7, e65_8, e65_11, e65_12, e65_13, e65_16, e65_17, e65_18, e65_19, e65_22, e65_25, e65_28, e65_29, e65_30, e65_33, e65_36, e65_39, e65_40, e65_43, e65_46, e65_47, k0, f0, kt, rf_some, r3, es, true_and]
  refine ⟨fun z => ⟨by simp, ?_⟩, fun z => ⟨by simp, ?_⟩⟩
  · obtain ⟨r5, r6⟩ := hR.2.2.2.2.2.1 z
    rw [r5]
    have hR2 : TokR (mj_u2 FI 266 te (nI (wl (AI ta) E p))) (mj_u2 FL 265 te (FL 326 (te + 1))) (te + 1) (AI ta) E p := hR.fx (fun f => mj_u2_2 (by omega)) (fun f => mj_u2_2 (by omega))
    refine c_stepT hS hR2 hE fun F' G' a1 a2 => ?_
    simp only [tl_none, e65_0, e65_1, e65_4, e65_7, e65_8, e65_11, e65_12, e65_13, e65_16, e65_17, e65_18, e65_19, e65_22, e65_25, e65_28, e65_29, e65_30, e65_33, e65_36, e65_39, e65_40, e65_43, e65_46, e65_47, or_true, true_and]
    refine hok (stp (AI ta) E p) (by unfold pWd; rw [if_pos z]) z F' G' a1 ?_ ?_ ?_
    · rw [a2.1 266 te (Or.inl (by omega)), mj_u2_s]
    · rw [a2.2 265 te (Or.inl (by omega)), mj_u2_s]
      exact r6
    · refine TG.trans ⟨fun f a h1 h2 => ?_, fun f a h1 h2 => ?_⟩ a2.toTG
      · exact FIx_u2 (fs := [264, 266]) (by simp) f a h2
      · exact FLx_u2 (fs := [265]) (by simp) f a (h2.imp id (fun y => by simpa using y))
  · refine c_wrong (f := 1) hS hR fun F' a1 a2 a3 => ?_
    simp only [tl_some, e65_0, e65_1, e65_4, e65_7, e65_8, e65_11, e65_12, e65_13, e65_16, e65_17, e65_18, e65_19, e65_22, e65_25, e65_28, e65_29, e65_30, e65_33, e65_36, e65_39, e65_40, e65_43, e65_46, e65_47, true_or, true_and]
    exact hno 1 p (by unfold pWd; rw [if_neg z]) F' a1 a2 (a3.toTE (by simp))
end
