/-- outside Telling and the Hung that it fills nothing changes -/
def TF (te h : Nat) (FI FI' : Nat → Nat → Int32) (FL FL' : Nat → Nat → Int64) (AI AI' : Nat → Nat → Int32) (AL AL' : Nat → Nat → Int64) : Prop := ∀ a, (a < te ∨ te + 4 < a) → (a < h ∨ h + 22 < a) → (∀ f, FI' f a = FI f a) ∧ (∀ f, FL' f a = FL f a) ∧ AI' a = AI a ∧ AL' a = AL a
theorem TF.rfl' {te h : Nat} {FI AI : Nat → Nat → Int32} {FL AL : Nat → Nat → Int64} : TF te h FI FI FL FL AI AI AL AL := fun _ _ _ => ⟨fun _ => rfl, fun _ => rfl, rfl, rfl⟩
theorem TF.trans {te h : Nat} {FI F1 F2 AI A1 A2 : Nat → Nat → Int32} {FL G1 G2 AL L1 L2 : Nat → Nat → Int64} (a : TF te h FI F1 FL G1 AI A1 AL L1) (b : TF te h F1 F2 G1 G2 A1 A2 L1 L2) : TF te h FI F2 FL G2 AI A2 AL L2 := fun z h1 h2 => ⟨fun f => by rw [(b z h1 h2).1, (a z h1 h2).1], fun f => by rw [(b z h1 h2).2.1, (a z h1 h2).2.1], by rw [(b z h1 h2).2.2.1, (a z h1 h2).2.2.1], by rw [(b z h1 h2).2.2.2, (a z h1 h2).2.2.2]⟩
theorem TE.toTF {te h : Nat} {FI F1 AI : Nat → Nat → Int32} {FL G1 AL : Nat → Nat → Int64} (a : TE FI F1 FL G1 te) : TF te h FI F1 FL G1 AI AI AL AL := fun z h1 _ => ⟨fun f => a.1 f z (by omega) (Or.inl (by omega)), fun f => a.2 f z (by omega) (Or.inl (by omega)), rfl, rfl⟩
/-- before the wall is told -/
def Pre (w : Wl) : Prop := (wW w = 0 ∧ wH w = 0 ∧ wL w = 0 ∧ wB w = false ∧ wNB w = 0 ∧ wF w = 0) ∧ wNR w ≤ 3 ∧ wNW w ≤ 6 ∧ ∀ v, v < wNW w → (1 ≤ wWL w v ∧ wWL w v ≤ 8) ∧ ∀ j, j < wWL w v → wWT w v j < 26
/-- what Telling has taken so far -/
def PR (K : Nat → Nat × Nat) (FR : Nat → Nat → Option Nat) (FI AI : Nat → Nat → Int32) (AL : Nat → Nat → Int64) (te h : Nat) (S : PS) : Prop :=
  (FI 261 te = nI (sNp S) ∧ sNp S ≤ 10 ∧ wF (sW S) ≤ 4 ∧ sM S = wF (sW S) + sNp S) ∧
  (∀ b, b < wNB (sW S) → PkN (AL (te + 3) b) (sBn S b)) ∧ (∀ r, r < wNR (sW S) → PkN (AL (te + 4) r) (sRn S r)) ∧
  (SP AI h (fun r => nI (sSh S r)) (fun _ => 0) ∧ ∀ r, r < 3 → sSh S r ≤ 20) ∧ (∀ k, k < sM S → byOK (gR (sHs S k))) ∧
  ((Pre (sW S) ∧ ToldW FI AI AL (h + 1) (sW S) ∧ HungR FI AI h (sW S) (sHs S) 0 ∧ FI 12 h = 0 ∧ sM S = 0) ∨ HC K FR FI AI AL h (h + 1) (sW S) (sHs S) (sM S))
section
variable {sa : Nat → Nat} {d n t h m : Nat} {Q : mj_Q} {K : Nat → Nat × Nat} {FI : Nat → Nat → Int32} {FL : Nat → Nat → Int64} {FR : Nat → Nat → Option Nat} {AI : Nat → Nat → Int32} {AL : Nat → Nat → Int64} {AR : Nat → Nat → Option Nat} {w : Wl} {hs : Nat → Hg}
variable {te ta E p : Nat} {S : PS}
theorem PR.tell {F' : Nat → Nat → Int32} {G G' : Nat → Nat → Int64} (hS : TelS K FR te h ta) (hP : PR K FR FI AI AL te h S) (a : TG FI F' G G' te) : PR K FR F' AI AL te h S := by
  have sep := hS.2.2.2.2.2.2.2.2.2.2.1
  obtain ⟨⟨p1, p2, p3, p4⟩, b, c, e, g, r⟩ := hP
  have fh : ∀ f, F' f h = FI f h := fun f => a.1 f h (by omega) (Or.inl (by omega))
  have ft : ∀ f, F' f (h + 1) = FI f (h + 1) := fun f => a.1 f (h + 1) (by omega) (Or.inl (by omega))
  refine ⟨⟨by rw [a.1 261 te (by omega) (Or.inr (by simp))]; exact p1, p2, p3, p4⟩, b, c, e, g, ?_⟩
  rcases r with ⟨r1, ⟨r2, r2'⟩, ⟨r3, r3'⟩, r4, r5⟩ | r
  · refine Or.inl ⟨r1, ⟨by simp only [ft]; exact r2, r2'⟩, ⟨by rw [fh]; exact r3, r3'.1, by rw [fh]; exact r3'.2.1, by rw [fh]; exact r3'.2.2.1, r3'.2.2.2⟩, by rw [fh]; exact r4, r5⟩
  · exact Or.inr (r.fx fh ft)
theorem PR.told (hP : PR K FR FI AI AL te h S) : ToldW FI AI AL (h + 1) (sW S) := by
  rcases hP.2.2.2.2.2 with r | r
  · exact r.2.1
  · exact r.2.2.2.2.1.toW
theorem PR.bounds (hP : PR K FR FI AI AL te h S) : wNB (sW S) ≤ 4 ∧ wNR (sW S) ≤ 3 ∧ wNW (sW S) ≤ 6 ∧ wW (sW S) ≤ 8 ∧ wH (sW S) ≤ 4 := by
  rcases hP.2.2.2.2.2 with r | r
  · obtain ⟨⟨⟨x1, x2, x3, x4, x5, x6⟩, x7, x8, -⟩, -⟩ := r
    omega
  · have hw := r.2.2.2.1
    exact ⟨hw.2.2.2.1, hw.2.2.2.2.1, hw.2.2.2.2.2.1, hw.1.2, hw.2.1.2⟩
theorem PR.hc (hP : PR K FR FI AI AL te h S) (hw : 0 < wW (sW S)) : HC K FR FI AI AL h (h + 1) (sW S) (sHs S) (sM S) := by
  rcases hP.2.2.2.2.2 with r | r
  · have := r.1.1.1
    omega
  · exact r
theorem PR.words (hP : PR K FR FI AI AL te h S) : ∀ v, v < wNW (sW S) → PkN (AL (h + 1 + 9) v) (wordL (sW S) v) := by
  intro v hv
  have t := hP.told.2.2 v hv
  rcases hP.2.2.2.2.2 with r | r
  · have := r.1.2.2.2 v hv
    exact PkN.of this.1.2 this.2 t.2.2
  · have := r.2.2.2.1.2.2.2.2.2.2.2 v hv
    exact PkN.of this.1.2 this.2 t.2.2
/-- the same hangs on a wall of which more is told -/
theorem HC.wc {FI' AI' : Nat → Nat → Int32} {AL' : Nat → Nat → Int64} {w' : Wl} (hC : HC K FR FI AI AL h t w hs m) (hw' : wOK w') (hTR' : ToldR FI' AI' AL' t w') (a1 : wW w' = wW w) (a2 : wH w' = wH w) (a3 : wNB w ≤ wNB w') (a4 : ∀ b, b < wNB w → wBW w' b = wBW w b ∧ wBH w' b = wBH w b ∧ wK w' b = wK w b ∧ wTL w' b = wTL w b ∧ wTX w' b = wTX w b) (f1 : FI' 1 h = FI 1 h) (f2 : FI' 2 h = nI (wF w')) (f3 : FI' 3 h = FI 3 h) (f12 : FI' 12 h = FI 12 h) (a5 : ∀ j, 15 ≤ j → j ≤ 19 → AI' (h + j) = AI (h + j)) (a6 : AL' (h + 22) = AL (h + 22)) : HC K FR FI' AI' AL' h t w' hs m := by
  obtain ⟨hH, hT, ht, hw, hTR, ⟨r1, r2, r3, r4, r5⟩, hL, sep⟩ := hC
  have cv : ∀ k, k < m → covg w' (hs k) = covg w (hs k) := fun k hk => by
    obtain ⟨z1, z2, -⟩ := a4 _ (r5 k hk).1.1
    funext c
    unfold covg cov
    rw [a1, z1, z2]
  have tpe : ∀ j, j ≤ m → ∀ c, tp w' hs j c = tp w hs j c := fun j => by
    induction j with
    | zero => intro _ c; rfl
    | succ j ih =>
      intro hj c
      simp only [tp]
      rw [cv j (by omega), ih (by omega) c]
  have le : ∀ c, letr w' hs m c = letr w hs m c := fun c => by
    unfold letr
    rw [tpe m (Nat.le_refl _) c]
    cases e : tp w hs m c with
    | none => rfl
    | some k =>
      obtain ⟨z1, z2, z3, z4, z5⟩ := a4 _ (r5 k (tp_lt e).1).1.1
      simp only [Option.map_some]
      rw [a1, z1, z4, z5]
  refine ⟨hH, hT, ht, hw', hTR', ⟨by rw [f1]; exact r1, r2, f2, ?_, fun k hk => ?_⟩, ?_, sep⟩
  · rw [f3, r4]
    congr 1
    exact ct_congr fun k hk => by rw [(a4 _ (r5 k hk).1.1).2.2.1]
  · obtain ⟨g1, g2, g3, g4, g5, g6⟩ := r5 k hk
    obtain ⟨z1, z2, -⟩ := a4 _ g1.1
    rw [a5 15 (by omega) (by omega), a5 16 (by omega) (by omega), a5 17 (by omega) (by omega), a5 18 (by omega) (by omega), a5 19 (by omega) (by omega), a1, cv k hk]
    refine ⟨⟨Nat.lt_of_lt_of_le g1.1 a3, by rw [z1, a1]; exact g1.2.1, by rw [z2, a2]; exact g1.2.2⟩, g2, g3, g4, g5, g6.congr fun c _ => by rw [tpe m (Nat.le_refl _) c]⟩
  · unfold LetR at hL ⊢
    rw [f12, a6]
    rcases hL with z | ⟨z1, z2⟩
    · exact Or.inl z
    · refine Or.inr ⟨z1, fun y hy => (z2 y hy).congr fun x _ => ?_⟩
      unfold rowf
      rw [a1, a2, le]
theorem c_hclear (hH : HungS K FR h) (hT : ToldS K FR (h + 1)) (ht : FR 0 h = some (h + 1)) (hQ : ∀ FI' AI' : Nat → Nat → Int32, ToldW FI' AI' AL (h + 1) w_0 → (∀ hs, HungR FI' AI' h w_0 hs 0) → FI' 12 h = 0 → SP AI' h (fun _ => 0) (fun _ => 0) → (∀ f a, a ≠ h → a ≠ h + 1 → FI' f a = FI f a) → AIx AI AI' (h + 19) (h + 21) → Q none (n, K, FI', FL, FR, AI', AL, AR)) : EV sa (d + 2) 1 [.ref h] (n, K, FI, FL, FR, AI, AL, AR) Q := by
  obtain ⟨k0, -, -, -, -, -, ⟨f9, k20⟩, ⟨f10, k21⟩, -⟩ := id hH
  refine n1 k0 ?_
  simp only [e1_0, e1_1, e1_4, e1_7, e1_8, e1_9, e1_12, e1_13, e1_14, e1_17, e1_18, e1_20, e1_21, e1_24, e1_25, e1_28, e1_29, e1_30, e1_31, e1_32, e1_35, e1_36, e1_37, e1_38, e1_41, e1_44, e1_45, e1_48, k0, ht, rf_some, true_and]
  refine ⟨by simp, c_tclear hT fun F1 a1 a2 => ?_⟩
  simp only [tl_none, e1_0, e1_1, e1_4, e1_7, e1_8, e1_9, e1_12, e1_13, e1_14, e1_17, e1_18, e1_20, e1_21, e1_24, e1_25, e1_28, e1_29, e1_30, e1_31, e1_32, e1_35, e1_36, e1_37, e1_38, e1_41, e1_44, e1_45, e1_48, k0, true_and, mj_kl, mj_u]
  generalize hF2 : mj_u2 (mj_u2 F1 1 h 0) 2 h 0 = F2
  have c1 : F2 1 h = nI 0 := by rw [← hF2, mj_u2_1 (by decide), mj_u2_s]; rfl
  have c2 : F2 2 h = nI 0 := by rw [← hF2, mj_u2_s]; rfl
  have c3 : ∀ a, a ≠ h → ∀ f, F2 f a = F1 f a := fun a ha f => by
    rw [← hF2]
    simp only [mj_u2]
    rw [if_neg (fun z => ha z.2), if_neg (fun z => ha z.2)]
  have tw : ToldW F2 AI AL (h + 1) w_0 := ⟨by simp only [c3 (h + 1) (by omega)]; exact a1.1, a1.2.1, a1.2.2⟩
  have loop : ∀ rr i, i + rr = 3 → ∀ A : Nat → Nat → Int32, AIx AI A (h + 20) (h + 21) → (∀ r, r < i → A (h + 20) r = 0 ∧ A (h + 21) r = 0) → WP sa (EV sa (d + 1)) 1 Q 0 0 19 [.ref h, .int (nI i)] [] (n, K, F2, FL, FR, A, AL, AR) := by
    intro rr
    induction rr with
    | zero =>
      intro i hi A h1 h2
      have hi' : i = 3 := by omega
      subst hi'
      rw [e1_19]
      simp only [e1_0, e1_1, e1_4, e1_7, e1_8, e1_9, e1_12, e1_13, e1_14, e1_17, e1_18, e1_20, e1_21, e1_24, e1_25, e1_28, e1_29, e1_30, e1_31, e1_32, e1_35, e1_36, e1_37, e1_38, e1_41, e1_44, e1_45, e1_48, k0]
      refine ⟨fun _ => ⟨by simp, c_look (w := w_0) (hs := fun _ => (0, 0, 0, 0)) (m := 0) hH hT ht (by decide) (fun b hb => absurd hb (Nat.not_lt_zero b)) (by omega) ⟨c1, by omega, c2, fun k hk => absurd hk (Nat.not_lt_zero k)⟩ fun F3 A3 b1 b2 b3 b4 => ?_⟩, fun z => absurd (by decide) z⟩
      simp only [tl_none, e1_0, e1_1, e1_4, e1_7, e1_8, e1_9, e1_12, e1_13, e1_14, e1_17, e1_18, e1_20, e1_21, e1_24, e1_25, e1_28, e1_29, e1_30, e1_31, e1_32, e1_35, e1_36, e1_37, e1_38, e1_41, e1_44, e1_45, e1_48]
      refine hQ F3 A3 ⟨by simp only [b3 _ (h + 1) (Or.inl (show h + 1 ≠ h by omega))]; exact tw.1, fun b hb => absurd hb (Nat.not_lt_zero b), fun b hb => absurd hb (Nat.not_lt_zero b)⟩ (fun hs => ⟨b1.1, b1.2.1, b1.2.2.1, by rw [b1.2.2.2.1]; rfl, fun k hk => absurd hk (Nat.not_lt_zero k)⟩) b2 (fun r hr => ?_) (fun f a y1 y2 => ?_) (fun a ha => ?_)
      · rw [b4 (h + 20) (by omega), b4 (h + 21) (by omega)]
        exact h2 r hr
      · rw [b3 f a (Or.inl y1), c3 a y1, a2 f a (Or.inl y2)]
      · rw [b4 a (by omega), h1 a (by omega)]
    | succ rr ih =>
      intro i hi A h1 h2
      have hin : vp_in (nI i) 3 := vp_in_nI (by omega) (by decide)
      have hcl : (nI i).toNatClampNeg = i := nI_clamp (by omega)
      rw [e1_19]
      simp only [e1_0, e1_1, e1_4, e1_7, e1_8, e1_9, e1_12, e1_13, e1_14, e1_17, e1_18, e1_20, e1_21, e1_24, e1_25, e1_28, e1_29, e1_30, e1_31, e1_32, e1_35, e1_36, e1_37, e1_38, e1_41, e1_44, e1_45, e1_48, k0, f9, f10, k20, k21, rf_some, hin, hcl, nI_1, true_and, mj_kl]
      refine ⟨fun z => absurd z (by rw [show (3 : Int32) = nI 3 from rfl]; exact nI_ge (by omega) (by omega)), fun _ => ih (i + 1) (by omega) _ ?_ ?_⟩
      · intro q hq
        funext z
        rw [mj_u2_1 (by omega), mj_u2_1 (by omega), h1 q hq]
      · intro r hr
        by_cases e : r = i
        · subst e
          rw [mj_u2_1 (by omega), mj_u2_s, mj_u2_s]
          exact ⟨rfl, rfl⟩
        · rw [mj_u2_2 e, mj_u2_2 e, mj_u2_2 e, mj_u2_2 e]
          exact h2 r (by omega)
  have := loop 3 0 (by omega) AI AIx.rfl' (fun r hr => by omega)
  simpa [nI_0] using this
end
