/-- nothing changes outside a region -/
def Fr (lo hi : Nat) (FI FI' AI AI' : Nat → Nat → Int32) (AL AL' : Nat → Nat → Int64) : Prop := ∀ a, (a < lo ∨ hi < a) → (∀ f, FI' f a = FI f a) ∧ AI' a = AI a ∧ AL' a = AL a
theorem Fr.rfl' {lo hi : Nat} {FI AI : Nat → Nat → Int32} {AL : Nat → Nat → Int64} : Fr lo hi FI FI AI AI AL AL := fun _ _ => ⟨fun _ => rfl, rfl, rfl⟩
theorem Fr.trans {lo hi : Nat} {FI F1 F2 AI A1 A2 : Nat → Nat → Int32} {AL L1 L2 : Nat → Nat → Int64} (a : Fr lo hi FI F1 AI A1 AL L1) (b : Fr lo hi F1 F2 A1 A2 L1 L2) : Fr lo hi FI F2 AI A2 AL L2 := fun z hz => ⟨fun f => by rw [(b z hz).1, (a z hz).1], by rw [(b z hz).2.1, (a z hz).2.1], by rw [(b z hz).2.2, (a z hz).2.2]⟩
theorem Fr.wide {lo hi lo' hi' : Nat} {FI F1 AI A1 : Nat → Nat → Int32} {AL L1 : Nat → Nat → Int64} (a : Fr lo hi FI F1 AI A1 AL L1) (h1 : lo' ≤ lo) (h2 : hi ≤ hi') : Fr lo' hi' FI F1 AI A1 AL L1 := fun z hz => a z (by omega)
theorem TX.toFr {FI F1 AI A1 : Nat → Nat → Int32} {AL L1 : Nat → Nat → Int64} {h : Nat} (a : TX FI F1 AI A1 AL L1 h) : Fr h (h + 22) FI F1 AI A1 AL L1 := fun z hz => ⟨fun f => a.1 f z (by omega), a.2.1 z (by omega), a.2.2 z (by omega)⟩
theorem RX.toFr {FI F1 AI A1 : Nat → Nat → Int32} {AL L1 : Nat → Nat → Int64} {q : Nat} (a : RX FI F1 AI A1 AL L1 q) : Fr q (q + 23) FI F1 AI A1 AL L1 := fun z hz => ⟨fun f => a.1 f z (by omega) (Or.inl (by omega)), a.2.1 z (by omega), a.2.2 z (by omega)⟩
theorem HC.fr {K : Nat → Nat × Nat} {FR : Nat → Nat → Option Nat} {FI FI' AI AI' : Nat → Nat → Int32} {AL AL' : Nat → Nat → Int64} {h t m lo hi : Nat} {w : Wl} {hs : Nat → Hg} (hC : HC K FR FI AI AL h t w hs m) (hF : Fr lo hi FI FI' AI AI' AL AL') (s1 : h + 22 < lo ∨ hi < h) (s2 : t + 13 < lo ∨ hi < t) : HC K FR FI' AI' AL' h t w hs m := by
  obtain ⟨hH, hT, ht, hw, hTR, ⟨r1, r2, r3, r4, r5⟩, hL, sep⟩ := hC
  have fh : ∀ f, FI' f h = FI f h := (hF h (by omega)).1
  have ft : ∀ f, FI' f t = FI f t := (hF t (by omega)).1
  have ah : ∀ j, j ≤ 22 → AI' (h + j) = AI (h + j) := fun j hj => (hF (h + j) (by omega)).2.1
  have at' : ∀ j, j ≤ 13 → AI' (t + j) = AI (t + j) := fun j hj => (hF (t + j) (by omega)).2.1
  have lt' : ∀ j, j ≤ 13 → AL' (t + j) = AL (t + j) := fun j hj => (hF (t + j) (by omega)).2.2
  have lh : AL' (h + 22) = AL (h + 22) := (hF (h + 22) (by omega)).2.2
  refine ⟨hH, hT, ht, hw, ?_, ⟨by rw [fh]; exact r1, r2, by rw [fh]; exact r3, by rw [fh]; exact r4, ?_⟩, ?_, sep⟩
  · obtain ⟨a1, a2, a3, a4⟩ := hTR
    refine ⟨by simp only [ft]; exact a1, ?_, ?_, ?_⟩
    · simp only [at' 1 (by omega), at' 2 (by omega), at' 3 (by omega), at' 4 (by omega), at' 5 (by omega), at' 6 (by omega), lt' 7 (by omega), lt' 8 (by omega)]
      exact a2
    · simp only [at' 11 (by omega), lt' 9 (by omega), lt' 10 (by omega)]
      exact a3
    · simp only [at' 12 (by omega), at' 13 (by omega)]
      exact a4
  · simp only [ah 15 (by omega), ah 16 (by omega), ah 17 (by omega), ah 18 (by omega), ah 19 (by omega)]
    exact r5
  · unfold LetR at hL ⊢
    rw [fh, lh]
    exact hL
theorem RowS.told {K : Nat → Nat × Nat} {FR : Nat → Nat → Option Nat} {q a : Nat} {v : Option Nat} (hS : RowS K FR q) : RowS K (mj_u2 FR 0 a v) q := ⟨hS.1, by rw [mj_u2_1 (by decide)]; exact hS.2.1, hS.2.2.told⟩
/-- what stays seen of a bill, whatever comes next -/
def stayN (w : Wl) (hs : Nat → Hg) (m b c : Nat) : Nat := mnm (fun i => if mvp w (puth hs m (b, c % wW w, c / wW w, -2)) (m + 1) i then ct (fun z => cov w b (c % wW w) (c / wW w) z && !cov w (i / 32) (i % 32 % wW w) (i % 32 / wW w) z) 32 else 32) (ct (cov w b (c % wW w) (c / wW w)) 32) (32 * wNB w)
def bestN (w : Wl) (hs : Nat → Hg) (m b : Nat) : Nat → Option (Nat × Nat)
  | 0 => none
  | c + 1 => if mayAt w hs m b c then (match bestN w hs m b c with
    | none => some (c, stayN w hs m b c)
    | some g => if g.2 < stayN w hs m b c then some (c, stayN w hs m b c) else some g) else bestN w hs m b c
theorem stayN_le (w : Wl) (hs : Nat → Hg) (m b c : Nat) : stayN w hs m b c ≤ 32 := Nat.le_trans (mnm_le_top _ _ _) (ct_le _ _)
theorem bestN_lt {w : Wl} {hs : Nat → Hg} {m b : Nat} : ∀ {c : Nat} {g : Nat × Nat}, bestN w hs m b c = some g → g.1 < c ∧ g.2 ≤ 32
  | 0, g, h => by simp [bestN] at h
  | c + 1, g, h => by
    have hl := stayN_le w hs m b c
    simp only [bestN] at h
    split at h
    · split at h
      · cases h; exact ⟨by omega, hl⟩
      · next g0 hg0 =>
        split at h
        · cases h; exact ⟨by omega, hl⟩
        · cases h
          have := bestN_lt hg0
          exact ⟨by omega, this.2⟩
    · have := bestN_lt h
      exact ⟨by omega, this.2⟩
/-- a pass over the bills -/
def lifeB (w : Wl) (k : Nat) (hang : Bool) : Nat → (Nat → Hg) × Nat → (Nat → Hg) × Nat
  | 0, s => s
  | b + 1, s => match fnd (fun c => couldAt w (lifeB w k hang b s).1 (lifeB w k hang b s).2 b c k hang) (wW w * wH w) with
    | some c => (puth (lifeB w k hang b s).1 (lifeB w k hang b s).2 (b, c % wW w, c / wW w, -2), (lifeB w k hang b s).2 + 1)
    | none => lifeB w k hang b s
def lifeN (w : Wl) (k : Nat) (hang : Bool) : Nat → (Nat → Hg) × Nat → (Nat → Hg) × Nat
  | 0, s => s
  | f + 1, s => if s.2 < (lifeB w k hang (wNB w) s).2 then lifeN w k hang f (lifeB w k hang (wNB w) s) else lifeB w k hang (wNB w) s
theorem fnd_first {p : Nat → Bool} : ∀ {n : Nat}, n < 1000 → fnd (fun c => p c && decide ((0 : Int32) = nI (ct p c))) n = fnd p n
  | 0, _ => rfl
  | n + 1, h => by
    simp only [fnd]
    rw [fnd_first (by omega)]
    cases e : fnd p n with
    | some k => rfl
    | none =>
      have hz : ct p n = 0 := ct_zero.mpr (ex_false.mpr (fnd_none.mp e))
      simp [hz, nI_0]
section
variable {sa : Nat → Nat} {d n t h m : Nat} {Q : mj_Q} {K : Nat → Nat × Nat} {FI : Nat → Nat → Int32} {FL : Nat → Nat → Int64} {FR : Nat → Nat → Option Nat} {AI : Nat → Nat → Int32} {AL : Nat → Nat → Int64} {AR : Nat → Nat → Option Nat} {w : Wl} {hs : Nat → Hg}
variable {q o : Nat}
theorem c_refusal0 (hS : RowS K FR q) (hO : HungS K FR o) (hT : ToldS K FR t) (ht : FR 0 o = some t) (h0 : FI 384 t = 0) {D M : Int32} (hQ : Q (some (.int 1)) (n, K, FI, FL, FR, AI, AL, AR)) : EV sa (d + 1) 31 [.ref q, .ref o, .int D, .int M] (n, K, FI, FL, FR, AI, AL, AR) Q := by
  refine n31 hS.1 ?_
  simp only [e31_0, e31_1, e31_4, e31_7, e31_10, e31_11, e31_12, e31_13, e31_14, e31_17, e31_18, e31_19, e31_22, e31_23, e31_24, e31_25, e31_28, e31_29, e31_32, e31_33, e31_34, e31_37, e31_38, e31_39, e31_42, e31_43, e31_44, e31_45, e31_48, e31_51, e31_52, e31_55, e31_56, hO.1, ht, hT.1, rf_some, true_and, h0]
  exact ⟨fun z => absurd z (by decide), fun _ => hQ⟩
theorem c_refusal (hS : RowS K FR q) (hO : HC K FR FI AI AL o t w hs m) (sep : q + 23 < o ∨ o + 22 < q) (sep2 : t + 13 < q ∨ q + 23 < t) {D M : Int32} {k : Nat} (hk : ¬ (D < 1 ∨ 4 < D) → M = nI k ∧ k ≤ 4) (hQ2 : (D < 1 ∨ 4 < D) → Q (some (.int 2)) (n, K, FI, FL, FR, AI, AL, AR)) (hQ : ¬ (D < 1 ∨ 4 < D) → ∀ (FI' AI' : Nat → Nat → Int32) (AL' : Nat → Nat → Int64), HC K (mj_u2 FR 0 (q + 1) (some t)) FI' AI' AL' o t w hs m → Fr q (q + 23) FI FI' AI AI' AL AL' → (NRw w k hs m ≤ 20000 → FI' 130 q = nI (LRw w k hs m)) → Q (some (.int (if NRw w k hs m ≤ 20000 then 0 else 3))) (n, K, FI', FL, mj_u2 FR 0 (q + 1) (some t), AI', AL', AR)) : EV sa (d + k + 7) 31 [.ref q, .ref o, .int D, .int M] (n, K, FI, FL, FR, AI, AL, AR) Q := by
  have hS' := hS.told (a := q + 1) (v := some t)
  have hne : q ≠ t := fun e => by omega
  have hW := hO.2.2.2.1.1
  have k0 := hS.1
  refine n31 hS.1 ?_
  simp only [e31_0, e31_1, e31_4, e31_7, e31_10, e31_11, e31_12, e31_13, e31_14, e31_17, e31_18, e31_19, e31_22, e31_23, e31_24, e31_25, e31_28, e31_29, e31_32, e31_33, e31_34, e31_37, e31_38, e31_39, e31_42, e31_43, e31_44, e31_45, e31_48, e31_51, e31_52, e31_55, e31_56, hO.1.1, hO.2.2.1, hO.2.1.1, rf_some, true_and, hO.2.2.2.2.1.1.1, k0, hS.2.1]
  refine ⟨fun _ => ⟨fun z => hQ2 (Or.inl z), fun z => ⟨fun z2 => ⟨by simp, ?_⟩, fun z2 => hQ2 (Or.inr (Int32.not_le.mp z2))⟩⟩, fun z => absurd (nI_lt (a := 0) (by omega) (by omega)) z⟩
  have hD : ¬ (D < 1 ∨ 4 < D) := fun e => e.elim z (fun e => absurd z2 (Int32.not_le.mpr e))
  obtain ⟨rfl, hk4⟩ := hk hD
  refine C_hangAs hS.2.2 hO (by omega) (by omega) fun F1 A1 b1 b2 b3 b4 => ?_
  simp only [tl_none, e31_0, e31_1, e31_4, e31_7, e31_10, e31_11, e31_12, e31_13, e31_14, e31_17, e31_18, e31_19, e31_22, e31_23, e31_24, e31_25, e31_28, e31_29, e31_32, e31_33, e31_34, e31_37, e31_38, e31_39, e31_42, e31_43, e31_44, e31_45, e31_48, e31_51, e31_52, e31_55, e31_56, k0, true_and]
  generalize hF2 : mj_u2 (mj_u2 F1 129 q 0) 130 q 0 = F2
  have c129 : F2 129 q = nI 0 := by rw [← hF2, mj_u2_1 (by decide), mj_u2_s]; rfl
  have c130 : F2 130 q = nI 0 := by rw [← hF2, mj_u2_s]; rfl
  have eF : ∀ a, a ≠ q → ∀ f, F2 f a = F1 f a := fun a ha f => by
    rw [← hF2]
    simp only [mj_u2]
    rw [if_neg (fun z => ha z.2), if_neg (fun z => ha z.2)]
  have hC2 : HC K (mj_u2 FR 0 (q + 1) (some t)) F2 A1 AL (q + 1) t w hs m := b1.fx (eF (q + 1) (by omega)) (eF t (by omega))
  have hO2 : HC K (mj_u2 FR 0 (q + 1) (some t)) F2 A1 AL o t w hs m := b2.fx (eF o (by omega)) (eF t (by omega))
  have fr1 : Fr q (q + 23) FI F2 AI A1 AL AL := fun a ha => ⟨fun f => by rw [eF a (by omega), b3 f a (Or.inl (by omega))], b4 a (by omega), rfl⟩
  refine ⟨by simp, ?_⟩
  refine c_countBehind hS' k (len := 0) (c := 0) (lg := 0) hC2 c129 (by omega) c130 (Nat.le_refl _) (by omega) (Nat.zero_add _) hk4 fun F3 A3 L3 b e1 e2 e3 e4 => ?_
  have hq := hQ hD F3 A3 L3 (hO2.fr e2.toFr (by omega) (by omega)) (fr1.trans e2.toFr)
  simp only [Nat.zero_add] at e3 e4
  simp only [tl_some, e31_0, e31_1, e31_4, e31_7, e31_10, e31_11, e31_12, e31_13, e31_14, e31_17, e31_18, e31_19, e31_22, e31_23, e31_24, e31_25, e31_28, e31_29, e31_32, e31_33, e31_34, e31_37, e31_38, e31_39, e31_42, e31_43, e31_44, e31_45, e31_48, e31_51, e31_52, e31_55, e31_56, bI_eq0]
  refine ⟨fun y => ?_, fun y => ?_⟩
  · have : ¬ NRw w k hs m ≤ 20000 := fun z => by rw [e3.mpr z] at y; cases y
    rw [if_neg this] at hq
    exact hq (fun z => absurd z this)
  · have y' : b = true := by simpa using y
    have := e3.mp y'
    rw [if_pos this] at hq
    exact hq (fun _ => by rw [(e4 y').2]; congr 1)
theorem c_shortestRow (hS : RowS K FR q) (hO : HC K FR FI AI AL o t w hs m) (sep : q + 23 < o ∨ o + 22 < q) (sep2 : t + 13 < q ∨ q + 23 < t) {r : Int32} {k : Nat} (hk : k ≤ 4) (hQ : ∀ (FI' AI' : Nat → Nat → Int32) (AL' : Nat → Nat → Int64), HC K (mj_u2 FR 0 (q + 1) (some t)) FI' AI' AL' o t w hs m → Fr q (q + 23) FI FI' AI AI' AL AL' → Q (some (.int (if SRw w (goalOf w r) r k hs m ≤ k then nI (SRw w (goalOf w r) r k hs m) else -2))) (n, K, FI', FL, mj_u2 FR 0 (q + 1) (some t), AI', AL', AR)) : EV sa (d + k + 7) 33 [.ref q, .ref o, .int r, .int (nI k)] (n, K, FI, FL, FR, AI, AL, AR) Q := by
  have hS' := hS.told (a := q + 1) (v := some t)
  have k0 := hS.1
  have hle := SRw_le w (goalOf w r) r k hs m
  refine n33 hS.1 ?_
  simp only [e33_0, e33_1, e33_4, e33_5, e33_8, e33_9, e33_10, e33_11, e33_12, e33_15, e33_17, e33_19, e33_20, e33_23, e33_25, e33_28, e33_30, k0, hS.2.1, rf_some, true_and]
  refine ⟨by simp, C_hangAs hS.2.2 hO (by omega) (by omega) fun F1 A1 b1 b2 b3 b4 => ?_⟩
  simp only [tl_none, e33_0, e33_1, e33_4, e33_5, e33_8, e33_9, e33_10, e33_11, e33_12, e33_15, e33_17, e33_19, e33_20, e33_23, e33_25, e33_28, e33_30]
  refine ⟨by simp, c_shortestBehind hS' k (len := 0) (Nat.le_refl _) b1 (Nat.zero_add _) hk fun F3 A3 L3 e1 e2 => ?_⟩
  have fr1 : Fr q (q + 23) FI F1 AI A1 AL AL := fun a ha => ⟨fun f => b3 f a (Or.inl (by omega)), b4 a (by omega), rfl⟩
  have hq := hQ F3 A3 L3 (b2.fr e2.toFr (by omega) (by omega)) (fr1.trans (e2.toFr.wide (by omega) (by omega)))
  simp only [tl_some, e33_0, e33_1, e33_4, e33_5, e33_8, e33_9, e33_10, e33_11, e33_12, e33_15, e33_17, e33_19, e33_20, e33_23, e33_25, e33_28, e33_30, Nat.zero_add, mj_kl]
  refine ⟨fun z => ?_, fun z => ?_⟩
  · rw [if_pos ((nI_leI (by omega) (by omega)).mp z)] at hq; exact hq
  · rw [if_neg (fun e => z (nI_le e (by omega)))] at hq; exact hq
theorem c_nextWins (hS : RowS K FR q) (hO : HC K FR FI AI AL o t w hs m) (sep : q + 23 < o ∨ o + 22 < q) (sep2 : t + 13 < q ∨ q + 23 < t) {k : Nat} (hk : k ≤ 4) (hQ : ∀ (FI' AI' : Nat → Nat → Int32) (AL' : Nat → Nat → Int64), HC K (mj_u2 FR 0 (q + 1) (some t)) FI' AI' AL' o t w hs m → Fr q (q + 23) FI FI' AI AI' AL AL' → Q (some (.int (bI (WNw w k true hs m)))) (n, K, FI', FL, mj_u2 FR 0 (q + 1) (some t), AI', AL', AR)) : EV sa (d + k + 7) 35 [.ref q, .ref o, .int (nI k)] (n, K, FI, FL, FR, AI, AL, AR) Q := by
  have hS' := hS.told (a := q + 1) (v := some t)
  have k0 := hS.1
  refine n35 hS.1 ?_
  simp only [e35_0, e35_1, e35_4, e35_5, e35_8, e35_9, e35_10, e35_11, e35_14, k0, hS.2.1, rf_some, true_and]
  refine ⟨by simp, C_hangAs hS.2.2 hO (by omega) (by omega) fun F1 A1 b1 b2 b3 b4 => ?_⟩
  simp only [tl_none, e35_0, e35_1, e35_4, e35_5, e35_8, e35_9, e35_10, e35_11, e35_14]
  refine ⟨by simp, c_bringsAbout hS' k (own := true) hk b1 fun F3 A3 L3 e1 e2 => ?_⟩
  have fr1 : Fr q (q + 23) FI F1 AI A1 AL AL := fun a ha => ⟨fun f => b3 f a (Or.inl (by omega)), b4 a (by omega), rfl⟩
  have hq := hQ F3 A3 L3 (b2.fr e2.toFr (by omega) (by omega)) (fr1.trans (e2.toFr.wide (by omega) (by omega)))
  simp only [tl_some, e35_0, e35_1, e35_4, e35_5, e35_8, e35_9, e35_10, e35_11, e35_14]
  exact ⟨bI_01 _, hq⟩
end
