/-- a Hung with its Told, the wall and what hangs -/
def HC (K : Nat → Nat × Nat) (FR : Nat → Nat → Option Nat) (FI AI : Nat → Nat → Int32) (AL : Nat → Nat → Int64) (h t : Nat) (w : Wl) (hs : Nat → Hg) (m : Nat) : Prop := HungS K FR h ∧ ToldS K FR t ∧ FR 0 h = some t ∧ wOK w ∧ ToldR FI AI AL t w ∧ HungR FI AI h w hs m ∧ LetR FI AL h w hs m ∧ (t + 13 < h + 15 ∨ h + 22 < t)
theorem HungS.ne {K : Nat → Nat × Nat} {FR : Nat → Nat → Option Nat} {h t : Nat} (hH : HungS K FR h) (hT : ToldS K FR t) : t ≠ h := fun e => by
  have h1 := hT.1
  rw [e, hH.1] at h1
  cases h1
theorem HungR.fr {FI FI' AI : Nat → Nat → Int32} {h m : Nat} {w : Wl} {hs : Nat → Hg} (hR : HungR FI AI h w hs m) (hF : FIx FI FI' h [12]) : HungR FI' AI h w hs m := by
  obtain ⟨r1, r2, r3, r4, r5⟩ := hR
  refine ⟨?_, r2, ?_, ?_, r5⟩
  · rw [hF 1 h (by simp)]; exact r1
  · rw [hF 2 h (by simp)]; exact r3
  · rw [hF 3 h (by simp)]; exact r4
theorem HC.lt' {K : Nat → Nat × Nat} {FR : Nat → Nat → Option Nat} {FI FI' AI : Nat → Nat → Int32} {AL AL' : Nat → Nat → Int64} {h t m : Nat} {w : Wl} {hs : Nat → Hg} (hC : HC K FR FI AI AL h t w hs m) (hL : LetR FI' AL' h w hs m) (hF : FIx FI FI' h [12]) (hA : ALx AL AL' (h + 22) (h + 22)) : HC K FR FI' AI AL' h t w hs m := by
  obtain ⟨a, b, c, e, f, g, -, i⟩ := hC
  exact ⟨a, b, c, e, ToldR.frame (lo := h + 15) (hi := h + 22) f hF (a.ne b) AIx.rfl' (fun q _ _ => hA q (by omega)) (by omega), g.fr hF, hL, i⟩
def onAt (w : Wl) (b c : Nat) : Bool := decide (c % wW w + wBW w b ≤ wW w ∧ c / wW w + wBH w b ≤ wH w)
def couldAt (w : Wl) (hs : Nat → Hg) (m b c k : Nat) (hang : Bool) : Bool := onAt w b c && could w hs m b (c % wW w) (c / wW w) k hang
def mayAt (w : Wl) (hs : Nat → Hg) (m b c : Nat) : Bool := onAt w b c && may w hs m b (c % wW w) (c / wW w)
theorem ct_zero {p : Nat → Bool} {n : Nat} : ct p n = 0 ↔ ex p n = false := by
  rw [ex_false]
  induction n with
  | zero => simp [ct]
  | succ n ih =>
    simp only [ct]
    constructor
    · intro hz k hk
      rcases Nat.lt_or_ge k n with q | q
      · exact ih.mp (by omega) k q
      · rw [show k = n by omega]
        cases e : p n with
        | false => rfl
        | true => simp [e] at hz
    · intro hz
      rw [ih.mpr (fun k hk => hz k (by omega)), hz n (by omega)]
      rfl
section
variable {sa : Nat → Nat} {d n t h m : Nat} {Q : mj_Q} {K : Nat → Nat × Nat} {FI : Nat → Nat → Int32} {FL : Nat → Nat → Int64} {FR : Nat → Nat → Option Nat} {AI : Nat → Nat → Int32} {AL : Nat → Nat → Int64} {AR : Nat → Nat → Option Nat} {w : Wl} {hs : Nat → Hg}
theorem c_couldGo (hC : HC K FR FI AI AL h t w hs m) {b c k : Nat} (hb : b < wNB w) (hc : c < 32) (hk : k < 100) {hang : Bool} (hQ : ∀ (FI' : Nat → Nat → Int32) (AL' : Nat → Nat → Int64), HC K FR FI' AI AL' h t w hs m → FIx FI FI' h [12] → ALx AL AL' (h + 22) (h + 22) → Q (some (.int (bI (couldAt w hs m b c k hang)))) (n, K, FI', FL, FR, AI, AL', AR)) : EV sa (d + 3) 17 [.ref h, .int (nI b), .int (nI c), .int (nI k), .int (bI hang)] (n, K, FI, FL, FR, AI, AL, AR) Q := by
  have hC' := hC
  obtain ⟨hH, hT, ht, hw, hTR, hR, hL, sep⟩ := hC
  have k0 := hH.1
  obtain ⟨r1, r2, r3, r4, r5⟩ := id hR
  obtain ⟨b1, b2, b3, -, b5, b6, -⟩ := hTR.2.1 b hb
  have hn4 := hw.2.2.2.1
  have hk3 := (hw.2.2.2.2.2.2.1 b hb).1
  have hbin : vp_in (nI b) 4 := vp_in_nI (by omega) (by decide)
  have hbcl : (nI b).toNatClampNeg = b := nI_clamp (by omega)
  obtain ⟨kt, ⟨t1, kt1⟩, -⟩ := id hT
  have hfit := b6.bit hc
  have hself := hQ FI AL hC' FIx.rfl' (fun _ _ => rfl)
  have hl3 : (0 < FI 3 h) ↔ lastHangs w hs m = true := by
    rw [r4]
    have h1 := ct_le (fun k => wK w (gB (hs k)) == 3) m
    rw [show (0 : Int32) = nI 0 from rfl, nI_ltI (by omega) (by omega)]
    have h2 := ct_zero (p := fun k => wK w (gB (hs k)) == 3) (n := m)
    unfold lastHangs
    cases e : ex (fun k => wK w (gB (hs k)) == 3) m with
    | false => rw [e] at h2; simp at h2 ⊢; exact h2
    | true => rw [e] at h2; simp at h2 ⊢; omega
  refine n17 k0 ?_
  simp only [e17_0, e17_1, e17_4, e17_7, e17_8, e17_11, e17_13, e17_16, e17_17, e17_20, e17_21, e17_22, e17_25, e17_28, e17_29, e17_30, e17_31, e17_32, e17_35, e17_36, e17_37, e17_40, e17_42, e17_43, e17_46, e17_47, e17_50, e17_51, e17_52, e17_53, e17_56, e17_59, e17_60, e17_61, e17_62, e17_65, e17_66, e17_67, e17_68, e17_71, e17_74, e17_75, e17_78, e17_79, k0, ht, kt, rf_some, r1, true_and, hl3, true_or, or_true]
  have no : couldAt w hs m b c k hang = false → Q (some (.int 0)) (n, K, FI, FL, FR, AI, AL, AR) := fun e => by rw [e] at hself; exact hself
  refine ⟨fun q => no (by simp [couldAt, could, q]), fun q => ⟨fun q2 => no ?_, fun q2 => ⟨by simp, c_fits hT hbin fun f hf => ?_⟩⟩⟩
  · have : 30 ≤ m := (nI_leI (by decide) (by omega)).mp q2
    simp [couldAt, could, show m = 30 by omega]
  rw [hbcl] at hf
  have hm30 : m ≠ 30 := fun e => q2 (by rw [e]; exact nI_le (Nat.le_refl _) (by decide))
  simp only [tl_some, e17_0, e17_1, e17_4, e17_7, e17_8, e17_11, e17_13, e17_16, e17_17, e17_20, e17_21, e17_22, e17_25, e17_28, e17_29, e17_30, e17_31, e17_32, e17_35, e17_36, e17_37, e17_40, e17_42, e17_43, e17_46, e17_47, e17_50, e17_51, e17_52, e17_53, e17_56, e17_59, e17_60, e17_61, e17_62, e17_65, e17_66, e17_67, e17_68, e17_71, e17_74, e17_75, e17_78, e17_79, k0, ht, kt, rf_some, true_and, true_or, or_true]
  by_cases z : onAt w b c = true
  · have z1 : f = 1 := by
      rw [if_neg (fun e => by rw [hfit] at e; unfold onAt at z; rw [z] at e; cases e)] at hf
      exact hf
    subst z1
    have ho : onW w b (c % wW w) (c / wW w) := by
      simp only [onAt, decide_eq_true_eq] at z
      exact ⟨hb, z.1, z.2⟩
    have hcc : wW w * (c / wW w) + c % wW w = c := Nat.div_add_mod c (wW w)
    refine ⟨fun _ => ⟨by simp, c_cellsOf hT hbin ?_⟩, fun e => absurd (by decide) e⟩
    rw [hbcl]
    have hMk : Mk (AI (t + 5) b <<< (nI c &&& 31)) (cov w b (c % wW w) (c / wW w)) := by
      have := Mk.cells hw ho b5
      rwa [hcc] at this
    simp only [tl_some, e17_0, e17_1, e17_4, e17_7, e17_8, e17_11, e17_13, e17_16, e17_17, e17_20, e17_21, e17_22, e17_25, e17_28, e17_29, e17_30, e17_31, e17_32, e17_35, e17_36, e17_37, e17_40, e17_42, e17_43, e17_46, e17_47, e17_50, e17_51, e17_52, e17_53, e17_56, e17_59, e17_60, e17_61, e17_62, e17_65, e17_66, e17_67, e17_68, e17_71, e17_74, e17_75, e17_78, e17_79, k0, ht, kt, rf_some, true_and, true_or, or_true]
    refine ⟨by simp, c_liesOn hH r1 r2 hk (p := fun j => ex (fun cc => cov w b (c % wW w) (c / wW w) cc && (if hang then covg w (hs j) cc else tp w hs m cc == some j)) 32) ?_ fun fd hfd1 hfd2 => ?_⟩
    · intro j hj
      obtain ⟨-, -, -, -, g5, g6⟩ := r5 j hj
      cases hang with
      | true =>
        simp only [if_true]
        rw [(g5.and hMk).eq0]
        rw [ex_congr (fun cc _ => Bool.and_comm _ _)]
      | false =>
        simp only [Bool.false_eq_true, if_false]
        rw [(g6.and hMk).eq0]
        rw [ex_congr (fun cc _ => Bool.and_comm _ _)]
    have hlies : lies w hs m b (c % wW w) (c / wW w) hang = ct (fun j => ex (fun cc => cov w b (c % wW w) (c / wW w) cc && (if hang then covg w (hs j) cc else tp w hs m cc == some j)) 32) m := rfl
    have hle := ct_le (fun j => ex (fun cc => cov w b (c % wW w) (c / wW w) cc && (if hang then covg w (hs j) cc else tp w hs m cc == some j)) 32) m
    rw [← hlies] at hfd1 hfd2 hle
    have hfk : (nI fd = nI k) ↔ lies w hs m b (c % wW w) (c / wW w) hang = k := by
      rw [nI_eq (by omega) (by omega)]
      omega
    have k2 : (nI (wK w b) = 2) ↔ wK w b = 2 := by rw [show (2 : Int32) = nI 2 from rfl, nI_eq (by omega) (by decide)]
    simp only [tl_some, e17_0, e17_1, e17_4, e17_7, e17_8, e17_11, e17_13, e17_16, e17_17, e17_20, e17_21, e17_22, e17_25, e17_28, e17_29, e17_30, e17_31, e17_32, e17_35, e17_36, e17_37, e17_40, e17_42, e17_43, e17_46, e17_47, e17_50, e17_51, e17_52, e17_53, e17_56, e17_59, e17_60, e17_61, e17_62, e17_65, e17_66, e17_67, e17_68, e17_71, e17_74, e17_75, e17_78, e17_79, k0, ht, kt, t1, kt1, rf_some, hbin, hbcl, b1, true_and, true_or, or_true, hfk, k2]
    refine ⟨fun z2 => ⟨fun z3 => ?_, fun z3 => ⟨by simp, ?_⟩⟩, fun z2 => no ?_⟩
    · have e : couldAt w hs m b c k hang = true := by simp [couldAt, could, z, hm30, q, z2, z3]
      rw [e] at hself
      exact hself
    · have := c_readsMoreWith (sa := sa) (d := d) (n := n) (FL := FL) (AR := AR) (Q := fun v μ => WP sa (EV sa (d + 2)) 17 Q 0 0 71 [.ref h, .int (nI b), .int (nI c), .int (nI k), .int (bI hang)] (v.toList ++ []) μ) hH hT ht hw hTR hR hL sep ho
      rw [hcc] at this
      refine this fun FI' AL' a1 a2 a3 => ?_
      have hq := hQ FI' AL' (hC'.lt' a1 a2 a3) a2 a3
      simp only [tl_some, e17_0, e17_1, e17_4, e17_7, e17_8, e17_11, e17_13, e17_16, e17_17, e17_20, e17_21, e17_22, e17_25, e17_28, e17_29, e17_30, e17_31, e17_32, e17_35, e17_36, e17_37, e17_40, e17_42, e17_43, e17_46, e17_47, e17_50, e17_51, e17_52, e17_53, e17_56, e17_59, e17_60, e17_61, e17_62, e17_65, e17_66, e17_67, e17_68, e17_71, e17_74, e17_75, e17_78, e17_79, bI_eq0, true_or, or_true, true_and]
      have e : couldAt w hs m b c k hang = ex (fun v => decide (reads w hs m v < reads w (puth hs m (b, c % wW w, c / wW w, -2)) (m + 1) v)) (wNW w) := by
        have z3' : wK w b = 2 := by simpa using z3
        simp [couldAt, could, makes, z, hm30, q, z2, z3']
      rw [e] at hq
      refine ⟨fun y => ?_, fun y => ?_⟩
      · rw [y] at hq; exact hq
      · rw [(show ex _ _ = true by simpa using y)] at hq; exact hq
    · simp [couldAt, could, z2]
  · have z1 : f = 0 := by
      rw [if_pos (hfit.mpr (by unfold onAt at z; simpa using z))] at hf
      exact hf
    subst z1
    exact ⟨fun e => absurd rfl e, fun _ => no (by simp [couldAt, z])⟩
end
