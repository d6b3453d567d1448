def bL (x : Int64) (j : Nat) : Bool := x.toBitVec.getLsbD j
def PkB (v : Int64) (n : Nat) : Prop := ∀ j, j < 64 → bL v j = decide (j < n)
def PkL (v : Int64) (f : Nat → Nat) : Prop := ∀ j, j < 64 → bL v j = (decide (j < 40) && (f (j / 5)).testBit (j % 5))
def bI (b : Bool) : Int32 := if b then 1 else 0
theorem bI_eq0 (b : Bool) : bI b = 0 ↔ b = false := by cases b <;> decide
theorem bI_01 (b : Bool) : bI b = 0 ∨ bI b = 1 := by cases b <;> decide
/-- a wall that is told, in a Told -/
def ToldR (FI : Nat → Nat → Int32) (AI : Nat → Nat → Int32) (AL : Nat → Nat → Int64) (t : Nat) (w : Wl) : Prop :=
  (FI 384 t = nI (wW w) ∧ FI 385 t = nI (wH w) ∧ FI 386 t = nI (wL w) ∧ FI 387 t = bI (wB w) ∧ FI 388 t = nI (wNB w) ∧ FI 389 t = nI (wNR w) ∧ FI 390 t = nI (wNW w)) ∧
  (∀ b, b < wNB w → AI (t + 1) b = nI (wK w b) ∧ AI (t + 2) b = nI (wBW w b) ∧ AI (t + 3) b = nI (wBH w b) ∧ AI (t + 4) b = nI (wTL w b) ∧ Mk (AI (t + 5) b) (cov w b 0 0) ∧ Mk (AI (t + 6) b) (fun c => decide (c % wW w + wBW w b ≤ wW w ∧ c / wW w + wBH w b ≤ wH w)) ∧ PkB (AL (t + 8) b) (5 * wBW w b) ∧ ∀ y, y < wBH w b → PkL (AL (t + 7) (4 * b + y)) (fun x => if x < wBW w b then wTX w b ((wBW w b * y + x) % wTL w b) + 1 else 0)) ∧
  (∀ v, v < wNW w → AI (t + 11) v = nI (wWL w v) ∧ PkB (AL (t + 10) v) (5 * wWL w v) ∧ PkL (AL (t + 9) v) (fun x => if x < wWL w v then wWT w v x + 1 else 0)) ∧
  ∀ c, c < 32 → AI (t + 12) c = nI (c % wW w) ∧ AI (t + 13) c = nI (c / wW w)
/-- where a Hung has its arrays -/
def HungS (K : Nat → Nat × Nat) (FR : Nat → Nat → Option Nat) (h : Nat) : Prop := K h = (1, 0) ∧ (FR 4 h = some (h + 15) ∧ K (h + 15) = (2, 30)) ∧ (FR 5 h = some (h + 16) ∧ K (h + 16) = (2, 30)) ∧ (FR 6 h = some (h + 17) ∧ K (h + 17) = (2, 30)) ∧ (FR 7 h = some (h + 18) ∧ K (h + 18) = (2, 30)) ∧ (FR 8 h = some (h + 19) ∧ K (h + 19) = (2, 30)) ∧ (FR 9 h = some (h + 20) ∧ K (h + 20) = (2, 3)) ∧ (FR 10 h = some (h + 21) ∧ K (h + 21) = (2, 3)) ∧ (FR 11 h = some (h + 22) ∧ K (h + 22) = (4, 4))
/-- the letters of a row of the wall, 1 .. 26, 0 where nothing shows -/
def rowf (w : Wl) (hs : Nat → Hg) (n y x : Nat) : Nat := if x < wW w ∧ y < wH w then (match letr w hs n (wW w * y + x) with
  | some l => l + 1
  | none => 0) else 0
/-- what hangs, without the letters -/
def HungR (FI : Nat → Nat → Int32) (AI : Nat → Nat → Int32) (h : Nat) (w : Wl) (hs : Nat → Hg) (n : Nat) : Prop :=
  FI 1 h = nI n ∧ n ≤ 30 ∧ FI 2 h = nI (wF w) ∧ FI 3 h = nI (ct (fun k => wK w (gB (hs k)) == 3) n) ∧
  (∀ k, k < n → gOK w (hs k) ∧ AI (h + 15) k = nI (gB (hs k)) ∧ AI (h + 16) k = nI (wW w * gY (hs k) + gX (hs k)) ∧ AI (h + 17) k = gR (hs k) ∧ Mk (AI (h + 18) k) (covg w (hs k)) ∧ Mk (AI (h + 19) k) (fun c => tp w hs n c == some k))
def LetR (FI : Nat → Nat → Int32) (AL : Nat → Nat → Int64) (h : Nat) (w : Wl) (hs : Nat → Hg) (n : Nat) : Prop := FI 12 h = 0 ∨ (FI 12 h = 1 ∧ ∀ y, y < 4 → PkL (AL (h + 22) y) (rowf w hs n y))
section
variable {sa : Nat → Nat} {d n t h m : Nat} {Q : mj_Q} {K : Nat → Nat × Nat} {FI : Nat → Nat → Int32} {FL : Nat → Nat → Int64} {FR : Nat → Nat → Option Nat} {AI : Nat → Nat → Int32} {AL : Nat → Nat → Int64} {AR : Nat → Nat → Option Nat} {w : Wl} {hs : Nat → Hg}
theorem c_liesOn (hH : HungS K FR h) (hm : FI 1 h = nI m) (h30 : m ≤ 30) {own : Int32} {en : Nat} (he : en < 100) {hang : Bool} {p : Nat → Bool} (hp : ∀ k, k < m → (((if hang then AI (h + 18) k else AI (h + 19) k) &&& own = 0) ↔ p k = false)) (hQ : ∀ f : Nat, f ≤ ct p m → (f = ct p m ∨ en < f) → Q (some (.int (nI f))) (n, K, FI, FL, FR, AI, AL, AR)) : EV sa (d + 1) 15 [.ref h, .int own, .int (bI hang), .int (nI en)] (n, K, FI, FL, FR, AI, AL, AR) Q := by
  obtain ⟨k0, -, -, -, ⟨f7, k18⟩, ⟨f8, k19⟩, -⟩ := hH
  have loop : ∀ r i, i + r = m → WP sa (EV sa d) 15 Q 0 0 6 [.ref h, .int own, .int (bI hang), .int (nI en), .int (nI (ct p i)), .int (nI i)] [] (n, K, FI, FL, FR, AI, AL, AR) := by
    intro r
    induction r with
    | zero =>
      intro i hi
      rw [e15_6]
      simp only [e15_0, e15_1, e15_3, e15_4, e15_8, e15_9, e15_12, e15_15, e15_17, e15_18, e15_21, e15_22, e15_25, e15_26, e15_29, e15_31, e15_32, e15_35, e15_36, e15_39, e15_41, e15_42, e15_43, e15_44, e15_47, e15_50, e15_53, e15_56, e15_58, k0, hm, true_and]
      have hi' : i = m := by omega
      subst hi'
      exact ⟨fun _ => hQ _ (Nat.le_refl _) (Or.inl rfl), fun q => absurd (nI_le (Nat.le_refl _) (by omega)) q⟩
    | succ r ih =>
      intro i hi
      have hin : vp_in (nI i) 30 := vp_in_nI (by omega) (by decide)
      have hcl : (nI i).toNatClampNeg = i := nI_clamp (by omega)
      have hle := ct_le p i
      have hmo := ct_mono p (show i ≤ m by omega)
      have nx := ih (i + 1) (by omega)
      have hpi := hp i (by omega)
      rw [e15_6]
      simp only [e15_0, e15_1, e15_3, e15_4, e15_8, e15_9, e15_12, e15_15, e15_17, e15_18, e15_21, e15_22, e15_25, e15_26, e15_29, e15_31, e15_32, e15_35, e15_36, e15_39, e15_41, e15_42, e15_43, e15_44, e15_47, e15_50, e15_53, e15_56, e15_58, k0, hm, f7, f8, k18, k19, rf_some, hin, hcl, nI_1, true_and, true_or, mj_kl, bI_eq0]
      refine ⟨fun q => absurd q (nI_ge (by omega) (by omega)), fun _ => ⟨fun q => hQ _ hmo (Or.inr ?_), fun q => ⟨fun hg => ⟨fun z => ?_, fun z => ?_⟩, fun hg => ⟨fun z => ?_, fun z => ?_⟩⟩⟩⟩
      · exact (nI_ltI (by omega) (by omega)).mp q
      · subst hg
        have e : p i = false := hpi.mp (by simpa using z)
        simpa [ct, e] using nx
      · subst hg
        have e : p i = true := by
          cases e : p i with
          | true => rfl
          | false => exact absurd (by simpa using hpi.mpr e) z
        simpa [ct, e] using nx
      · have hg' : hang = true := by simpa using hg
        subst hg'
        have e : p i = false := hpi.mp (by simpa using z)
        simpa [ct, e] using nx
      · have hg' : hang = true := by simpa using hg
        subst hg'
        have e : p i = true := by
          cases e : p i with
          | true => rfl
          | false => exact absurd (by simpa using hpi.mpr e) z
        simpa [ct, e] using nx
  refine n15 k0 ?_
  simp only [e15_0, e15_1, e15_3, e15_4, e15_8, e15_9, e15_12, e15_15, e15_17, e15_18, e15_21, e15_22, e15_25, e15_26, e15_29, e15_31, e15_32, e15_35, e15_36, e15_39, e15_41, e15_42, e15_43, e15_44, e15_47, e15_50, e15_53, e15_56, e15_58, mj_kl, mj_u]
  exact loop m 0 (by omega)
end
