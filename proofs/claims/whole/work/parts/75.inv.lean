/-! ## the state of a run, purely -/
abbrev WS : Type := Wl × StK × ((Nat → StK) × Nat) × ((Nat → StK) × Nat)
abbrev PG : Type := (Nat → Int32) × Nat × Option WS × Nat × Nat × Nat
def gT (P : PG) : Nat → Int32 := P.1
def gZ (P : PG) : Nat := P.2.1
def gW (P : PG) : Option WS := P.2.2.1
def gTr (P : PG) : Nat := P.2.2.2.1
def gFl (P : PG) : Nat := P.2.2.2.2.1
def gFa (P : PG) : Nat := P.2.2.2.2.2
def setTr (P : PG) (k : Nat) : PG := (P.1, P.2.1, P.2.2.1, k, P.2.2.2.2.1, P.2.2.2.2.2)
def pW (P : PG) : Wl := match gW P with
  | none => w_0
  | some s => s.1
def pE (P : PG) : StK := match gW P with
  | none => (fun _ => (0, 0, 0, 0), 0, fun _ => 0, fun _ => 0)
  | some s => s.2.1
def pHs (P : PG) : Nat → Hg := (pE P).1
def pM (P : PG) : Nat := (pE P).2.1
/-- a state that can be kept -/
def eOK (w : Wl) (e : StK) : Prop := wF w ≤ e.2.1 ∧ e.2.1 ≤ 30 ∧ (∀ k, k < e.2.1 → gOK w (e.1 k) ∧ byOK (gR (e.1 k))) ∧ ∀ r, r < 3 → ∃ j, j ≤ 20 ∧ e.2.2.1 r = nI j
/-- where the class has its things: now o, Telling's own h -/
def CSt (K : Nat → Nat × Nat) (FR AR : Nat → Nat → Option Nat) (x o h : Nat) : Prop :=
  K x = (1, 7) ∧ (FR 448 x = some (x + 1) ∧ K (x + 1) = (3, 900)) ∧ FR 450 x = some o ∧ FR 451 x = some (x + 25) ∧ FR 452 x = some (x + 53) ∧ FR 453 x = some (x + 67) ∧ FR 454 x = some (x + 72) ∧ FR 455 x = some (x + 96) ∧
  (o = x + 2 ∧ h = x + 30 ∨ o = x + 30 ∧ h = x + 2) ∧ (HungS K FR o ∧ ToldS K FR (o + 1) ∧ FR 0 o = some (o + 1)) ∧ TelS0 K FR (x + 25) h ∧
  (∃ e g, ShelfS K FR AR (x + 53) e g 12 ∧ (∀ i, i < 12 → x + 54 ≤ g i ∧ g i ≤ x + 66 ∧ x + 54 ≤ e ∧ e ≤ x + 66)) ∧ (∃ e g, ShelfS K FR AR (x + 67) e g 3 ∧ (∀ i, i < 3 → x + 68 ≤ g i ∧ g i ≤ x + 71 ∧ x + 68 ≤ e ∧ e ≤ x + 71)) ∧ RowS K FR (x + 72) ∧ OrdS K FR (x + 96)
/-- what is kept on a shelf -/
def ShV (K : Nat → Nat × Nat) (FR AR : Nat → Nat → Option Nat) (FI AI : Nat → Nat → Int32) (s R : Nat) (w : Wl) (E : (Nat → StK) × Nat) : Prop := (∀ e g, ShelfS K FR AR s e g R → ShelfR FI AI s g R w E.1 E.2) ∧ ∀ i, i < E.2 → eOK w (E.1 i)
/-- the class holds a state -/
def CInv (x o : Nat) (P : PG) (K : Nat → Nat × Nat) (FR AR : Nat → Nat → Option Nat) (FI AI : Nat → Nat → Int32) (AL : Nat → Nat → Int64) : Prop :=
  (AI (x + 1) = gT P ∧ FI 449 x = nI (gZ P) ∧ gZ P ≤ 900 ∧ FI 456 x = nI (gTr P) ∧ FI 457 x = nI (gFl P) ∧ FI 458 x = nI (gFa P) ∧ gTr P ≤ 7 ∧ gFl P ≤ 7) ∧
  (match gW P with
  | none => ToldW FI AI AL (o + 1) w_0 ∧ FI 1 o = nI 0 ∧ FI 2 o = nI 0 ∧ FI 3 o = nI 0 ∧ FI 12 o = 0 ∧ FI 194 (x + 53) = nI 0 ∧ FI 194 (x + 67) = nI 0 ∧ FI 193 (x + 53) = nI 0 ∧ FI 193 (x + 67) = nI 0
  | some s => HC K FR FI AI AL o (o + 1) s.1 s.2.1.1 s.2.1.2.1 ∧ SP AI o s.2.1.2.2.1 s.2.1.2.2.2 ∧ eOK s.1 s.2.1 ∧ ShV K FR AR FI AI (x + 53) 12 s.1 s.2.2.1 ∧ ShV K FR AR FI AI (x + 67) 3 s.1 s.2.2.2)
/-- the class and its state, in a memory -/
def InvC (x : Nat) (P : PG) (μ : mj_M) : Prop := ∃ o h, CSt μ.2.1 μ.2.2.2.2.1 μ.2.2.2.2.2.2.2 x o h ∧ CInv x o P μ.2.1 μ.2.2.2.2.1 μ.2.2.2.2.2.2.2 μ.2.2.1 μ.2.2.2.2.2.1 μ.2.2.2.2.2.2.1
/-- what a call of the class leaves as it was -/
def FrC (x : Nat) (μ μ' : mj_M) : Prop := μ'.1 = μ.1 ∧ μ'.2.1 = μ.2.1 ∧ μ'.2.2.2.2.2.2.2 = μ.2.2.2.2.2.2.2 ∧ ∀ a, (a < x ∨ x + 119 < a) → (∀ f, μ'.2.2.1 f a = μ.2.2.1 f a ∧ μ'.2.2.2.1 f a = μ.2.2.2.1 f a ∧ μ'.2.2.2.2.1 f a = μ.2.2.2.2.1 f a) ∧ μ'.2.2.2.2.2.1 a = μ.2.2.2.2.2.1 a ∧ μ'.2.2.2.2.2.2.1 a = μ.2.2.2.2.2.2.1 a
/-- a call that answers or refuses -/
def rv (r : Nat ⊕ Int32) : Int32 := match r with
  | .inl _ => -1
  | .inr v => v
def rs (P : PG) (r : Nat ⊕ Int32) : PG := match r with
  | .inl k => setTr P k
  | .inr _ => setTr P 0
def isB (P : PG) (b : Int32) : Bool := decide (0 ≤ b ∧ b < nI (wNB (pW P)))
def isRv (P : PG) (b : Int32) : Bool := decide (0 ≤ b ∧ b < nI (wNR (pW P)))
def isWo (P : PG) (b : Int32) : Bool := decide (0 ≤ b ∧ b < nI (wNW (pW P)))
def isHg (P : PG) (b : Int32) : Bool := decide (0 ≤ b ∧ b < nI (pM P))
theorem rng_of {b : Int32} {N : Nat} (hN : N < 1000) (h : 0 ≤ b ∧ b < nI N) : b = nI b.toNatClampNeg ∧ b.toNatClampNeg < N := by
  obtain ⟨j, hj, rfl⟩ := nI_of (Int32.not_lt.mpr h.1)
  rw [nI_clamp hj]
  exact ⟨rfl, (nI_ltI hj (by omega)).mp h.2⟩
section
variable {sa : Nat → Nat} {d n t h m : Nat} {Q : mj_Q} {K : Nat → Nat × Nat} {FI : Nat → Nat → Int32} {FL : Nat → Nat → Int64} {FR : Nat → Nat → Option Nat} {AI : Nat → Nat → Int32} {AL : Nat → Nat → Int64} {AR : Nat → Nat → Option Nat} {w : Wl} {hs : Nat → Hg}
variable {x o : Nat} {P : PG}
theorem CInv.told (hI : CInv x o P K FR AR FI AI AL) : ToldW FI AI AL (o + 1) (pW P) ∧ FI 1 o = nI (pM P) ∧ FI 2 o = nI (wF (pW P)) ∧ pM P ≤ 30 ∧ wNB (pW P) ≤ 4 ∧ wNR (pW P) ≤ 3 ∧ wNW (pW P) ≤ 6 ∧ wW (pW P) ≤ 8 ∧ wH (pW P) ≤ 4 := by
  obtain ⟨-, h⟩ := hI
  unfold pM pE pW
  cases e : gW P with
  | none =>
    rw [e] at h
    exact ⟨h.1, h.2.1, h.2.2.1, by decide, by decide, by decide, by decide, by decide, by decide⟩
  | some s =>
    rw [e] at h
    have hw := h.1.2.2.2.1
    exact ⟨h.1.2.2.2.2.1.toW, h.1.2.2.2.2.2.1.1, h.1.2.2.2.2.2.1.2.2.1, h.1.2.2.2.2.2.1.2.1, hw.2.2.2.1, hw.2.2.2.2.1, hw.2.2.2.2.2.1, hw.1.2, hw.2.1.2⟩
/-- where there is a wall -/
theorem CInv.hc {s : WS} (hI : CInv x o P K FR AR FI AI AL) (e : gW P = some s) : HC K FR FI AI AL o (o + 1) s.1 s.2.1.1 s.2.1.2.1 ∧ SP AI o s.2.1.2.2.1 s.2.1.2.2.2 ∧ eOK s.1 s.2.1 ∧ ShV K FR AR FI AI (x + 53) 12 s.1 s.2.2.1 ∧ ShV K FR AR FI AI (x + 67) 3 s.1 s.2.2.2 := by
  obtain ⟨-, h⟩ := hI
  rw [e] at h
  exact h
/-- the trouble's number alone is set -/
theorem CInv.tr (hI : CInv x o P K FR AR FI AI AL) (ho : o = x + 2 ∨ o = x + 30) {k : Nat} (hk : k ≤ 7) : CInv x o (setTr P k) K FR AR (mj_u2 FI 456 x (nI k)) AI AL := by
  obtain ⟨⟨a1, a2, a3, a4, a5, a6, a7, a8⟩, h⟩ := hI
  have fx : ∀ f a, a ≠ x → mj_u2 FI 456 x (nI k) f a = FI f a := fun f a ha => mj_u2_2 ha
  refine ⟨⟨a1, by rw [mj_u2_1 (by decide)]; exact a2, a3, mj_u2_s, by rw [mj_u2_1 (by decide)]; exact a5, by rw [mj_u2_1 (by decide)]; exact a6, hk, a8⟩, ?_⟩
  have eW : gW (setTr P k) = gW P := rfl
  rw [eW]
  cases e : gW P with
  | none =>
    rw [e] at h
    obtain ⟨b1, b2, b3, b4, b5, b6, b7, b8, b9⟩ := h
    refine ⟨⟨by simp only [fx _ (o + 1) (by omega)]; exact b1.1, b1.2⟩, ?_, ?_, ?_, ?_, ?_, ?_, ?_, ?_⟩
    · rw [fx _ o (by omega)]; exact b2
    · rw [fx _ o (by omega)]; exact b3
    · rw [fx _ o (by omega)]; exact b4
    · rw [fx _ o (by omega)]; exact b5
    · rw [fx _ _ (by omega)]; exact b6
    · rw [fx _ _ (by omega)]; exact b7
    · rw [fx _ _ (by omega)]; exact b8
    · rw [fx _ _ (by omega)]; exact b9
  | some s =>
    rw [e] at h
    obtain ⟨b1, b2, b3, ⟨b4, b4'⟩, b5, b5'⟩ := h
    refine ⟨b1.fx (fun f => fx f o (by omega)) (fun f => fx f (o + 1) (by omega)), b2, b3, ⟨fun e g hs => ?_, b4'⟩, fun e g hs => ?_, b5'⟩
    · have := b4 e g hs
      unfold ShelfR at this ⊢
      rw [fx _ _ (by omega), fx _ _ (by omega)]
      exact this
    · have := b5 e g hs
      unfold ShelfR at this ⊢
      rw [fx _ _ (by omega), fx _ _ (by omega)]
      exact this
theorem CSt.now (hS : CSt K FR AR x o h) : o = x + 2 ∨ o = x + 30 := by
  rcases hS.2.2.2.2.2.2.2.2.1 with ⟨e, -⟩ | ⟨e, -⟩ <;> omega
theorem c_answer (hS : CSt K FR AR x o h) {v : Int32} (hQ : Q (some (.int v)) (n, K, mj_u2 FI 456 x 0, FL, FR, AI, AL, AR)) : EV sa (d + 1) 142 [.ref x, .int v] (n, K, FI, FL, FR, AI, AL, AR) Q := by
  have k0 := hS.1
  refine n142 k0 ?_
  simp only [e142_0, e142_1, e142_2, e142_5, e142_6, k0, true_and]
  exact hQ
theorem c_refuse (hS : CSt K FR AR x o h) {v : Int32} (hQ : Q (some (.int (-1))) (n, K, mj_u2 FI 456 x v, FL, FR, AI, AL, AR)) : EV sa (d + 1) 143 [.ref x, .int v] (n, K, FI, FL, FR, AI, AL, AR) Q := by
  have k0 := hS.1
  refine n143 k0 ?_
  simp only [e143_0, e143_1, e143_2, e143_5, e143_6, k0, true_and]
  exact hQ
theorem c_grant (hS : CSt K FR AR x o h) (hQ : Q (some (.int 1)) (n, K, mj_u2 FI 456 x 0, FL, FR, AI, AL, AR)) : EV sa (d + 1) 144 [.ref x] (n, K, FI, FL, FR, AI, AL, AR) Q := by
  have k0 := hS.1
  refine n144 k0 ?_
  simp only [e144_0, e144_1, e144_2, e144_5, e144_6, k0, true_and, or_true]
  exact hQ
theorem c_deny (hS : CSt K FR AR x o h) {v : Int32} (hQ : Q (some (.int 0)) (n, K, mj_u2 FI 456 x v, FL, FR, AI, AL, AR)) : EV sa (d + 1) 145 [.ref x, .int v] (n, K, FI, FL, FR, AI, AL, AR) Q := by
  have k0 := hS.1
  refine n145 k0 ?_
  simp only [e145_0, e145_1, e145_2, e145_5, e145_6, k0, true_and, true_or]
  exact hQ
theorem c_hasWall (hS : CSt K FR AR x o h) (hI : CInv x o P K FR AR FI AI AL) (hQ : Q (some (.int (bI (gW P).isSome))) (n, K, FI, FL, FR, AI, AL, AR)) : EV sa (d + 1) 147 [.ref x] (n, K, FI, FL, FR, AI, AL, AR) Q := by
  obtain ⟨k0, -, f450, -, -, -, -, -, -, ⟨hH, hT, ht⟩, -⟩ := id hS
  have w1 := hI.told.1.1.1
  have h8 := hI.told.2.2.2.2.2.2.2.1
  have key : (gW P).isSome = true ↔ 0 < wW (pW P) := by
    unfold pW
    cases e : gW P with
    | none => exact ⟨fun z => (by cases z), fun z => absurd z (by decide)⟩
    | some s =>
      have := (hI.hc e).1.2.2.2.1.1.1
      simp only [Option.isSome_some, true_iff]
      omega
  refine n147 k0 ?_
  simp only [e147_0, e147_1, e147_4, e147_7, e147_10, e147_13, e147_14, e147_17, e147_18, k0, f450, hH.1, ht, hT.1, rf_some, w1, true_and, true_or, or_true]
  refine ⟨fun z => ?_, fun z => ?_⟩
  · have : (gW P).isSome = false := by
      cases e : (gW P).isSome with
      | false => rfl
      | true => exact absurd z (nI_nle (key.mp e) (by omega))
    rw [this] at hQ
    exact hQ
  · have : (gW P).isSome = true := key.mpr (of_decide_eq_true (dec_pos z))
    rw [this] at hQ
    exact hQ
theorem c_isBill (hS : CSt K FR AR x o h) (hI : CInv x o P K FR AR FI AI AL) {b : Int32} (hQ : Q (some (.int (bI (isB P b)))) (n, K, FI, FL, FR, AI, AL, AR)) : EV sa (d + 1) 148 [.ref x, .int b] (n, K, FI, FL, FR, AI, AL, AR) Q := by
  obtain ⟨k0, -, f450, -, -, -, -, -, -, ⟨hH, hT, ht⟩, -⟩ := id hS
  have w5 := hI.told.1.1.2.2.2.2.1
  unfold isB at hQ
  refine n148 k0 ?_
  simp only [e148_0, e148_1, e148_4, e148_5, e148_6, e148_9, e148_12, e148_15, e148_18, e148_19, e148_22, e148_23, k0, f450, hH.1, ht, hT.1, rf_some, w5, true_and, true_or, or_true]
  refine ⟨fun z => ?_, fun z => ⟨fun z2 => ?_, fun z2 => ?_⟩⟩
  · rw [decide_eq_false (fun q => absurd z (Int32.not_lt.mpr q.1))] at hQ; exact hQ
  · rw [decide_eq_false (fun q => absurd q.2 (Int32.not_lt.mpr z2))] at hQ; exact hQ
  · rw [decide_eq_true ⟨Int32.not_lt.mp z, Int32.not_le.mp z2⟩] at hQ; exact hQ
theorem c_isRival (hS : CSt K FR AR x o h) (hI : CInv x o P K FR AR FI AI AL) {b : Int32} (hQ : Q (some (.int (bI (isRv P b)))) (n, K, FI, FL, FR, AI, AL, AR)) : EV sa (d + 1) 149 [.ref x, .int b] (n, K, FI, FL, FR, AI, AL, AR) Q := by
  obtain ⟨k0, -, f450, -, -, -, -, -, -, ⟨hH, hT, ht⟩, -⟩ := id hS
  have w5 := hI.told.1.1.2.2.2.2.2.1
  unfold isRv at hQ
  refine n149 k0 ?_
  simp only [e149_0, e149_1, e149_4, e149_5, e149_6, e149_9, e149_12, e149_15, e149_18, e149_19, e149_22, e149_23, k0, f450, hH.1, ht, hT.1, rf_some, w5, true_and, true_or, or_true]
  refine ⟨fun z => ?_, fun z => ⟨fun z2 => ?_, fun z2 => ?_⟩⟩
  · rw [decide_eq_false (fun q => absurd z (Int32.not_lt.mpr q.1))] at hQ; exact hQ
  · rw [decide_eq_false (fun q => absurd q.2 (Int32.not_lt.mpr z2))] at hQ; exact hQ
  · rw [decide_eq_true ⟨Int32.not_lt.mp z, Int32.not_le.mp z2⟩] at hQ; exact hQ
theorem c_isWord (hS : CSt K FR AR x o h) (hI : CInv x o P K FR AR FI AI AL) {b : Int32} (hQ : Q (some (.int (bI (isWo P b)))) (n, K, FI, FL, FR, AI, AL, AR)) : EV sa (d + 1) 150 [.ref x, .int b] (n, K, FI, FL, FR, AI, AL, AR) Q := by
  obtain ⟨k0, -, f450, -, -, -, -, -, -, ⟨hH, hT, ht⟩, -⟩ := id hS
  have w5 := hI.told.1.1.2.2.2.2.2.2
  unfold isWo at hQ
  refine n150 k0 ?_
  simp only [e150_0, e150_1, e150_4, e150_5, e150_6, e150_9, e150_12, e150_15, e150_18, e150_19, e150_22, e150_23, k0, f450, hH.1, ht, hT.1, rf_some, w5, true_and, true_or, or_true]
  refine ⟨fun z => ?_, fun z => ⟨fun z2 => ?_, fun z2 => ?_⟩⟩
  · rw [decide_eq_false (fun q => absurd z (Int32.not_lt.mpr q.1))] at hQ; exact hQ
  · rw [decide_eq_false (fun q => absurd q.2 (Int32.not_lt.mpr z2))] at hQ; exact hQ
  · rw [decide_eq_true ⟨Int32.not_lt.mp z, Int32.not_le.mp z2⟩] at hQ; exact hQ
theorem c_hangs (hS : CSt K FR AR x o h) (hI : CInv x o P K FR AR FI AI AL) {b : Int32} (hQ : Q (some (.int (bI (isHg P b)))) (n, K, FI, FL, FR, AI, AL, AR)) : EV sa (d + 1) 151 [.ref x, .int b] (n, K, FI, FL, FR, AI, AL, AR) Q := by
  obtain ⟨k0, -, f450, -, -, -, -, -, -, ⟨hH, hT, ht⟩, -⟩ := id hS
  have w5 := hI.told.2.1
  unfold isHg at hQ
  refine n151 k0 ?_
  simp only [e151_0, e151_1, e151_4, e151_5, e151_6, e151_9, e151_12, e151_15, e151_16, e151_19, e151_20, k0, f450, hH.1, rf_some, w5, true_and, true_or, or_true]
  refine ⟨fun z => ?_, fun z => ⟨fun z2 => ?_, fun z2 => ?_⟩⟩
  · rw [decide_eq_false (fun q => absurd z (Int32.not_lt.mpr q.1))] at hQ; exact hQ
  · rw [decide_eq_false (fun q => absurd q.2 (Int32.not_lt.mpr z2))] at hQ; exact hQ
  · rw [decide_eq_true ⟨Int32.not_lt.mp z, Int32.not_le.mp z2⟩] at hQ; exact hQ
end
