/-- where Rows has its things -/
def RowS (K : Nat → Nat × Nat) (FR : Nat → Nat → Option Nat) (q : Nat) : Prop := K q = (1, 2) ∧ FR 128 q = some (q + 1) ∧ HungS K FR (q + 1)
/-- what Rows changes -/
def RX (FI FI' AI AI' : Nat → Nat → Int32) (AL AL' : Nat → Nat → Int64) (q : Nat) : Prop := (∀ f a, a ≠ q + 1 → (a ≠ q ∨ (f ≠ 129 ∧ f ≠ 130)) → FI' f a = FI f a) ∧ AIx AI AI' (q + 16) (q + 20) ∧ ALx AL AL' (q + 23) (q + 23)
theorem RX.rfl' {FI AI : Nat → Nat → Int32} {AL : Nat → Nat → Int64} {q : Nat} : RX FI FI AI AI AL AL q := ⟨fun _ _ _ _ => rfl, fun _ _ => rfl, fun _ _ => rfl⟩
theorem RX.trans {FI F1 F2 AI A1 A2 : Nat → Nat → Int32} {AL L1 L2 : Nat → Nat → Int64} {q : Nat} (a : RX FI F1 AI A1 AL L1 q) (b : RX F1 F2 A1 A2 L1 L2 q) : RX FI F2 AI A2 AL L2 q := ⟨fun f z h1 h2 => by rw [b.1 f z h1 h2, a.1 f z h1 h2], a.2.1.trans b.2.1, fun z h => by rw [b.2.2 z h, a.2.2 z h]⟩
/-- what it changes at its trial alone -/
def TX (FI FI' AI AI' : Nat → Nat → Int32) (AL AL' : Nat → Nat → Int64) (h : Nat) : Prop := (∀ f a, a ≠ h → FI' f a = FI f a) ∧ AIx AI AI' (h + 15) (h + 19) ∧ ALx AL AL' (h + 22) (h + 22)
theorem TX.rfl' {FI AI : Nat → Nat → Int32} {AL : Nat → Nat → Int64} {h : Nat} : TX FI FI AI AI AL AL h := ⟨fun _ _ _ => rfl, fun _ _ => rfl, fun _ _ => rfl⟩
theorem TX.trans {FI F1 F2 AI A1 A2 : Nat → Nat → Int32} {AL L1 L2 : Nat → Nat → Int64} {h : Nat} (a : TX FI F1 AI A1 AL L1 h) (b : TX F1 F2 A1 A2 L1 L2 h) : TX FI F2 AI A2 AL L2 h := ⟨fun f z h1 => by rw [b.1 f z h1, a.1 f z h1], a.2.1.trans b.2.1, fun z h => by rw [b.2.2 z h, a.2.2 z h]⟩
theorem TX.toRX {FI F1 AI A1 : Nat → Nat → Int32} {AL L1 : Nat → Nat → Int64} {q : Nat} (a : TX FI F1 AI A1 AL L1 (q + 1)) : RX FI F1 AI A1 AL L1 q := ⟨fun f z h _ => a.1 f z h, a.2.1, a.2.2⟩
theorem LX.toTX {FI F1 AI : Nat → Nat → Int32} {AL L1 : Nat → Nat → Int64} {h : Nat} (a : LX FI F1 AL L1 h) : TX FI F1 AI AI AL L1 h := ⟨fun f z h1 => a.1 f z (Or.inl h1), AIx.rfl', a.2⟩
theorem FIx.toTX {FI F1 AI A1 : Nat → Nat → Int32} {AL : Nat → Nat → Int64} {h : Nat} {fs : List Nat} (a : FIx FI F1 h fs) (b : AIx AI A1 (h + 15) (h + 19)) : TX FI F1 AI A1 AL AL h := ⟨fun f z h1 => a f z (Or.inl h1), b, fun _ _ => rfl⟩
/-- a Hung keeps what it has if another object's fields change -/
theorem HC.fx {K : Nat → Nat × Nat} {FR : Nat → Nat → Option Nat} {FI FI' AI : Nat → Nat → Int32} {AL : Nat → Nat → Int64} {h t m : Nat} {w : Wl} {hs : Nat → Hg} (hC : HC K FR FI AI AL h t w hs m) (e : ∀ f, FI' f h = FI f h) (e2 : ∀ f, FI' f t = FI f t) : HC K FR FI' AI AL h t w hs m := by
  obtain ⟨hH, hT, ht, hw, ⟨t1, t2⟩, ⟨r1, r2, r3, r4, r5⟩, hL, sep⟩ := hC
  refine ⟨hH, hT, ht, hw, ⟨by simp only [e2]; exact t1, t2⟩, ⟨by rw [e]; exact r1, r2, by rw [e]; exact r3, by rw [e]; exact r4, r5⟩, ?_, sep⟩
  unfold LetR
  rw [e]
  exact hL
section
variable {sa : Nat → Nat} {d n t h m : Nat} {Q : mj_Q} {K : Nat → Nat × Nat} {FI : Nat → Nat → Int32} {FL : Nat → Nat → Int64} {FR : Nat → Nat → Option Nat} {AI : Nat → Nat → Int32} {AL : Nat → Nat → Int64} {AR : Nat → Nat → Option Nat} {w : Wl} {hs : Nat → Hg}
variable {q : Nat}
theorem c_moves (hS : RowS K FR q) (hC : HC K FR FI AI AL (q + 1) t w hs m) (hQ : Q (some (.int (nI (32 * wNB w)))) (n, K, FI, FL, FR, AI, AL, AR)) : EV sa (d + 1) 40 [.ref q] (n, K, FI, FL, FR, AI, AL, AR) Q := by
  obtain ⟨k0, f0, -⟩ := hS
  obtain ⟨hH, hT, ht, hw, hTR, -⟩ := hC
  refine n40 k0 ?_
  have e : nI (wNB w) * 32 = nI (32 * wNB w) := by rw [show (32 : Int32) = nI 32 from rfl, pk_mul, Nat.mul_comm]
  simp only [e40_0, e40_1, e40_4, e40_7, e40_10, e40_12, e40_13, k0, f0, hH.1, ht, hT.1, rf_some, true_and, hTR.1.2.2.2.2.1, e]
  exact hQ
theorem c_billOf {i : Nat} {μ : mj_M} (hi : i < 1000) (hQ : Q (some (.int (nI (i / 32)))) μ) : EV sa (d + 1) 41 [.int (nI i)] μ Q := by
  refine n41 ?_
  simp only [e41_0, e41_1, e41_3, e41_4, show (32 : Int32) = nI 32 from rfl, pk_div (show i < 2 ^ 31 by omega) (show 0 < 32 by decide) (show 32 < 2 ^ 31 by decide)]
  exact ⟨by decide, hQ⟩
theorem c_cornerOf {i : Nat} {μ : mj_M} (hi : i < 1000) (hQ : Q (some (.int (nI (i % 32)))) μ) : EV sa (d + 1) 42 [.int (nI i)] μ Q := by
  refine n42 ?_
  simp only [e42_0, e42_1, e42_3, e42_4, show (32 : Int32) = nI 32 from rfl, pk_rem (show i < 2 ^ 31 by omega) (show 0 < 32 by decide) (show 32 < 2 ^ 31 by decide)]
  exact ⟨by decide, hQ⟩
theorem c_push (hS : RowS K FR q) (hC : HC K FR FI AI AL (q + 1) t w hs m) {i : Nat} (hi : i < 32 * wNB w) {r : Int32} (hm : mvp w hs m i = true) (hQ : ∀ FI' AI' : Nat → Nat → Int32, HC K FR FI' AI' AL (q + 1) t w (pushM w hs m i r) (m + 1) → TX FI FI' AI AI' AL AL (q + 1) → Q none (n, K, FI', FL, FR, AI', AL, AR)) : EV sa (d + 3) 43 [.ref q, .int (nI i), .int r] (n, K, FI, FL, FR, AI, AL, AR) Q := by
  obtain ⟨k0, f0, -⟩ := hS
  have hn4 := hC.2.2.2.1.2.2.2.1
  have h30 := hC.2.2.2.2.2.1.2.1
  obtain ⟨ho, hm30⟩ := mvp_on (by omega) hm
  refine n43 k0 ?_
  simp only [e43_0, e43_1, e43_4, e43_5, e43_8, e43_9, e43_12, e43_13, e43_16, k0, f0, rf_some, true_and]
  refine ⟨by simp, c_billOf (by omega) ?_⟩
  simp only [tl_some, e43_0, e43_1, e43_4, e43_5, e43_8, e43_9, e43_12, e43_13, e43_16, k0, f0, rf_some, true_and]
  refine ⟨by simp, c_cornerOf (by omega) ?_⟩
  simp only [tl_some, e43_0, e43_1, e43_4, e43_5, e43_8, e43_9, e43_12, e43_13, e43_16]
  refine ⟨by simp, ?_⟩
  have := C_put (sa := sa) (d := d) (n := n) (FL := FL) (AR := AR) (Q := fun v μ => WP sa (EV sa (d + 2)) 43 Q 0 0 16 [.ref q, .int (nI i), .int r] (v.toList ++ []) μ) hC (by omega) (r := r) ho
  rw [Nat.div_add_mod] at this
  refine this fun FI' AI' a1 a2 a3 => ?_
  simp only [tl_none, e43_0, e43_1, e43_4, e43_5, e43_8, e43_9, e43_12, e43_13, e43_16]
  exact hQ FI' AI' a1 (a2.toTX a3)
theorem c_pop (hS : RowS K FR q) {i : Nat} {r : Int32} (hC : HC K FR FI AI AL (q + 1) t w (pushM w hs m i r) (m + 1)) (hQ : ∀ FI' AI' : Nat → Nat → Int32, HC K FR FI' AI' AL (q + 1) t w hs m → TX FI FI' AI AI' AL AL (q + 1) → Q none (n, K, FI', FL, FR, AI', AL, AR)) : EV sa (d + 3) 44 [.ref q] (n, K, FI, FL, FR, AI, AL, AR) Q := by
  obtain ⟨k0, f0, -⟩ := hS
  refine n44 k0 ?_
  simp only [e44_0, e44_1, e44_4, e44_5, e44_8, e44_11, e44_12, e44_13, e44_16, k0, f0, rf_some, true_and, hC.1.1, hC.2.2.2.2.2.1.1, nI_pred]
  refine ⟨by simp, C_cutTo (m' := m) hC (by omega) fun FI' AI' a1 a2 a3 => ?_⟩
  simp only [tl_none, e44_0, e44_1, e44_4, e44_5, e44_8, e44_11, e44_12, e44_13, e44_16]
  exact hQ FI' AI' (a1.congr fun k hk => puth_lt hk) (a2.toTX (a3.wide (by omega) (by omega)))
end
