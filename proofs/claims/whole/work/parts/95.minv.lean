/-! ## the model's state -/
def MStS (K : Nat → Nat × Nat) (FR : Nat → Nat → Option Nat) (q : Nat) : Prop := K q = (1, 10) ∧ (FR 647 q = some (q + 1) ∧ K (q + 1) = (2, 32)) ∧ (FR 648 q = some (q + 2) ∧ K (q + 2) = (2, 6)) ∧ (FR 649 q = some (q + 3) ∧ K (q + 3) = (3, 900)) ∧ (FR 660 q = some (q + 4) ∧ K (q + 4) = (2, 8)) ∧ (FR 664 q = some (q + 5) ∧ K (q + 5) = (2, 1524)) ∧ (FR 665 q = some (q + 6) ∧ K (q + 6) = (2, 381)) ∧ (FR 672 q = some (q + 7) ∧ K (q + 7) = (2, 32)) ∧ (FR 673 q = some (q + 8) ∧ K (q + 8) = (2, 7)) ∧ (FR 674 q = some (q + 9) ∧ K (q + 9) = (2, 7)) ∧ (FR 675 q = some (q + 10) ∧ K (q + 10) = (2, 7)) ∧ (FR 676 q = some (q + 11) ∧ K (q + 11) = (2, 7)) ∧ (FR 680 q = some (q + 12) ∧ K (q + 12) = (2, 7))
theorem MStS.md {K : Nat → Nat × Nat} {FR : Nat → Nat → Option Nat} {q : Nat} (h : MStS K FR q) : MdS K FR q := ⟨h.1, h.2.1, h.2.2.1⟩
/-- a state kept by the model -/
def MKe (A : Nat → Int32) (off : Nat) (e : StK) : Prop := A off = nI e.2.1 ∧ (∀ k, k < e.2.1 → A (off + 1 + k) = nI (gB (e.1 k)) ∧ A (off + 31 + k) = nI (gX (e.1 k)) ∧ A (off + 61 + k) = nI (gY (e.1 k)) ∧ A (off + 91 + k) = gR (e.1 k)) ∧ ∀ r, r < 3 → A (off + 121 + r) = e.2.2.1 r ∧ A (off + 124 + r) = e.2.2.2 r
def MSP (AI : Nat → Nat → Int32) (u : Nat) (e : StK) : Prop := ∀ r, r < 3 → AI (u + 1) (121 + r) = e.2.2.1 r ∧ AI (u + 1) (124 + r) = e.2.2.2 r
def MO (K : Nat → Nat × Nat) (FR : Nat → Nat → Option Nat) (FI AI : Nat → Nat → Int32) (AL : Nat → Nat → Int64) (q a : Nat) (w : Wl) (hs : Nat → Hg) (m : Nat) : Prop := MV K FR FI AI AL q a (a + 13) w hs m ∧ FR 643 q = some a ∧ FR 645 q = some (a + 13)
def MInv (q : Nat) (P : PG) (n : Nat) (K : Nat → Nat × Nat) (FR : Nat → Nat → Option Nat) (FI AI : Nat → Nat → Int32) (AL : Nat → Nat → Int64) : Prop :=
  MStS K FR q ∧ (AI (q + 3) = gT P ∧ FI 650 q = nI (gZ P) ∧ gZ P ≤ 900 ∧ FI 641 q = nI (gTr P) ∧ FI 642 q = sp_where P ∧ FI 658 q = nI (gFl P)) ∧ q + 13 < n ∧
  (match gW P with
  | none => FR 643 q = none
  | some s => ∃ a, MO K FR FI AI AL q a s.1 s.2.1.1 s.2.1.2.1 ∧ q + 13 < a ∧ a + 15 < n ∧ MSP AI (a + 13) s.2.1 ∧ eOK s.1 s.2.1 ∧ (FI 666 q = nI s.2.2.1.2 ∧ s.2.2.1.2 ≤ 12 ∧ ∀ i, i < s.2.2.1.2 → MKe (AI (q + 5)) (127 * i) (s.2.2.1.1 i) ∧ eOK s.1 (s.2.2.1.1 i)) ∧ (FI 667 q = nI s.2.2.2.2 ∧ s.2.2.2.2 ≤ 3 ∧ ∀ i, i < s.2.2.2.2 → MKe (AI (q + 6)) (127 * i) (s.2.2.2.1 i) ∧ eOK s.1 (s.2.2.2.1 i)))
def InvM (q : Nat) (P : PG) (μ : mj_M) : Prop := MInv q P μ.1 μ.2.1 μ.2.2.2.2.1 μ.2.2.1 μ.2.2.2.2.2.1 μ.2.2.2.2.2.2.1
/-- what a call of the model leaves as it was -/
def FrM (q : Nat) (μ μ' : mj_M) : Prop := μ.1 ≤ μ'.1 ∧ (∀ a, a < μ.1 → μ'.2.1 a = μ.2.1 a) ∧ μ'.2.2.2.2.2.2.2 = μ.2.2.2.2.2.2.2 ∧ ∀ a, (a < q ∨ a = q + 13) → (∀ f, μ'.2.2.1 f a = μ.2.2.1 f a ∧ μ'.2.2.2.1 f a = μ.2.2.2.1 f a ∧ μ'.2.2.2.2.1 f a = μ.2.2.2.2.1 f a) ∧ μ'.2.2.2.2.2.1 a = μ.2.2.2.2.2.1 a ∧ μ'.2.2.2.2.2.2.1 a = μ.2.2.2.2.2.2.1 a
def qFs : List Nat := [640, 668, 669, 670, 671, 677, 678, 679]
/-- what a question changes -/
def MQx (q u : Nat) (FI FI' AI AI' : Nat → Nat → Int32) (AL AL' : Nat → Nat → Int64) : Prop := FIx FI FI' q qFs ∧ (∀ z, z ≠ q + 1 → z ≠ q + 2 → (z < q + 7 ∨ q + 12 < z) → z ≠ u + 1 → AI' z = AI z) ∧ (∀ j, 121 ≤ j → AI' (u + 1) j = AI (u + 1) j) ∧ ∀ z, z ≠ u + 2 → AL' z = AL z
theorem MQx.rfl' {q u : Nat} {FI AI : Nat → Nat → Int32} {AL : Nat → Nat → Int64} : MQx q u FI FI AI AI AL AL := ⟨FIx.rfl', fun _ _ _ _ _ => rfl, fun _ _ => rfl, fun _ _ => rfl⟩
theorem MQx.trans {q u : Nat} {FI F1 F2 AI A1 A2 : Nat → Nat → Int32} {AL L1 L2 : Nat → Nat → Int64} (a : MQx q u FI F1 AI A1 AL L1) (b : MQx q u F1 F2 A1 A2 L1 L2) : MQx q u FI F2 AI A2 AL L2 := ⟨a.1.same b.1, fun z h1 h2 h3 h4 => by rw [b.2.1 z h1 h2 h3 h4, a.2.1 z h1 h2 h3 h4], fun j hj => by rw [b.2.2.1 j hj, a.2.2.1 j hj], fun z hz => by rw [b.2.2.2 z hz, a.2.2.2 z hz]⟩
theorem MX.toMQ {q u : Nat} {FI AI A1 : Nat → Nat → Int32} {AL L1 : Nat → Nat → Int64} (a : MX q u AI A1 AL L1) : MQx q u FI FI AI A1 AL L1 := ⟨FIx.rfl', fun z h1 h2 _ h4 => a.1 z h1 h2 h4, a.2.1, a.2.2⟩
theorem MQx.fi {q u k : Nat} {v : Int32} {FI AI : Nat → Nat → Int32} {AL : Nat → Nat → Int64} (hk : k ∈ qFs) : MQx q u FI (mj_u2 FI k q v) AI AI AL AL := ⟨FIx_u2 hk, fun _ _ _ _ _ => rfl, fun _ _ => rfl, fun _ _ => rfl⟩
section
variable {sa : Nat → Nat} {d n t h m : Nat} {Q : mj_Q} {K : Nat → Nat × Nat} {FI : Nat → Nat → Int32} {FL : Nat → Nat → Int64} {FR : Nat → Nat → Option Nat} {AI : Nat → Nat → Int32} {AL : Nat → Nat → Int64} {AR : Nat → Nat → Option Nat} {w : Wl} {hs : Nat → Hg}
variable {a u q : Nat} {P : PG}
theorem MV.ofQ {FI' AI' : Nat → Nat → Int32} {AL' : Nat → Nat → Int64} {hs' : Nat → Hg} {m' : Nat} (hV : MV K FR FI AI AL q a u w hs m) (hX : MQx q u FI FI' AI AI' AL AL') (hR : MH AI' AL' u w hs' m') : MV K FR FI' AI' AL' q a u w hs' m' := by
  obtain ⟨h1, h2, h3, h4, h5, h6, h7, h8⟩ := hV
  exact ⟨h1, h2, h3, h4.fr (fun k => hX.1 k a (Or.inl (by omega))) (fun j z1 z2 => hX.2.1 _ (by omega) (by omega) (by omega) (by omega)), h5, hR, h7, h8⟩
theorem MO.ofQ {FI' AI' : Nat → Nat → Int32} {AL' : Nat → Nat → Int64} {hs' : Nat → Hg} {m' : Nat} (hO : MO K FR FI AI AL q a w hs m) (hX : MQx q (a + 13) FI FI' AI AI' AL AL') (hR : MH AI' AL' (a + 13) w hs' m') : MO K FR FI' AI' AL' q a w hs' m' := ⟨hO.1.ofQ hX hR, hO.2⟩
theorem MO.ofX {AI' : Nat → Nat → Int32} {AL' : Nat → Nat → Int64} {hs' : Nat → Hg} {m' : Nat} (hO : MO K FR FI AI AL q a w hs m) (hV : MV K FR FI AI' AL' q a (a + 13) w hs' m') : MO K FR FI AI' AL' q a w hs' m' := ⟨hV, hO.2⟩
theorem MO.mh (hO : MO K FR FI AI AL q a w hs m) : MH AI AL (a + 13) w hs m := hO.1.2.2.2.2.2.1
theorem MInv.mo {s : WS} (hI : MInv q P n K FR FI AI AL) (es : gW P = some s) : ∃ a, MO K FR FI AI AL q a s.1 s.2.1.1 s.2.1.2.1 ∧ q + 13 < a ∧ a + 15 < n := by
  obtain ⟨-, -, -, h⟩ := hI
  rw [es] at h
  obtain ⟨a, h1, h2, h3, -⟩ := h
  exact ⟨a, h1, h2, h3⟩
theorem MInv.no (hI : MInv q P n K FR FI AI AL) (es : gW P = none) : FR 643 q = none := by
  obtain ⟨-, -, -, h⟩ := hI
  rw [es] at h
  exact h
theorem MInv.qq {FI' AI' : Nat → Nat → Int32} {AL' : Nat → Nat → Int64} {s : WS} (hI : MInv q P n K FR FI AI AL) (es : gW P = some s) (ha : FR 643 q = some a) (hX : MQx q (a + 13) FI FI' AI AI' AL AL') (hR : MH AI' AL' (a + 13) s.1 s.2.1.1 s.2.1.2.1) : MInv q P n K FR FI' AI' AL' := by
  obtain ⟨h1, ⟨b1, b2, b3, b4, b5, b6⟩, h3, h4⟩ := hI
  rw [es] at h4
  obtain ⟨a', c1, c2, c3, c4, c5, ⟨c6, c7, c8⟩, ⟨c9, c10, c11⟩⟩ := h4
  have ea : a' = a := by have := c1.2.1; rw [ha] at this; exact (Option.some.inj this).symm
  subst ea
  have fx : ∀ k, k ∉ qFs → FI' k q = FI k q := fun k hk => hX.1 k q (Or.inr hk)
  have ax : ∀ j, 3 ≤ j → j ≤ 6 → AI' (q + j) = AI (q + j) := fun j z1 z2 => hX.2.1 _ (by omega) (by omega) (by omega) (by omega)
  refine ⟨h1, ⟨by rw [ax 3 (by omega) (by omega)]; exact b1, by rw [fx _ (by decide)]; exact b2, b3, by rw [fx _ (by decide)]; exact b4, by rw [fx _ (by decide)]; exact b5, by rw [fx _ (by decide)]; exact b6⟩, h3, ?_⟩
  rw [es]
  refine ⟨a', c1.ofQ hX hR, c2, c3, fun r hr => ?_, c5, ⟨by rw [fx _ (by decide)]; exact c6, c7, ?_⟩, ⟨by rw [fx _ (by decide)]; exact c9, c10, ?_⟩⟩
  · rw [hX.2.2.1 _ (by omega), hX.2.2.1 _ (by omega)]
    exact c4 r hr
  · rw [ax 5 (by omega) (by omega)]; exact c8
  · rw [ax 6 (by omega) (by omega)]; exact c11
theorem MInv.th {v : Int32} (hI : MInv q P n K FR FI AI AL) : MInv q P n K FR (mj_u2 FI 640 q v) AI AL := by
  cases es : gW P with
  | some s =>
    obtain ⟨a, h1, -⟩ := hI.mo es
    exact hI.qq es h1.2.1 (MQx.fi (by decide)) h1.mh
  | none =>
    obtain ⟨h1, ⟨b1, b2, b3, b4, b5, b6⟩, h3, h4⟩ := hI
    refine ⟨h1, ⟨b1, ?_, b3, ?_, ?_, ?_⟩, h3, ?_⟩
    · rw [mj_u2_1 (by decide)]; exact b2
    · rw [mj_u2_1 (by decide)]; exact b4
    · rw [mj_u2_1 (by decide)]; exact b5
    · rw [mj_u2_1 (by decide)]; exact b6
    · rw [es] at h4 ⊢; exact h4
theorem MInv.tr {k : Nat} (hI : MInv q P n K FR FI AI AL) (hk : k ≠ 4) : MInv q (setTr P k) n K FR (mj_u2 (mj_u2 FI 641 q (nI k)) 642 q (-1)) AI AL := by
  obtain ⟨h1, ⟨b1, b2, b3, b4, b5, b6⟩, h3, h4⟩ := hI
  refine ⟨h1, ⟨b1, ?_, b3, ?_, ?_, ?_⟩, h3, ?_⟩
  · rw [mj_u2_1 (by decide), mj_u2_1 (by decide)]; exact b2
  · rw [mj_u2_1 (by decide), mj_u2_s]; rfl
  · rw [mj_u2_s]; unfold sp_where; rw [if_neg (show ¬ gTr (setTr P k) = 4 from hk)]
  · rw [mj_u2_1 (by decide), mj_u2_1 (by decide)]; exact b6
  · rw [show gW (setTr P k) = gW P from rfl]
    cases es : gW P with
    | none => rw [es] at h4; exact h4
    | some s =>
      rw [es] at h4
      obtain ⟨a, c1, c2, c3, c4, c5, ⟨c6, c7, c8⟩, ⟨c9, c10, c11⟩⟩ := h4
      refine ⟨a, ⟨?_, c1.2⟩, c2, c3, c4, c5, ⟨by rw [mj_u2_1 (by decide), mj_u2_1 (by decide)]; exact c6, c7, c8⟩, ⟨by rw [mj_u2_1 (by decide), mj_u2_1 (by decide)]; exact c9, c10, c11⟩⟩
      obtain ⟨v1, v2, v3, v4, v5⟩ := c1.1
      exact ⟨v1, v2, v3, v4.fr (fun k => by rw [mj_u2_2 (by omega), mj_u2_2 (by omega)]) (fun _ _ _ => rfl), v5⟩
theorem FrM.rfl' {μ : mj_M} : FrM q μ μ := ⟨Nat.le_refl _, fun _ _ => rfl, rfl, fun _ _ => ⟨fun _ => ⟨rfl, rfl, rfl⟩, rfl, rfl⟩⟩
theorem FrM.trans {μ μ1 μ2 : mj_M} (a : FrM q μ μ1) (b : FrM q μ1 μ2) : FrM q μ μ2 := ⟨Nat.le_trans a.1 b.1, fun z hz => by rw [b.2.1 z (Nat.lt_of_lt_of_le hz a.1), a.2.1 z hz], by rw [b.2.2.1, a.2.2.1], fun z hz => ⟨fun f => ⟨by rw [((b.2.2.2 z hz).1 f).1, ((a.2.2.2 z hz).1 f).1], by rw [((b.2.2.2 z hz).1 f).2.1, ((a.2.2.2 z hz).1 f).2.1], by rw [((b.2.2.2 z hz).1 f).2.2, ((a.2.2.2 z hz).1 f).2.2]⟩, by rw [(b.2.2.2 z hz).2.1, (a.2.2.2 z hz).2.1], by rw [(b.2.2.2 z hz).2.2, (a.2.2.2 z hz).2.2]⟩⟩
theorem FrM.f {k : Nat} {v : Int32} : FrM q (n, K, FI, FL, FR, AI, AL, AR) (n, K, mj_u2 FI k q v, FL, FR, AI, AL, AR) := ⟨Nat.le_refl _, fun _ _ => rfl, rfl, fun z hz => ⟨fun f => ⟨mj_u2_2 (by omega), rfl, rfl⟩, rfl, rfl⟩⟩
theorem MQx.frm {FI' AI' : Nat → Nat → Int32} {AL' : Nat → Nat → Int64} (hX : MQx q (a + 13) FI FI' AI AI' AL AL') (ha : q + 13 < a) : FrM q (n, K, FI, FL, FR, AI, AL, AR) (n, K, FI', FL, FR, AI', AL', AR) := ⟨Nat.le_refl _, fun _ _ => rfl, rfl, fun z hz => ⟨fun f => ⟨hX.1 f z (Or.inl (by omega)), rfl, rfl⟩, hX.2.1 z (by omega) (by omega) (by omega) (by omega), hX.2.2.2 z (by omega)⟩⟩
/-- the ends of a call -/
theorem mrefQ {sp : Nat ⊕ Int32} {F A : Nat → Nat → Int32} {L : Nat → Nat → Int64} (hI : MInv q P n K FR F A L) (hX : FrM q (n, K, FI, FL, FR, AI, AL, AR) (n, K, F, FL, FR, A, L, AR)) (hQ : ∀ μ', InvM q (rs P sp) μ' → FrM q (n, K, FI, FL, FR, AI, AL, AR) μ' → Q (some (.int (rv sp))) μ') {k : Nat} (hk : k ≠ 4) (e : sp = .inl k) : Q (some (.int (-1))) (n, K, mj_u2 (mj_u2 F 641 q (nI k)) 642 q (-1), FL, FR, A, L, AR) := by
  subst e
  exact hQ _ (hI.tr hk) (hX.trans (FrM.f.trans FrM.f))
theorem mansQ {sp : Nat ⊕ Int32} {F A : Nat → Nat → Int32} {L : Nat → Nat → Int64} (hI : MInv q P n K FR F A L) (hX : FrM q (n, K, FI, FL, FR, AI, AL, AR) (n, K, F, FL, FR, A, L, AR)) (hQ : ∀ μ', InvM q (rs P sp) μ' → FrM q (n, K, FI, FL, FR, AI, AL, AR) μ' → Q (some (.int (rv sp))) μ') {v : Int32} (e : sp = .inr v) : Q (some (.int v)) (n, K, mj_u2 (mj_u2 F 641 q 0) 642 q (-1), FL, FR, A, L, AR) := by
  subst e
  exact hQ _ (hI.tr (k := 0) (by decide)) (hX.trans (FrM.f.trans FrM.f))
theorem c_mrefused (k0 : K q = (1, 10)) {v : Int32} (hQ : Q (some (.int (-1))) (n, K, mj_u2 (mj_u2 FI 641 q v) 642 q (-1), FL, FR, AI, AL, AR)) : EV sa (d + 1) 163 [.ref q, .int v] (n, K, FI, FL, FR, AI, AL, AR) Q := by
  refine n163 k0 ?_
  simp only [e163_0, e163_1, e163_2, e163_5, e163_6, e163_7, e163_10, e163_11, k0, true_and]
  exact hQ
theorem c_mgood (k0 : K q = (1, 10)) {v : Int32} (hQ : Q (some (.int v)) (n, K, mj_u2 (mj_u2 FI 641 q 0) 642 q (-1), FL, FR, AI, AL, AR)) : EV sa (d + 1) 165 [.ref q, .int v] (n, K, FI, FL, FR, AI, AL, AR) Q := by
  refine n165 k0 ?_
  simp only [e165_0, e165_1, e165_2, e165_5, e165_6, e165_7, e165_10, e165_11, k0, true_and]
  exact hQ
theorem c_mdenied (k0 : K q = (1, 10)) {v : Int32} (hQ : Q (some (.int 0)) (n, K, mj_u2 (mj_u2 FI 641 q v) 642 q (-1), FL, FR, AI, AL, AR)) : EV sa (d + 2) 164 [.ref q, .int v] (n, K, FI, FL, FR, AI, AL, AR) Q := by
  refine n164 k0 ?_
  simp only [e164_0, e164_1, e164_2, e164_5, e164_6, e164_7]
  refine ⟨by simp, c_mrefused k0 ?_⟩
  simp only [tl_some, e164_0, e164_1, e164_2, e164_5, e164_6, e164_7, true_or, true_and]
  exact hQ
theorem c_mgranted (k0 : K q = (1, 10)) (hQ : Q (some (.int 1)) (n, K, mj_u2 (mj_u2 FI 641 q 0) 642 q (-1), FL, FR, AI, AL, AR)) : EV sa (d + 2) 166 [.ref q] (n, K, FI, FL, FR, AI, AL, AR) Q := by
  refine n166 k0 ?_
  simp only [e166_0, e166_1, e166_2, e166_5, e166_6, e166_7]
  refine ⟨by simp, c_mgood k0 ?_⟩
  simp only [tl_some, e166_0, e166_1, e166_2, e166_5, e166_6, e166_7, or_true, true_and]
  exact hQ
theorem c_min {v lo hi : Int32} {μ : mj_M} (hQ : Q (some (.int (bI (decide (lo ≤ v ∧ v ≤ hi))))) μ) : EV sa (d + 1) 167 [.int v, .int lo, .int hi] μ Q := by
  refine n167 ?_
  simp only [e167_0, e167_1, e167_2, e167_5, e167_6, e167_7, e167_10, e167_11, e167_14, e167_15, true_or, or_true, true_and]
  refine ⟨fun z => ?_, fun z => ⟨fun z2 => ?_, fun z2 => ?_⟩⟩
  · rw [decide_eq_false (fun y => absurd y.1 (Int32.not_le.mpr z))] at hQ; exact hQ
  · rw [decide_eq_false (fun y => absurd y.2 (Int32.not_le.mpr z2))] at hQ; exact hQ
  · rw [decide_eq_true ⟨Int32.not_lt.mp z, Int32.not_lt.mp z2⟩] at hQ; exact hQ
theorem pWs {s : WS} (es : gW P = some s) : pW P = s.1 ∧ pHs P = s.2.1.1 ∧ pM P = s.2.1.2.1 ∧ pE P = s.2.1 := by
  obtain ⟨h1, h2⟩ := pW_some es
  exact ⟨h1, by unfold pHs; rw [h2], by unfold pM; rw [h2], h2⟩
theorem pWn (es : gW P = none) : pW P = w_0 ∧ pM P = 0 := by
  unfold pM pE pW
  rw [es]
  exact ⟨rfl, rfl⟩
theorem no_rng {b : Int32} : ¬ (0 ≤ b ∧ b < nI 0) := fun h => absurd h.2 (Int32.not_lt.mpr h.1)
theorem c_misBill (hI : MInv q P n K FR FI AI AL) {b : Int32} (hQ : Q (some (.int (bI (isB P b)))) (n, K, FI, FL, FR, AI, AL, AR)) : EV sa (d + 1) 208 [.ref q, .int b] (n, K, FI, FL, FR, AI, AL, AR) Q := by
  have k0 := hI.1.1
  unfold isB at hQ
  refine n208 k0 ?_
  cases es : gW P with
  | none =>
    rw [(pWn es).1, decide_eq_false (show ¬ (0 ≤ b ∧ b < nI (wNB w_0)) from no_rng)] at hQ
    simp only [e208_0, e208_1, e208_4, e208_7, e208_8, e208_11, e208_12, e208_13, e208_16, e208_19, e208_22, e208_23, e208_26, e208_27, e208_4r, k0, hI.no es, true_and, true_or]
    exact ⟨fun _ => hQ, fun z => absurd trivial z⟩
  | some s =>
    obtain ⟨a, hO, -⟩ := hI.mo es
    have w4 := hO.1.2.2.2.1.1.2.2.2.1
    rw [(pWs es).1] at hQ
    simp only [e208_0, e208_1, e208_4, e208_7, e208_8, e208_11, e208_12, e208_13, e208_16, e208_19, e208_22, e208_23, e208_26, e208_27, e208_4r, k0, hO.2.1, rf_some, hO.1.2.1.1, w4, true_and, true_or, or_true]
    refine ⟨fun z => ?_, fun z => ⟨fun z2 => ?_, fun z2 => ?_⟩⟩
    · rw [decide_eq_false (fun y => absurd z (Int32.not_lt.mpr y.1))] at hQ; exact hQ
    · rw [decide_eq_false (fun y => absurd y.2 (Int32.not_lt.mpr z2))] at hQ; exact hQ
    · rw [decide_eq_true ⟨Int32.not_lt.mp z, Int32.not_le.mp z2⟩] at hQ; exact hQ
theorem c_misRival (hI : MInv q P n K FR FI AI AL) {b : Int32} (hQ : Q (some (.int (bI (isRv P b)))) (n, K, FI, FL, FR, AI, AL, AR)) : EV sa (d + 1) 209 [.ref q, .int b] (n, K, FI, FL, FR, AI, AL, AR) Q := by
  have k0 := hI.1.1
  unfold isRv at hQ
  refine n209 k0 ?_
  cases es : gW P with
  | none =>
    rw [(pWn es).1, decide_eq_false (show ¬ (0 ≤ b ∧ b < nI (wNR w_0)) from no_rng)] at hQ
    simp only [e209_0, e209_1, e209_4, e209_7, e209_8, e209_11, e209_12, e209_13, e209_16, e209_19, e209_22, e209_23, e209_26, e209_27, e209_4r, k0, hI.no es, true_and, true_or]
    exact ⟨fun _ => hQ, fun z => absurd trivial z⟩
  | some s =>
    obtain ⟨a, hO, -⟩ := hI.mo es
    have w4 := hO.1.2.2.2.1.1.2.2.2.2.1
    rw [(pWs es).1] at hQ
    simp only [e209_0, e209_1, e209_4, e209_7, e209_8, e209_11, e209_12, e209_13, e209_16, e209_19, e209_22, e209_23, e209_26, e209_27, e209_4r, k0, hO.2.1, rf_some, hO.1.2.1.1, w4, true_and, true_or, or_true]
    refine ⟨fun z => ?_, fun z => ⟨fun z2 => ?_, fun z2 => ?_⟩⟩
    · rw [decide_eq_false (fun y => absurd z (Int32.not_lt.mpr y.1))] at hQ; exact hQ
    · rw [decide_eq_false (fun y => absurd y.2 (Int32.not_lt.mpr z2))] at hQ; exact hQ
    · rw [decide_eq_true ⟨Int32.not_lt.mp z, Int32.not_le.mp z2⟩] at hQ; exact hQ
theorem c_misTold (hI : MInv q P n K FR FI AI AL) {b : Int32} (hQ : Q (some (.int (bI (isWo P b)))) (n, K, FI, FL, FR, AI, AL, AR)) : EV sa (d + 1) 241 [.ref q, .int b] (n, K, FI, FL, FR, AI, AL, AR) Q := by
  have k0 := hI.1.1
  unfold isWo at hQ
  refine n241 k0 ?_
  cases es : gW P with
  | none =>
    rw [(pWn es).1, decide_eq_false (show ¬ (0 ≤ b ∧ b < nI (wNW w_0)) from no_rng)] at hQ
    simp only [e241_0, e241_1, e241_4, e241_7, e241_8, e241_11, e241_12, e241_13, e241_16, e241_19, e241_22, e241_23, e241_26, e241_27, e241_4r, k0, hI.no es, true_and, true_or]
    exact ⟨fun _ => hQ, fun z => absurd trivial z⟩
  | some s =>
    obtain ⟨a, hO, -⟩ := hI.mo es
    have w4 := hO.1.2.2.2.1.1.2.2.2.2.2.1
    rw [(pWs es).1] at hQ
    simp only [e241_0, e241_1, e241_4, e241_7, e241_8, e241_11, e241_12, e241_13, e241_16, e241_19, e241_22, e241_23, e241_26, e241_27, e241_4r, k0, hO.2.1, rf_some, hO.1.2.1.1, w4, true_and, true_or, or_true]
    refine ⟨fun z => ?_, fun z => ⟨fun z2 => ?_, fun z2 => ?_⟩⟩
    · rw [decide_eq_false (fun y => absurd z (Int32.not_lt.mpr y.1))] at hQ; exact hQ
    · rw [decide_eq_false (fun y => absurd y.2 (Int32.not_lt.mpr z2))] at hQ; exact hQ
    · rw [decide_eq_true ⟨Int32.not_lt.mp z, Int32.not_le.mp z2⟩] at hQ; exact hQ
theorem c_misHung (hI : MInv q P n K FR FI AI AL) {b : Int32} (hQ : Q (some (.int (bI (isHg P b)))) (n, K, FI, FL, FR, AI, AL, AR)) : EV sa (d + 2) 210 [.ref q, .int b] (n, K, FI, FL, FR, AI, AL, AR) Q := by
  have k0 := hI.1.1
  unfold isHg at hQ
  refine n210 k0 ?_
  cases es : gW P with
  | none =>
    rw [(pWn es).2, decide_eq_false no_rng] at hQ
    simp only [e210_0, e210_1, e210_4, e210_7, e210_8, e210_11, e210_12, e210_13, e210_16, e210_19, e210_22, e210_23, e210_26, e210_27, e210_4r, k0, hI.no es, true_and, true_or]
    exact ⟨fun _ => hQ, fun z => absurd trivial z⟩
  | some s =>
    obtain ⟨a, hO, -⟩ := hI.mo es
    have hH := hO.1.2.2.2.2.1
    rw [(pWs es).2.2.1] at hQ
    simp only [e210_0, e210_1, e210_4, e210_7, e210_8, e210_11, e210_12, e210_13, e210_16, e210_19, e210_22, e210_23, e210_26, e210_27, e210_4r, k0, hO.2.1, hO.2.2, rf_some, true_and, true_or, or_true]
    refine ⟨fun z => ?_, fun z => ⟨by simp, c_many hH ?_⟩⟩
    · rw [decide_eq_false (fun y => absurd z (Int32.not_lt.mpr y.1))] at hQ; exact hQ
    · rw [hO.mh.1]
      simp only [tl_some, e210_0, e210_1, e210_4, e210_7, e210_8, e210_11, e210_12, e210_13, e210_16, e210_19, e210_22, e210_23, e210_26, e210_27, e210_4r, true_and, true_or, or_true]
      refine ⟨fun z2 => ?_, fun z2 => ?_⟩
      · rw [decide_eq_false (fun y => absurd y.2 (Int32.not_lt.mpr z2))] at hQ; exact hQ
      · rw [decide_eq_true ⟨Int32.not_lt.mp z, Int32.not_le.mp z2⟩] at hQ; exact hQ
theorem le_pred {u : Int32} {W : Nat} (h1 : 1 ≤ W) (h2 : W < 1000) : (0 ≤ u ∧ u ≤ nI W - 1) ↔ (0 ≤ u ∧ u < nI W) := by
  obtain ⟨V, rfl⟩ : ∃ V, W = V + 1 := ⟨W - 1, by omega⟩
  rw [nI_pred]
  constructor
  · rintro ⟨a, b⟩
    obtain ⟨j, hj, rfl⟩ := nI_of (Int32.not_lt.mpr a)
    exact ⟨a, nI_lt (by have := (nI_leI hj (by omega)).mp b; omega) (by omega)⟩
  · rintro ⟨a, b⟩
    obtain ⟨j, hj, rfl⟩ := nI_of (Int32.not_lt.mpr a)
    exact ⟨a, nI_le (by have := (nI_ltI hj (by omega)).mp b; omega) (by omega)⟩
theorem c_misCell (hI : MInv q P n K FR FI AI AL) {u v : Int32} (hQ : Q (some (.int (bI (sCell P u v).isSome))) (n, K, FI, FL, FR, AI, AL, AR)) : EV sa (d + 2) 211 [.ref q, .int u, .int v] (n, K, FI, FL, FR, AI, AL, AR) Q := by
  have k0 := hI.1.1
  refine n211 k0 ?_
  cases es : gW P with
  | none =>
    have : sCell P u v = none := by unfold sCell; rw [(pWn es).1]; exact if_neg fun z => no_rng ⟨z.1, z.2.1⟩
    rw [this] at hQ
    simp only [e211_0, e211_1, e211_4, e211_7, e211_8, e211_9, e211_10, e211_13, e211_16, e211_17, e211_18, e211_21, e211_24, e211_25, e211_26, e211_27, e211_30, e211_33, e211_34, e211_35, e211_38, e211_41, e211_42, e211_45, e211_46, e211_4r, k0, hI.no es, true_and, true_or]
    exact ⟨fun _ => hQ, fun z => absurd trivial z⟩
  | some s =>
    obtain ⟨a, hO, -⟩ := hI.mo es
    obtain ⟨w1, w2, -⟩ := hO.1.2.2.2.1.1
    have hw := hO.1.2.2.1
    have hW := hw.1
    have hH := hw.2.1
    have e : (sCell P u v).isSome = decide ((0 ≤ u ∧ u ≤ nI (wW s.1) - 1) ∧ (0 ≤ v ∧ v ≤ nI (wH s.1) - 1)) := by
      rw [decide_eq_decide.mpr (and_congr (le_pred (show 1 ≤ wW s.1 by omega) (by omega)) (le_pred (show 1 ≤ wH s.1 by omega) (by omega)))]
      unfold sCell
      rw [(pWs es).1]
      by_cases z : 0 ≤ u ∧ u < nI (wW s.1) ∧ 0 ≤ v ∧ v < nI (wH s.1)
      · rw [if_pos z, decide_eq_true ⟨⟨z.1, z.2.1⟩, z.2.2⟩]; rfl
      · rw [if_neg z, decide_eq_false (fun y => z ⟨y.1.1, y.1.2, y.2⟩)]; rfl
    rw [e] at hQ
    simp only [e211_0, e211_1, e211_4, e211_7, e211_8, e211_9, e211_10, e211_13, e211_16, e211_17, e211_18, e211_21, e211_24, e211_25, e211_26, e211_27, e211_30, e211_33, e211_34, e211_35, e211_38, e211_41, e211_42, e211_45, e211_46, e211_4r, k0, hO.2.1, rf_some, hO.1.2.1.1, w1, true_and, true_or, or_true]
    refine ⟨by simp, c_min ?_⟩
    simp only [tl_some, e211_0, e211_1, e211_4, e211_7, e211_8, e211_9, e211_10, e211_13, e211_16, e211_17, e211_18, e211_21, e211_24, e211_25, e211_26, e211_27, e211_30, e211_33, e211_34, e211_35, e211_38, e211_41, e211_42, e211_45, e211_46, e211_4r, k0, hO.2.1, rf_some, hO.1.2.1.1, w2, bI_eq0, true_and, true_or, or_true]
    refine ⟨fun z => ?_, fun z => ⟨by simp, c_min ?_⟩⟩
    · rw [decide_eq_false (fun y => by rw [decide_eq_false_iff_not] at z; exact z y.1)] at hQ; exact hQ
    · simp only [tl_some, e211_0, e211_1, e211_4, e211_7, e211_8, e211_9, e211_10, e211_13, e211_16, e211_17, e211_18, e211_21, e211_24, e211_25, e211_26, e211_27, e211_30, e211_33, e211_34, e211_35, e211_38, e211_41, e211_42, e211_45, e211_46, e211_4r, bI_eq0, true_and, true_or, or_true]
      have z' : 0 ≤ u ∧ u ≤ nI (wW s.1) - 1 := by simpa using z
      refine ⟨fun z2 => ?_, fun z2 => ?_⟩
      · rw [decide_eq_false (fun y => by rw [decide_eq_false_iff_not] at z2; exact z2 y.2)] at hQ; exact hQ
      · have z2' : 0 ≤ v ∧ v ≤ nI (wH s.1) - 1 := by simpa using z2
        rw [decide_eq_true ⟨z', z2'⟩] at hQ; exact hQ
end
