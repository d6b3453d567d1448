theorem stand_row {w : Wl} {hs : Nat → Hg} {n v x y : Nat} (hx : x < wW w) (hy : y < wH w) : stand w hs n v (wW w * y + x) = (decide (x + wWL w v ≤ wW w) && !(ex (fun i => rowf w hs n y (x + i) != wWT w v i + 1) (wWL w v))) := by
  unfold stand
  rw [(cellxy (y := y) hx).1]
  by_cases q : x + wWL w v ≤ wW w
  · simp only [q, decide_true, Bool.true_and]
    congr 1
    refine ex_congr fun i hi => ?_
    have e : rowf w hs n y (x + i) = match letr w hs n (wW w * y + x + i) with
      | some l => l + 1
      | none => 0 := by
      unfold rowf
      rw [if_pos ⟨by omega, hy⟩, Nat.add_assoc]
      cases letr w hs n (wW w * y + (x + i)) <;> rfl
    rw [e]
    cases letr w hs n (wW w * y + x + i) with
    | none => simp
    | some l => simp [bne, Bool.not_eq_not]
  · simp [q]
/-- a cell shows one of a rival's -/
def byR (w : Wl) (hs : Nat → Hg) (m : Nat) (r : Int32) (c : Nat) : Bool := ex (fun k => decide (gR (hs k) = r) && (tp w hs m c == some k)) m
def allP (w : Wl) (hs : Nat → Hg) (m : Nat) (r : Int32) : Bool := !(ex (fun c => !byR w hs m r c) (wW w * wH w))
theorem ct_all {p : Nat → Bool} : ∀ {n : Nat}, ct p n = n ↔ ∀ k, k < n → p k = true
  | 0 => by simp [ct]
  | n + 1 => by
    have h1 := ct_le p n
    have ih := ct_all (p := p) (n := n)
    simp only [ct]
    constructor
    · intro e
      have e2 : p n = true := by
        cases q : p n with
        | true => rfl
        | false => simp [q] at e; omega
      rw [e2] at e
      simp at e
      intro k hk
      rcases Nat.lt_or_ge k n with z | z
      · exact ih.mp e k z
      · rw [show k = n by omega]; exact e2
    · intro e
      rw [ih.mpr (fun k hk => e k (by omega)), e n (by omega)]
      rfl
theorem ct_none {p : Nat → Bool} {a : Nat} : ∀ {b : Nat}, (∀ k, a ≤ k → k < a + b → p k = false) → ct p (a + b) = ct p a
  | 0, _ => rfl
  | b + 1, h => by
    rw [← Nat.add_assoc]
    simp only [ct]
    rw [ct_none (fun k h1 h2 => h k h1 (by omega)), h (a + b) (by omega) (by omega)]
    rfl
theorem cov_in {w : Wl} {b x y c : Nat} (hw : wOK w) (ho : onW w b x y) (hc : cov w b x y c = true) : c < wW w * wH w := by
  simp only [cov, decide_eq_true_eq] at hc
  obtain ⟨-, -, h3⟩ := ho
  have h1 : c / wW w < wH w := by omega
  have hW : 0 < wW w := by have := hw.1.1; omega
  exact (Nat.div_lt_iff_lt_mul hW).mp h1 |> fun z => by rw [Nat.mul_comm]; exact z
theorem byR_in {w : Wl} {hs : Nat → Hg} {m c : Nat} {r : Int32} (hw : wOK w) (hg : ∀ k, k < m → gOK w (hs k)) (h : byR w hs m r c = true) : c < wW w * wH w := by
  unfold byR at h
  obtain ⟨k, hk, h2⟩ := ex_true.mp h
  have h3 : tp w hs m c = some k := by simpa using (Bool.and_eq_true_iff.mp h2).2
  exact cov_in hw (hg k hk) (tp_lt h3).2
/-- the mask's cells are just those on the wall -/
theorem byR_all {w : Wl} {hs : Nat → Hg} {m : Nat} {r : Int32} (hw : wOK w) (hg : ∀ k, k < m → gOK w (hs k)) : (ct (byR w hs m r) 32 = wW w * wH w) ↔ allP w hs m r = true := by
  have h32 : wW w * wH w ≤ 32 := Nat.mul_le_mul hw.1.2 hw.2.1.2
  have e : ct (byR w hs m r) 32 = ct (byR w hs m r) (wW w * wH w) := by
    have := ct_none (p := byR w hs m r) (a := wW w * wH w) (b := 32 - wW w * wH w) (fun k h1 h2 => by
      cases q : byR w hs m r k with
      | false => rfl
      | true => have := byR_in hw hg q; omega)
    rwa [show wW w * wH w + (32 - wW w * wH w) = 32 by omega] at this
  rw [e, ct_all]
  unfold allP
  simp [ex_false]
theorem Mk_ct {v : Int32} {p : Nat → Bool} (h : Mk v p) : ct (bt v) 32 = ct p 32 := ct_congr fun k hk => h k hk
def dropH (hs : Nat → Hg) (g k : Nat) : Hg := if k < g then hs k else hs (k + 1)
theorem ToldS.told {K : Nat → Nat × Nat} {FR : Nat → Nat → Option Nat} {t q : Nat} {v : Option Nat} (hT : ToldS K FR t) : ToldS K (mj_u2 FR 0 q v) t := by
  unfold ToldS at hT ⊢
  simp only [mj_u2_1 (show (391 : Nat) ≠ 0 by decide), mj_u2_1 (show (392 : Nat) ≠ 0 by decide), mj_u2_1 (show (393 : Nat) ≠ 0 by decide), mj_u2_1 (show (394 : Nat) ≠ 0 by decide), mj_u2_1 (show (395 : Nat) ≠ 0 by decide), mj_u2_1 (show (396 : Nat) ≠ 0 by decide), mj_u2_1 (show (397 : Nat) ≠ 0 by decide), mj_u2_1 (show (398 : Nat) ≠ 0 by decide), mj_u2_1 (show (399 : Nat) ≠ 0 by decide), mj_u2_1 (show (400 : Nat) ≠ 0 by decide), mj_u2_1 (show (401 : Nat) ≠ 0 by decide), mj_u2_1 (show (402 : Nat) ≠ 0 by decide), mj_u2_1 (show (403 : Nat) ≠ 0 by decide)]
  exact hT
section
variable {sa : Nat → Nat} {d n t h m : Nat} {Q : mj_Q} {K : Nat → Nat × Nat} {FI : Nat → Nat → Int32} {FL : Nat → Nat → Int64} {FR : Nat → Nat → Option Nat} {AI : Nat → Nat → Int32} {AL : Nat → Nat → Int64} {AR : Nat → Nat → Option Nat} {w : Wl} {hs : Nat → Hg}
/-- a Hung changes: its Told stays -/
theorem HC.upd {FI' AI' : Nat → Nat → Int32} {hs' : Nat → Hg} {m' : Nat} {fs : List Nat} (hC : HC K FR FI AI AL h t w hs m) (hR : HungR FI' AI' h w hs' m') (h12 : FI' 12 h = 0) (hF : FIx FI FI' h fs) (hA : AIx AI AI' (h + 15) (h + 22)) : HC K FR FI' AI' AL h t w hs' m' := by
  obtain ⟨a, b, c, e, f, g, -, i⟩ := hC
  exact ⟨a, b, c, e, ToldR.frame (lo := h + 15) (hi := h + 22) f hF (a.ne b) hA (fun q _ _ => rfl) i, hR, Or.inl h12, i⟩
theorem C_put (hC : HC K FR FI AI AL h t w hs m) (hm : m < 30) {b x y : Nat} {r : Int32} (ho : onW w b x y) (hQ : ∀ FI' AI' : Nat → Nat → Int32, HC K FR FI' AI' AL h t w (puth hs m (b, x, y, r)) (m + 1) → FIx FI FI' h [1, 3, 12] → AIx AI AI' (h + 15) (h + 19) → Q none (n, K, FI', FL, FR, AI', AL, AR)) : EV sa (d + 2) 3 [.ref h, .int (nI b), .int (nI (wW w * y + x)), .int r] (n, K, FI, FL, FR, AI, AL, AR) Q := by
  obtain ⟨hH, hT, ht, hw, hTR, hR, hL, sep⟩ := id hC
  exact c_put hH hT ht hw hTR hR hm sep ho fun FI' AI' a1 a2 a3 a4 => hQ FI' AI' (hC.upd a1 a2 a3 (a4.wide (by omega) (by omega))) a3 a4
theorem C_cutTo {m' : Nat} (hC : HC K FR FI AI AL h t w hs m) (hm : m' ≤ m) (hQ : ∀ FI' AI' : Nat → Nat → Int32, HC K FR FI' AI' AL h t w hs m' → FIx FI FI' h [1, 3, 12] → AIx AI AI' (h + 19) (h + 19) → Q none (n, K, FI', FL, FR, AI', AL, AR)) : EV sa (d + 2) 4 [.ref h, .int (nI m')] (n, K, FI, FL, FR, AI, AL, AR) Q := by
  obtain ⟨hH, hT, ht, hw, hTR, hR, hL, sep⟩ := id hC
  exact c_cutTo hH hT ht hw.2.2.2.1 (fun b hb => ⟨(hTR.2.1 b hb).1, (hw.2.2.2.2.2.2.1 b hb).1⟩) sep (hR.cut hm) hR.1 hR.2.1 hm fun FI' AI' a1 a2 a3 a4 => hQ FI' AI' (hC.upd a1 a2 a3 (a4.wide (by omega) (by omega))) a3 a4
theorem C_hangAs {o : Nat} (hH : HungS K FR h) (hO : HC K FR FI AI AL o t w hs m) (sep : h + 22 < o ∨ o + 22 < h) (sep2 : t + 13 < h + 15 ∨ h + 22 < t) (hQ : ∀ FI' AI' : Nat → Nat → Int32, HC K (mj_u2 FR 0 h (some t)) FI' AI' AL h t w hs m → HC K (mj_u2 FR 0 h (some t)) FI' AI' AL o t w hs m → FIx FI FI' h [1, 2, 3, 12] → AIx AI AI' (h + 15) (h + 19) → Q none (n, K, FI', FL, mj_u2 FR 0 h (some t), AI', AL, AR)) : EV sa (d + 1) 2 [.ref h, .ref o] (n, K, FI, FL, FR, AI, AL, AR) Q := by
  obtain ⟨oH, oT, ot, ow, oTR, oR, oL, osep⟩ := id hO
  refine c_hangAs hH oH ot sep oR fun FI' AI' a1 a2 a3 a4 => hQ FI' AI' ?_ ?_ a3 a4
  · exact ⟨hH.told, oT.told, mj_u2_s, ow, ToldR.frame (lo := h + 15) (hi := h + 19) oTR a3 (hH.ne oT) a4 (fun q _ _ => rfl) (by omega), a1, Or.inl a2, sep2⟩
  · have hne : o ≠ h := by omega
    refine ⟨oH.told, oT.told, by rw [mj_u2_2 hne]; exact ot, ow, ToldR.frame (lo := h + 15) (hi := h + 19) oTR a3 (hH.ne oT) a4 (fun q _ _ => rfl) (by omega), ?_, ?_, osep⟩
    · obtain ⟨r1, r2, r3, r4, r5⟩ := oR
      refine ⟨?_, r2, ?_, ?_, fun k hk => ?_⟩
      · rw [a3 1 o (Or.inl hne)]; exact r1
      · rw [a3 2 o (Or.inl hne)]; exact r3
      · rw [a3 3 o (Or.inl hne)]; exact r4
      · rw [a4 (o + 15) (by omega), a4 (o + 16) (by omega), a4 (o + 17) (by omega), a4 (o + 18) (by omega), a4 (o + 19) (by omega)]
        exact r5 k hk
    · unfold LetR at oL ⊢
      rw [a3 12 o (Or.inl hne)]
      exact oL
theorem c_firstRead (hC : HC K FR FI AI AL h t w hs m) {v : Nat} (hv : v < wNW w) (hQ : ∀ (FI' : Nat → Nat → Int32) (AL' : Nat → Nat → Int64), HC K FR FI' AI AL' h t w hs m → LX FI FI' AL AL' h → Q (some (.int (oI (fnd (fun c => stand w hs m v c) (wW w * wH w)) (-2)))) (n, K, FI', FL, FR, AI, AL', AR)) : EV sa (d + 2) 25 [.ref h, .int (nI v)] (n, K, FI, FL, FR, AI, AL, AR) Q := by
  have hC' := hC
  obtain ⟨hH, hT, ht, hw, hTR, hR, hL, sep⟩ := hC
  have k0 := hH.1
  have kt := hT.1
  have hH4 := hw.2.1.2
  have hW8 := hw.1
  have hl1 := (hw.2.2.2.2.2.2.2 v hv).1.1
  obtain ⟨-, -, -, -, -, -, -, -, ⟨f11, k22⟩⟩ := id hH
  have hgk : ∀ k, k < m → gOK w (hs k) := fun k hk => (hR.2.2.2.2 k hk).1
  refine n25 k0 ?_
  simp only [e25_0, e25_1]
  refine ⟨by simp, c_knowLetters hH hT ht hw hTR hR hL sep fun F A a1 a2 a3 a4 => ?_⟩
  have hC2 := hC'.lt' (Or.inr ⟨a1, a2⟩) a3 a4
  have hTR2 := hC2.2.2.2.2.1
  have hq := hQ F A hC2 ⟨a3, a4⟩
  generalize hp : (fun c => stand w hs m v c) = p at hq
  have hrow : ∀ i, i < wH w → ∀ x, x < wW w → p (wW w * i + x) = (decide (x + wWL w v ≤ wW w) && !(ex (fun j => rowf w hs m i (x + j) != wWT w v j + 1) (wWL w v))) := fun i hi x hx => by
    rw [← hp]
    exact stand_row hx hi
  have loop : ∀ rr i, i + rr = wH w → fnd p (wW w * i) = none → ∀ x3 : Value, WP sa (EV sa (d + 1)) 25 Q 0 0 6 [.ref h, .int (nI v), .int (nI i), x3] [] (n, K, F, FL, FR, AI, A, AR) := by
    intro rr
    induction rr with
    | zero =>
      intro i hi hn x3
      have hi' : i = wH w := by omega
      subst hi'
      rw [e25_6]
      simp only [e25_0, e25_1, e25_4, e25_5, e25_7, e25_8, e25_11, e25_14, e25_17, e25_18, e25_21, e25_22, e25_25, e25_26, e25_27, e25_28, e25_31, e25_32, e25_33, e25_36, e25_37, e25_40, e25_43, e25_44, e25_45, e25_46, e25_47, e25_48, e25_51, e25_54, e25_56, k0, kt, ht, rf_some, hTR2.1.2.1, true_and]
      rw [hn] at hq
      exact ⟨fun _ => hq, fun q => absurd (nI_le (Nat.le_refl _) (by omega)) q⟩
    | succ rr ih =>
      intro i hi hn x3
      have hin : vp_in (nI i) 4 := vp_in_nI (by omega) (by decide)
      have hcl : (nI i).toNatClampNeg = i := nI_clamp (by omega)
      have hal := fnd_none.mp hn
      have hi' : i < wH w := by omega
      rw [e25_6]
      simp only [e25_0, e25_1, e25_4, e25_5, e25_7, e25_8, e25_11, e25_14, e25_17, e25_18, e25_21, e25_22, e25_25, e25_26, e25_27, e25_28, e25_31, e25_32, e25_33, e25_36, e25_37, e25_40, e25_43, e25_44, e25_45, e25_46, e25_47, e25_48, e25_51, e25_54, e25_56, k0, kt, ht, rf_some, hTR2.1.2.1, f11, k22, hin, hcl, true_and]
      refine ⟨fun q => absurd q (nI_ge (by omega) (by omega)), fun _ => ⟨by simp, c_firstIn hT hw hTR2 hv (a2 i (by omega)) (rowf_lt hw hgk _) ?_⟩⟩
      unfold firstRow
      cases hf : fnd (fun x => !(ex (fun j => rowf w hs m i (x + j) != wWT w v j + 1) (wWL w v))) (wW w + 1 - wWL w v) with
      | none =>
        have hf' := fnd_none.mp hf
        simp only [tl_some, e25_0, e25_1, e25_4, e25_5, e25_7, e25_8, e25_11, e25_14, e25_17, e25_18, e25_21, e25_22, e25_25, e25_26, e25_27, e25_28, e25_31, e25_32, e25_33, e25_36, e25_37, e25_40, e25_43, e25_44, e25_45, e25_46, e25_47, e25_48, e25_51, e25_54, e25_56, oI, nI_1, mj_kl]
        refine ⟨fun _ => ih (i + 1) (by omega) (fnd_none.mpr fun j hj => ?_) _, fun q => absurd (by decide) q⟩
        rcases Nat.lt_or_ge j (wW w * i) with z | z
        · exact hal j z
        · obtain ⟨x, rfl⟩ := Nat.exists_eq_add_of_le z
          rw [Nat.mul_add, Nat.mul_one] at hj
          rw [hrow i hi' x (by omega)]
          by_cases y : x + wWL w v ≤ wW w
          · have := hf' x (by omega)
            simp only [this, Bool.and_false]
          · simp [y]
      | some x =>
        obtain ⟨g1, g2, g3⟩ := fnd_some hf
        have hx : x < wW w := by omega
        have hlt : wW w * i + x < wW w * wH w := by
          have : wW w * (i + 1) ≤ wW w * wH w := Nat.mul_le_mul_left _ hi'
          rw [Nat.mul_add] at this
          omega
        have hp1 : p (wW w * i + x) = true := by
          rw [hrow i hi' x hx]
          have : x + wWL w v ≤ wW w := by omega
          simp only [this, decide_true, Bool.true_and]
          exact g2
        have hno : fnd p (wW w * i + x) = none := fnd_none.mpr fun j hj => by
          rcases Nat.lt_or_ge j (wW w * i) with z | z
          · exact hal j z
          · obtain ⟨x', rfl⟩ := Nat.exists_eq_add_of_le z
            rw [hrow i hi' x' (by omega)]
            have := g3 x' (by omega)
            simp only [this, Bool.and_false]
        rw [fnd_yes hno hp1 hlt] at hq
        have h32 := hC'.cells.2
        simp only [tl_some, e25_0, e25_1, e25_4, e25_5, e25_7, e25_8, e25_11, e25_14, e25_17, e25_18, e25_21, e25_22, e25_25, e25_26, e25_27, e25_28, e25_31, e25_32, e25_33, e25_36, e25_37, e25_40, e25_43, e25_44, e25_45, e25_46, e25_47, e25_48, e25_51, e25_54, e25_56, oI, nI_1, mj_kl, k0, kt, ht, rf_some, hTR2.1.1, true_and, pk_mul, nI_add]
        exact ⟨fun q => absurd q (nI_pos (by omega)), fun _ => hq⟩
  simp only [tl_none, e25_0, e25_1, e25_4, e25_5, e25_7, e25_8, e25_11, e25_14, e25_17, e25_18, e25_21, e25_22, e25_25, e25_26, e25_27, e25_28, e25_31, e25_32, e25_33, e25_36, e25_37, e25_40, e25_43, e25_44, e25_45, e25_46, e25_47, e25_48, e25_51, e25_54, e25_56, mj_kl, mj_u]
  simpa [nI_0, mj_u] using loop (wH w) 0 (by omega) (by rw [Nat.mul_zero]; rfl) mj_u
theorem c_isAllOf (hH : HungS K FR h) (hT : ToldS K FR t) (ht : FR 0 h = some t) (hw : wOK w) (hTR : ToldR FI AI AL t w) (hR : HungR FI AI h w hs m) {r : Int32} (hQ : Q (some (.int (bI (allP w hs m r)))) (n, K, FI, FL, FR, AI, AL, AR)) : EV sa (d + 2) 14 [.ref h, .int r] (n, K, FI, FL, FR, AI, AL, AR) Q := by
  have k0 := hH.1
  have hgk : ∀ k, k < m → gOK w (hs k) := fun k hk => (hR.2.2.2.2 k hk).1
  have h32 : wW w * wH w ≤ 32 := Nat.mul_le_mul hw.1.2 hw.2.1.2
  refine n14 k0 ?_
  simp only [e14_0, e14_1, e14_2, e14_5, e14_8, e14_9, e14_12, e14_15, e14_18, e14_19, e14_22, e14_23]
  refine ⟨by simp, c_seenOf hH hR fun v hv => ?_⟩
  simp only [tl_some, e14_0, e14_1, e14_2, e14_5, e14_8, e14_9, e14_12, e14_15, e14_18, e14_19, e14_22, e14_23]
  refine ⟨by simp, c_bitCount ?_⟩
  have hv' : ct (bt v) 32 = ct (byR w hs m r) 32 := Mk_ct hv
  rw [hv']
  simp only [tl_some, e14_0, e14_1, e14_2, e14_5, e14_8, e14_9, e14_12, e14_15, e14_18, e14_19, e14_22, e14_23, k0, ht, rf_some, true_and]
  refine ⟨by simp, c_cells hT ?_⟩
  rw [hTR.1.1, hTR.1.2.1, pk_mul]
  have hle := ct_le (byR w hs m r) 32
  have e := byR_all (r := r) hw hgk
  have en : (nI (ct (byR w hs m r) 32) = nI (wW w * wH w)) ↔ allP w hs m r = true := by rw [nI_eq (by omega) (by omega)]; exact e
  simp only [tl_some, e14_0, e14_1, e14_2, e14_5, e14_8, e14_9, e14_12, e14_15, e14_18, e14_19, e14_22, e14_23, en, or_true, true_or, true_and]
  refine ⟨fun q => ?_, fun q => ?_⟩
  · have q' : allP w hs m r = false := by simpa using q
    rw [q'] at hQ
    exact hQ
  · have q' : allP w hs m r = true := by simpa using q
    rw [q'] at hQ
    exact hQ
end
