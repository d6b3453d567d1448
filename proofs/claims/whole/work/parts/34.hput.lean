/-- fields outside those of fs at h stay; arrays outside lo .. hi stay -/
def FIx (FI FI' : Nat → Nat → Int32) (h : Nat) (fs : List Nat) : Prop := ∀ f a, (a ≠ h ∨ f ∉ fs) → FI' f a = FI f a
def AIx (AI AI' : Nat → Nat → Int32) (lo hi : Nat) : Prop := ∀ q, (q < lo ∨ hi < q) → AI' q = AI q
def ALx (AL AL' : Nat → Nat → Int64) (lo hi : Nat) : Prop := ∀ q, (q < lo ∨ hi < q) → AL' q = AL q
theorem FIx.rfl' {FI : Nat → Nat → Int32} {h : Nat} {fs : List Nat} : FIx FI FI h fs := fun _ _ _ => rfl
theorem AIx.rfl' {AI : Nat → Nat → Int32} {lo hi : Nat} : AIx AI AI lo hi := fun _ _ => rfl
theorem FIx.trans {FI F1 F2 : Nat → Nat → Int32} {h : Nat} {fs gs : List Nat} (a : FIx FI F1 h fs) (b : FIx F1 F2 h gs) : FIx FI F2 h (fs ++ gs) := fun f q hq => by
  have h1 : q ≠ h ∨ f ∉ fs := hq.imp id (fun z => fun z2 => z (List.mem_append_left _ z2))
  have h2 : q ≠ h ∨ f ∉ gs := hq.imp id (fun z => fun z2 => z (List.mem_append_right _ z2))
  rw [b f q h2, a f q h1]
theorem FIx.sub {FI F1 : Nat → Nat → Int32} {h : Nat} {fs gs : List Nat} (a : FIx FI F1 h fs) (hs : ∀ f ∈ fs, f ∈ gs) : FIx FI F1 h gs := fun f q hq => a f q (hq.imp id (fun z z2 => z (hs f z2)))
theorem AIx.trans {AI A1 A2 : Nat → Nat → Int32} {lo hi : Nat} (a : AIx AI A1 lo hi) (b : AIx A1 A2 lo hi) : AIx AI A2 lo hi := fun q hq => by rw [b q hq, a q hq]
theorem AIx.wide {AI A1 : Nat → Nat → Int32} {lo hi lo' hi' : Nat} (a : AIx AI A1 lo hi) (h1 : lo' ≤ lo) (h2 : hi ≤ hi') : AIx AI A1 lo' hi' := fun q hq => a q (by omega)
/-- a Told keeps its wall if only a Hung beside it changes -/
theorem ToldR.frame {FI FI' AI AI' : Nat → Nat → Int32} {AL AL' : Nat → Nat → Int64} {t h lo hi : Nat} {w : Wl} {fs : List Nat} (hT : ToldR FI AI AL t w) (hF : FIx FI FI' h fs) (hne : t ≠ h) (hA : AIx AI AI' lo hi) (hL : ∀ q, t < q → q ≤ t + 13 → AL' q = AL q) (sep : t + 13 < lo ∨ hi < t) : ToldR FI' AI' AL' t w := by
  have f : ∀ k, FI' k t = FI k t := fun k => hF k t (Or.inl hne)
  have a : ∀ q, t < q → q ≤ t + 13 → AI' q = AI q := fun q h1 h2 => hA q (by omega)
  obtain ⟨h1, h2, h3, h4⟩ := hT
  refine ⟨by simp only [f]; exact h1, fun b hb => ?_, fun v hv => ?_, fun c hc => ?_⟩
  · have := h2 b hb
    rw [← a (t + 1) (by omega) (by omega), ← a (t + 2) (by omega) (by omega), ← a (t + 3) (by omega) (by omega), ← a (t + 4) (by omega) (by omega), ← a (t + 5) (by omega) (by omega), ← a (t + 6) (by omega) (by omega), ← hL (t + 8) (by omega) (by omega), ← hL (t + 7) (by omega) (by omega)] at this
    exact this
  · have := h3 v hv
    rw [← a (t + 11) (by omega) (by omega), ← hL (t + 10) (by omega) (by omega), ← hL (t + 9) (by omega) (by omega)] at this
    exact this
  · have := h4 c hc
    rw [← a (t + 12) (by omega) (by omega), ← a (t + 13) (by omega) (by omega)] at this
    exact this
theorem tp_congr {w : Wl} {hs hs' : Nat → Hg} {c : Nat} : ∀ {n : Nat}, (∀ k, k < n → hs k = hs' k) → tp w hs n c = tp w hs' n c
  | 0, _ => rfl
  | n + 1, h => by simp only [tp]; rw [tp_congr (fun k hk => h k (by omega)), h n (by omega)]
theorem puth_lt {hs : Nat → Hg} {n k : Nat} {g : Hg} (h : k < n) : puth hs n g k = hs k := by simp [puth, Nat.ne_of_lt h]
theorem puth_eq {hs : Nat → Hg} {n : Nat} {g : Hg} : puth hs n g n = g := by simp [puth]
theorem tp_put {w : Wl} {hs : Nat → Hg} {n c : Nat} {g : Hg} : tp w (puth hs n g) (n + 1) c = if covg w g c then some n else tp w hs n c := by
  simp only [tp, puth_eq]
  rw [tp_congr (fun k hk => puth_lt hk)]
section
variable {sa : Nat → Nat} {d n t h m : Nat} {Q : mj_Q} {K : Nat → Nat × Nat} {FI : Nat → Nat → Int32} {FL : Nat → Nat → Int64} {FR : Nat → Nat → Option Nat} {AI : Nat → Nat → Int32} {AL : Nat → Nat → Int64} {AR : Nat → Nat → Option Nat} {w : Wl} {hs : Nat → Hg}
theorem c_put (hH : HungS K FR h) (hT : ToldS K FR t) (ht : FR 0 h = some t) (hw : wOK w) (hTR : ToldR FI AI AL t w) (hR : HungR FI AI h w hs m) (hm : m < 30) (sep : t + 13 < h + 15 ∨ h + 22 < t) {b x y : Nat} {r : Int32} (ho : onW w b x y) (hQ : ∀ FI' AI' : Nat → Nat → Int32, HungR FI' AI' h w (puth hs m (b, x, y, r)) (m + 1) → FI' 12 h = 0 → FIx FI FI' h [1, 3, 12] → AIx AI AI' (h + 15) (h + 19) → Q none (n, K, FI', FL, FR, AI', AL, AR)) : EV sa (d + 2) 3 [.ref h, .int (nI b), .int (nI (wW w * y + x)), .int r] (n, K, FI, FL, FR, AI, AL, AR) Q := by
  obtain ⟨k0, ⟨f4, k15⟩, ⟨f5, k16⟩, ⟨f6, k17⟩, ⟨f7, k18⟩, ⟨f8, k19⟩, -⟩ := hH
  obtain ⟨r1, r2, r3, r4, r5⟩ := hR
  have hb4 : b < 4 := Nat.lt_of_lt_of_le ho.1 hw.2.2.2.1
  obtain ⟨b1, b2, b3, b4, b5, b6, -⟩ := hTR.2.1 b ho.1
  have hbin : vp_in (nI b) 4 := vp_in_nI hb4 (by decide)
  have hbcl : (nI b).toNatClampNeg = b := nI_clamp (by omega)
  have hmin : vp_in (nI m) 30 := vp_in_nI hm (by decide)
  have hmcl : (nI m).toNatClampNeg = m := nI_clamp (by omega)
  have kt := hT.1
  obtain ⟨f391, kt1⟩ := hT.2.1
  generalize hown : AI (t + 5) b <<< (nI (wW w * y + x) &&& 31) = own
  have hMk : Mk own (cov w b x y) := by rw [← hown]; exact Mk.cells hw ho b5
  generalize hA : (fun (i : Nat) (q j : Nat) => if q = h + 19 ∧ j < i then AI q j &&& (own ^^^ (-1)) else AI q j) = A
  have hA' : ∀ i q j, A i q j = if q = h + 19 ∧ j < i then AI q j &&& (own ^^^ (-1)) else AI q j := fun i q j => by rw [← hA]
  have hA0 : A 0 = AI := by funext q j; rw [hA']; simp
  have tail : WP sa (EV sa (d + 1)) 3 Q 0 0 53 [.ref h, .int (nI b), .int (nI (wW w * y + x)), .int r, .int own, .int (nI m)] [] (n, K, FI, FL, FR, A m, AL, AR) := by
    have e1 : A m (t + 1) b = AI (t + 1) b := by rw [hA']; simp; omega
    simp only [e3_0, e3_1, e3_4, e3_6, e3_9, e3_10, e3_11, e3_14, e3_15, e3_16, e3_19, e3_21, e3_22, e3_26, e3_27, e3_30, e3_33, e3_34, e3_37, e3_39, e3_40, e3_41, e3_43, e3_44, e3_45, e3_46, e3_47, e3_50, e3_53, e3_54, e3_57, e3_58, e3_61, e3_62, e3_63, e3_64, e3_67, e3_68, e3_71, e3_72, e3_73, e3_74, e3_77, e3_78, e3_81, e3_82, e3_83, e3_84, e3_87, e3_88, e3_91, e3_93, e3_94, e3_95, e3_98, e3_99, e3_102, e3_104, e3_105, e3_106, e3_106i, e3_107, e3_110, e3_111, e3_112, e3_115, e3_116, e3_116i, e3_117, e3_120, e3_121, e3_124, e3_127, e3_128, e3_129, e3_130, e3_133, e3_134, e3_137, e3_138, e3_139, e3_142, e3_143, e3_144, e3_147, k0, f4, f5, f6, f7, f8, k15, k16, k17, k18, k19, r1, hmin, hmcl, rf_some, true_and, ht, kt, f391, kt1, hbin, hbcl, true_or, mj_u2_s, b1]
    generalize hB : mj_u2 (mj_u2 (mj_u2 (mj_u2 (mj_u2 (A m) (h + 15) m (nI b)) (h + 16) m (nI (wW w * y + x))) (h + 17) m r) (h + 18) m own) (h + 19) m own = B
    have hB' : ∀ q j, B q j = if q = h + 19 ∧ j = m then own else if q = h + 18 ∧ j = m then own else if q = h + 17 ∧ j = m then r else if q = h + 16 ∧ j = m then nI (wW w * y + x) else if q = h + 15 ∧ j = m then nI b else A m q j := fun q j => by rw [← hB]; rfl
    have eBt : B (t + 1) b = nI (wK w b) := by
      rw [hB', if_neg (by omega), if_neg (by omega), if_neg (by omega), if_neg (by omega), if_neg (by omega), e1]
      exact b1
    have eF : mj_u2 FI 1 h (nI m + 1) 3 h = FI 3 h := mj_u2_1 (by decide)
    have hL : ∀ k, k < m → (wK w (gB (puth hs m (b, x, y, r) k)) == 3) = (wK w (gB (hs k)) == 3) := fun k hk => by rw [puth_lt hk]
    have post : ∀ v : Int32, v = nI (ct (fun k => wK w (gB (puth hs m (b, x, y, r) k)) == 3) (m + 1)) → Q none (n, K, mj_u2 (mj_u2 (mj_u2 FI 1 h (nI m + 1)) 3 h v) 12 h 0, FL, FR, B, AL, AR) := by
      intro v hv
      refine hQ _ _ ⟨?_, by omega, ?_, ?_, fun k hk => ?_⟩ mj_u2_s ?_ ?_
      · simp [mj_u2, nI_succ]
      · simp [mj_u2, r3]
      · simp [mj_u2, hv]
      · rcases Nat.lt_or_ge k m with q | q
        · obtain ⟨g1, g2, g3, g4, g5, g6⟩ := r5 k q
          have km : ¬ k = m := by omega
          rw [puth_lt q]
          refine ⟨g1, ?_, ?_, ?_, ?_, ?_⟩
          · rw [hB']; simp [km, hA', g2]
          · rw [hB']; simp [km, hA', g3]
          · rw [hB']; simp [km, hA', g4]
          · rw [hB']; simpa [km, hA'] using g5
          · rw [hB']
            simp only [km, and_false, if_false, hA', true_and, q, if_true]
            refine (g6.and hMk.not).congr fun c hc => ?_
            rw [tp_put]
            show (tp w hs m c == some k && !cov w b x y c) = ((if cov w b x y c then some m else tp w hs m c) == some k)
            cases hcv : cov w b x y c with
            | true => simp; omega
            | false => simp
        · have km : k = m := by omega
          subst km
          rw [puth_eq]
          refine ⟨ho, ?_, ?_, ?_, ?_, ?_⟩
          · rw [hB']; simp; rfl
          · rw [hB']; simp; rfl
          · rw [hB']; simp; rfl
          · rw [hB', if_neg (by omega), if_pos ⟨rfl, rfl⟩]; exact hMk
          · rw [hB']
            simp only [true_and, if_true]
            refine hMk.congr fun c hc => ?_
            rw [tp_put]
            show cov w b x y c = ((if cov w b x y c then some k else tp w hs k c) == some k)
            cases hcv : cov w b x y c with
            | true => simp
            | false =>
              simp
              intro e
              have := (tp_lt e).1
              omega
      · intro f a hfa
        simp at hfa
        simp only [mj_u2]
        repeat' split
        all_goals first | rfl | (rename_i z; obtain ⟨rfl, rfl⟩ := z; simp at hfa)
      · intro q hq
        funext j
        rw [hB', if_neg (by omega), if_neg (by omega), if_neg (by omega), if_neg (by omega), if_neg (by omega), hA', if_neg (by omega)]
    have hlast : ct (fun k => wK w (gB (puth hs m (b, x, y, r) k)) == 3) (m + 1) = ct (fun k => wK w (gB (hs k)) == 3) m + if wK w b = 3 then 1 else 0 := by
      simp only [ct, puth_eq]
      rw [ct_congr hL]
      show _ + (if (wK w b == 3) = true then 1 else 0) = _
      simp
    have hk3 : wK w b ≤ 3 := (hw.2.2.2.2.2.2.1 b ho.1).1
    have eq3 : (nI (wK w b) = 3) ↔ wK w b = 3 := by rw [show (3 : Int32) = nI 3 from rfl, nI_eq (by omega) (by decide)]
    simp only [eBt, eF, eq3]
    refine ⟨fun q => post _ ?_, fun q => post _ ?_⟩
    · rw [hlast, if_neg q, r4]; simp
    · rw [hlast, if_pos (by simpa using q), r4, nI_succ]
  have loop : ∀ rr i, i + rr = m → WP sa (EV sa (d + 1)) 3 Q 0 0 24 [.ref h, .int (nI b), .int (nI (wW w * y + x)), .int r, .int own, .int (nI i)] [] (n, K, FI, FL, FR, A i, AL, AR) := by
    intro rr
    induction rr with
    | zero =>
      intro i hi
      have hi' : i = m := by omega
      subst hi'
      rw [e3_24]
      simp only [e3_26, e3_27, e3_30, k0, r1, true_and]
      exact ⟨fun _ => tail, fun q => absurd (nI_le (Nat.le_refl _) (by omega)) q⟩
    | succ rr ih =>
      intro i hi
      have hin : vp_in (nI i) 30 := vp_in_nI (by omega) (by decide)
      have hcl : (nI i).toNatClampNeg = i := nI_clamp (by omega)
      have nx := ih (i + 1) (by omega)
      have eA : mj_u2 (A i) (h + 19) i (A i (h + 19) i &&& (own ^^^ (-1))) = A (i + 1) := by
        funext q j
        simp only [mj_u2, hA']
        by_cases hq : q = h + 19
        · subst hq
          by_cases hj : j = i
          · subst hj; simp
          · simp only [hj, and_false, if_false, true_and]
            have : (j < i + 1) ↔ (j < i) := by omega
            simp [this]
        · simp [hq]
      rw [e3_24]
      simp only [e3_26, e3_27, e3_30, e3_33, e3_34, e3_37, e3_39, e3_40, e3_41, e3_43, e3_44, e3_45, e3_46, e3_47, e3_50, k0, r1, f8, k19, rf_some, hin, hcl, true_and, true_or, mj_kl, nI_1, eA]
      exact ⟨fun q => absurd q (nI_ge (by omega) (by omega)), fun _ => nx⟩
  refine n3 k0 ?_
  simp only [e3_0, e3_1, e3_4, e3_6, e3_9, e3_10, e3_11, e3_14, e3_15, e3_16, e3_19, e3_21, e3_22, e3_26, e3_27, e3_30, e3_33, e3_34, e3_37, e3_39, e3_40, e3_41, e3_43, e3_44, e3_45, e3_46, e3_47, e3_50, e3_54, e3_57, e3_58, e3_61, e3_62, e3_63, e3_64, e3_67, e3_68, e3_71, e3_72, e3_73, e3_74, e3_77, e3_78, e3_81, e3_82, e3_83, e3_84, e3_87, e3_88, e3_91, e3_93, e3_94, e3_95, e3_98, e3_99, e3_102, e3_104, e3_105, e3_106, e3_106i, e3_107, e3_110, e3_111, e3_112, e3_115, e3_116, e3_116i, e3_117, e3_120, e3_121, e3_124, e3_127, e3_128, e3_129, e3_130, e3_133, e3_134, e3_137, e3_138, e3_139, e3_142, e3_143, e3_144, e3_147, k0, r1, ht, rf_some, true_and, mj_kl, mj_u]
  refine ⟨fun _ => ⟨by simp, c_cellsOf hT hbin ?_⟩, fun q => absurd (nI_lt hm (by decide)) q⟩
  rw [hbcl, hown]
  simp only [tl_none, tl_some, e3_19, e3_21, e3_22, mj_kl]
  have := loop m 0 (by omega)
  rw [hA0] at this
  exact this
end
