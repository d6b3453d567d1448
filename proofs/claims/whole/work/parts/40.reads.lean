def sm (f : Nat → Nat) : Nat → Nat
  | 0 => 0
  | n + 1 => sm f n + f n
theorem sm_congr {f g : Nat → Nat} : ∀ {n : Nat}, (∀ k, k < n → f k = g k) → sm f n = sm g n
  | 0, _ => rfl
  | n + 1, h => by simp only [sm]; rw [sm_congr (fun k hk => h k (by omega)), h n (by omega)]
theorem sm_le {f : Nat → Nat} {c : Nat} (h : ∀ k, f k ≤ c) : ∀ n, sm f n ≤ n * c
  | 0 => by simp [sm]
  | n + 1 => by
    have h1 := sm_le h n
    have h2 := h n
    rw [Nat.succ_mul]
    simp only [sm]
    omega
theorem ct_add (p : Nat → Bool) (a : Nat) : ∀ b, ct p (a + b) = ct p a + ct (fun k => p (a + k)) b
  | 0 => by simp [ct]
  | b + 1 => by
    have h := ct_add p a b
    rw [show a + (b + 1) = (a + b) + 1 by omega]
    simp only [ct]
    omega
theorem ct_mul (p : Nat → Bool) (W : Nat) : ∀ H, ct p (W * H) = sm (fun y => ct (fun x => p (W * y + x)) W) H
  | 0 => by simp [ct, sm]
  | H + 1 => by
    rw [Nat.mul_add, Nat.mul_one, ct_add, ct_mul p W H]
    rfl
theorem ct_cut (q : Nat → Bool) (W l : Nat) (hl : 1 ≤ l) : ct (fun x => decide (x + l ≤ W) && q x) W = ct q (W + 1 - l) := by
  have key : ∀ a b, (∀ x, x < a → x + l ≤ W) → (∀ x, a ≤ x → ¬ x + l ≤ W) → ct (fun x => decide (x + l ≤ W) && q x) (a + b) = ct q a := by
    intro a b h1 h2
    rw [ct_add]
    have e1 : ct (fun x => decide (x + l ≤ W) && q x) a = ct q a := ct_congr fun k hk => by simp [h1 k hk]
    have e2 : ct (fun k => decide (a + k + l ≤ W) && q (a + k)) b = 0 := by
      induction b with
      | zero => rfl
      | succ b ih => simp only [ct, ih]; simp [h2 (a + b) (by omega)]
    rw [e1]
    omega
  have := key (W + 1 - l) (W - (W + 1 - l)) (fun x hx => by omega) (fun x hx => by omega)
  rwa [show W + 1 - l + (W - (W + 1 - l)) = W by omega] at this
theorem reads_rows {w : Wl} (hw : wOK w) {hs : Nat → Hg} {n v : Nat} (hv : v < wNW w) : reads w hs n v = sm (fun y => inRow w v (rowf w hs n y)) (wH w) := by
  unfold reads
  rw [ct_mul]
  refine sm_congr fun y hy => ?_
  have hl := (hw.2.2.2.2.2.2.2 v hv).1.1
  unfold inRow
  rw [← ct_cut _ _ _ hl]
  refine ct_congr fun x hx => ?_
  unfold stand
  rw [(cellxy (y := y) hx).1]
  by_cases q : x + wWL w v ≤ wW w
  · simp only [q, decide_true, Bool.true_and]
    congr 1
    refine ex_congr fun i hi => ?_
    have e : rowf w hs n y (x + i) = match letr w hs n (wW w * y + x + i) with
      | some l => l + 1
      | none => 0 := by
      unfold rowf
      rw [if_pos ⟨by omega, hy⟩, Nat.add_assoc]
      cases letr w hs n (wW w * y + (x + i)) <;> rfl
    rw [e]
    cases letr w hs n (wW w * y + x + i) with
    | none => simp
    | some l => simp [bne, Bool.not_eq_not]
  · simp [q]
theorem inRow_le (w : Wl) (v : Nat) (f : Nat → Nat) : inRow w v f ≤ wW w + 1 := Nat.le_trans (ct_le _ _) (Nat.sub_le _ _)
/-- only the bill's rows change -/
theorem sm_part {f g : Nat → Nat} {a k H : Nat} (h : ∀ y, y < H → ¬ (a ≤ y ∧ y < a + k) → f y = g y) (hk : a + k ≤ H) : sm f H + sm (fun i => g (a + i)) k = sm g H + sm (fun i => f (a + i)) k := by
  have pre : sm f a = sm g a := sm_congr fun y hy => h y (by omega) (by omega)
  have mid : ∀ j, j ≤ k → sm f (a + j) + sm (fun i => g (a + i)) j = sm g (a + j) + sm (fun i => f (a + i)) j := by
    intro j
    induction j with
    | zero => intro _; simp [sm, pre]
    | succ j ih =>
      intro hj
      have := ih (by omega)
      rw [show a + (j + 1) = (a + j) + 1 by omega]
      simp only [sm]
      omega
  have post : ∀ j, a + k + j ≤ H → sm f (a + k + j) + sm (fun i => g (a + i)) k = sm g (a + k + j) + sm (fun i => f (a + i)) k := by
    intro j
    induction j with
    | zero => intro _; exact mid k (Nat.le_refl _)
    | succ j ih =>
      intro hj
      have := ih (by omega)
      have e := h (a + k + j) (by omega) (by omega)
      rw [show a + k + (j + 1) = (a + k + j) + 1 by omega]
      simp only [sm]
      omega
  have := post (H - (a + k)) (by omega)
  rwa [show a + k + (H - (a + k)) = H by omega] at this
section
variable {sa : Nat → Nat} {d n t h m : Nat} {Q : mj_Q} {K : Nat → Nat × Nat} {FI : Nat → Nat → Int32} {FL : Nat → Nat → Int64} {FR : Nat → Nat → Option Nat} {AI : Nat → Nat → Int32} {AL : Nat → Nat → Int64} {AR : Nat → Nat → Option Nat} {w : Wl} {hs : Nat → Hg}
theorem c_readsMoreWith (hH : HungS K FR h) (hT : ToldS K FR t) (ht : FR 0 h = some t) (hw : wOK w) (hTR : ToldR FI AI AL t w) (hR : HungR FI AI h w hs m) (hL : LetR FI AL h w hs m) (sep : t + 13 < h + 15 ∨ h + 22 < t) {b x y : Nat} (ho : onW w b x y) (hQ : ∀ (FI' : Nat → Nat → Int32) (AL' : Nat → Nat → Int64), LetR FI' AL' h w hs m → FIx FI FI' h [12] → ALx AL AL' (h + 22) (h + 22) → Q (some (.int (bI (ex (fun v => decide (reads w hs m v < reads w (puth hs m (b, x, y, -2)) (m + 1) v)) (wNW w))))) (n, K, FI', FL, FR, AI, AL', AR)) : EV sa (d + 2) 26 [.ref h, .int (nI b), .int (nI (wW w * y + x))] (n, K, FI, FL, FR, AI, AL, AR) Q := by
  have k0 := hH.1
  have hne : t ≠ h := fun e => by
    have h1 := hT.1
    rw [e, k0] at h1
    cases h1
  refine n26 k0 ?_
  simp only [e26_0, e26_1]
  refine ⟨by simp, c_knowLetters hH hT ht hw hTR hR hL sep fun FI' AL' a1 a2 a3 a4 => ?_⟩
  have hTR' : ToldR FI' AI AL' t w := ToldR.frame (lo := h + 15) (hi := h + 22) hTR a3 hne AIx.rfl' (fun q _ _ => a4 q (by omega)) (by omega)
  replace hQ := hQ FI' AL' (Or.inr ⟨a1, a2⟩) a3 a4
  simp only [tl_none]
  obtain ⟨-, -, -, -, -, -, -, -, ⟨f11, k22⟩⟩ := hH
  have hT2 := hT
  obtain ⟨kt, -, -, ⟨t3, kt3⟩, -, -, -, ⟨t7, kt7⟩, ⟨t8, kt8⟩, -, -, -, ⟨t12, kt12⟩, ⟨t13, kt13⟩⟩ := hT
  have hTR2 := hTR'
  obtain ⟨⟨-, -, -, -, -, -, w6⟩, b0, -, b4⟩ := hTR'
  obtain ⟨o1, o2, o3⟩ := id ho
  obtain ⟨c1, c2⟩ := corner_lt hw ho
  obtain ⟨q1, q2, q3, -, -, -, q7, q8⟩ := b0 _ o1
  have hn4 := hw.2.2.2.1
  have hW8 := hw.1.2
  have hH4 := hw.2.1.2
  have hbw := hw.2.2.2.2.2.2.1 b o1
  have hn6 := hw.2.2.2.2.2.1
  have hcin : vp_in (nI (wW w * y + x)) 32 := vp_in_nI (by omega) (by decide)
  have hccl : (nI (wW w * y + x)).toNatClampNeg = wW w * y + x := nI_clamp (by omega)
  have hbin : vp_in (nI b) 4 := vp_in_nI (by omega) (by decide)
  have hbcl : (nI b).toNatClampNeg = b := nI_clamp (by omega)
  obtain ⟨m1, m2⟩ := b4 (wW w * y + x) (by omega)
  obtain ⟨e1, e2⟩ := cellxy (y := y) (show x < wW w by omega)
  rw [e1] at m1
  rw [e2] at m2
  have e5 : (5 : Int32) * nI x = nI (5 * x) := by rw [show (5 : Int32) = nI 5 from rfl, pk_mul]
  generalize hhs : puth hs m (b, x, y, -2) = hs' at hQ
  have hgk : ∀ k, k < m → gOK w (hs k) := fun k hk => (hR.2.2.2.2 k hk).1
  have hgk' : ∀ k, k < m + 1 → gOK w (hs' k) := fun k hk => by
    rw [← hhs]
    rcases Nat.lt_or_ge k m with q | q
    · rw [puth_lt q]; exact hgk k q
    · rw [show k = m by omega, puth_eq]; exact ho
  have hgm : hs' m = (b, x, y, -2) := by rw [← hhs, puth_eq]
  have rowp : ∀ yy xx, rowf w hs' m yy xx = rowf w hs m yy xx := fun yy xx => by
    have et : ∀ c, tp w hs' m c = tp w hs m c := fun c => tp_congr fun k hk => by rw [← hhs, puth_lt hk]
    unfold rowf letr
    rw [et]
    cases e : tp w hs m (wW w * yy + xx) with
    | none => rfl
    | some k => simp only [Option.map_some]; rw [← hhs, puth_lt (tp_lt e).1]
  have step : ∀ yy xx, rowf w hs' (m + 1) yy xx = if (y ≤ yy ∧ yy < y + wBH w b) ∧ (x ≤ xx ∧ xx < x + wBW w b) then wTX w b ((wBW w b * (yy - y) + (xx - x)) % wTL w b) + 1 else rowf w hs m yy xx := fun yy xx => by
    rw [rowf_step (hgk' m (by omega)), hgm, rowp]
    rfl
  generalize hP : (fun v => decide (reads w hs m v < reads w hs' (m + 1) v)) = P at hQ
  have ret : ∀ (v : Nat) (x7 x8 x9 x10 x11 x12 x13 x14 : Value), ex P v = ex P (wNW w) → WP sa (EV sa (d + 1)) 26 Q 0 0 184 [.ref h, .int (nI b), .int (nI (wW w * y + x)), .int (nI y), .int (nI (5 * x)), .int (bI (ex P v)), .int (nI v), x7, x8, x9, x10, x11, x12, x13, x14] [] (n, K, FI', FL, FR, AI, AL', AR) := by
    intro v x7 x8 x9 x10 x11 x12 x13 x14 e
    simp only [e26_184, e26_186]
    rw [e]
    exact ⟨bI_01 _, hQ⟩
  have outer : ∀ rr v, v + rr = wNW w → ∀ x7 x8 x9 x10 x11 x12 x13 x14 : Value, WP sa (EV sa (d + 1)) 26 Q 0 0 33 [.ref h, .int (nI b), .int (nI (wW w * y + x)), .int (nI y), .int (nI (5 * x)), .int (bI (ex P v)), .int (nI v), x7, x8, x9, x10, x11, x12, x13, x14] [] (n, K, FI', FL, FR, AI, AL', AR) := by
    intro rr
    induction rr with
    | zero =>
      intro v hv x7 x8 x9 x10 x11 x12 x13 x14
      have hv' : v = wNW w := by omega
      rw [e26_33]
      simp only [e26_35, e26_38, e26_40, e26_41, e26_44, e26_47, k0, ht, kt, rf_some, w6, true_and]
      refine ⟨fun _ => ret v _ _ _ _ _ _ _ _ (by rw [hv']), fun _ => ⟨fun _ => ret v _ _ _ _ _ _ _ _ (by rw [hv']), fun q => absurd (nI_le (by omega) (by omega)) q⟩⟩
    | succ rr ih =>
      intro v hv x7 x8 x9 x10 x11 x12 x13 x14
      generalize hF : (fun r => inRow w v (rowf w hs m (y + r))) = F
      generalize hF' : (fun r => inRow w v (rowf w hs' (m + 1) (y + r))) = F'
      have eF : ∀ r, inRow w v (rowf w hs m (y + r)) = F r := fun r => by rw [← hF]
      have eF' : ∀ r, inRow w v (rowf w hs' (m + 1) (y + r)) = F' r := fun r => by rw [← hF']
      have lF : ∀ r, F r ≤ 9 := fun r => by rw [← eF]; have := inRow_le w v (rowf w hs m (y + r)); omega
      have lF' : ∀ r, F' r ≤ 9 := fun r => by rw [← eF']; have := inRow_le w v (rowf w hs' (m + 1) (y + r)); omega
      have gain : (sm F (wBH w b) < sm F' (wBH w b)) ↔ P v = true := by
        have sp := sm_part (f := fun yy => inRow w v (rowf w hs m yy)) (g := fun yy => inRow w v (rowf w hs' (m + 1) yy)) (a := y) (k := wBH w b) (H := wH w) (fun yy hyy hn => by
          have : rowf w hs' (m + 1) yy = rowf w hs m yy := by
            funext xx
            rw [step, if_neg (fun z => hn z.1)]
          simp only [this]) o3
        simp only [eF, eF'] at sp
        have sp' : sm (fun yy => inRow w v (rowf w hs m yy)) (wH w) + sm F' (wBH w b) = sm (fun yy => inRow w v (rowf w hs' (m + 1) yy)) (wH w) + sm F (wBH w b) := sp
        rw [← hP]
        simp only [decide_eq_true_eq]
        rw [reads_rows hw (by omega), reads_rows hw (by omega)]
        omega
      have inner : ex P v = false → ∀ sr row, row + sr = wBH w b → ∀ x9 x10 x11 x12 x13 x14 : Value, WP sa (EV sa (d + 1)) 26 Q 0 0 56 [.ref h, .int (nI b), .int (nI (wW w * y + x)), .int (nI y), .int (nI (5 * x)), .int (bI (ex P v)), .int (nI v), .int (nI (sm F' row) - nI (sm F row)), .int (nI row), x9, x10, x11, x12, x13, x14] [] (n, K, FI', FL, FR, AI, AL', AR) := by
        intro hex sr
        induction sr with
        | zero =>
          intro row hr x9 x10 x11 x12 x13 x14
          have hr' : row = wBH w b := by omega
          subst hr'
          have s1 := sm_le lF (wBH w b)
          have s2 := sm_le lF' (wBH w b)
          have hle : (nI (sm F' (wBH w b)) - nI (sm F (wBH w b)) ≤ 0) ↔ ¬ P v = true := by
            rw [← gain, Int32.le_iff_toInt_le, pk_sub_toInt (by omega) (by omega)]
            simp
            omega
          rw [e26_56]
          simp only [e26_58, e26_59, e26_62, e26_65, e26_66, e26_67, e26_166, e26_168, e26_171, e26_172, e26_175, e26_176, e26_178, e26_181, k0, ht, kt, t3, kt3, rf_some, hbin, hbcl, q3, nI_1, true_and, true_or, mj_kl, hle]
          refine ⟨fun _ => ⟨fun q => ?_, fun q => ?_⟩, fun q => absurd (nI_le (Nat.le_refl _) (by omega)) q⟩
          · have := ih (v + 1) (by omega) (.int (nI (sm F' (wBH w b)) - nI (sm F (wBH w b)))) (.int (nI (wBH w b))) x9 x10 x11 x12 x13 x14
            have q' : P v = false := by simpa using q
            simpa [ex, hex, q', bI] using this
          · have := ih (v + 1) (by omega) (.int (nI (sm F' (wBH w b)) - nI (sm F (wBH w b)))) (.int (nI (wBH w b))) x9 x10 x11 x12 x13 x14
            have q' : P v = true := by simpa using q
            simpa [ex, hex, q', bI] using this
        | succ sr ihs =>
          intro row hr x9 x10 x11 x12 x13 x14
          have y4 : y + row < 4 := by omega
          have hyin : vp_in (nI (y + row)) 4 := vp_in_nI y4 (by decide)
          have hycl : (nI (y + row)).toNatClampNeg = y + row := nI_clamp (by omega)
          have e4 : nI b * 4 + nI row = nI (4 * b + row) := by rw [show (4 : Int32) = nI 4 from rfl, pk_mul, nI_add, Nat.mul_comm]
          have hkin : vp_in (nI (4 * b + row)) 16 := vp_in_nI (by omega) (by decide)
          have hkcl : (nI (4 * b + row)).toNatClampNeg = 4 * b + row := nI_clamp (by omega)
          have hold := a2 (y + row) y4
          have hp := PkL.paint (x := x) hold q7 (q8 row (by omega)) (by omega) (fun j hj => by simp; omega)
          have hfresh := hp.congr (g := rowf w hs' (m + 1) (y + row)) (fun xx hxx => by
            rw [step]
            by_cases z : x ≤ xx ∧ xx < x + wBW w b
            · rw [if_pos z, if_pos (by omega), if_pos ⟨by omega, z⟩, show y + row - y = row by omega]
            · rw [if_neg z, if_neg (fun z2 => z z2.2)])
          rw [e26_56]
          simp only [e26_58, e26_59, e26_62, e26_65, e26_66, e26_67, e26_70, e26_71, e26_73, e26_74, e26_75, e26_78, e26_79, e26_82, e26_83, e26_85, e26_86, e26_87, e26_89, e26_91, e26_92, e26_95, e26_98, e26_99, e26_100, e26_102, e26_103, e26_106, e26_107, e26_108, e26_110, e26_112, e26_113, e26_116, e26_119, e26_120, e26_121, e26_122, e26_124, e26_125, e26_126, e26_128, e26_129, e26_130, e26_132, e26_134, e26_135, e26_138, e26_140, e26_142, k0, ht, kt, t3, kt3, t7, kt7, t8, kt8, f11, k22, rf_some, hbin, hbcl, q3, nI_1, nI_add, hyin, hycl, e4, hkin, hkcl, true_and, true_or, mj_kl]
          refine ⟨fun q => absurd q (nI_ge (by omega) (by omega)), fun _ => ⟨fun q => absurd q (by rw [show (4 : Int32) = nI 4 from rfl]; exact nI_ge y4 (by omega)), fun _ => ⟨by simp, c_timesIn hT2 hw hTR2 (by omega) hfresh (rowf_lt hw hgk' _) ?_⟩⟩⟩
          simp only [tl_some, e26_145, e26_146, e26_149, e26_151, e26_153, k0, ht, kt, rf_some, true_and]
          refine ⟨by simp, c_timesIn hT2 hw hTR2 (by omega) hold (rowf_lt hw hgk _) ?_⟩
          simp only [tl_some, e26_156, e26_157, e26_158, e26_160, e26_163, nI_1, mj_kl]
          have := ihs (row + 1) (by omega) (.long (AL' (h + 22) (y + row))) mj_u (.long (AL' (h + 22) (y + row) &&& ((AL' (t + 8) b <<< ((nI (5 * x)).toInt64 &&& 63)) ^^^ (-1)))) mj_u (.long ((AL' (h + 22) (y + row) &&& ((AL' (t + 8) b <<< ((nI (5 * x)).toInt64 &&& 63)) ^^^ (-1))) ||| (AL' (t + 7) (4 * b + row) <<< ((nI (5 * x)).toInt64 &&& 63)))) mj_u
          have e9 : nI (sm F' row) - nI (sm F row) + (nI (inRow w v (rowf w hs' (m + 1) (y + row))) - nI (inRow w v (rowf w hs m (y + row)))) = nI (sm F' (row + 1)) - nI (sm F (row + 1)) := by
            simp only [sm, eF, eF', ← nI_add]
            simp only [Int32.sub_eq_add_neg, Int32.neg_add]
            ac_rfl
          rw [e9]
          simpa [mj_u, mj_kl] using this
      rw [e26_33]
      simp only [e26_35, e26_38, e26_40, e26_41, e26_44, e26_47, e26_50, e26_51, e26_53, e26_54, k0, ht, kt, rf_some, w6, true_and, mj_kl]
      refine ⟨fun q => ret v _ _ _ _ _ _ _ _ ?_, fun q => ⟨fun q2 => absurd q2 (nI_ge (by omega) (by omega)), fun _ => ?_⟩⟩
      · have q' : ex P v = true := by
          cases e : ex P v with
          | true => rfl
          | false => exact absurd ((bI_eq0 _).mpr e) q
        rw [q']
        symm
        obtain ⟨k, z1, z2⟩ := ex_true.mp q'
        exact ex_true.mpr ⟨k, by omega, z2⟩
      · have hex : ex P v = false := (bI_eq0 _).mp (by simpa using q)
        have := inner hex (wBH w b) 0 (by omega) x9 x10 x11 x12 x13 x14
        simpa [sm, nI_0] using this
  simp only [e26_4, e26_5, e26_8, e26_11, e26_12, e26_13, e26_14, e26_15, e26_16, e26_19, e26_22, e26_23, e26_24, e26_25, e26_27, e26_28, e26_30, e26_31, k0, ht, kt, t12, t13, kt12, kt13, rf_some, hcin, hccl, m1, m2, e5, true_and, true_or, mj_kl]
  have := outer (wNW w) 0 (by omega) mj_u mj_u mj_u mj_u mj_u mj_u mj_u mj_u
  simpa [nI_0, ex, bI, mj_u, mj_kl] using this
end
