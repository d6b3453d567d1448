/-! ## orders: the class's count and the model's -/
/-- the class's two counts as one -/
def oI2 (ab : Option (Nat × Nat)) (st : Nat → Bool) (io : Bool) (i : Nat) : Bool := match ab with
  | none => io
  | some x => oIo x.1 x.2 st io i
def O2 (w : Wl) (hs : Nat → Hg) (m : Nat) (ab : Option (Nat × Nat)) : Nat → (Nat → Bool) → (Nat → Bool) → Bool → (Nat → Hg) → Nat → Nat
  | 0, _, _, io, _, _ => if io then 1 else 0
  | f + 1, st, sh, io, hs', m' => sm (fun j => if oGo w hs st sh hs' m' (wF w + j) then O2 w hs m ab f (oSt st (wF w + j)) (oSh w hs m sh (wF w + j)) (oI2 ab st io (wF w + j)) (puth hs' m' (hs (wF w + j))) (m' + 1) else 0) (m - wF w)
theorem OT_O2 (w : Wl) (hs : Nat → Hg) (m : Nat) : ∀ f st sh hs' m', OT w hs m f st sh hs' m' = O2 w hs m none f st sh true hs' m'
  | 0, _, _, _, _ => rfl
  | f + 1, st, sh, hs', m' => by
    simp only [OT, O2]
    refine sm_congr fun j _ => ?_
    simp only [OT_O2 w hs m f, oI2]
theorem OA_O2 (w : Wl) (hs : Nat → Hg) (m a b : Nat) : ∀ f st sh io hs' m', OA w hs m a b f st sh io hs' m' = O2 w hs m (some (a, b)) f st sh io hs' m'
  | 0, _, _, _, _, _ => rfl
  | f + 1, st, sh, io, hs', m' => by
    simp only [OA, O2]
    refine sm_congr fun j _ => ?_
    simp only [OA_O2 w hs m a b f, oI2]
/-- the model's trial wall -/
def hsR (w : Wl) (hs : Nat → Hg) (rw_ : Nat → Nat) (k : Nat) : Hg := if k < wF w then hs k else hs (wF w + rw_ (k - wF w))
def sameL (w : Wl) (hs : Nat → Hg) (m : Nat) (rw_ : Nat → Nat) : Bool := !(ex (fun c => (tp w (hsR w hs rw_) m c).map (fun k => if k < wF w then k else wF w + rw_ (k - wF w)) != tp w hs m c) 32)
def abOK (ab : Option (Nat × Nat)) (st : Nat → Bool) (i : Nat) : Bool := match ab with
  | none => true
  | some x => !(decide (i = x.2) && !st x.1)
def MC (w : Wl) (hs : Nat → Hg) (m : Nat) (ab : Option (Nat × Nat)) : Nat → (Nat → Bool) → (Nat → Nat) → Nat → Nat
  | 0, _, rw_, _ => if sameL w hs m rw_ then 1 else 0
  | f + 1, st, rw_, t => sm (fun j => if !st (wF w + j) && abOK ab st (wF w + j) && mayAt w (hsR w hs rw_) (wF w + t) (gB (hs (wF w + j))) (wW w * gY (hs (wF w + j)) + gX (hs (wF w + j))) then MC w hs m ab f (oSt st (wF w + j)) (upN rw_ t j) (t + 1) else 0) (m - wF w)
theorem sm_zero {f : Nat → Nat} : ∀ {n}, (∀ k, k < n → f k = 0) → sm f n = 0
  | 0, _ => rfl
  | n + 1, h => by simp only [sm]; rw [sm_zero (fun k hk => h k (by omega)), h n (by omega)]
theorem ct_set {p : Nat → Bool} {j : Nat} (hj : p j = false) : ∀ {n}, j < n → ct (fun k => p k || decide (k = j)) n = ct p n + 1
  | 0, h => by omega
  | n + 1, h => by
    simp only [ct]
    by_cases e : j = n
    · subst e
      rw [ct_congr (q := p) (fun k hk => by have : ¬ k = j := by omega
                                            simp [this])]
      simp [hj]
    · rw [ct_set hj (show j < n by omega)]
      have : ¬ n = j := fun z => e z.symm
      simp only [this, decide_false, Bool.or_false]
      omega
theorem tp_le {w : Wl} {hs : Nat → Hg} {c n k : Nat} (hk : k < n) (hc : covg w (hs k) c = true) : ∃ k', tp w hs n c = some k' ∧ k ≤ k' := by
  induction n with
  | zero => omega
  | succ n ih =>
    by_cases e : covg w (hs n) c = true
    · exact ⟨n, by simp only [tp]; rw [if_pos e], by omega⟩
    · rcases Nat.lt_or_ge k n with z | z
      · obtain ⟨k', h1, h2⟩ := ih z
        exact ⟨k', by simp only [tp]; rw [if_neg e]; exact h1, h2⟩
      · rw [show n = k by omega] at e; exact absurd hc e
section
variable {w : Wl} {hs : Nat → Hg} {m : Nat} {ab : Option (Nat × Nat)}
/-- where something was covered that shows, no order comes of it -/
theorem MC_bad (hF : wF w ≤ m) : ∀ (f : Nat) {st : Nat → Bool} {rw_ : Nat → Nat} {t p p' c : Nat}, t + f = m - wF w → (∀ x y, x < t → y < t → rw_ x = rw_ y → x = y) → (∀ x, x < t → st (wF w + rw_ x) = true) → p < p' → p' < t → c < 32 → tp w hs m c = some (wF w + rw_ p) → covg w (hs (wF w + rw_ p')) c = true → MC w hs m ab f st rw_ t = 0
  | 0, st, rw_, t, p, p', c, h1, h2, h3, h4, h5, h6, h7, h8 => by
    have hc' : covg w (hsR w hs rw_ (wF w + p')) c = true := by
      unfold hsR
      rw [if_neg (by omega), Nat.add_sub_cancel_left]
      exact h8
    obtain ⟨k, hk1, hk2⟩ := tp_le (w := w) (hs := hsR w hs rw_) (c := c) (n := m) (show wF w + p' < m by omega) hc'
    have hkm := (tp_lt hk1).1
    have hns : sameL w hs m rw_ = false := by
      unfold sameL
      rw [Bool.not_eq_false', ex_true]
      refine ⟨c, h6, ?_⟩
      rw [hk1, h7]
      simp only [Option.map_some]
      rw [if_neg (show ¬ k < wF w by omega)]
      have : rw_ (k - wF w) ≠ rw_ p := fun e => by have := h2 _ _ (by omega) (by omega) e; omega
      simp only [bne_iff_ne, ne_eq, Option.some.injEq]
      omega
    simp only [MC, hns]
    rfl
  | f + 1, st, rw_, t, p, p', c, h1, h2, h3, h4, h5, h6, h7, h8 => by
    simp only [MC]
    refine sm_zero fun j hj => ?_
    split
    · next hcond =>
      have hst : st (wF w + j) = false := by
        have := (Bool.and_eq_true_iff.mp (Bool.and_eq_true_iff.mp hcond).1).1
        simpa using this
      have hne : ∀ x, x < t → rw_ x ≠ j := fun x hx e => by rw [← e, h3 x hx] at hst; cases hst
      refine MC_bad hF f (p := p) (p' := p') (c := c) (by omega) (fun x y hx hy e => ?_) (fun x hx => ?_) h4 (by omega) h6 (by rw [upN_o (by omega)]; exact h7) (by rw [upN_o (by omega)]; exact h8)
      · by_cases ex1 : x = t
        · by_cases ey1 : y = t
          · omega
          · rw [ex1, upN_s, upN_o ey1] at e
            exact absurd e.symm (hne y (by omega))
        · by_cases ey1 : y = t
          · rw [ey1, upN_s, upN_o ex1] at e
            exact absurd e (hne x (by omega))
          · rw [upN_o ex1, upN_o ey1] at e
            exact h2 x y (by omega) (by omega) e
      · by_cases ex1 : x = t
        · rw [ex1, upN_s]; simp [oSt]
        · rw [upN_o ex1]
          unfold oSt
          rw [h3 x (by omega)]
          rfl
    · rfl
def bS (ab : Option (Nat × Nat)) (st : Nat → Bool) : Bool := match ab with
  | none => true
  | some x => st x.2
theorem O2_MC (hF : wF w ≤ m) (hab : ∀ x, ab = some x → wF w ≤ x.2 ∧ x.2 < m) : ∀ (f : Nat) {st sh : Nat → Bool} {io : Bool} {hs' : Nat → Hg} {rw_ : Nat → Nat} {t : Nat}, t + f = m - wF w → (∀ x, x < t → rw_ x < m - wF w ∧ st (wF w + rw_ x) = true) → (∀ j, j < m - wF w → st (wF w + j) = true → ∃ p, p < t ∧ rw_ p = j) → (∀ x y, x < t → y < t → rw_ x = rw_ y → x = y) → ct (fun j => st (wF w + j)) (m - wF w) = t → (∀ k, k < wF w + t → hs' k = hsR w hs rw_ k) → (∀ c, c < 32 → (sh c = true ↔ ∃ p, p < t ∧ tp w hs m c = some (wF w + rw_ p))) → (∀ p p' c, p < p' → p' < t → c < 32 → tp w hs m c = some (wF w + rw_ p) → covg w (hs (wF w + rw_ p')) c = false) → O2 w hs m ab f st sh io hs' (wF w + t) = if bS ab st then (if io then MC w hs m ab f st rw_ t else 0) else MC w hs m ab f st rw_ t
  | 0, st, sh, io, hs', rw_, t, h1, h2, h3, h4, h5, h6, h7, h8 => by
    have hall : ∀ j, j < m - wF w → st (wF w + j) = true := ct_all.mp (by rw [h5]; omega)
    have hb : bS ab st = true := by
      unfold bS
      cases ab with
      | none => rfl
      | some x =>
        obtain ⟨y1, y2⟩ := hab x rfl
        have := hall (x.2 - wF w) (by omega)
        rw [show wF w + (x.2 - wF w) = x.2 by omega] at this
        exact this
    have hsame : sameL w hs m rw_ = true := by
      unfold sameL
      rw [Bool.not_eq_true', ex_false]
      intro c hc
      cases e : tp w hs m c with
      | none =>
        cases e2 : tp w (hsR w hs rw_) m c with
        | none => rfl
        | some k =>
          obtain ⟨k1, k2⟩ := tp_lt e2
          exfalso
          unfold hsR at k2
          split at k2
          · obtain ⟨k', z, -⟩ := tp_le (w := w) (hs := hs) (n := m) (show k < m by omega) k2
            rw [e] at z; cases z
          · obtain ⟨k', z, -⟩ := tp_le (w := w) (hs := hs) (n := m) (show wF w + rw_ (k - wF w) < m by have := (h2 (k - wF w) (by omega)).1; omega) k2
            rw [e] at z; cases z
      | some i =>
        obtain ⟨i1, i2, i3⟩ := tp_iff.mp e
        by_cases hi : i < wF w
        · have e2 : tp w (hsR w hs rw_) m c = some i := tp_iff.mpr ⟨i1, by unfold hsR; rw [if_pos hi]; exact i2, fun k k1 k2 => by
            unfold hsR
            split
            · exact i3 k k1 k2
            · have := (h2 (k - wF w) (by omega)).1
              exact i3 _ (by omega) (by omega)⟩
          rw [e2]
          simp [hi]
        · obtain ⟨p, p1, p2⟩ := h3 (i - wF w) (by omega) (hall _ (by omega))
          have ei : wF w + rw_ p = i := by omega
          have e2 : tp w (hsR w hs rw_) m c = some (wF w + p) := tp_iff.mpr ⟨by omega, by unfold hsR; rw [if_neg (by omega), Nat.add_sub_cancel_left, ei]; exact i2, fun k k1 k2 => by
            unfold hsR
            rw [if_neg (by omega)]
            exact h8 p (k - wF w) c (by omega) (by omega) hc (by rw [e, ei])⟩
          rw [e2]
          simp only [Option.map_some]
          rw [if_neg (show ¬ wF w + p < wF w by omega), Nat.add_sub_cancel_left, ei]
          simp
    simp only [O2, MC, hb, hsame, if_true]
  | f + 1, st, sh, io, hs', rw_, t, h1, h2, h3, h4, h5, h6, h7, h8 => by
    -- a term
    have term : ∀ j, j < m - wF w → (if oGo w hs st sh hs' (wF w + t) (wF w + j) then O2 w hs m ab f (oSt st (wF w + j)) (oSh w hs m sh (wF w + j)) (oI2 ab st io (wF w + j)) (puth hs' (wF w + t) (hs (wF w + j))) (wF w + t + 1) else 0) = if bS ab st then (if io then (if !st (wF w + j) && abOK ab st (wF w + j) && mayAt w (hsR w hs rw_) (wF w + t) (gB (hs (wF w + j))) (wW w * gY (hs (wF w + j)) + gX (hs (wF w + j))) then MC w hs m ab f (oSt st (wF w + j)) (upN rw_ t j) (t + 1) else 0) else 0) else (if !st (wF w + j) && abOK ab st (wF w + j) && mayAt w (hsR w hs rw_) (wF w + t) (gB (hs (wF w + j))) (wW w * gY (hs (wF w + j)) + gX (hs (wF w + j))) then MC w hs m ab f (oSt st (wF w + j)) (upN rw_ t j) (t + 1) else 0) := by
      intro j hj
      have emay : mayAt w hs' (wF w + t) (gB (hs (wF w + j))) (wW w * gY (hs (wF w + j)) + gX (hs (wF w + j))) = mayAt w (hsR w hs rw_) (wF w + t) (gB (hs (wF w + j))) (wW w * gY (hs (wF w + j)) + gX (hs (wF w + j))) := may3 (fun k hk => by rw [h6 k hk]; exact ⟨rfl, rfl, rfl⟩)
      unfold oGo
      rw [emay]
      by_cases hst : st (wF w + j) = true
      · simp [hst]
      · have hst' : st (wF w + j) = false := by simpa using hst
        have hne : ∀ x, x < t → rw_ x ≠ j := fun x hx e => by rw [← e, (h2 x hx).2] at hst'; cases hst'
        by_cases hmay : mayAt w (hsR w hs rw_) (wF w + t) (gB (hs (wF w + j))) (wW w * gY (hs (wF w + j)) + gX (hs (wF w + j))) = true
        · have inj' : ∀ x y, x < t + 1 → y < t + 1 → upN rw_ t j x = upN rw_ t j y → x = y := fun x y hx hy e => by
            by_cases ex1 : x = t
            · by_cases ey1 : y = t
              · omega
              · rw [ex1, upN_s, upN_o ey1] at e
                exact absurd e.symm (hne y (by omega))
            · by_cases ey1 : y = t
              · rw [ey1, upN_s, upN_o ex1] at e
                exact absurd e (hne x (by omega))
              · rw [upN_o ex1, upN_o ey1] at e
                exact h4 x y (by omega) (by omega) e
          have st'' : ∀ x, x < t + 1 → oSt st (wF w + j) (wF w + upN rw_ t j x) = true := fun x hx => by
            by_cases ex1 : x = t
            · rw [ex1, upN_s]; simp [oSt]
            · rw [upN_o ex1]
              unfold oSt
              rw [(h2 x (by omega)).2]
              rfl
          by_cases hcl : ex (fun c => covg w (hs (wF w + j)) c && sh c) 32 = true
          · obtain ⟨c, c1, c2⟩ := ex_true.mp hcl
            obtain ⟨c3, c4⟩ := Bool.and_eq_true_iff.mp c2
            obtain ⟨p, p1, p2⟩ := (h7 c c1).mp c4
            have z0 : MC w hs m ab f (oSt st (wF w + j)) (upN rw_ t j) (t + 1) = 0 := MC_bad hF f (p := p) (p' := t) (c := c) (by omega) inj' st'' p1 (by omega) c1 (by rw [upN_o (by omega)]; exact p2) (by rw [upN_s]; exact c3)
            rw [hcl, z0]
            simp
          · have hcl' : ex (fun c => covg w (hs (wF w + j)) c && sh c) 32 = false := by simpa using hcl
            have IH := fun io' => O2_MC hF hab f (st := oSt st (wF w + j)) (sh := oSh w hs m sh (wF w + j)) (io := io') (hs' := puth hs' (wF w + t) (hs (wF w + j))) (rw_ := upN rw_ t j) (t := t + 1) (by omega) (fun x hx => ⟨by
              by_cases ex1 : x = t
              · rw [ex1, upN_s]; exact hj
              · rw [upN_o ex1]; exact (h2 x (by omega)).1, st'' x hx⟩) (fun i hi hs1 => by
              by_cases e : i = j
              · exact ⟨t, by omega, by rw [e]; exact upN_s⟩
              · have : st (wF w + i) = true := by
                  unfold oSt at hs1
                  have hn : ¬ (wF w + i = wF w + j) := by omega
                  simpa [hn, e] using hs1
                obtain ⟨p, p1, p2⟩ := h3 i hi this
                exact ⟨p, by omega, by rw [upN_o (by omega)]; exact p2⟩) inj' (by
              have := ct_set (p := fun j => st (wF w + j)) (j := j) hst' hj
              rw [h5] at this
              rw [← this]
              refine ct_congr fun k _ => ?_
              show (st (wF w + k) || decide (wF w + k = wF w + j)) = (st (wF w + k) || decide (k = j))
              rw [show decide (wF w + k = wF w + j) = decide (k = j) from decide_eq_decide.mpr (by omega)]) (fun k hk => by
              by_cases e : k = wF w + t
              · subst e
                rw [puth_eq]
                unfold hsR
                rw [if_neg (by omega), Nat.add_sub_cancel_left, upN_s]
              · rw [puth_lt (by omega), h6 k (by omega)]
                unfold hsR
                split
                · rfl
                · rw [upN_o (by omega)]) (fun c hc => by
              unfold oSh
              rw [Bool.or_eq_true, h7 c hc]
              constructor
              · rintro (⟨p, p1, p2⟩ | e)
                · exact ⟨p, by omega, by rw [upN_o (by omega)]; exact p2⟩
                · exact ⟨t, by omega, by rw [upN_s]; simpa using e⟩
              · rintro ⟨p, p1, p2⟩
                by_cases e : p = t
                · subst e
                  rw [upN_s] at p2
                  right
                  simpa using p2
                · rw [upN_o e] at p2
                  exact Or.inl ⟨p, by omega, p2⟩) (fun p p' c hp hp' hc e => by
              rw [upN_o (by omega)] at e
              by_cases ep : p' = t
              · rw [ep, upN_s]
                have := ex_false.mp hcl' c hc
                have hsh : sh c = true := (h7 c hc).mpr ⟨p, by omega, e⟩
                rw [hsh, Bool.and_true] at this
                exact this
              · rw [upN_o ep]
                exact h8 p p' c hp (by omega) hc e)
            rw [hcl', hst', hmay]
            have e1 : wF w + t + 1 = wF w + (t + 1) := by omega
            rw [e1]
            simp only [Bool.not_false, Bool.and_true, Bool.true_and, if_true]
            rw [IH]
            cases ab with
            | none => rfl
            | some x =>
              by_cases hb : wF w + j = x.2
              · have e1 : bS (some x) (oSt st (wF w + j)) = true := by simp [bS, oSt, hb]
                have e2 : bS (some x) st = false := by show st x.2 = false; rw [← hb]; exact hst'
                have e3 : abOK (some x) st (wF w + j) = st x.1 := by simp [abOK, hb]
                have e4 : oI2 (some x) st io (wF w + j) = st x.1 := if_pos hb
                rw [e1, e2, e3, e4]
                simp
              · have hb2 : ¬ x.2 = wF w + j := fun e => hb e.symm
                have e1 : bS (some x) (oSt st (wF w + j)) = bS (some x) st := by simp [bS, oSt, hb2]
                have e3 : abOK (some x) st (wF w + j) = true := by simp [abOK, hb]
                have e4 : oI2 (some x) st io (wF w + j) = io := if_neg hb
                rw [e1, e3, e4]
                simp
        · have hmay' : mayAt w (hsR w hs rw_) (wF w + t) (gB (hs (wF w + j))) (wW w * gY (hs (wF w + j)) + gX (hs (wF w + j))) = false := by simpa using hmay
          rw [hmay']
          simp
    simp only [O2, MC]
    rw [sm_congr term]
    cases bS ab st with
    | false => rfl
    | true =>
      cases io with
      | true => rfl
      | false => simp only [if_true]; exact sm_zero fun _ _ => rfl
/-- from the founders on -/
theorem OT_MC (hF : wF w ≤ m) : OT w hs m (m - wF w) (fun _ => false) (fun _ => false) hs (wF w) = MC w hs m none (m - wF w) (fun _ => false) (fun _ => 0) 0 := by
  have := O2_MC (w := w) (hs := hs) (m := m) (ab := none) hF (fun x h => by cases h) (m - wF w) (st := fun _ => false) (sh := fun _ => false) (io := true) (hs' := hs) (rw_ := fun _ => 0) (t := 0) (by omega) (fun x hx => by omega) (fun j _ h => by cases h) (fun x y hx => by omega) (ct_zero.mpr (ex_false.mpr fun _ _ => rfl)) (fun k hk => by unfold hsR; rw [if_pos (by omega)]) (fun c _ => ⟨fun h => (by cases h), fun ⟨p, hp, _⟩ => by omega⟩) (fun p p' c _ hp => by omega)
  rw [OT_O2]
  exact this
theorem OA_MC {a b : Nat} (hF : wF w ≤ m) (hb1 : wF w ≤ b) (hb2 : b < m) : OA w hs m a b (m - wF w) (fun _ => false) (fun _ => false) false hs (wF w) = MC w hs m (some (a, b)) (m - wF w) (fun _ => false) (fun _ => 0) 0 := by
  have := O2_MC (w := w) (hs := hs) (m := m) (ab := some (a, b)) hF (fun x h => by cases h; exact ⟨hb1, hb2⟩) (m - wF w) (st := fun _ => false) (sh := fun _ => false) (io := false) (hs' := hs) (rw_ := fun _ => 0) (t := 0) (by omega) (fun x hx => by omega) (fun j _ h => by cases h) (fun x y hx => by omega) (ct_zero.mpr (ex_false.mpr fun _ _ => rfl)) (fun k hk => by unfold hsR; rw [if_pos (by omega)]) (fun c _ => ⟨fun h => (by cases h), fun ⟨p, hp, _⟩ => by omega⟩) (fun p p' c _ hp => by omega)
  rw [OA_O2]
  exact this
end
