/-- the first of those below n -/
def fnd (q : Nat → Bool) : Nat → Option Nat
  | 0 => none
  | n + 1 => match fnd q n with
    | some k => some k
    | none => if q n then some n else none
/-- the last of those below n -/
def fndD (q : Nat → Bool) : Nat → Option Nat
  | 0 => none
  | n + 1 => if q n then some n else fndD q n
theorem fnd_no {q : Nat → Bool} {i : Nat} (h : fnd q i = none) (hq : q i = false) : fnd q (i + 1) = none := by simp [fnd, h, hq]
theorem fnd_yes {q : Nat → Bool} {i n : Nat} (h : fnd q i = none) (hq : q i = true) (hn : i < n) : fnd q n = some i := by
  induction n with
  | zero => omega
  | succ n ih =>
    rcases Nat.lt_or_ge i n with z | z
    · simp [fnd, ih z]
    · rw [show n = i by omega]; simp [fnd, h, hq]
theorem fnd_some {q : Nat → Bool} : ∀ {n k : Nat}, fnd q n = some k → k < n ∧ q k = true ∧ ∀ j, j < k → q j = false
  | 0, k, h => by simp [fnd] at h
  | n + 1, k, h => by
    simp only [fnd] at h
    split at h
    · next k' hk => cases h; obtain ⟨a, b, c⟩ := fnd_some hk; exact ⟨by omega, b, c⟩
    · next hk =>
      split at h
      · next hq =>
        cases h
        refine ⟨by omega, hq, ?_⟩
        have none_all : ∀ {n : Nat}, fnd q n = none → ∀ j, j < n → q j = false := by
          intro n
          induction n with
          | zero => intro _ j hj; omega
          | succ n ih =>
            intro h j hj
            simp only [fnd] at h
            split at h
            · cases h
            · next h0 =>
              split at h
              · cases h
              · next hq2 =>
                rcases Nat.lt_or_ge j n with z | z
                · exact ih h0 j z
                · rw [show j = n by omega]; simpa using hq2
        exact none_all hk
      · cases h
theorem fnd_none {q : Nat → Bool} : ∀ {n : Nat}, fnd q n = none ↔ ∀ j, j < n → q j = false
  | 0 => by simp [fnd]
  | n + 1 => by
    constructor
    · intro h j hj
      simp only [fnd] at h
      split at h
      · cases h
      · next h0 =>
        split at h
        · cases h
        · next hq =>
          rcases Nat.lt_or_ge j n with z | z
          · exact fnd_none.mp h0 j z
          · rw [show j = n by omega]; simpa using hq
    · intro h
      exact fnd_no (fnd_none.mpr fun j hj => h j (by omega)) (h n (by omega))
theorem fnd_congr {p q : Nat → Bool} : ∀ {n : Nat}, (∀ k, k < n → p k = q k) → fnd p n = fnd q n
  | 0, _ => rfl
  | n + 1, h => by simp only [fnd]; rw [fnd_congr (fun k hk => h k (by omega)), h n (by omega)]
theorem fndD_congr {p q : Nat → Bool} : ∀ {n : Nat}, (∀ k, k < n → p k = q k) → fndD p n = fndD q n
  | 0, _ => rfl
  | n + 1, h => by simp only [fndD]; rw [fndD_congr (fun k hk => h k (by omega)), h n (by omega)]
theorem tp_fndD (w : Wl) (hs : Nat → Hg) (c : Nat) : ∀ n, tp w hs n c = fndD (fun k => covg w (hs k) c) n
  | 0 => rfl
  | n + 1 => by simp only [tp, fndD, tp_fndD w hs c n]
theorem tp_lt {w : Wl} {hs : Nat → Hg} {c : Nat} : ∀ {n k : Nat}, tp w hs n c = some k → k < n ∧ covg w (hs k) c = true
  | 0, k, h => by simp [tp] at h
  | n + 1, k, h => by
    simp only [tp] at h
    split at h
    · next hc => cases h; exact ⟨by omega, hc⟩
    · obtain ⟨a, b⟩ := tp_lt h; exact ⟨by omega, b⟩
def oI (o : Option Nat) (e : Int32) : Int32 := match o with
  | some k => nI k
  | none => e
theorem oI_neg {o : Option Nat} {m : Nat} (hm : m ≤ 1000) (h : ∀ k, o = some k → k < m) : oI o (-1) < 0 ↔ o = none := by
  cases o with
  | none => simp [oI]
  | some k =>
    have := h k rfl
    simp only [oI, reduceCtorEq, iff_false]
    exact nI_pos (by omega)
theorem fndD_lt {q : Nat → Bool} : ∀ {n k : Nat}, fndD q n = some k → k < n ∧ q k = true
  | 0, k, h => by simp [fndD] at h
  | n + 1, k, h => by
    simp only [fndD] at h
    split at h
    · next hc => cases h; exact ⟨by omega, hc⟩
    · obtain ⟨a, b⟩ := fndD_lt h; exact ⟨by omega, b⟩
theorem ct_top (p : Nat → Bool) (i : Nat) : ct p (i + 1) = ct p i + if p i then 1 else 0 := rfl
section
variable {sa : Nat → Nat} {d n t h m : Nat} {Q : mj_Q} {K : Nat → Nat × Nat} {FI : Nat → Nat → Int32} {FL : Nat → Nat → Int64} {FR : Nat → Nat → Option Nat} {AI : Nat → Nat → Int32} {AL : Nat → Nat → Int64} {AR : Nat → Nat → Option Nat} {w : Wl} {hs : Nat → Hg}
theorem c_latestAt2 (hH : HungS K FR h) (hR : HungR FI AI h w hs m) {c : Nat} (hc : c < 32) {num : Int32} (hQ : Q (some (.int (oI (fndD (fun k => covg w (hs k) c && decide (num = nI (ct (fun k => covg w (hs k) c) m - ct (fun k => covg w (hs k) c) (k + 1)))) m) (-1)))) (n, K, FI, FL, FR, AI, AL, AR)) : EV sa (d + 1) 10 [.ref h, .int (nI c), .int num] (n, K, FI, FL, FR, AI, AL, AR) Q := by
  obtain ⟨k0, -, -, -, ⟨f7, k18⟩, -⟩ := hH
  obtain ⟨hm, h30, -, -, hk⟩ := hR
  generalize hp : (fun k => covg w (hs k) c) = p at hQ
  have hp' : ∀ k, covg w (hs k) c = p k := fun k => by rw [← hp]
  simp only [hp'] at hQ
  have loop : ∀ i, i ≤ m → (fndD (fun k => p k && decide (num = nI (ct p m - ct p (k + 1)))) m = fndD (fun k => p k && decide (num = nI (ct p m - ct p (k + 1)))) i) → WP sa (EV sa d) 10 Q 0 0 10 [.ref h, .int (nI c), .int num, .int (num - nI (ct p m - ct p i)), .int (nI i - 1)] [] (n, K, FI, FL, FR, AI, AL, AR) := by
    intro i
    induction i with
    | zero =>
      intro _ hf
      rw [e10_10]
      simp only [e10_0, e10_1, e10_2, e10_3, e10_6, e10_7, e10_8, e10_12, e10_15, e10_16, e10_19, e10_21, e10_22, e10_23, e10_24, e10_25, e10_26, e10_29, e10_30, e10_33, e10_35, e10_36, e10_39, e10_42, e10_45, e10_46, k0, true_and]
      refine ⟨fun _ => ?_, fun q => absurd (by decide) q⟩
      rw [hf] at hQ
      exact hQ
    | succ i ih =>
      intro hi hf
      have hin : vp_in (nI i) 30 := vp_in_nI (by omega) (by decide)
      have hcl : (nI i).toNatClampNeg = i := nI_clamp (by omega)
      have hbit := (hk i (by omega)).2.2.2.2.1.bit hc
      rw [hp'] at hbit
      have m1 := ct_mono p (show i + 1 ≤ m from hi)
      have e1 := ct_top p i
      rw [e10_10, nI_pred]
      simp only [e10_0, e10_1, e10_2, e10_3, e10_6, e10_7, e10_8, e10_12, e10_15, e10_16, e10_19, e10_21, e10_22, e10_23, e10_24, e10_25, e10_26, e10_29, e10_30, e10_33, e10_35, e10_36, e10_39, e10_42, e10_45, e10_46, k0, f7, k18, rf_some, hin, hcl, true_and, true_or, mj_kl, hbit]
      refine ⟨fun q => absurd q (nI_pos (by omega)), fun _ => ⟨fun q => ?_, fun q => ⟨fun z => ?_, fun z => ?_⟩⟩⟩
      · simp only [q, Bool.false_eq_true, if_false] at e1
        have := ih (by omega) (by rw [hf]; simp [fndD, q])
        rw [show ct p i = ct p (i + 1) by omega] at this
        simpa [Int32.sub_eq_add_neg] using this
      · have q' : p i = true := by simpa using q
        simp only [q', if_true] at e1
        have z' : ¬ num = nI (ct p m - ct p (i + 1)) := fun e => z (by rw [e]; simp)
        have := ih (by omega) (by rw [hf]; simp [fndD, q', z'])
        rw [show ct p m - ct p i = ct p m - ct p (i + 1) + 1 by omega, nI_succ] at this
        have e3 : num - (nI (ct p m - ct p (i + 1)) + 1) = num - nI (ct p m - ct p (i + 1)) + -1 := by
          simp [Int32.sub_eq_add_neg, Int32.neg_add, Int32.add_assoc]
        rw [e3] at this
        simpa [Int32.sub_eq_add_neg] using this
      · have q' : p i = true := by simpa using q
        have z' : num = nI (ct p m - ct p (i + 1)) := by
          have z2 : num - nI (ct p m - ct p (i + 1)) = 0 := by simpa using z
          have z3 := congrArg (fun q => q + nI (ct p m - ct p (i + 1))) z2
          simpa using z3
        rw [hf] at hQ
        simp only [fndD, q', ← z', decide_true, Bool.and_self, if_true, oI] at hQ
        exact hQ
  refine n10 k0 ?_
  simp only [e10_0, e10_1, e10_2, e10_3, e10_6, e10_7, e10_8, e10_12, e10_15, e10_16, e10_19, e10_21, e10_22, e10_23, e10_24, e10_25, e10_26, e10_29, e10_30, e10_33, e10_35, e10_36, e10_39, e10_42, e10_45, e10_46, mj_kl, mj_u, k0, hm, true_and]
  have := loop m (Nat.le_refl _) rfl
  simpa [nI_0] using this
theorem c_latestAt (hH : HungS K FR h) (hR : HungR FI AI h w hs m) {c : Nat} (hc : c < 32) (hQ : Q (some (.int (oI (tp w hs m c) (-2)))) (n, K, FI, FL, FR, AI, AL, AR)) : EV sa (d + 2) 9 [.ref h, .int (nI c)] (n, K, FI, FL, FR, AI, AL, AR) Q := by
  have k0 := hH.1
  have h30 := hR.2.1
  refine n9 k0 ?_
  simp only [e9_0, e9_1, e9_2, e9_3, e9_6, e9_7, e9_8, e9_11, e9_13, e9_16, e9_17]
  have e : fndD (fun k => covg w (hs k) c && decide ((0 : Int32) = nI (ct (fun k => covg w (hs k) c) m - ct (fun k => covg w (hs k) c) (k + 1)))) m = tp w hs m c := by
    rw [tp_fndD]
    generalize hp : (fun k => covg w (hs k) c) = p
    have hp' : ∀ k, covg w (hs k) c = p k := fun k => by rw [← hp]
    simp only [hp']
    have key : ∀ i, i ≤ m → ct p m = ct p i → fndD (fun k => p k && decide ((0 : Int32) = nI (ct p m - ct p (k + 1)))) i = fndD p i := by
      intro i
      induction i with
      | zero => intros; rfl
      | succ i ih =>
        intro hi e
        simp only [fndD]
        by_cases q : p i = true
        · simp [e, nI_0, q]
        · simp only [q, Bool.false_and, Bool.false_eq_true, if_false]
          refine ih (by omega) ?_
          rw [e, ct_top]
          simp [q]
    exact key m (Nat.le_refl _) rfl
  refine ⟨by simp, c_latestAt2 hH hR hc ?_⟩
  rw [e]
  simp only [tl_some, e9_0, e9_1, e9_2, e9_3, e9_6, e9_7, e9_8, e9_11, e9_13, e9_16, e9_17, mj_kl]
  cases ht : tp w hs m c with
  | none =>
    rw [ht] at hQ
    simp only [oI] at hQ ⊢
    exact ⟨fun q => absurd q (by decide), fun _ => hQ⟩
  | some k =>
    rw [ht] at hQ
    have := (tp_lt ht).1
    simp only [oI] at hQ ⊢
    exact ⟨fun _ => hQ, fun q => absurd (nI_pos' (by omega)) q⟩
end
