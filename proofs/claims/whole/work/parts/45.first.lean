section
variable {sa : Nat → Nat} {d n t h m : Nat} {Q : mj_Q} {K : Nat → Nat × Nat} {FI : Nat → Nat → Int32} {FL : Nat → Nat → Int64} {FR : Nat → Nat → Option Nat} {AI : Nat → Nat → Int32} {AL : Nat → Nat → Int64} {AR : Nat → Nat → Option Nat} {w : Wl} {hs : Nat → Hg}
/-- where a word stands first in a row of letters -/
def firstRow (w : Wl) (v : Nat) (f : Nat → Nat) : Option Nat := fnd (fun x => !(ex (fun i => f (x + i) != wWT w v i + 1) (wWL w v))) (wW w + 1 - wWL w v)
theorem c_firstIn (hT : ToldS K FR t) (hw : wOK w) (hR : ToldR FI AI AL t w) {v : Nat} (hv : v < wNW w) {r : Int64} {f : Nat → Nat} (hf : PkL r f) (hf5 : ∀ i, f i < 32) (hQ : Q (some (.int (oI (firstRow w v f) (-1)))) (n, K, FI, FL, FR, AI, AL, AR)) : EV sa (d + 1) 95 [.ref t, .long r, .int (nI v)] (n, K, FI, FL, FR, AI, AL, AR) Q := by
  obtain ⟨k0, -, -, -, -, -, -, -, -, ⟨f9, k9⟩, ⟨f10, k10⟩, ⟨f11, k11⟩, -⟩ := hT
  obtain ⟨⟨w1, -⟩, -, r3, -⟩ := hR
  obtain ⟨v1, v2, v3⟩ := r3 v hv
  obtain ⟨⟨l1, l2⟩, l3⟩ := hw.2.2.2.2.2.2.2 v hv
  have hW := hw.1
  have hv6 : v < 6 := by have := hw.2.2.2.2.2.1; omega
  have hin : vp_in (nI v) 6 := vp_in_nI hv6 (by decide)
  have hcl : (nI v).toNatClampNeg = v := nI_clamp (by omega)
  unfold firstRow at hQ
  generalize hp : (fun x => !(ex (fun i => f (x + i) != wWT w v i + 1) (wWL w v))) = p at hQ
  have loop : ∀ rr i, i + rr = wW w + 1 - wWL w v → fnd p i = none → WP sa (EV sa d) 95 Q 0 0 3 [.ref t, .long r, mj_u, .int (nI v), .int (nI i)] [] (n, K, FI, FL, FR, AI, AL, AR) := by
    intro rr
    induction rr with
    | zero =>
      intro i hi hn
      rw [e95_3]
      simp only [e95_0, e95_1, e95_5, e95_6, e95_9, e95_10, e95_11, e95_12, e95_13, e95_16, e95_19, e95_20, e95_21, e95_23, e95_24, e95_25, e95_26, e95_29, e95_30, e95_31, e95_32, e95_33, e95_36, e95_37, e95_38, e95_39, e95_42, e95_44, e95_45, e95_48, e95_51, e95_52, k0, f11, k11, rf_some, hin, hcl, v1, w1, nI_add, true_and, true_or]
      have hi' : i = wW w + 1 - wWL w v := by omega
      subst hi'
      rw [hn] at hQ
      exact ⟨fun _ => hQ, fun q => absurd (nI_lt (by omega) (by omega)) q⟩
    | succ rr ih =>
      intro i hi hn
      have e5 : (5 : Int32) * nI i = nI (5 * i) := by rw [show (5 : Int32) = nI 5 from rfl, pk_mul]
      have hwd := PkL.word (x := i) hf v2 v3 (by omega) hf5 (fun j hj => by have := l3 j hj; omega)
      have hpi : (∀ j, j < wWL w v → f (i + j) = wWT w v j + 1) ↔ p i = true := by
        rw [← hp]
        simp only [Bool.not_eq_true', ex_false]
        simp
      rw [e95_3]
      simp only [e95_0, e95_1, e95_5, e95_6, e95_9, e95_10, e95_11, e95_12, e95_13, e95_16, e95_19, e95_20, e95_21, e95_23, e95_24, e95_25, e95_26, e95_29, e95_30, e95_31, e95_32, e95_33, e95_36, e95_37, e95_38, e95_39, e95_42, e95_44, e95_45, e95_48, e95_51, e95_52, k0, f9, f10, f11, k9, k10, k11, rf_some, hin, hcl, v1, w1, nI_add, nI_1, e5, lg_cmp_0, hwd, hpi, true_and, true_or, mj_kl]
      refine ⟨fun q => absurd q (nI_nlt (by omega) (by omega)), fun _ => ⟨fun q => ?_, fun q => ?_⟩⟩
      · exact ih (i + 1) (by omega) (fnd_no hn (by simpa using q))
      · rw [fnd_yes hn (by simpa using q) (show i < wW w + 1 - wWL w v by omega)] at hQ
        exact hQ
  refine n95 k0 ?_
  simp only [e95_0, e95_1, e95_5, e95_6, e95_9, e95_10, e95_11, e95_12, e95_13, e95_16, e95_19, e95_20, e95_21, e95_23, e95_24, e95_25, e95_26, e95_29, e95_30, e95_31, e95_32, e95_33, e95_36, e95_37, e95_38, e95_39, e95_42, e95_44, e95_45, e95_48, e95_51, e95_52, mj_kl]
  simpa [mj_u, nI_0, mj_kl] using loop (wW w + 1 - wWL w v) 0 (by omega) rfl
end
