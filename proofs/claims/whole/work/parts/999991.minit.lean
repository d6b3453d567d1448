/-! ## the model is made -/
section
variable {sa : Nat → Nat} {d n t h m : Nat} {Q : mj_Q} {K : Nat → Nat × Nat} {FI : Nat → Nat → Int32} {FL : Nat → Nat → Int64} {FR : Nat → Nat → Option Nat} {AI : Nat → Nat → Int32} {AL : Nat → Nat → Int64} {AR : Nat → Nat → Option Nat} {w : Wl} {hs : Nat → Hg}
variable {q : Nat}
theorem c_minit (al : mj_al 161 = (12, 2918)) (ka : K q = (1, 10)) (hQ : ∀ (K' : Nat → Nat × Nat) (FR' : Nat → Nat → Option Nat) (AI' : Nat → Nat → Int32), MStS K' FR' q → (∀ c, c ≤ q → K' c = K c) → (∀ f c, (c ≠ q ∨ f < 647) → FR' f c = FR f c) → (∀ c, c ≤ q → AI' c = AI c) → AI' (q + 3) = (fun _ => 0) → Q none (q + 13, K', mj_u2 FI 642 q (-1), FL, FR', AI', AL, AR)) : EV sa (d + 1) 161 [.ref q] (q + 1, K, FI, FL, FR, AI, AL, AR) Q := by
  have u : ∀ (K : Nat → Nat × Nat) (j : Nat) (v : Nat × Nat), mj_uk K (q + (j + 1)) v q = K q := fun K j v => uk_o (by omega)
  have u0 : ∀ (K : Nat → Nat × Nat) (v : Nat × Nat), mj_uk K (q + 1) v q = K q := fun K v => uk_o (by omega)
  refine n161 ka ?_
  simp only [e161_0, e161_1, e161_4, e161_5, e161_6, e161_9, e161_10, e161_12, e161_14, e161_17, e161_18, e161_20, e161_22, e161_25, e161_26, e161_29, e161_31, e161_34, e161_35, e161_37, e161_39, e161_42, e161_43, e161_46, e161_48, e161_51, e161_52, e161_55, e161_57, e161_60, e161_61, e161_63, e161_65, e161_68, e161_69, e161_71, e161_73, e161_76, e161_77, e161_79, e161_81, e161_84, e161_85, e161_87, e161_89, e161_92, e161_93, e161_95, e161_97, e161_100, e161_101, e161_103, e161_105, e161_108, al, u, u0, ka, Nat.add_assoc, show (6 : Int32).toNatClampNeg = 6 from rfl, show ¬ ((6 : Int32) < 0) from by decide, show (7 : Int32).toNatClampNeg = 7 from rfl, show ¬ ((7 : Int32) < 0) from by decide, show (8 : Int32).toNatClampNeg = 8 from rfl, show ¬ ((8 : Int32) < 0) from by decide, show (32 : Int32).toNatClampNeg = 32 from rfl, show ¬ ((32 : Int32) < 0) from by decide, show (381 : Int32).toNatClampNeg = 381 from rfl, show ¬ ((381 : Int32) < 0) from by decide, show (900 : Int32).toNatClampNeg = 900 from rfl, show ¬ ((900 : Int32) < 0) from by decide, show (1524 : Int32).toNatClampNeg = 1524 from rfl, show ¬ ((1524 : Int32) < 0) from by decide, Nat.reduceAdd, Nat.reduceLeDiff, List.length_nil, Nat.zero_le, Nat.zero_add, not_false_eq_true, and_true, true_and]
  refine hQ _ _ _ ⟨?_, ⟨?_, ?_⟩, ⟨?_, ?_⟩, ⟨?_, ?_⟩, ⟨?_, ?_⟩, ⟨?_, ?_⟩, ⟨?_, ?_⟩, ⟨?_, ?_⟩, ⟨?_, ?_⟩, ⟨?_, ?_⟩, ⟨?_, ?_⟩, ⟨?_, ?_⟩, ⟨?_, ?_⟩⟩ (fun c hc => ?_) (fun f c hc => ?_) (fun c hc => ?_) ?_
  · simp only [u, u0]; exact ka
  · simp [mj_u2]
  · simp [mj_uk]
  · simp [mj_u2]
  · simp [mj_uk]
  · simp [mj_u2]
  · simp [mj_uk]
  · simp [mj_u2]
  · simp [mj_uk]
  · simp [mj_u2]
  · simp [mj_uk]
  · simp [mj_u2]
  · simp [mj_uk]
  · simp [mj_u2]
  · simp [mj_uk]
  · simp [mj_u2]
  · simp [mj_uk]
  · simp [mj_u2]
  · simp [mj_uk]
  · simp [mj_u2]
  · simp [mj_uk]
  · simp [mj_u2]
  · simp [mj_uk]
  · simp [mj_u2]
  · simp [mj_uk]
  · repeat rw [uk_o (by omega)]
  · rcases hc with hc | hc
    · repeat rw [mj_u2_2 hc]
    · repeat rw [mj_u2_1 (by omega)]
  · repeat rw [za_o (by omega)]
  · repeat rw [za_o (by omega)]
    exact za_s
end
