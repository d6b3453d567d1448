section
variable {sa : Nat → Nat} {d n t h m : Nat} {Q : mj_Q} {K : Nat → Nat × Nat} {FI : Nat → Nat → Int32} {FL : Nat → Nat → Int64} {FR : Nat → Nat → Option Nat} {AI : Nat → Nat → Int32} {AL : Nat → Nat → Int64} {AR : Nat → Nat → Option Nat} {w : Wl} {hs : Nat → Hg}
theorem cl30 : (30 : Int32).toNatClampNeg = 30 := by decide
theorem cl0 : (0 : Int32).toNatClampNeg = 0 := by decide
theorem cl1 : (1 : Int32).toNatClampNeg = 1 := by decide
theorem cl3 : (3 : Int32).toNatClampNeg = 3 := by decide
theorem cl4 : (4 : Int32).toNatClampNeg = 4 := by decide
theorem ng0 : ¬ (0 : Int32) < 0 := by decide
theorem ng30 : ¬ (30 : Int32) < 0 := by decide
theorem ng1 : ¬ (1 : Int32) < 0 := by decide
theorem ng3 : ¬ (3 : Int32) < 0 := by decide
theorem ng4 : ¬ (4 : Int32) < 0 := by decide
theorem HungS.told {K : Nat → Nat × Nat} {FR : Nat → Nat → Option Nat} {h q : Nat} {v : Option Nat} (hH : HungS K FR h) : HungS K (mj_u2 FR 0 q v) h := by
  unfold HungS at hH ⊢
  simp only [mj_u2_1 (show (4 : Nat) ≠ 0 by decide), mj_u2_1 (show (5 : Nat) ≠ 0 by decide), mj_u2_1 (show (6 : Nat) ≠ 0 by decide), mj_u2_1 (show (7 : Nat) ≠ 0 by decide), mj_u2_1 (show (8 : Nat) ≠ 0 by decide), mj_u2_1 (show (9 : Nat) ≠ 0 by decide), mj_u2_1 (show (10 : Nat) ≠ 0 by decide), mj_u2_1 (show (11 : Nat) ≠ 0 by decide)]
  exact hH
theorem c_hangAs {o : Nat} (hH : HungS K FR h) (hO : HungS K FR o) (ht : FR 0 o = some t) (sep : h + 22 < o ∨ o + 22 < h) (hR : HungR FI AI o w hs m) (hQ : ∀ FI' AI' : Nat → Nat → Int32, HungR FI' AI' h w hs m → FI' 12 h = 0 → FIx FI FI' h [1, 2, 3, 12] → AIx AI AI' (h + 15) (h + 19) → Q none (n, K, FI', FL, mj_u2 FR 0 h (some t), AI', AL, AR)) : EV sa (d + 1) 2 [.ref h, .ref o] (n, K, FI, FL, FR, AI, AL, AR) Q := by
  have hH' := HungS.told (q := h) (v := some t) hH
  have hO' := HungS.told (q := h) (v := some t) hO
  obtain ⟨k0, -⟩ := hH
  obtain ⟨o0, -⟩ := hO
  obtain ⟨-, ⟨f4, k15⟩, ⟨f5, k16⟩, ⟨f6, k17⟩, ⟨f7, k18⟩, ⟨f8, k19⟩, -⟩ := hH'
  obtain ⟨-, ⟨g4, o15⟩, ⟨g5, o16⟩, ⟨g6, o17⟩, ⟨g7, o18⟩, ⟨g8, o19⟩, -⟩ := hO'
  obtain ⟨r1, r2, r3, r4, r5⟩ := hR
  have hne : o ≠ h := by omega
  refine n2 k0 ?_
  simp only [e2_0, e2_1, e2_2, e2_5, e2_8, e2_9, e2_10, e2_13, e2_16, e2_17, e2_18, e2_21, e2_24, e2_25, e2_26, e2_29, e2_32, e2_33, e2_34, e2_37, e2_38, e2_41, e2_42, e2_43, e2_46, e2_47, e2_49, e2_52, e2_53, e2_56, e2_57, e2_58, e2_61, e2_62, e2_64, e2_67, e2_68, e2_71, e2_72, e2_73, e2_76, e2_77, e2_79, e2_82, e2_83, e2_86, e2_87, e2_88, e2_91, e2_92, e2_94, e2_97, e2_98, e2_101, e2_102, e2_103, e2_106, e2_107, e2_109, e2_112, k0, o0, ht, rf_some, true_and, f4, f5, f6, f7, f8, k15, k16, k17, k18, k19, g4, g5, g6, g7, g8, o15, o16, o17, o18, o19, cl30, cl0, ng0, ng30, not_false_eq_true, Nat.zero_add, Nat.le_refl, List.length_nil, Nat.zero_le, true_or, and_self, mj_u2_2 hne]
  have ce : ∀ (A : Nat → Nat → Int32) (a b q j : Nat), j < 30 → mj_cp A a b 0 0 30 q j = if q = b then A a j else A q j := fun A a b q j hj => by
    simp only [mj_cp]
    split
    · simp [va_cpy, hj]
    · rfl
  refine hQ _ _ ⟨?_, r2, ?_, ?_, fun k hk => ?_⟩ mj_u2_s ?_ ?_
  · simp [mj_u2, r1]
  · simp [mj_u2, r3]
  · simp [mj_u2, r4]
  · obtain ⟨g1, g2, g3, g4', g5', g6'⟩ := r5 k hk
    have hk30 : k < 30 := by omega
    have d15 : ∀ i j : Nat, i < 23 → j < 23 → (o + i = h + j) = False := fun i j hi hj => by simp; omega
    simp only [ce _ _ _ _ _ hk30, d15 15 15 (by omega) (by omega), d15 16 15 (by omega) (by omega), d15 17 15 (by omega) (by omega), d15 18 15 (by omega) (by omega), d15 19 15 (by omega) (by omega), d15 16 16 (by omega) (by omega), d15 17 16 (by omega) (by omega), d15 18 16 (by omega) (by omega), d15 19 16 (by omega) (by omega), d15 17 17 (by omega) (by omega), d15 18 17 (by omega) (by omega), d15 19 17 (by omega) (by omega), d15 18 18 (by omega) (by omega), d15 19 18 (by omega) (by omega), Nat.add_left_cancel_iff, if_false, if_true, reduceIte, Nat.reduceEqDiff]
    exact ⟨g1, g2, g3, g4', g5', g6'⟩
  · intro f a hfa
    simp at hfa
    simp only [mj_u2]
    repeat' split
    all_goals first | rfl | (rename_i z; obtain ⟨rfl, rfl⟩ := z; simp at hfa)
  · intro q hq
    have hq' : ∀ i, 15 ≤ i → i ≤ 19 → ¬ q = h + i := fun i h1 h2 => by omega
    simp only [mj_cp, hq' 15 (by omega) (by omega), hq' 16 (by omega) (by omega), hq' 17 (by omega) (by omega), hq' 18 (by omega) (by omega), hq' 19 (by omega) (by omega), if_false]
end
