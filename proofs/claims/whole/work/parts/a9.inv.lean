/-! ## between two calls of the law -/
theorem i8_byte (y : Int8) : ∃ n, n < 256 ∧ y.toInt32 = (Int8.ofNat n).toInt32 := ⟨y.toBitVec.toNat, y.toBitVec.isLt, by
  congr 1
  apply Int8.toBitVec_inj.mp
  simp⟩
theorem BT_put4 {T : Nat → Int32} {z : Nat} {k : Int32} (h : BT T) : BT (put4 T z k) := fun i => by
  unfold put4
  split
  · exact i8_byte _
  · exact h i
theorem BT_rs {P : PG} {r : Nat ⊕ Int32} (h : BT (gT P)) : BT (gT (rs P r)) := by cases r <;> exact h
theorem BT_as {P : PG} {r : Nat ⊕ WS} (h : BT (gT P)) : BT (gT (as' P r)) := by cases r <;> exact h
theorem BT_is {P : PG} {r : Nat ⊕ (WS × Int32)} (h : BT (gT P)) : BT (gT (is' P r)) := by cases r <;> exact h
theorem BT_wall {P : PG} {k : Int32} (h : BT (gT P)) : BT (gT (sp_wall P k).2) := by
  unfold sp_wall
  split
  · split <;> exact h
  · exact h
theorem BT_feed {P : PG} {a b c e f : Int32} (h : BT (gT P)) : BT (gT (sp_feed P a b c e f).2) := by
  unfold sp_feed
  split
  · exact BT_put4 (BT_put4 (BT_put4 (BT_put4 (BT_put4 h))))
  · exact h
def LV (b N x : Nat) (P : PG) (t k z : Nat) (μ : mj_M) : Prop := InvC x P μ ∧ InvM (x + 120) P μ ∧ BT (gT P) ∧ (μ.2.1 b = (9, N) ∧ b < x ∧ N ≤ 3072) ∧ μ.2.1 (x + 133) = (4, 1) ∧ x + 134 ≤ μ.1 ∧ (k ≤ 143 + 16 * t ∧ z ≤ 6100 + 313 * t)
/-- the class has answered, the model not yet -/
def LH (b N x : Nat) (P P' : PG) (A : Nat → Int32) (t k z : Nat) (μ : mj_M) : Prop := InvC x P' μ ∧ InvM (x + 120) P μ ∧ BT (gT P) ∧ (μ.2.1 b = (9, N) ∧ b < x ∧ N ≤ 3072) ∧ μ.2.1 (x + 133) = (4, 1) ∧ x + 134 ≤ μ.1 ∧ (k ≤ 143 + 16 * t ∧ z ≤ 6100 + 313 * t) ∧ μ.2.2.2.2.2.1 b = A
section
variable {b N x t k z : Nat} {P P' : PG} {A : Nat → Int32} {μ μ' : mj_M}
theorem LV.room (h : LV b N x P t k z μ) (ht : t ≤ 512) : k + 16 ≤ 601024 ∧ z + 313 ≤ 7293034 := by
  obtain ⟨-, -, -, -, -, -, h1, h2⟩ := h
  omega
theorem LV.c (h : LV b N x P t k z μ) (hI : InvC x P' μ') (f : FrC x μ μ') : LH b N x P P' (μ.2.2.2.2.2.1 b) t k z μ' := by
  obtain ⟨h1, h2, h3, ⟨h4, h5, h6⟩, h7, h8, h9⟩ := h
  refine ⟨hI, InvM.frC h2 (by omega) f, h3, ⟨by rw [f.2.1]; exact h4, h5, h6⟩, by rw [f.2.1]; exact h7, by rw [f.1]; exact h8, h9, (f.2.2.2 b (Or.inl h5)).2.1⟩
theorem LV.c0 (h : LV b N x P t k z μ) : LH b N x P P (μ.2.2.2.2.2.1 b) t k z μ := ⟨h.1, h.2.1, h.2.2.1, h.2.2.2.1, h.2.2.2.2.1, h.2.2.2.2.2.1, h.2.2.2.2.2.2, rfl⟩
theorem LH.mw {k' z' : Nat} (h : LH b N x P P' A t k z μ) (hM : InvM (x + 120) P' μ') (f : FrM (x + 120) μ μ') (hB : BT (gT P')) (hk : k' ≤ k + 16) (hz : z' ≤ z + 313) : LV b N x P' (t + 1) k' z' μ' := by
  obtain ⟨h1, h2, h3, ⟨h4, h5, h6⟩, h7, h8, ⟨h9, h9'⟩, h10⟩ := h
  have b1 : k' ≤ 143 + 16 * (t + 1) := by omega
  have b2 : z' ≤ 6100 + 313 * (t + 1) := by
    have h := Nat.add_le_add_right h9' 313
    rw [Nat.add_assoc, ← Nat.mul_succ] at h
    exact Nat.le_trans hz h
  have b3 : x + 134 ≤ μ'.1 := Nat.le_trans h8 f.1
  have b4 : μ'.2.1 (x + 133) = (4, 1) := (f.2.1 (x + 133) h8).trans h7
  have b5 : μ'.2.1 b = (9, N) := (f.2.1 b (by omega)).trans h4
  have b6 : InvC x P' μ' := InvC.frM h1 rfl (by omega) f
  exact ⟨b6, hM, hB, ⟨b5, h5, h6⟩, b4, b3, b1, b2⟩
theorem LH.m (h : LH b N x P P' A t k z μ) (hM : InvM (x + 120) P' μ') (f : FrM (x + 120) μ μ') (hB : BT (gT P')) : LV b N x P' (t + 1) k z μ' := h.mw hM f hB (by omega) (by omega)
end
section LGB
variable {cx : LCx} {k z pc : Nat} {L st : List Value} {μ : mj_M}
theorem g_bool {v : Int32} (hC : LC cx) (d0 : decode code pc = .ok (.ifCond .eq 7, 3)) (d3 : decode code (pc + 3) = .ok (.iconst 1, 1)) (d4 : decode code (pc + 4) = .ok (.goto 4, 3)) (d7 : decode code (pc + 7) = .ok (.iconst 0, 1)) (kk : LG cx k z (pc + 8) L (.int (bI (decide (v ≠ 0))) :: st) μ) : LG cx k z pc L (.int v :: st) μ := by
  refine g_b (tgt := pc + 7) hC d0 rfl (by omega) (fun h => ?_) (fun h => ?_)
  · have h : v = 0 := h
    refine g_p hC d7 rfl rfl ?_
    rw [show bI (decide (v ≠ 0)) = 0 by simp [h, bI]] at kk
    exact kk
  · have h : ¬ v = 0 := h
    refine g_p hC d3 rfl rfl ?_
    refine g_go (tgt := pc + 8) hC d4 (by omega) ?_
    rw [show bI (decide (v ≠ 0)) = 1 by simp [h, bI]] at kk
    exact kk
end LGB
