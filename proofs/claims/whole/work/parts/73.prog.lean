theorem bd_inr {α β : Type} {x : (Nat × Nat) ⊕ α} {f : α → (Nat × Nat) ⊕ β} {b : β} (h : bd x f = .inr b) : ∃ a, x = .inr a ∧ f a = .inr b := by
  cases x with
  | inl e => cases h
  | inr a => exact ⟨a, rfl, h⟩
/-- a fault has a number of 1 to 7 -/
def okF {α : Type} (x : (Nat × Nat) ⊕ α) : Prop := ∀ e, x = .inl e → 1 ≤ e.1 ∧ e.1 ≤ 7
theorem okF.bd {α β : Type} {x : (Nat × Nat) ⊕ α} {f : α → (Nat × Nat) ⊕ β} (h : okF x) (h2 : ∀ a, okF (f a)) : okF (bd x f) := by
  cases x with
  | inl e => intro e' h'; cases h'; exact h e rfl
  | inr a => exact h2 a
theorem okF_r {α : Type} {a : α} : okF (Sum.inr a : (Nat × Nat) ⊕ α) := fun e h => by cases h
theorem okF_l {α : Type} {k p : Nat} (h : 1 ≤ k ∧ k ≤ 7) : okF (Sum.inl (k, p) : (Nat × Nat) ⊕ α) := fun e h' => by cases h'; exact h
theorem okF_if {α : Type} {c : Prop} [Decidable c] {x y : (Nat × Nat) ⊕ α} (hx : okF x) (hy : okF y) : okF (if c then x else y) := by split <;> assumption
section
variable {T : Nat → Int32} {E : Nat}
theorem okF_key {x p : Nat} : okF (pKey T E x p) := okF_if okF_r (okF_l (by decide))
theorem okF_wh {lo hi p : Nat} : okF (pWh T E lo hi p) := okF_if (okF_if okF_r (okF_l (by decide))) (okF_l (by decide))
theorem okF_wd {p : Nat} : okF (pWd T E p) := okF_if okF_r (okF_l (by decide))
theorem okF_first {r t : Bool} {p : Nat} : okF (pFirst T E r t p) := okF_if (okF_if okF_r (okF_l (by decide))) (okF_l (by decide))
theorem okF_new {S : PS} {p : Nat} : okF (pNew T E S p) := okF_if (okF_if (okF_l (by decide)) okF_r) (okF_l (by decide))
theorem okF_old {names : Nat → List Nat} {c p : Nat} : okF (pOld T E names c p) := by
  unfold pOld
  refine okF_if ?_ (okF_l (by decide))
  split
  · exact okF_r
  · exact okF_l (by decide)
theorem okF_kind {p : Nat} : okF (pKind T E p) := okF_if okF_r (okF_if okF_r (okF_if okF_r (okF_if okF_r (okF_l (by decide)))))
theorem okF_cor {w : Wl} {b p : Nat} : okF (pCor T E w b p) := okF_key.bd fun _ => okF_wh.bd fun _ => okF_if (okF_wh.bd fun _ => okF_r) (okF_l (by decide))
theorem okF_line {p : Nat} {S : PS} : okF (pLine T E p S) := by
  refine okF_if ?_ (okF_if ?_ (okF_if ?_ (okF_if ?_ (okF_if ?_ (okF_if ?_ (okF_l (by decide)))))))
  · exact okF_if (okF_l (by decide)) (okF_key.bd fun _ => okF_wh.bd fun _ => okF_key.bd fun _ => okF_wh.bd fun _ => okF_key.bd fun _ => okF_wh.bd fun _ => okF_key.bd fun _ => okF_r)
  · exact okF_first.bd fun _ => okF_new.bd fun _ => okF_kind.bd fun _ => okF_key.bd fun _ => okF_wh.bd fun _ => okF_key.bd fun _ => okF_wh.bd fun _ => okF_key.bd fun _ => okF_wd.bd fun _ => okF_r
  · exact okF_first.bd fun _ => okF_new.bd fun _ => okF_key.bd fun _ => okF_wh.bd fun _ => okF_r
  · exact okF_first.bd fun _ => okF_if (okF_l (by decide)) (okF_wd.bd fun _ => okF_r)
  · exact okF_first.bd fun _ => okF_old.bd fun _ => okF_cor.bd fun _ => okF_r
  · exact okF_first.bd fun _ => okF_old.bd fun _ => okF_cor.bd fun _ => okF_key.bd fun _ => okF_old.bd fun _ => okF_if (okF_l (by decide)) okF_r
theorem okF_all : ∀ {f p : Nat} {S : PS}, okF (pAll T E f p S)
  | 0, p, S => okF_r
  | f + 1, p, S => okF_line.bd fun _ => okF_if okF_all (okF_if (okF_if (okF_l (by decide)) okF_r) (okF_l (by decide)))
theorem nxt_ge {p : Nat} : p ≤ nxt T E p := by
  unfold nxt
  split
  · exact Nat.le_refl _
  · split
    · exact rn_ge
    · split
      · exact rn_ge
      · omega
theorem stp_ge {p : Nat} : p ≤ stp T E p := Nat.le_trans nxt_ge rn_ge
theorem stp_le {p : Nat} (h : p ≤ E) : stp T E p ≤ E := rn_le (nxt_le h)
theorem ge_key {x p p' : Nat} (h : pKey T E x p = .inr p') : p' = stp T E p := by
  unfold pKey at h
  split at h
  · cases h; rfl
  · cases h
theorem ge_wh {lo hi p : Nat} {a : Nat × Nat} (h : pWh T E lo hi p = .inr a) : a.2 = stp T E p := by
  unfold pWh at h
  split at h
  · split at h
    · cases h; rfl
    · cases h
  · cases h
theorem ge_wd {p p' : Nat} (h : pWd T E p = .inr p') : p' = stp T E p := by
  unfold pWd at h
  split at h
  · cases h; rfl
  · cases h
theorem ge_first {r t : Bool} {p p' : Nat} (h : pFirst T E r t p = .inr p') : p' = stp T E p := by
  unfold pFirst at h
  split at h
  · split at h
    · cases h; rfl
    · cases h
  · cases h
theorem ge_new {S : PS} {p p' : Nat} (h : pNew T E S p = .inr p') : p' = stp T E p := by
  unfold pNew at h
  split at h
  · split at h
    · cases h
    · cases h; rfl
  · cases h
theorem ge_old {names : Nat → List Nat} {c p : Nat} {a : Nat × Nat} (h : pOld T E names c p = .inr a) : a.2 = stp T E p := by
  unfold pOld at h
  split at h
  · split at h
    · cases h; rfl
    · cases h
  · cases h
theorem ge_kind {p : Nat} {a : Nat × Nat} (h : pKind T E p = .inr a) : a.2 = stp T E p := by
  unfold pKind at h
  split at h
  · cases h; rfl
  · split at h
    · cases h; rfl
    · split at h
      · cases h; rfl
      · split at h
        · cases h; rfl
        · cases h
/-- where a step leads: on, and not beyond the end -/
def On (E p q : Nat) : Prop := p ≤ q ∧ (p ≤ E → q ≤ E)
theorem On.stp {p : Nat} : On E p (stp T E p) := ⟨stp_ge, stp_le⟩
theorem On.trans {p q r : Nat} (a : On E p q) (b : On E q r) : On E p r := ⟨Nat.le_trans a.1 b.1, fun h => b.2 (a.2 h)⟩
theorem ge_cor {w : Wl} {b p : Nat} {a : Nat × Nat × Nat} (h : pCor T E w b p = .inr a) : On E p a.2.2 := by
  obtain ⟨p1, h1, h⟩ := bd_inr h
  obtain ⟨x, h2, h⟩ := bd_inr h
  split at h
  · obtain ⟨y, h3, h⟩ := bd_inr h
    cases h
    have e1 := ge_key h1
    have e2 := ge_wh h2
    have e3 := ge_wh h3
    subst e1
    rw [e3, e2]
    exact ((On.stp.trans On.stp).trans On.stp).trans On.stp
  · cases h
theorem ge_line {p : Nat} {S : PS} {a : Nat × PS} (h : pLine T E p S = .inr a) : p < a.1 ∧ (p ≤ E → a.1 ≤ E) := by
  have key : ∀ x, isK T E p x = true → p < stp T E p := fun x hx => by
    have s1 : srt T E p = 1 := by
      simp only [isK, Bool.and_eq_true, decide_eq_true_eq] at hx
      exact hx.1.1
    obtain ⟨-, -, -, -, w1, -⟩ := srt_let s1
    have := rn_ge (P := isSp) (T := T) (E := E) (i := nxt T E p)
    unfold wl at w1
    unfold stp
    omega
  have fin : ∀ x, isK T E p x = true → On E (stp T E p) a.1 → p < a.1 ∧ (p ≤ E → a.1 ≤ E) := fun x hx ho => ⟨Nat.lt_of_lt_of_le (key x hx) ho.1, fun hp => ho.2 (stp_le hp)⟩
  unfold pLine at h
  split at h
  · next k =>
    unfold pWall at h
    split at h
    · cases h
    · obtain ⟨p1, h1, h⟩ := bd_inr h
      obtain ⟨x, h2, h⟩ := bd_inr h
      obtain ⟨p2, h3, h⟩ := bd_inr h
      obtain ⟨y, h4, h⟩ := bd_inr h
      obtain ⟨p3, h5, h⟩ := bd_inr h
      obtain ⟨l, h6, h⟩ := bd_inr h
      obtain ⟨p4, h7, h⟩ := bd_inr h
      cases h
      refine fin 0 k ?_
      have e1 := ge_key h1
      have e2 := ge_wh h2
      have e3 := ge_key h3
      have e4 := ge_wh h4
      have e5 := ge_key h5
      have e6 := ge_wh h6
      have e7 := ge_key h7
      show On E (stp T E p) p4
      rw [e7, e6, e5, e4, e3, e2, e1]
      exact (((((On.stp.trans On.stp).trans On.stp).trans On.stp).trans On.stp).trans On.stp).trans On.stp
  · split at h
    · next k =>
      obtain ⟨p1, h1, h⟩ := bd_inr h
      obtain ⟨p2, h2, h⟩ := bd_inr h
      obtain ⟨kd, h3, h⟩ := bd_inr h
      obtain ⟨p3, h4, h⟩ := bd_inr h
      obtain ⟨x, h5, h⟩ := bd_inr h
      obtain ⟨p4, h6, h⟩ := bd_inr h
      obtain ⟨y, h7, h⟩ := bd_inr h
      obtain ⟨p5, h8, h⟩ := bd_inr h
      obtain ⟨p6, h9, h⟩ := bd_inr h
      cases h
      refine fin 1 k ?_
      have e1 := ge_first h1
      have e2 := ge_new h2
      have e3 := ge_kind h3
      have e4 := ge_key h4
      have e5 := ge_wh h5
      have e6 := ge_key h6
      have e7 := ge_wh h7
      have e8 := ge_key h8
      have e9 := ge_wd h9
      show On E (stp T E p) p6
      rw [e9, e8, e7, e6, e5, e4, e3, e2, e1]
      exact ((((((On.stp.trans On.stp).trans On.stp).trans On.stp).trans On.stp).trans On.stp).trans On.stp).trans On.stp
    · split at h
      · next k =>
        obtain ⟨p1, h1, h⟩ := bd_inr h
        obtain ⟨p2, h2, h⟩ := bd_inr h
        obtain ⟨p3, h3, h⟩ := bd_inr h
        obtain ⟨x, h4, h⟩ := bd_inr h
        cases h
        refine fin 2 k ?_
        have e1 := ge_first h1
        have e2 := ge_new h2
        have e3 := ge_key h3
        have e4 := ge_wh h4
        show On E (stp T E p) x.2
        rw [e4, e3, e2, e1]
        exact (On.stp.trans On.stp).trans On.stp
      · split at h
        · next k =>
          obtain ⟨p1, h1, h⟩ := bd_inr h
          split at h
          · cases h
          · obtain ⟨p2, h2, h⟩ := bd_inr h
            cases h
            refine fin 3 k ?_
            have e1 := ge_first h1
            have e2 := ge_wd h2
            show On E (stp T E p) p2
            rw [e2, e1]
            exact On.stp
        · split at h
          · next k =>
            obtain ⟨p1, h1, h⟩ := bd_inr h
            obtain ⟨b, h2, h⟩ := bd_inr h
            obtain ⟨c, h3, h⟩ := bd_inr h
            cases h
            refine fin 4 k ?_
            have e1 := ge_first h1
            have e2 := ge_old h2
            have e3 := ge_cor h3
            rw [e2, e1] at e3
            exact On.stp.trans e3
          · split at h
            · next k =>
              obtain ⟨p1, h1, h⟩ := bd_inr h
              obtain ⟨b, h2, h⟩ := bd_inr h
              obtain ⟨c, h3, h⟩ := bd_inr h
              obtain ⟨p2, h4, h⟩ := bd_inr h
              obtain ⟨r, h5, h⟩ := bd_inr h
              split at h
              · cases h
              · cases h
                refine fin 5 k ?_
                have e1 := ge_first h1
                have e2 := ge_old h2
                have e3 := ge_cor h3
                have e4 := ge_key h4
                have e5 := ge_old h5
                rw [e2, e1] at e3
                show On E (stp T E p) r.2
                rw [e5, e4]
                exact ((On.stp.trans e3).trans On.stp).trans On.stp
            · cases h
theorem pAll_ok : ∀ {f p : Nat} {S S' : PS}, p ≤ E → E + 1 ≤ f + p → pAll T E f p S = .inr S' → 0 < wNB (sW S')
  | 0, p, S, S', hp, hf, h => by omega
  | f + 1, p, S, S', hp, hf, h => by
    obtain ⟨x, h1, h⟩ := bd_inr h
    obtain ⟨g1, g2⟩ := ge_line h1
    split at h
    · have := stp_ge (T := T) (E := E) (p := x.1)
      exact pAll_ok (stp_le (g2 hp)) (by omega) h
    · split at h
      · split at h
        · cases h
        · cases h
          omega
      · cases h
end
theorem pText_ok {T : Nat → Int32} {E : Nat} {S : PS} (h : pText T E = .inr S) : 0 < wNB (sW S) := pAll_ok (rn_le (Nat.zero_le _)) (by omega) h
