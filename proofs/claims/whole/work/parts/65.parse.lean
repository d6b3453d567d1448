/-! ## the text, purely -/
abbrev PS : Type := Wl × (Nat → Hg) × Nat × (Nat → Nat) × Nat × (Nat → List Nat) × (Nat → List Nat)
def sW (S : PS) : Wl := S.1
def sHs (S : PS) : Nat → Hg := S.2.1
def sM (S : PS) : Nat := S.2.2.1
def sSh (S : PS) : Nat → Nat := S.2.2.2.1
def sNp (S : PS) : Nat := S.2.2.2.2.1
def sBn (S : PS) : Nat → List Nat := S.2.2.2.2.2.1
def sRn (S : PS) : Nat → List Nat := S.2.2.2.2.2.2
def bd {α β : Type} (x : (Nat × Nat) ⊕ α) (f : α → (Nat × Nat) ⊕ β) : (Nat × Nat) ⊕ β := match x with
  | .inl e => .inl e
  | .inr a => f a
def wd (T : Nat → Int32) (E p : Nat) : List Nat := (List.range (wl T E p)).map (lt T p)
def fndL (names : Nat → List Nat) (n : Nat) (l : List Nat) : Option Nat := fnd (fun i => decide (names i = l)) n
def wordL (w : Wl) (v : Nat) : List Nat := (List.range (wWL w v)).map (wWT w v)
section
variable (T : Nat → Int32) (E : Nat)
def pKey (x p : Nat) : (Nat × Nat) ⊕ Nat := if isK T E p x then .inr (stp T E p) else .inl (1, p)
def pWh (lo hi p : Nat) : (Nat × Nat) ⊕ (Nat × Nat) := if srt T E p = 2 then (if lo ≤ nmv T E p ∧ nmv T E p ≤ hi then .inr (nmv T E p, stp T E p) else .inl (4, p)) else .inl (1, p)
def pWd (p : Nat) : (Nat × Nat) ⊕ Nat := if srt T E p = 1 then .inr (stp T E p) else .inl (1, p)
def pFirst (room time : Bool) (p : Nat) : (Nat × Nat) ⊕ Nat := if room then (if time then .inr (stp T E p) else .inl (6, p)) else .inl (5, p)
def pNew (S : PS) (p : Nat) : (Nat × Nat) ⊕ Nat := if isNm T E p then (if (fndL (sBn S) (wNB (sW S)) (wd T E p)).isSome || (fndL (sRn S) (wNR (sW S)) (wd T E p)).isSome then .inl (3, p) else .inr (stp T E p)) else .inl (1, p)
def pOld (names : Nat → List Nat) (cnt p : Nat) : (Nat × Nat) ⊕ (Nat × Nat) := if isNm T E p then (match fndL names cnt (wd T E p) with
  | some i => .inr (i, stp T E p)
  | none => .inl (2, p)) else .inl (1, p)
def pKind (p : Nat) : (Nat × Nat) ⊕ (Nat × Nat) := if isK T E p 14 then .inr (0, stp T E p) else if isK T E p 15 then .inr (1, stp T E p) else if isK T E p 16 then .inr (2, stp T E p) else if isK T E p 17 then .inr (3, stp T E p) else .inl (1, p)
def pCor (w : Wl) (b p : Nat) : (Nat × Nat) ⊕ (Nat × Nat × Nat) := bd (pKey T E 18 p) fun p1 => bd (pWh T E 0 (wW w - wBW w b) p1) fun x => if srt T E x.2 = 4 then bd (pWh T E 0 (wH w - wBH w b) (stp T E x.2)) fun y => .inr (x.1, y.1, y.2) else .inl (1, x.2)
def pWall (p : Nat) (S : PS) : (Nat × Nat) ⊕ (Nat × PS) := if 0 < wW (sW S) then .inl (3, p) else bd (pKey T E 6 (stp T E p)) fun p1 => bd (pWh T E 2 8 p1) fun x => bd (pKey T E 7 x.2) fun p2 => bd (pWh T E 1 4 p2) fun y => bd (pKey T E 8 y.2) fun p3 => bd (pWh T E 0 4 p3) fun l => bd (pKey T E (if isK T E l.2 9 then 9 else 10) l.2) fun p4 => .inr (p4, (w_wall (sW S) x.1 y.1 l.1 (isK T E l.2 9), S.2))
def pBill (p : Nat) (S : PS) : (Nat × Nat) ⊕ (Nat × PS) := bd (pFirst T E (decide (wNB (sW S) < 4)) (decide (0 < wW (sW S))) p) fun p1 => bd (pNew T E S p1) fun p2 => bd (pKind T E p2) fun k => bd (pKey T E 6 k.2) fun p3 => bd (pWh T E 1 (wW (sW S)) p3) fun x => bd (pKey T E 7 x.2) fun p4 => bd (pWh T E 1 (wH (sW S)) p4) fun y => bd (pKey T E 11 y.2) fun p5 => bd (pWd T E p5) fun p6 => .inr (p6, (w_bill (sW S) k.1 x.1 y.1 (wl T E p5) (lt T p5), sHs S, sM S, sSh S, sNp S, upN (sBn S) (wNB (sW S)) (wd T E p1), sRn S))
def pRival (p : Nat) (S : PS) : (Nat × Nat) ⊕ (Nat × PS) := bd (pFirst T E (decide (wNR (sW S) < 3)) true p) fun p1 => bd (pNew T E S p1) fun p2 => bd (pKey T E 12 p2) fun p3 => bd (pWh T E 0 20 p3) fun x => .inr (x.2, (w_riv (sW S), sHs S, sM S, upN (sSh S) (wNR (sW S)) x.1, sNp S, sBn S, upN (sRn S) (wNR (sW S)) (wd T E p1)))
def pWord (p : Nat) (S : PS) : (Nat × Nat) ⊕ (Nat × PS) := bd (pFirst T E (decide (wNW (sW S) < 6)) true p) fun p1 => if srt T E p1 = 1 ∧ (fndL (wordL (sW S)) (wNW (sW S)) (wd T E p1)).isSome then .inl (3, p1) else bd (pWd T E p1) fun p2 => .inr (p2, (w_word (sW S) (wl T E p1) (lt T p1), S.2))
def pFound (p : Nat) (S : PS) : (Nat × Nat) ⊕ (Nat × PS) := bd (pFirst T E (decide (wF (sW S) < 4)) (decide (0 < wW (sW S) ∧ sNp S = 0)) p) fun p1 => bd (pOld T E (sBn S) (wNB (sW S)) p1) fun b => bd (pCor T E (sW S) b.1 b.2) fun c => .inr (c.2.2, (w_fnd (sW S), puth (sHs S) (sM S) (b.1, c.1, c.2.1, -2), sM S + 1, sSh S, sNp S, sBn S, sRn S))
def pPaste (p : Nat) (S : PS) : (Nat × Nat) ⊕ (Nat × PS) := bd (pFirst T E (decide (sNp S < 10)) (decide (0 < wW (sW S))) p) fun p1 => bd (pOld T E (sBn S) (wNB (sW S)) p1) fun b => bd (pCor T E (sW S) b.1 b.2) fun c => bd (pKey T E 13 c.2.2) fun p2 => bd (pOld T E (sRn S) (wNR (sW S)) p2) fun r => if sSh S r.1 = 0 ∨ may (sW S) (sHs S) (sM S) b.1 c.1 c.2.1 = false then .inl (7, p2) else .inr (r.2, (sW S, puth (sHs S) (sM S) (b.1, c.1, c.2.1, nI r.1), sM S + 1, upN (sSh S) r.1 (sSh S r.1 - 1), sNp S + 1, sBn S, sRn S))
def pLine (p : Nat) (S : PS) : (Nat × Nat) ⊕ (Nat × PS) := if isK T E p 0 then pWall T E p S else if isK T E p 1 then pBill T E p S else if isK T E p 2 then pRival T E p S else if isK T E p 3 then pWord T E p S else if isK T E p 4 then pFound T E p S else if isK T E p 5 then pPaste T E p S else .inl (1, p)
def pAll : Nat → Nat → PS → (Nat × Nat) ⊕ PS
  | 0, _, S => .inr S
  | f + 1, p, S => bd (pLine T E p S) fun x => if srt T E x.1 = 3 then pAll f (stp T E x.1) x.2 else if srt T E x.1 = 0 then (if wNB (sW x.2) = 0 then .inl (6, x.1) else .inr x.2) else .inl (1, x.1)
end
def S_0 : PS := (w_0, fun _ => (0, 0, 0, 0), 0, fun _ => 0, 0, fun _ => [], fun _ => [])
/-- a text read whole -/
def pText (T : Nat → Int32) (E : Nat) : (Nat × Nat) ⊕ PS := pAll T E (E + 1) (rn isSp T E 0) S_0
/-! names that are packed -/
def PkN (v : Int64) (l : List Nat) : Prop := l.length ≤ 8 ∧ (∀ x ∈ l, x < 26) ∧ PkL v (fun k => (l.map (· + 1)).getD k 0)
theorem PkL.at {v : Int64} {f : Nat → Nat} (h : PkL v f) (hf : ∀ i, i < 8 → f i < 32) {i : Nat} (hi : i < 8) {g : Nat → Nat} (h2 : PkL v g) (hg : ∀ i, i < 8 → g i < 32) : f i = g i := by
  apply Nat.eq_of_testBit_eq
  intro j
  by_cases q : j < 5
  · have a := h (5 * i + j) (by omega)
    have b := h2 (5 * i + j) (by omega)
    rw [a] at b
    rw [show (5 * i + j) / 5 = i by omega, show (5 * i + j) % 5 = j by omega, decide_eq_true (show 5 * i + j < 40 by omega), Bool.true_and, Bool.true_and] at b
    exact b
  · have p5 : 2 ^ 5 ≤ 2 ^ j := Nat.pow_le_pow_right (by decide) (by omega)
    rw [Nat.testBit_lt_two_pow (Nat.lt_of_lt_of_le (hf i hi) p5), Nat.testBit_lt_two_pow (Nat.lt_of_lt_of_le (hg i hi) p5)]
theorem lgD_in {l : List Nat} {k : Nat} (h : k < l.length) : (l.map (· + 1)).getD k 0 = l[k] + 1 := by simp [List.getD, h]
theorem lgD_out {l : List Nat} {k : Nat} (h : l.length ≤ k) : (l.map (· + 1)).getD k 0 = 0 := by simp [List.getD, List.getElem?_eq_none h]
theorem getD_lt {l : List Nat} (h : ∀ x ∈ l, x < 26) (k : Nat) : (l.map (· + 1)).getD k 0 < 32 := by
  rcases Nat.lt_or_ge k l.length with q | q
  · rw [lgD_in q]
    have := h _ (List.getElem_mem q)
    omega
  · rw [lgD_out q]
    omega
theorem PkN.inj {u v : Int64} {l m : List Nat} (h1 : PkN u l) (h2 : PkN v m) : u = v ↔ l = m := by
  obtain ⟨a1, a2, a3⟩ := h1
  obtain ⟨b1, b2, b3⟩ := h2
  constructor
  · intro e
    subst e
    have hv : ∀ i, i < 8 → (l.map (· + 1)).getD i 0 = (m.map (· + 1)).getD i 0 := fun i hi => PkL.at a3 (fun i _ => getD_lt a2 i) hi b3 (fun i _ => getD_lt b2 i)
    have hlen : l.length = m.length := by
      rcases Nat.lt_trichotomy l.length m.length with q | q | q
      · have := hv l.length (by omega)
        rw [lgD_out (Nat.le_refl _), lgD_in q] at this
        omega
      · exact q
      · have := hv m.length (by omega)
        rw [lgD_out (l := m) (Nat.le_refl _), lgD_in q] at this
        omega
    refine List.ext_getElem hlen fun i hi hj => ?_
    have := hv i (by omega)
    rw [lgD_in hi, lgD_in hj] at this
    omega
  · intro e
    subst e
    exact PkL.inj a3 b3
theorem PkN.of {v : Int64} {l : Nat} {f : Nat → Nat} (h8 : l ≤ 8) (hf : ∀ k, k < l → f k < 26) (h : PkL v (fun k => if k < l then f k + 1 else 0)) : PkN v ((List.range l).map f) := by
  refine ⟨by simpa using h8, fun x hx => ?_, h.congr fun k _ => ?_⟩
  · obtain ⟨k, hk, rfl⟩ := List.mem_map.mp hx
    exact hf k (List.mem_range.mp hk)
  · by_cases q : k < l
    · rw [if_pos q, lgD_in (by simpa using q), List.getElem_map, List.getElem_range]
    · rw [if_neg q, lgD_out (by simp; omega)]
