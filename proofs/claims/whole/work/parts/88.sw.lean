section
variable {sa : Nat → Nat} {d k z : Nat} {Q : mj_Q} {L st : List Value} {μ : mj_M} {u : Int32}
theorem toInt_eq {a : Int32} {j : Nat} (hj : j < 1000) (h : a.toInt = (j : Int)) : a = nI j := by
  apply Int32.toInt_inj.1
  rw [h, nI_toInt (by omega)]
theorem toInt_rng {a : Int32} {N : Nat} (hN : N < 1000) : (a.toInt < 0 ∨ (N : Int) < a.toInt) → ¬ (0 ≤ a ∧ a ≤ nI N) := by
  intro h q
  have h1 : (0 : Int32).toInt ≤ a.toInt := Int32.le_iff_toInt_le.mp q.1
  have h2 : a.toInt ≤ (nI N).toInt := Int32.le_iff_toInt_le.mp q.2
  rw [nI_toInt (by omega)] at h2
  have h3 : (0 : Int32).toInt = 0 := by decide
  omega
theorem s103_15 (h0 : u = nI 0 → WP sa (EV sa d) 103 Q k z 44 L st μ) (h1 : u = nI 1 → WP sa (EV sa d) 103 Q k z 61 L st μ) (h2 : u = nI 2 → WP sa (EV sa d) 103 Q k z 78 L st μ) (h3 : u = nI 3 → WP sa (EV sa d) 103 Q k z 95 L st μ) (hd : ¬ (0 ≤ u ∧ u ≤ nI 3) → WP sa (EV sa d) 103 Q k z 112 L st μ) : WP sa (EV sa d) 103 Q k z 15 L (.int u :: st) μ := by
  rw [wp_sw (dd := 97) (lo := 0) (hi := 3) (offs := #[29, 46, 63, 80]) (len := 29) (by decide +kernel)]
  refine ⟨fun q1 q2 => ?_, fun q => ⟨by decide, hd (toInt_rng (N := 3) (by decide) q)⟩⟩
  have hc : u.toInt = 0 ∨ u.toInt = 1 ∨ u.toInt = 2 ∨ u.toInt = 3 := by omega
  rcases hc with e0 | e1 | e2 | e3
  · refine ⟨29, by rw [e0]; rfl, by decide, h0 (toInt_eq (j := 0) (by decide) e0)⟩
  · refine ⟨46, by rw [e1]; rfl, by decide, h1 (toInt_eq (j := 1) (by decide) e1)⟩
  · refine ⟨63, by rw [e2]; rfl, by decide, h2 (toInt_eq (j := 2) (by decide) e2)⟩
  · refine ⟨80, by rw [e3]; rfl, by decide, h3 (toInt_eq (j := 3) (by decide) e3)⟩
theorem s105_15 (h0 : u = nI 0 → WP sa (EV sa d) 105 Q k z 48 L st μ) (h1 : u = nI 1 → WP sa (EV sa d) 105 Q k z 62 L st μ) (h2 : u = nI 2 → WP sa (EV sa d) 105 Q k z 87 L st μ) (h3 : u = nI 3 → WP sa (EV sa d) 105 Q k z 112 L st μ) (h4 : u = nI 4 → WP sa (EV sa d) 105 Q k z 126 L st μ) (hd : ¬ (0 ≤ u ∧ u ≤ nI 4) → WP sa (EV sa d) 105 Q k z 143 L st μ) : WP sa (EV sa d) 105 Q k z 15 L (.int u :: st) μ := by
  rw [wp_sw (dd := 128) (lo := 0) (hi := 4) (offs := #[33, 47, 72, 97, 111]) (len := 33) (by decide +kernel)]
  refine ⟨fun q1 q2 => ?_, fun q => ⟨by decide, hd (toInt_rng (N := 4) (by decide) q)⟩⟩
  have hc : u.toInt = 0 ∨ u.toInt = 1 ∨ u.toInt = 2 ∨ u.toInt = 3 ∨ u.toInt = 4 := by omega
  rcases hc with e0 | e1 | e2 | e3 | e4
  · refine ⟨33, by rw [e0]; rfl, by decide, h0 (toInt_eq (j := 0) (by decide) e0)⟩
  · refine ⟨47, by rw [e1]; rfl, by decide, h1 (toInt_eq (j := 1) (by decide) e1)⟩
  · refine ⟨72, by rw [e2]; rfl, by decide, h2 (toInt_eq (j := 2) (by decide) e2)⟩
  · refine ⟨97, by rw [e3]; rfl, by decide, h3 (toInt_eq (j := 3) (by decide) e3)⟩
  · refine ⟨111, by rw [e4]; rfl, by decide, h4 (toInt_eq (j := 4) (by decide) e4)⟩
theorem s122_15 (h0 : u = nI 0 → WP sa (EV sa d) 122 Q k z 40 L st μ) (h1 : u = nI 1 → WP sa (EV sa d) 122 Q k z 54 L st μ) (h2 : u = nI 2 → WP sa (EV sa d) 122 Q k z 70 L st μ) (hd : ¬ (0 ≤ u ∧ u ≤ nI 2) → WP sa (EV sa d) 122 Q k z 84 L st μ) : WP sa (EV sa d) 122 Q k z 15 L (.int u :: st) μ := by
  rw [wp_sw (dd := 69) (lo := 0) (hi := 2) (offs := #[25, 39, 55]) (len := 25) (by decide +kernel)]
  refine ⟨fun q1 q2 => ?_, fun q => ⟨by decide, hd (toInt_rng (N := 2) (by decide) q)⟩⟩
  have hc : u.toInt = 0 ∨ u.toInt = 1 ∨ u.toInt = 2 := by omega
  rcases hc with e0 | e1 | e2
  · refine ⟨25, by rw [e0]; rfl, by decide, h0 (toInt_eq (j := 0) (by decide) e0)⟩
  · refine ⟨39, by rw [e1]; rfl, by decide, h1 (toInt_eq (j := 1) (by decide) e1)⟩
  · refine ⟨55, by rw [e2]; rfl, by decide, h2 (toInt_eq (j := 2) (by decide) e2)⟩
theorem s140_1 (h0 : u = nI 0 → WP sa (EV sa d) 140 Q k z 60 L st μ) (h1 : u = nI 1 → WP sa (EV sa d) 140 Q k z 71 L st μ) (h2 : u = nI 2 → WP sa (EV sa d) 140 Q k z 82 L st μ) (h3 : u = nI 3 → WP sa (EV sa d) 140 Q k z 93 L st μ) (h4 : u = nI 4 → WP sa (EV sa d) 140 Q k z 112 L st μ) (h5 : u = nI 5 → WP sa (EV sa d) 140 Q k z 123 L st μ) (h6 : u = nI 6 → WP sa (EV sa d) 140 Q k z 134 L st μ) (h7 : u = nI 7 → WP sa (EV sa d) 140 Q k z 145 L st μ) (h8 : u = nI 8 → WP sa (EV sa d) 140 Q k z 153 L st μ) (h9 : u = nI 9 → WP sa (EV sa d) 140 Q k z 161 L st μ) (h10 : u = nI 10 → WP sa (EV sa d) 140 Q k z 169 L st μ) (hd : ¬ (0 ≤ u ∧ u ≤ nI 10) → WP sa (EV sa d) 140 Q k z 174 L st μ) : WP sa (EV sa d) 140 Q k z 1 L (.int u :: st) μ := by
  rw [wp_sw (dd := 173) (lo := 0) (hi := 10) (offs := #[59, 70, 81, 92, 111, 122, 133, 144, 152, 160, 168]) (len := 59) (by decide +kernel)]
  refine ⟨fun q1 q2 => ?_, fun q => ⟨by decide, hd (toInt_rng (N := 10) (by decide) q)⟩⟩
  have hc : u.toInt = 0 ∨ u.toInt = 1 ∨ u.toInt = 2 ∨ u.toInt = 3 ∨ u.toInt = 4 ∨ u.toInt = 5 ∨ u.toInt = 6 ∨ u.toInt = 7 ∨ u.toInt = 8 ∨ u.toInt = 9 ∨ u.toInt = 10 := by omega
  rcases hc with e0 | e1 | e2 | e3 | e4 | e5 | e6 | e7 | e8 | e9 | e10
  · refine ⟨59, by rw [e0]; rfl, by decide, h0 (toInt_eq (j := 0) (by decide) e0)⟩
  · refine ⟨70, by rw [e1]; rfl, by decide, h1 (toInt_eq (j := 1) (by decide) e1)⟩
  · refine ⟨81, by rw [e2]; rfl, by decide, h2 (toInt_eq (j := 2) (by decide) e2)⟩
  · refine ⟨92, by rw [e3]; rfl, by decide, h3 (toInt_eq (j := 3) (by decide) e3)⟩
  · refine ⟨111, by rw [e4]; rfl, by decide, h4 (toInt_eq (j := 4) (by decide) e4)⟩
  · refine ⟨122, by rw [e5]; rfl, by decide, h5 (toInt_eq (j := 5) (by decide) e5)⟩
  · refine ⟨133, by rw [e6]; rfl, by decide, h6 (toInt_eq (j := 6) (by decide) e6)⟩
  · refine ⟨144, by rw [e7]; rfl, by decide, h7 (toInt_eq (j := 7) (by decide) e7)⟩
  · refine ⟨152, by rw [e8]; rfl, by decide, h8 (toInt_eq (j := 8) (by decide) e8)⟩
  · refine ⟨160, by rw [e9]; rfl, by decide, h9 (toInt_eq (j := 9) (by decide) e9)⟩
  · refine ⟨168, by rw [e10]; rfl, by decide, h10 (toInt_eq (j := 10) (by decide) e10)⟩
theorem s273_38 (h0 : u = nI 0 → WP sa (EV sa d) 273 Q k z 88 L st μ) (h1 : u = nI 1 → WP sa (EV sa d) 273 Q k z 96 L st μ) (h2 : u = nI 2 → WP sa (EV sa d) 273 Q k z 104 L st μ) (h3 : u = nI 3 → WP sa (EV sa d) 273 Q k z 112 L st μ) (h4 : u = nI 4 → WP sa (EV sa d) 273 Q k z 128 L st μ) (h5 : u = nI 5 → WP sa (EV sa d) 273 Q k z 136 L st μ) (h6 : u = nI 6 → WP sa (EV sa d) 273 Q k z 144 L st μ) (h7 : u = nI 7 → WP sa (EV sa d) 273 Q k z 152 L st μ) (h8 : u = nI 8 → WP sa (EV sa d) 273 Q k z 160 L st μ) (hd : ¬ (0 ≤ u ∧ u ≤ nI 8) → WP sa (EV sa d) 273 Q k z 165 L st μ) : WP sa (EV sa d) 273 Q k z 38 L (.int u :: st) μ := by
  rw [wp_sw (dd := 127) (lo := 0) (hi := 8) (offs := #[50, 58, 66, 74, 90, 98, 106, 114, 122]) (len := 50) (by decide +kernel)]
  refine ⟨fun q1 q2 => ?_, fun q => ⟨by decide, hd (toInt_rng (N := 8) (by decide) q)⟩⟩
  have hc : u.toInt = 0 ∨ u.toInt = 1 ∨ u.toInt = 2 ∨ u.toInt = 3 ∨ u.toInt = 4 ∨ u.toInt = 5 ∨ u.toInt = 6 ∨ u.toInt = 7 ∨ u.toInt = 8 := by omega
  rcases hc with e0 | e1 | e2 | e3 | e4 | e5 | e6 | e7 | e8
  · refine ⟨50, by rw [e0]; rfl, by decide, h0 (toInt_eq (j := 0) (by decide) e0)⟩
  · refine ⟨58, by rw [e1]; rfl, by decide, h1 (toInt_eq (j := 1) (by decide) e1)⟩
  · refine ⟨66, by rw [e2]; rfl, by decide, h2 (toInt_eq (j := 2) (by decide) e2)⟩
  · refine ⟨74, by rw [e3]; rfl, by decide, h3 (toInt_eq (j := 3) (by decide) e3)⟩
  · refine ⟨90, by rw [e4]; rfl, by decide, h4 (toInt_eq (j := 4) (by decide) e4)⟩
  · refine ⟨98, by rw [e5]; rfl, by decide, h5 (toInt_eq (j := 5) (by decide) e5)⟩
  · refine ⟨106, by rw [e6]; rfl, by decide, h6 (toInt_eq (j := 6) (by decide) e6)⟩
  · refine ⟨114, by rw [e7]; rfl, by decide, h7 (toInt_eq (j := 7) (by decide) e7)⟩
  · refine ⟨122, by rw [e8]; rfl, by decide, h8 (toInt_eq (j := 8) (by decide) e8)⟩
end
