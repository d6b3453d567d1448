theorem whole_start {p : Program} {e : Env} {s : State} {m : MethodId} {below : List Frame} {meth : Method} {c : Code} (l : Launch) (hl : l.stackTraces = false) {b L : Nat} {xs : Nat → Int32} (hL : L ≤ 3072) (C0 : lw_At p s m meth c b L xs) : W p l e room_1 s m #[Value.ref b] below meth c s.heap [] 0 0 (lw_Z below #[Value.ref b] s) (entryFrame m ([Value.ref b] : List Value).toArray 7) := by
  obtain ⟨hx, hb, hr, hml, hown, hts, hX, hbl, hlk, hgv⟩ := C0
  obtain ⟨D, sa, av, hXX, hZ⟩ := st_X hts hgv
  have C : mj_C p s m #[Value.ref b] c code D 11 := ⟨hx, hb, hown, fun w hw => hts w (List.mem_filter.mp hw).1, hXX.1, hXX.2.1, hXX.2.2.1⟩
  have hC : LC (p, l, e, s, m, below, meth, c, D, sa, av, b) := ⟨hl, C, hml, hr, hlk, hXX, hZ⟩
  have G := lw_go (cx := (p, l, e, s, m, below, meth, c, D, sa, av, b)) (b := b) (N := L) (x := s.heap.size) (xs := xs) hC hbl hL
  rw [lg_entry_eq]
  refine G s.heap _ [] ⟨rfl, fun a h1 h2 => ?_, fun a => ?_⟩ (jd_entry (nL := 7) (As := [.ref b]) (by simp [mj_ent])) va_S.rf
  · by_cases h : a = b
    · simp [h] at h2
    · simp [h] at h1
  · show mj_cl D s (if a = b then (9, L) else (0, 0)) _ _ _ (if a = b then xs else fun _ => 0) _ _ a s.heap
    by_cases h : a = b
    · subst h
      simp only [if_true, mj_cl]
      exact hX
    · simp only [h, if_false, mj_cl]
