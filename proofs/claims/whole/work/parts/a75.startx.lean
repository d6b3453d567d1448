theorem st_eqR {args : Array Value} {s : State} {t u : Term} {a : Nat} (h : (Cond.eq t u).before args s = true) (ht : t.eval args s none [] s = some (.ref a)) : u.eval args s none [] s = some (.ref a) := by
  cases hu : u.eval args s none [] s with
  | none => simp [Cond.before, Cond.holds, Cond.value, ht, hu] at h
  | some w =>
    cases w <;> simp_all [Cond.before, Cond.holds, Cond.value]
theorem st_OFu {o n d : String} {v w : Value} {t : Nat} {A : Nat → Prop} {U : State} {H : Heap} (h1 : va_OF o n d v t A U H) (h2 : va_OF o n d w t A U H) : v = w := by
  obtain ⟨cf, k, i, f, cell, a1, -, a3, -, a5, -⟩ := h1
  obtain ⟨cf', k', i', f', cell', b1, -, b3, -, b5, -⟩ := h2
  rw [a1] at b1
  cases b1
  rw [a3] at b3
  cases b3
  rw [a5] at b5
  cases b5
  rfl
theorem st_X {args : Array Value} {s : State} (hts : ∀ w ∈ lw_tbl, w.before args s = true) (hgv : (Jvm.Cond.and given_1 narrow_1).before args s = true) : ∃ (D : va_G) (sa av : Nat → Nat), mj_X D s.heap.size sa av s s.heap ∧ ld_X s.heap.size s s.heap := by
  have hs : ∀ w ∈ st_fl, w.before args s = true := flat_of_before _ hgv
  have hA : ∀ a : Nat, a < s.heap.size → ¬ s.heap.size ≤ a := fun a h => by omega
  have hgw : ∀ w ∈ mj_gw, w.before args s = true := fun w hw => hts w (List.mem_filter.mp hw).1
  -- classes
  have hc : ∀ ci : Nat, ∃ q : ClassId × (Nat → Nat), ci < 11 → u_Kn s (mj_R ci) (mj_T ci) (mj_N ci) q.1 q.2 := fun ci => by
    by_cases h : ci < 11
    · obtain ⟨c, i, hk⟩ := u_known hgw (mj_cok_all h).2.1 (hts _ (st_ins ci h))
      exact ⟨(c, i), fun _ => hk⟩
    · exact ⟨(0, fun _ => 0), fun q => absurd q h⟩
  obtain ⟨DD, hDD⟩ := Classical.axiomOfChoice hc
  -- strings
  have h0 : ∀ i : Nat, ∃ q : Nat × Nat, i < 20 → (st_tm i).eval args s none [] s = some (.ref q.1) ∧ va_O "java/lang/String" q.1 (fun q => s.heap.size ≤ q) s s.heap ∧ va_OF "java/lang/String" "coder" "B" (.int 0) q.1 (fun q => s.heap.size ≤ q) s s.heap ∧ va_OF "java/lang/String" "value" "[B" (.ref q.2) q.1 (fun q => s.heap.size ≤ q) s s.heap ∧ va_T .byte q.2 (mj_sl.getD i 0) (fun j => .int ((mj_sby.getD i []).getD j 0)) (fun q => s.heap.size ≤ q) s s.heap := by
    intro i
    by_cases hi : i < 20
    · obtain ⟨a, c, cA, kA, q1, q2, q3, q4, q5, q6, -⟩ := Cond.exactly_spec (args := args) (first := s) (o := none) (s := s) (idx := []) (t := st_tm i) (cls := "java/lang/String") (hs _ (st_ex i hi))
      obtain ⟨t, ht, hT⟩ := va_Tof (f := fun j => .int ((mj_sby.getD i []).getD j 0)) (A := fun q => s.heap.size ≤ q) (by have := jd_len31 i hi; omega) (hs _ (st_ar i hi)) (va_eqt (hs _ (st_le i hi))) (fun j hj => va_eqt (hs _ (st_el i hi j hj))) hA
      exact ⟨(a, t), fun _ => ⟨q1, ⟨cA, q3, q5, by rw [q6]; exact q2, hA a (Array.getElem?_eq_some_iff.mp q3).1⟩, vk_OFof q1 (va_eqt (hs _ (st_co i hi))) hA, vk_OFof q1 ht hA, hT⟩⟩
    · exact ⟨(0, 0), fun h => absurd h hi⟩
  obtain ⟨ad, had⟩ := Classical.axiomOfChoice h0
  refine ⟨(fun c => (DD c).1, fun c => (DD c).2), fun i => (ad i).1, fun i => (ad i).2, ⟨fun q hq => va_Nw.of rfl (hts _ (st_nF q hq)), fun q hq => va_Nw.of rfl (hts _ (st_nM q hq)), ⟨fun c q hq => ?_, fun k q hk => by simp at hk⟩, fun q hq => ?_, ⟨fun i hi => (had i hi).2, fun i j hi hj e => ?_⟩, ⟨fun a => ?_, ?_, ?_⟩⟩, ?_, ?_, fun w hw => ?_⟩
  · have hl : c < 11 := (List.getElem?_eq_some_iff.mp hq).1
    have := (mj_cok_all hl).1
    rw [this] at hq
    cases hq
    exact hDD c hl
  · have hl := st_lt q hq
    refine vk_R.of (hts _ (st_sr q hq)) ?_
    rcases st_al q hq with h | h
    · rw [h]; exact (had _ hl).1
    · exact st_eqR (hs _ h) (had _ hl).1
  · obtain ⟨-, -, -, v1, ⟨c1, a1, -, -, a4, a5, a6, -⟩⟩ := had i hi
    obtain ⟨-, -, -, v2, ⟨c2, b1, -, -, b4, b5, b6, -⟩⟩ := had j hj
    have e : (ad i).1 = (ad j).1 := e
    rw [e] at v1
    have ev := st_OFu v1 v2
    have e2 : (ad i).2 = (ad j).2 := by injection ev
    rw [e2, b1] at a1
    cases a1
    rw [b5] at a5
    have l1 := jd_len31 i hi
    have l2 := jd_len31 j hj
    have e3 : mj_sl.getD i 0 = mj_sl.getD j 0 := by
      have h9 : nI (mj_sl.getD j 0) = nI (mj_sl.getD i 0) := a5
      have := congrArg Int32.toNatClampNeg h9
      rw [nI_clamp (by omega), nI_clamp (by omega)] at this
      exact this.symm
    refine st_inj i hi j hj e3 (fun k hk => ?_)
    have q1 := a6 k hk
    have q2 := b6 k (by omega)
    rw [q2] at q1
    simp only [Option.some.injEq, Value.int.injEq] at q1
    exact q1.symm
  · exact Jvm.Stand.arrayOver_alikeB (Vm.Alike.refl _) (hts _ st_ao)
  · exact va_Zof (hts _ (st_lsw _ (by simp))) (hts _ (st_lsw _ (by simp))) (va_eqt (hs _ (st_na _ (by simp)))) hA
  · exact va_Zqof (hts _ (st_lsw _ (by simp))) (hts _ (st_lsw _ (by simp))) (hs _ (st_na _ (by simp))) hA
  · exact vx_Zqof (hts _ (st_lsw _ (by simp))) (hts _ (st_lsw _ (by simp))) (hs _ (st_na _ (by simp))) hA
  · exact vx_Zqof (hts _ (st_lsw _ (by simp))) (hts _ (st_lsw _ (by simp))) (hs _ (st_na _ (by simp))) hA
  · refine va_Nw.of ?_ (hts _ (st_ldw w hw))
    revert w; decide +kernel
