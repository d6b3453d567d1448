theorem mj_stat_ok : ∀ q ∈ mj_poolL, (q.2.1 = 4 → mj_stat q.2.2.1 = false) := by
  have h : mj_poolL.all (fun q => q.2.1 != 4 || !(mj_stat q.2.2.1)) = true := by decide +kernel
  intro q hq h4
  have h1 := List.all_eq_true.mp h q hq
  simpa [h4] using h1
theorem mj_stat_sp {o idx x y : Nat} (h : mj_pool o idx = some (4, x, y)) : mj_stat x = false := by
  unfold mj_pool at h
  cases hf : mj_poolL.find? (fun q => q.1.1 == o && q.1.2 == idx) with
  | none => rw [hf] at h; cases h
  | some q =>
    rw [hf] at h
    simp only [Option.map_some, Option.some.injEq] at h
    have h2 := mj_stat_ok q (List.mem_of_find?_eq_some hf) (by rw [h])
    rw [h] at h2
    exact h2
theorem mj_init_ok : ∀ x, x < mj_n → (mj_y x).name = "<init>" → mj_rt x = none := by decide +kernel
theorem mj_init_rt {x : Nat} (h : x < mj_n) (hn : (mj_y x).name = "<init>") : mj_rt x = none := mj_init_ok x h hn
section MJC
variable {p : Program} {l : Launch} {e : Env} {R : Room} {s : State} {m : MethodId} {args : Array Value} {below : List Frame} {meth : Method} {c : Code} {H : Heap} {locs : List Loc} {k z : Nat} {QQ : State → Prop}
variable {pc i d : Nat} {ls : Array Slot} {st st' : List Value} {D : va_G} {base : Nat} {sa av : Nat → Nat} {μ μ' : mj_M} {ins : Instr} {len : Nat} {g : Prop}
theorem mj_call {mc ms : Nat} {st0 rest : List Value} {a : Array Value} {Q' : mj_Q} (hr : va_Run p l e R s m args below meth c H locs k z mc ms (F0 m pc ls st0) rest (mj_QQ D base Q' a) (fun q => base ≤ q)) (hS : va_S (fun q => base ≤ q) s.heap H locs)
    (kk : ∀ (v : Option Value) (μ' : mj_M) (H1 : Heap) (locs1 : List Loc), Q' v μ' → mj_W D base s μ' H1 → va_S (fun q => base ≤ q) s.heap H1 locs1 → W p l e R s m args below meth c H1 locs1 (k + mc) (z + ms) QQ (F0 m (pc + 3) ls (v.toList ++ rest))) : W p l e R s m args below meth c H locs k z QQ (F0 m pc ls st0) := by
  intro T hT X
  obtain ⟨v, st₀, t, T', L, h0, X', hL, e1, e2, ⟨r, μ', hv, hq, hw, hz, hk⟩, st⟩ := hr T hT X
  cases hv
  rw [h0] at hz hk
  have hal : s.vm.Alike t.vm := by rw [← e2]; exact X'.warmed.alike
  obtain ⟨t2, a1, b1⟩ := kk _ μ' T'.heap (locs ++ L) hq (by rw [e1]; exact mj_W.moved hal.symm hw)
    ⟨Nat.le_trans hS.1 (by rw [e1]; exact hz), fun q h1 h2 => by rw [e1, hk q (Nat.lt_of_lt_of_le h1 hS.1) h2]; exact hS.2.1 q h1 h2, fun q hq => by
      rcases List.mem_append.mp hq with h | h
      · exact hS.2.2 q h
      · exact hL q h⟩ T' rfl X'
  exact ⟨t2, st t2 a1, b1⟩
theorem mj_bind_ref {x : Nat} {q : List Value × List Value} {w : Nat × List Value × List Value} (h : (match q.2 with
      | .ref b :: r => some (x, .ref b :: q.1, r)
      | _ => none) = some w) : ∃ b r, q.2 = .ref b :: r ∧ w = (x, .ref b :: q.1, r) := by
  split at h
  · next b r hq => cases h; exact ⟨b, r, hq, rfl⟩
  · cases h
/-- what a call's meaning says of the receiver -/
theorem mj_recv (hX : mj_X D base sa av s H) (hW : mj_W D base s μ H) {x b : Nat} {As : List Value} {Q' : mj_Q} (hs : mj_stat x = false) (hE : EV sa d x (.ref b :: As) μ Q') : ∃ cell : Cell, H[b]? = some cell ∧ cell.vm.isStatics = false ∧ s.vm.findClass (mj_y x).cls = some cell.cls := by
  cases d with
  | zero => exact hE.elim
  | succ d =>
    have inst : x < 276 → μ.2.1 b = (1, mj_o x) → ∃ cell : Cell, H[b]? = some cell ∧ cell.vm.isStatics = false ∧ s.vm.findClass (mj_y x).cls = some cell.cls := fun h1 hK => by
      obtain ⟨n, K, FI, FL, FR, AI, AL, AR⟩ := μ
      have hcl := hW.2.2 b
      have hK : K b = (1, mj_o x) := hK
      simp only [mj_at, mj_cl, hK] at hcl
      obtain ⟨hci, cell, q1, q2, q3, -⟩ := hcl
      obtain ⟨o1, -⟩ := mj_cok_all hci
      refine ⟨cell, q1, by rw [q3]; rfl, ?_⟩
      rw [(mj_mok_all x (by unfold mj_n; omega)).2.2.1, q2]
      exact (hX.2.2.1.1 _ _ o1).2.1
    rcases hE with ⟨-, h⟩ | ⟨h1, h2, -, -⟩
    · have str : ∀ y, y < 20 → ∃ cell : Cell, H[sa y]? = some cell ∧ cell.vm.isStatics = false ∧ s.vm.findClass "java/lang/String" = some cell.cls := fun y hy => by
        obtain ⟨cell, q1, q2, q3, -⟩ := (hX.2.2.2.2.1.1 y hy).1
        exact ⟨cell, q1, q2, q3⟩
      rcases h with ⟨rfl, y, hy, hA, -⟩ | ⟨rfl, y, j, hy, hA, -⟩ | ⟨rfl, a, R, -, hA, hK, -⟩
      · cases hA; exact str y hy
      · cases hA; exact str y hy
      · cases hA; exact inst (by decide) (hK.trans rfl)
    · rcases h2 with h2 | ⟨a, r, hA, hK⟩
      · rw [hs] at h2; cases h2
      · cases hA
        exact inst h1 hK
theorem mj_inv {cc : ByteArray} {o : Nat} (C : mj_C p s m args c cc D o) (hml : c.maxLocals = ls.size) (hX : mj_X D base sa av s s.heap) (hbs : base ≤ s.heap.size) (hRf : d + 1 ≤ R.frames) (hRl : 64 * (d + 1) ≤ R.locals) (hW : mj_W D base s μ H) (hS : va_S (fun q => base ≤ q) s.heap H locs)
    (hcal : ∀ (x : Nat) (As : List Value) (μ : mj_M) (Q' : mj_Q), EV sa d x As μ Q' → Met l (mj_y x) (mj_ws x) (mj_rm d x) (va_Pc As (mj_PP D base sa av μ)) (mj_QQ D base Q') (mj_al x).1 (mj_al x).2 (fun q => base ≤ q))
    (hd : decode cc pc = .ok (ins, 3)) {x : Nat} {As r : List Value} (hv : mj_iv o ins st = some (x, As, r)) (hr : r.length ≤ 4) (hf : k + (mj_al x).1 ≤ R.cells ∧ z + (mj_al x).2 ≤ R.slots) {Q' : mj_Q} (hE : EV sa d x As μ Q')
    (kk : ∀ (v : Option Value) (μ' : mj_M) (H1 : Heap) (locs1 : List Loc), Q' v μ' → mj_W D base s μ' H1 → va_S (fun q => base ≤ q) s.heap H1 locs1 → W p l e R s m args below meth c H1 locs1 (k + (mj_al x).1) (z + (mj_al x).2) QQ (F0 m (pc + 3) ls (v.toList ++ r))) : W p l e R s m args below meth c H locs k z QQ (F0 m pc ls st) := by
  obtain ⟨hx, hb, hown, hts, hnF, hnM, hK⟩ := id C
  have hX' : mj_X D base sa av s H := hX.kept (fun a h1 h2 => hS.2.1 a h1 h2)
  have hpre : ∀ U : State, U.heap = H → s.WarmedH U.vm → va_Pc As (mj_PP D base sa av μ) As.toArray U := fun U hU hw => ⟨rfl, by rw [hU]; exact Nat.le_trans hbs hS.1, by rw [hU]; exact mj_X.warm hw hX', by rw [hU]; exact mj_W.moved hw.alike hW⟩
  have c8 := mj_cat8 hr
  have hM := hcal x As μ Q' hE
  have room : ∀ hx : x < mj_n, (mj_rm d x).frames + 1 ≤ R.frames ∧ 8 + (mj_mx x + 11) + (mj_rm d x).locals ≤ R.locals := fun hx => by
    have := (mj_mok_all x hx).2.2.2.2.2
    refine ⟨hRf, ?_⟩
    show 8 + (mj_mx x + 11) + 64 * d ≤ R.locals
    omega
  unfold mj_iv at hv
  split at hv
  · next idx =>
    split at hv
    · next x' y hp =>
      rw [Option.bind_eq_some_iff] at hv
      obtain ⟨⟨as, r0⟩, h1, h2⟩ := hv
      obtain ⟨b, r', hq, hw⟩ := mj_bind_ref h2
      cases hw
      obtain ⟨xs, g1, g2, g3⟩ := mj_tk_sp _ _ _ _ _ h1
      dsimp only at hq
      obtain ⟨w0, w1, w2, w3⟩ := mj_pool_sp hp
      obtain ⟨m1, m2, m3, m4, m5, m6⟩ := mj_mok_all _ w0
      have cw : CallW R s args (mj_R o) (mj_y x).cls idx (mj_y x) (mj_b x) (mj_mx x) (mj_rt x) (mj_ws x) (mj_rm d x) (mj_al x).1 (mj_al x).2 (mj_np x) := cwV (Ts := mj_gw) (mj_np x) hts (mj_gin (fun w hw => by
        rcases List.mem_append.mp hw with h | h
        · simp only [List.mem_cons, List.mem_nil_iff, or_false] at h
          rcases h with rfl | rfl | rfl | rfl
          · exact w1
          · exact w2
          · exact w3
          · exact m2
        · exact mj_ws_in w0 w h)) rfl rfl rfl ⟨rfl, m5.1, m5.2.1, m5.2.2⟩ (room w0)
      refine mj_call (va_runV (As := as) (rest := r) (b := b) ⟨hx, hb, hml, hown, hts⟩ hM cw ⟨mj_blind, mj_recv hX' hW (mj_stat_sp hp) hE, hpre⟩ rfl ?_ rfl ?_ (lv_room c8) hd hf) hS kk
      · rw [g3]; simp [g1]
      · show st = _
        rw [g2, hq, g3]
        simp
    · cases hv
  · next idx =>
    split at hv
    · next t x' y hp =>
      split at hv
      · next ht =>
        rw [Option.bind_eq_some_iff] at hv
        obtain ⟨⟨as, r0⟩, h1, h2⟩ := hv
        obtain ⟨b, r', hq, hw⟩ := mj_bind_ref h2
        cases hw
        obtain ⟨xs, g1, g2, g3⟩ := mj_tk_sp _ _ _ _ _ h1
        dsimp only at hq
        have hsp := mj_pool_sp hp
        have e1 : as.length = mj_np x := by rw [g3]; simp [g1]
        have e2 : st = as.reverse ++ .ref b :: r := by rw [g2, hq, g3]; simp
        rcases ht with rfl | rfl
        · obtain ⟨w0, w1, w2, w3⟩ := hsp
          obtain ⟨m1, m2, m3, m4, m5, m6⟩ := mj_mok_all _ w0
          have hrt := mj_init_rt w0 w3
          have cb := callB_of (Ts := mj_gw) (R := R) (s := s) (args := args) (own := mj_R o) (index := idx) (y := mj_y x) (bytes := mj_b x) (maxL := mj_mx x) (ret := mj_rt x) (ws := mj_ws x) (rm := mj_rm d x) (mc := (mj_al x).1) (ms := (mj_al x).2) (mj_np x) hts (mj_gin (mj_ws_in w0)) rfl rfl rfl (hts _ m2) (hts _ w1) m5 (room w0)
          rw [hrt] at cb
          exact mj_call (va_runI (As := as) (rest := r) (b := b) ⟨hx, hb, hml, hown, hts⟩ hM ⟨cb, w3, hts _ w2⟩ ⟨mj_blind, hpre⟩ rfl e1 rfl e2 (lv_room c8) hd hf) hS kk
        · obtain ⟨w0, host, w1, w2, w3⟩ := hsp
          obtain ⟨m1, m2, m3, m4, m5, m6⟩ := mj_mok_all _ w0
          have hrt := mj_init_rt w0 w3
          have cb := va_cnB (Ts := mj_gw) (R := R) (s := s) (args := args) (own := mj_R o) (index := idx) (y := mj_y x) (host := host) (bytes := mj_b x) (maxL := mj_mx x) (ret := mj_rt x) (ws := mj_ws x) (rm := mj_rm d x) (mc := (mj_al x).1) (ms := (mj_al x).2) (mj_np x) hts (mj_gin (mj_ws_in w0)) rfl rfl rfl (hnM _ w1) (hts _ m2) m5 (room w0)
          rw [hrt] at cb
          exact mj_call (va_runIN (As := as) (rest := r) (b := b) ⟨hx, hb, hml, hown, hts⟩ hM ⟨cb, w3, hts _ w2⟩ ⟨mj_blind, hpre⟩ rfl e1 rfl e2 (lv_room c8) hd hf) hS kk
      · cases hv
    · cases hv
  · next idx =>
    split at hv
    · next x' y hp =>
      rw [Option.map_eq_some_iff] at hv
      obtain ⟨⟨as, r0⟩, h1, h2⟩ := hv
      simp only [Prod.mk.injEq] at h2
      obtain ⟨e0, e1, e2⟩ := h2
      subst e0; subst e1; subst e2
      obtain ⟨xs, g1, g2, g3⟩ := mj_tk_sp _ _ _ _ _ h1
      obtain ⟨w0, w1, w2⟩ := mj_pool_sp hp
      obtain ⟨m1, m2, m3, m4, m5, m6⟩ := mj_mok_all _ w0
      have cb : CallB R s args (mj_R o) idx (mj_y x') (mj_b x') (mj_mx x') (mj_rt x') (mj_ws x') (mj_rm d x') (mj_al x').1 (mj_al x').2 (mj_np x') := callB_of (Ts := mj_gw) (mj_np x') hts (mj_gin (mj_ws_in w0)) rfl rfl rfl (hts _ m2) (hts _ w1) m5 (room w0)
      refine mj_call (va_runS (As := as) (rest := r0) ⟨hx, hb, hml, hown, hts⟩ hM ⟨cb, hts _ w2⟩ ⟨mj_blind, hpre⟩ rfl ?_ rfl ?_ (lv_room c8) hd hf) hS kk
      · rw [g3]; simp [g1]
      · show st = _
        rw [g2, g3]
        simp
    · cases hv
  · cases hv
end MJC
