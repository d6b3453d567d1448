/-! ## the law's own machine: one rule an instruction -/
abbrev LCx : Type := Program × Launch × Env × State × MethodId × List Frame × Method × Code × va_G × (Nat → Nat) × (Nat → Nat) × Nat
def LC (cx : LCx) : Prop := match cx with
  | (p, l, e, s, m, below, meth, c, D, sa, av, b) => l.stackTraces = false ∧ mj_C p s m #[Value.ref b] c code D 11 ∧ c.maxLocals = 7 ∧ meth.sig.returnType = ret ∧ meth.locks = false ∧ mj_X D s.heap.size sa av s s.heap ∧ ld_X s.heap.size s s.heap
def LG (cx : LCx) (k z pc : Nat) (L st : List Value) (μ : mj_M) : Prop := match cx with
  | (p, l, e, s, m, below, meth, c, D, sa, av, b) => ∀ (H : Heap) (ls : Array Slot) (locs : List Loc), mj_W D s.heap.size s μ H → mj_L ls 7 L → va_S (fun q => s.heap.size ≤ q) s.heap H locs → W p l e room_1 s m #[Value.ref b] below meth c H locs k z (lw_Z below #[Value.ref b] s) (F0 m pc ls st)
def cS (cx : LCx) : Nat → Nat := cx.2.2.2.2.2.2.2.2.2.1
section LGR
variable {cx : LCx} {k z pc len tgt : Nat} {L L' st st' r : List Value} {μ : mj_M} {n : Nat} {K : Nat → Nat × Nat} {FI : Nat → Nat → Int32} {FL : Nat → Nat → Int64} {FR : Nat → Nat → Option Nat} {AI : Nat → Nat → Int32} {AL : Nat → Nat → Int64} {AR : Nat → Nat → Option Nat} {ins : Instr} {op : mj_O}
theorem g_p (hC : LC cx) (hd : decode code pc = .ok (ins, len)) (hp : mj_p ins = some (op, len)) (ho : op L st = some (L', st')) (kk : LG cx k z (pc + len) L' st' μ) : LG cx k z pc L st μ := by
  obtain ⟨p, l, e, s, m, below, meth, c, D, sa, av, b⟩ := cx
  intro H ls locs hW hL hS
  exact mj_pure hC.2.1.1 hC.2.1.2.1 hd hp ho hL (fun ls' hL' => kk H ls' locs hW hL' hS)
theorem g_b {cnd : Prop} {off : Int} (hC : LC cx) (hd : decode code pc = .ok (ins, 3)) (hp : mj_br ins st = some (cnd, off, st')) (ht : (pc : Int) + off = (tgt : Int)) (kt : cnd → LG cx k z tgt L st' μ) (kf : ¬ cnd → LG cx k z (pc + 3) L st' μ) : LG cx k z pc L st μ := by
  obtain ⟨p, l, e, s, m, below, meth, c, D, sa, av, b⟩ := cx
  intro H ls locs hW hL hS
  exact mj_brch (len := 0) hC.2.1.1 hC.2.1.2.1 hd hp ht (fun h => kt h H ls locs hW hL hS) (fun h => kf h H ls locs hW hL hS)
theorem g_go {off : Int} (hC : LC cx) (hd : decode code pc = .ok (.goto off, 3)) (ht : (pc : Int) + off = (tgt : Int)) (kt : LG cx k z tgt L st μ) : LG cx k z pc L st μ := g_b hC hd rfl ht (fun _ => kt) (fun h => absurd trivial h)
theorem g_ial {a : Nat} {j : Int32} (hC : LC cx) (hd : decode code pc = .ok (.iaload, 1)) (hk : (K a).1 = 2 ∨ (K a).1 = 9) (hin : vp_in j (K a).2) (kk : LG cx k z (pc + 1) L (.int (AI a j.toNatClampNeg) :: st) (n, K, FI, FL, FR, AI, AL, AR)) : LG cx k z pc L (.int j :: .ref a :: st) (n, K, FI, FL, FR, AI, AL, AR) := by
  obtain ⟨p, l, e, s, m, below, meth, c, D, sa, av, b⟩ := cx
  intro H ls locs hW hL hS
  exact mj_iald hC.2.1 hW hk hin hd (kk H ls locs hW hL hS)
theorem g_lal {a : Nat} {j : Int32} (hC : LC cx) (hd : decode code pc = .ok (.laload, 1)) (hk : (K a).1 = 4) (hin : vp_in j (K a).2) (kk : LG cx k z (pc + 1) L (.long (AL a j.toNatClampNeg) :: st) (n, K, FI, FL, FR, AI, AL, AR)) : LG cx k z pc L (.int j :: .ref a :: st) (n, K, FI, FL, FR, AI, AL, AR) := by
  obtain ⟨p, l, e, s, m, below, meth, c, D, sa, av, b⟩ := cx
  intro H ls locs hW hL hS
  exact mj_lald hC.2.1 hW hk hin hd (kk H ls locs hW hL hS)
theorem g_len {a : Nat} (hC : LC cx) (hd : decode code pc = .ok (.arraylength, 1)) (hk : mj_isA (K a).1) (kk : LG cx k z (pc + 1) L (.int (Int32.ofNat (K a).2) :: st) (n, K, FI, FL, FR, AI, AL, AR)) : LG cx k z pc L (.ref a :: st) (n, K, FI, FL, FR, AI, AL, AR) := by
  obtain ⟨p, l, e, s, m, below, meth, c, D, sa, av, b⟩ := cx
  intro H ls locs hW hL hS
  exact mj_alen hC.2.1 hW hk hd (kk H ls locs hW hL hS)
theorem g_new {idx ci y : Nat} (hC : LC cx) (hd : decode code pc = .ok (.new idx, 3)) (hp : mj_pool 11 idx = some (3, ci, y)) (hk : k + 1 ≤ 601024) (hz : z + mj_N ci ≤ 7293034) (kk : LG cx (k + 1) (z + mj_N ci) (pc + 3) L (.ref n :: st) (n + 1, mj_uk K n (1, ci), mj_zf 0 FI n, mj_zf 0 FL n, mj_zf none FR n, AI, AL, AR)) : LG cx k z pc L st (n, K, FI, FL, FR, AI, AL, AR) := by
  obtain ⟨p, l, e, s, m, below, meth, c, D, sa, av, b⟩ := cx
  intro H ls locs hW hL hS
  exact mj_newc hC.2.1 hW hS (Nat.le_refl _) hp hk hz hd (fun H1 w1 s1 => kk H1 ls locs w1 hL s1)
theorem g_newl {j : Int32} (hC : LC cx) (hd : decode code pc = .ok (.newarray .long, 2)) (hj : ¬ j < 0) (hj2 : j.toNatClampNeg ≤ 10000) (hk : k + 1 ≤ 601024) (hz : z + j.toNatClampNeg ≤ 7293034) (kk : LG cx (k + 1) (z + j.toNatClampNeg) (pc + 2) L (.ref n :: st) (n + 1, mj_uk K n (4, j.toNatClampNeg), FI, FL, FR, AI, mj_za (fun _ => 0) AL n, AR)) : LG cx k z pc L (.int j :: st) (n, K, FI, FL, FR, AI, AL, AR) := by
  obtain ⟨p, l, e, s, m, below, meth, c, D, sa, av, b⟩ := cx
  intro H ls locs hW hL hS
  exact mj_newl hC.2.1 hW hS (Nat.le_refl _) hj hj2 hk hz hd (fun H1 w1 s1 => kk H1 ls locs w1 hL s1)
theorem g_call {x : Nat} {As : List Value} (hC : LC cx) (hd : decode code pc = .ok (ins, 3)) (hv : mj_iv 11 ins st = some (x, As, r)) (hr : r.length ≤ 4) (hf : k + (mj_al x).1 ≤ 601024 ∧ z + (mj_al x).2 ≤ 7293034) (hE : EV (cS cx) 1000 x As μ (fun v μ' => LG cx (k + (mj_al x).1) (z + (mj_al x).2) (pc + 3) L (v.toList ++ r) μ')) : LG cx k z pc L st μ := by
  obtain ⟨p, l, e, s, m, below, meth, c, D, sa, av, b⟩ := cx
  obtain ⟨hl, C, hml, hret, hlk, hX, hZ⟩ := id hC
  intro H ls locs hW hL hS
  exact mj_inv (d := 1000) C (by rw [hml]; exact hL.2.1.symm) hX (Nat.le_refl _) (by decide) (by decide) hW hS (mj_met (mj_Bi_ok l D s.heap.size sa av) 1000) hd hv hr hf hE (fun v μ' H1 locs1 q w1 s1 => q H1 ls locs1 w1 hL s1)
theorem g_led {x o h : Nat} {i : Int32} {Tp : Prop} {Rp : Int32 → Prop} (hC : LC cx) (hd : decode code pc = .ok (.invokestatic 188, 3)) (hr : r.length ≤ 4) (hf : k + 1 ≤ 601024 ∧ z + 6 ≤ 7293034) (hKx : K x = (1, 7)) (hR : FR 450 x = some h) (hKo : K o = (4, 1))
    (hE : EV (cS cx) 1000 12 [.ref h, .int i] (n, K, FI, FL, FR, AI, AL, AR) (fun v μ' => ∃ r, v = some (.int r) ∧ μ' = (n, K, FI, FL, FR, AI, AL, AR) ∧ (¬ (0 : Int32) ≤ r → Tp) ∧ ((0 : Int32) ≤ r → Rp r)))
    (hQ1 : ∀ v, Rp v → LG cx (k + 1) (z + 6) (pc + 3) L (.int 0 :: r) (n, K, FI, FL, FR, AI, mj_u2 AL o 0 v.toInt64, AR)) (hQ2 : Tp → ∀ n', n ≤ n' → LG cx (k + 1) (z + 6) (pc + 3) L (.int 1 :: r) (n', K, FI, FL, FR, AI, AL, AR)) : LG cx k z pc L (.ref o :: .int i :: .ref x :: r) (n, K, FI, FL, FR, AI, AL, AR) := by
  obtain ⟨p, l, e, s, m, below, meth, c, D, sa, av, b⟩ := cx
  obtain ⟨hl, C, hml, hret, hlk, hX, hZ⟩ := id hC
  obtain ⟨hx, hb, hown, hts, -, -, -⟩ := id C
  intro H ls locs hW hL hS
  have hM := ll_met (l := l) hl (D := D) (base := s.heap.size) (sa := sa) (av := av) (d := 1000) (x := x) (h := h) (o := o) (i := i) (μ := (n, K, FI, FL, FR, AI, AL, AR)) (Tp := Tp) (Rp := Rp) (Q := fun v μ' => LG (p, l, e, s, m, below, meth, c, D, sa, av, b) (k + 1) (z + 6) (pc + 3) L (v.toList ++ r) μ') (by decide) hKx hR hKo hE hQ1 hQ2
  have cw : vx_CSW room_1 s #[Value.ref b] RL 188 yL_led cL_led 4 (some .int) [(0, 9, 12, 13)] ll_ws (ld_rm 1002) 1 6 3 := vx_cwSW (Ts := mj_gw) 3 hts (mj_gin (fun w hw => by
      rcases List.mem_append.mp hw with h | h
      · simp only [List.mem_cons, List.mem_nil_iff, or_false] at h
        rcases h with rfl | rfl | rfl
        · exact ll_l
        · exact ll_s
        · exact ll_i
      · exact (List.mem_cons.mp h).elim (fun q => by rw [q]; exact ll_w) id)) rfl rfl rfl (by decide +kernel) ⟨by decide, by decide⟩
  have hX' : mj_X D s.heap.size sa av s H := hX.kept (fun a h1 h2 => hS.2.1 a h1 h2)
  have hZ' : ld_X s.heap.size s H := hZ.kept (fun a h1 h2 => hS.2.1 a h1 h2)
  exact mj_call (vx_runSW (As := [.ref x, .int i, .ref o]) (rest := r) ⟨hx, hb, hml.trans hL.2.1.symm, hown, hts⟩ hM cw ⟨ld_blind, fun U hU hw => ⟨rfl, ⟨by rw [hU]; exact hS.1, by rw [hU]; exact mj_X.warm hw hX', by rw [hU]; exact mj_W.moved hw.alike hW⟩, by rw [hU]; exact ld_X.warm hw hZ'⟩⟩ rfl rfl rfl rfl (lv_room (mj_cat8 hr)) hd hf) hS (fun v μ' H1 locs1 q w1 s1 => q H1 ls locs1 w1 hL s1)
theorem g_swI {dd lo hi : Int} {offs : Array Int} {x : Int32} {off : Int} (hC : LC cx) (hd : decode code pc = .ok (.tableswitch dd lo hi offs, len)) (h1 : ¬ x.toInt < lo) (h2 : ¬ hi < x.toInt) (ho : offs[(x.toInt - lo).toNat]? = some off) (ht : (pc : Int) + off = (tgt : Int)) (kk : LG cx k z tgt L st μ) : LG cx k z pc L (.int x :: st) μ := by
  obtain ⟨p, l, e, s, m, below, meth, c, D, sa, av, b⟩ := cx
  intro H ls locs hW hL hS
  exact lv_tableIn hC.2.1.1 hC.2.1.2.1 hd h1 h2 ho ht (kk H ls locs hW hL hS)
theorem g_swO {dd lo hi : Int} {offs : Array Int} {x : Int32} (hC : LC cx) (hd : decode code pc = .ok (.tableswitch dd lo hi offs, len)) (h1 : x.toInt < lo ∨ hi < x.toInt) (ht : (pc : Int) + dd = (tgt : Int)) (kk : LG cx k z tgt L st μ) : LG cx k z pc L (.int x :: st) μ := by
  obtain ⟨p, l, e, s, m, below, meth, c, D, sa, av, b⟩ := cx
  intro H ls locs hW hL hS
  exact lv_tableOut hC.2.1.1 hC.2.1.2.1 hd h1 ht (kk H ls locs hW hL hS)
theorem g_ret (hC : LC cx) (hd : decode code pc = .ok (.ireturn, 1)) (hk : k ≤ 601024) (hz : z ≤ 7293034) : LG cx k z pc L [.int 1] μ := by
  obtain ⟨p, l, e, s, m, below, meth, c, D, sa, av, b⟩ := cx
  obtain ⟨hl, C, hml, hret, hlk, hX, hZ⟩ := id hC
  intro H ls locs hW hL hS
  refine va_forget hS.2.2 ?_
  exact W.widen hk hz (lw_ret C.1 C.2.1 hret hlk hd)
/-- script[i + j] -/
theorem g_arg {b x q o i N : Nat} {j : Nat} {jj : Int} {v : Int32} {v5 v6 : Value} (hC : LC cx) (d0 : decode code pc = .ok (.aload_n 0, 1)) (d1 : decode code (pc + 1) = .ok (.iload 4, 2)) (d3 : decode code (pc + 3) = .ok (.iconst jj, 1)) (d4 : decode code (pc + 4) = .ok (.iadd, 1)) (d5 : decode code (pc + 5) = .ok (.iaload, 1)) (hjj : Int32.ofInt jj = nI j) (hK : K b = (9, N)) (hN : N ≤ 3072) (hj : i + j < N) (hv : AI b (i + j) = v)
    (kk : LG cx k z (pc + 6) [.ref b, .ref x, .ref q, .ref o, .int (nI i), v5, v6] (.int v :: st) (n, K, FI, FL, FR, AI, AL, AR)) : LG cx k z pc [.ref b, .ref x, .ref q, .ref o, .int (nI i), v5, v6] st (n, K, FI, FL, FR, AI, AL, AR) := by
  refine g_p hC d0 rfl rfl ?_
  refine g_p hC d1 rfl rfl ?_
  refine g_p hC d3 rfl rfl ?_
  refine g_p hC d4 rfl rfl ?_
  show LG cx k z (pc + 5) _ (.int (nI i + Int32.ofInt jj) :: .ref b :: st) (n, K, FI, FL, FR, AI, AL, AR)
  rw [hjj, nI_add]
  refine g_ial hC d5 (by rw [hK]; exact Or.inr rfl) (by rw [hK]; exact vp_in_nI hj (by show N < 2 ^ 31; omega)) ?_
  rw [nI_clamp (by omega), hv]
  exact kk
theorem g_iv {x y idx a : Nat} {As : List Value} (hp : mj_pool 11 idx = some (4, x, y)) (hk : mj_tk (mj_np x) st [] = some (As, .ref a :: r)) : mj_iv 11 (.invokevirtual idx) st = some (x, .ref a :: As, r) := by
  simp only [mj_iv, hp, hk, Option.bind_some]
theorem g_call0 {x y idx a : Nat} {As : List Value} (hC : LC cx) (hd : decode code pc = .ok (.invokevirtual idx, 3)) (hp : mj_pool 11 idx = some (4, x, y)) (hal : mj_al x = (0, 0)) (hkk : mj_tk (mj_np x) st [] = some (As, .ref a :: r)) (hr : r.length ≤ 4) (hk : k ≤ 601024) (hz : z ≤ 7293034) (hE : EV (cS cx) 1000 x (.ref a :: As) μ (fun v μ' => LG cx k z (pc + 3) L (v.toList ++ r) μ')) : LG cx k z pc L st μ := by
  refine g_call (r := r) hC hd (g_iv hp hkk) hr ?_ ?_
  · rw [hal]; exact ⟨hk, hz⟩
  · rw [hal]; exact hE
end LGR
