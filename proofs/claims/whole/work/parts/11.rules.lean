/-! ## WP, instruction by instruction -/
section MJR
variable {sa : Nat → Nat} {d i : Nat} {Q : mj_Q} {k z pc : Nat} {L L' st st' : List Value} {μ μ' : mj_M} {ins : Instr} {len : Nat} {g : Prop}
variable {n : Nat} {K : Nat → Nat × Nat} {FI : Nat → Nat → Int32} {FL : Nat → Nat → Int64} {FR : Nat → Nat → Option Nat} {AI : Nat → Nat → Int32} {AL : Nat → Nat → Int64} {AR : Nat → Nat → Option Nat} {a o idx t ci kf f : Nat} {j : Int32}
theorem wp_p {op : mj_O} (hd : decode (mj_b i) pc = .ok (ins, len)) (hp : mj_p ins = some (op, len)) (ho : op L st = some (L', st')) : WP sa (EV sa d) i Q k z pc L st μ = WP sa (EV sa d) i Q k z (pc + len) L' st' μ := by
  rw [WP_eq (EV_mono sa d) hd]
  unfold mj_1
  rw [hp]
  simp [ho]
theorem wp_b {cnd : Prop} {off : Int} {tgt : Nat} (hd : decode (mj_b i) pc = .ok (ins, 3)) (hp : mj_p ins = none) (hb : mj_br ins st = some (cnd, off, st')) (ht : (pc : Int) + off = (tgt : Int)) : WP sa (EV sa d) i Q k z pc L st μ = ((cnd → WP sa (EV sa d) i Q k z tgt L st' μ) ∧ (¬ cnd → WP sa (EV sa d) i Q k z (pc + 3) L st' μ)) := by
  rw [WP_eq (EV_mono sa d) hd]
  unfold mj_1
  rw [hp, hb]
  simp only [ht, Int.toNat_natCast]
  simp
theorem wp_g {off : Int} {tgt : Nat} (hd : decode (mj_b i) pc = .ok (.goto off, 3)) (ht : (pc : Int) + off = (tgt : Int)) : WP sa (EV sa d) i Q k z pc L st μ = WP sa (EV sa d) i Q k z tgt L st μ := by
  rw [wp_b hd rfl rfl ht]
  simp
theorem wp_nu {off : Int} {tgt : Nat} {r : Option Nat} (hd : decode (mj_b i) pc = .ok (.ifnull off, 3)) (ht : (pc : Int) + off = (tgt : Int)) : WP sa (EV sa d) i Q k z pc L (va_rf r :: st) μ = ((r = none → WP sa (EV sa d) i Q k z tgt L st μ) ∧ (¬ r = none → WP sa (EV sa d) i Q k z (pc + 3) L st μ)) := by
  cases r with
  | none => rw [show va_rf none = Value.null from rfl, wp_b hd rfl rfl ht]; simp
  | some q => rw [show va_rf (some q) = Value.ref q from rfl, wp_b hd rfl rfl ht]; simp
theorem wp_nn {off : Int} {tgt : Nat} {r : Option Nat} (hd : decode (mj_b i) pc = .ok (.ifnonnull off, 3)) (ht : (pc : Int) + off = (tgt : Int)) : WP sa (EV sa d) i Q k z pc L (va_rf r :: st) μ = ((¬ r = none → WP sa (EV sa d) i Q k z tgt L st μ) ∧ (r = none → WP sa (EV sa d) i Q k z (pc + 3) L st μ)) := by
  cases r with
  | none => rw [show va_rf none = Value.null from rfl, wp_b hd rfl rfl ht]; simp
  | some q => rw [show va_rf (some q) = Value.ref q from rfl, wp_b hd rfl rfl ht]; simp
theorem wp_h (hd : decode (mj_b i) pc = .ok (ins, len)) (hp : mj_p ins = none) (hb : mj_br ins st = none) (hh : mj_h sa (mj_o i) i ins st μ = some (g, st', μ', len)) : WP sa (EV sa d) i Q k z pc L st μ = (g ∧ WP sa (EV sa d) i Q k z (pc + len) L st' μ') := by
  rw [WP_eq (EV_mono sa d) hd]
  unfold mj_1
  rw [hp, hb, hh]
  simp
theorem wp_getI (hd : decode (mj_b i) pc = .ok (.getfield idx, 3)) (ho : mj_o i = o) (hp : mj_pool o idx = some (t, ci, kf)) (ht : t = 1 ∨ t = 2) (hy : mj_ty ci kf = .int ∨ mj_ty ci kf = .boolean) (hf : 64 * ci + kf = f) : WP sa (EV sa d) i Q k z pc L (.ref a :: st) (n, K, FI, FL, FR, AI, AL, AR) = (K a = (1, ci) ∧ WP sa (EV sa d) i Q k z (pc + 3) L (.int (FI f a) :: st) (n, K, FI, FL, FR, AI, AL, AR)) := by
  subst hf
  refine wp_h hd rfl rfl ?_
  simp only [mj_h, mj_hget, ho, hp, if_pos ht]
  rcases hy with hy | hy <;> simp [mj_fv, hy]
theorem wp_getL (hd : decode (mj_b i) pc = .ok (.getfield idx, 3)) (ho : mj_o i = o) (hp : mj_pool o idx = some (t, ci, kf)) (ht : t = 1 ∨ t = 2) (hy : mj_ty ci kf = .long) (hf : 64 * ci + kf = f) : WP sa (EV sa d) i Q k z pc L (.ref a :: st) (n, K, FI, FL, FR, AI, AL, AR) = (K a = (1, ci) ∧ WP sa (EV sa d) i Q k z (pc + 3) L (.long (FL f a) :: st) (n, K, FI, FL, FR, AI, AL, AR)) := by
  subst hf
  refine wp_h hd rfl rfl ?_
  simp only [mj_h, mj_hget, ho, hp, if_pos ht]
  simp [mj_fv, hy]
theorem wp_getR (hd : decode (mj_b i) pc = .ok (.getfield idx, 3)) (ho : mj_o i = o) (hp : mj_pool o idx = some (t, ci, kf)) (ht : t = 1 ∨ t = 2) (hy : (∃ x, mj_ty ci kf = .object x) ∨ ∃ x, mj_ty ci kf = .array x) (hf : 64 * ci + kf = f) : WP sa (EV sa d) i Q k z pc L (.ref a :: st) (n, K, FI, FL, FR, AI, AL, AR) = (K a = (1, ci) ∧ WP sa (EV sa d) i Q k z (pc + 3) L (va_rf (FR f a) :: st) (n, K, FI, FL, FR, AI, AL, AR)) := by
  subst hf
  refine wp_h hd rfl rfl ?_
  simp only [mj_h, mj_hget, ho, hp, if_pos ht]
  rcases hy with ⟨x, hy⟩ | ⟨x, hy⟩ <;> simp [mj_fv, hy]
theorem wp_putI {x : Int32} (hd : decode (mj_b i) pc = .ok (.putfield idx, 3)) (ho : mj_o i = o) (hp : mj_pool o idx = some (t, ci, kf)) (ht : (t = 1 ∨ t = 2) ∧ ((mj_T ci kf).2.2.2 = false ∨ (t = 1 ∧ ci = o ∧ mj_ini i = true))) (hy : mj_ty ci kf = .int) (hf : 64 * ci + kf = f) : WP sa (EV sa d) i Q k z pc L (.int x :: .ref a :: st) (n, K, FI, FL, FR, AI, AL, AR) = (K a = (1, ci) ∧ WP sa (EV sa d) i Q k z (pc + 3) L st (n, K, mj_u2 FI f a x, FL, FR, AI, AL, AR)) := by
  subst hf
  refine wp_h hd rfl rfl ?_
  subst ho
  simp only [mj_h, mj_hput, hp, if_pos ht]
  simp [mj_wrt, hy]
theorem wp_putZ {x : Int32} (hd : decode (mj_b i) pc = .ok (.putfield idx, 3)) (ho : mj_o i = o) (hp : mj_pool o idx = some (t, ci, kf)) (ht : (t = 1 ∨ t = 2) ∧ ((mj_T ci kf).2.2.2 = false ∨ (t = 1 ∧ ci = o ∧ mj_ini i = true))) (hy : mj_ty ci kf = .boolean) (hf : 64 * ci + kf = f) : WP sa (EV sa d) i Q k z pc L (.int x :: .ref a :: st) (n, K, FI, FL, FR, AI, AL, AR) = ((K a = (1, ci) ∧ (x = 0 ∨ x = 1)) ∧ WP sa (EV sa d) i Q k z (pc + 3) L st (n, K, mj_u2 FI f a x, FL, FR, AI, AL, AR)) := by
  subst hf
  refine wp_h hd rfl rfl ?_
  subst ho
  simp only [mj_h, mj_hput, hp, if_pos ht]
  simp [mj_wrt, hy]
theorem wp_putL {x : Int64} (hd : decode (mj_b i) pc = .ok (.putfield idx, 3)) (ho : mj_o i = o) (hp : mj_pool o idx = some (t, ci, kf)) (ht : (t = 1 ∨ t = 2) ∧ ((mj_T ci kf).2.2.2 = false ∨ (t = 1 ∧ ci = o ∧ mj_ini i = true))) (hy : mj_ty ci kf = .long) (hf : 64 * ci + kf = f) : WP sa (EV sa d) i Q k z pc L (.long x :: .ref a :: st) (n, K, FI, FL, FR, AI, AL, AR) = (K a = (1, ci) ∧ WP sa (EV sa d) i Q k z (pc + 3) L st (n, K, FI, mj_u2 FL f a x, FR, AI, AL, AR)) := by
  subst hf
  refine wp_h hd rfl rfl ?_
  subst ho
  simp only [mj_h, mj_hput, hp, if_pos ht]
  simp [mj_wrt, hy]
theorem wp_putR {x : Nat} (hd : decode (mj_b i) pc = .ok (.putfield idx, 3)) (ho : mj_o i = o) (hp : mj_pool o idx = some (t, ci, kf)) (ht : (t = 1 ∨ t = 2) ∧ ((mj_T ci kf).2.2.2 = false ∨ (t = 1 ∧ ci = o ∧ mj_ini i = true))) (hy : (∃ x, mj_ty ci kf = .object x) ∨ ∃ x, mj_ty ci kf = .array x) (hf : 64 * ci + kf = f) : WP sa (EV sa d) i Q k z pc L (.ref x :: .ref a :: st) (n, K, FI, FL, FR, AI, AL, AR) = (K a = (1, ci) ∧ WP sa (EV sa d) i Q k z (pc + 3) L st (n, K, FI, FL, mj_u2 FR f a (some x), AI, AL, AR)) := by
  subst hf
  refine wp_h hd rfl rfl ?_
  subst ho
  simp only [mj_h, mj_hput, hp, if_pos ht]
  rcases hy with ⟨y, hy⟩ | ⟨y, hy⟩ <;> simp [mj_wrt, hy]
theorem wp_cI {x y : Nat} (hd : decode (mj_b i) pc = .ok (.ldc_w idx, 3)) (ho : mj_o i = o) (hp : mj_pool o idx = some (10, x, y)) : WP sa (EV sa d) i Q k z pc L st μ = WP sa (EV sa d) i Q k z (pc + 3) L (.int (Int32.ofNat x) :: st) μ := by
  rw [wp_h (g := True) (st' := .int (Int32.ofNat x) :: st) (μ' := μ) hd rfl rfl (by simp only [mj_h, mj_hcon, ho, hp])]
  simp
theorem wp_cS {x y : Nat} (hd : decode (mj_b i) pc = .ok (.ldc idx, 2)) (ho : mj_o i = o) (hp : mj_pool o idx = some (12, x, y)) : WP sa (EV sa d) i Q k z pc L st μ = WP sa (EV sa d) i Q k z (pc + 2) L (.ref (sa x) :: st) μ := by
  rw [wp_h (g := True) (st' := .ref (sa x) :: st) (μ' := μ) hd rfl rfl (by simp only [mj_h, mj_hcon, ho, hp])]
  simp
theorem wp_cSw {x y : Nat} (hd : decode (mj_b i) pc = .ok (.ldc_w idx, 3)) (ho : mj_o i = o) (hp : mj_pool o idx = some (12, x, y)) : WP sa (EV sa d) i Q k z pc L st μ = WP sa (EV sa d) i Q k z (pc + 3) L (.ref (sa x) :: st) μ := by
  rw [wp_h (g := True) (st' := .ref (sa x) :: st) (μ' := μ) hd rfl rfl (by simp only [mj_h, mj_hcon, ho, hp])]
  simp
theorem wp_cL {x y : Nat} {v : Int64} (hd : decode (mj_b i) pc = .ok (.ldc2_w idx, 3)) (ho : mj_o i = o) (hp : mj_pool o idx = some (11, x, y)) (hv : (if y = 0 then Int64.ofNat x else - Int64.ofNat x) = v) : WP sa (EV sa d) i Q k z pc L st μ = WP sa (EV sa d) i Q k z (pc + 3) L (.long v :: st) μ := by
  subst hv
  rw [wp_h (g := True) (st' := .long (if y = 0 then Int64.ofNat x else - Int64.ofNat x) :: st) (μ' := μ) hd rfl rfl (by simp only [mj_h, mj_hlon, ho, hp])]
  simp
theorem wp_dv {x y : Int32} (hd : decode (mj_b i) pc = .ok (.idiv, 1)) : WP sa (EV sa d) i Q k z pc L (.int y :: .int x :: st) μ = (¬ y = 0 ∧ WP sa (EV sa d) i Q k z (pc + 1) L (.int (x / y) :: st) μ) := wp_h hd rfl rfl rfl
theorem wp_rm {x y : Int32} (hd : decode (mj_b i) pc = .ok (.irem, 1)) : WP sa (EV sa d) i Q k z pc L (.int y :: .int x :: st) μ = (¬ y = 0 ∧ WP sa (EV sa d) i Q k z (pc + 1) L (.int (x - x / y * y) :: st) μ) := wp_h hd rfl rfl rfl
theorem wp_ial (hd : decode (mj_b i) pc = .ok (.iaload, 1)) : WP sa (EV sa d) i Q k z pc L (.int j :: .ref a :: st) (n, K, FI, FL, FR, AI, AL, AR) = ((((K a).1 = 2 ∨ (K a).1 = 9) ∧ vp_in j (K a).2) ∧ WP sa (EV sa d) i Q k z (pc + 1) L (.int (AI a j.toNatClampNeg) :: st) (n, K, FI, FL, FR, AI, AL, AR)) := wp_h hd rfl rfl rfl
theorem wp_bal (hd : decode (mj_b i) pc = .ok (.baload, 1)) : WP sa (EV sa d) i Q k z pc L (.int j :: .ref a :: st) (n, K, FI, FL, FR, AI, AL, AR) = (((K a).1 = 3 ∧ vp_in j (K a).2) ∧ WP sa (EV sa d) i Q k z (pc + 1) L (.int (AI a j.toNatClampNeg) :: st) (n, K, FI, FL, FR, AI, AL, AR)) := wp_h hd rfl rfl rfl
theorem wp_lal (hd : decode (mj_b i) pc = .ok (.laload, 1)) : WP sa (EV sa d) i Q k z pc L (.int j :: .ref a :: st) (n, K, FI, FL, FR, AI, AL, AR) = (((K a).1 = 4 ∧ vp_in j (K a).2) ∧ WP sa (EV sa d) i Q k z (pc + 1) L (.long (AL a j.toNatClampNeg) :: st) (n, K, FI, FL, FR, AI, AL, AR)) := wp_h hd rfl rfl rfl
theorem wp_aal (hd : decode (mj_b i) pc = .ok (.aaload, 1)) : WP sa (EV sa d) i Q k z pc L (.int j :: .ref a :: st) (n, K, FI, FL, FR, AI, AL, AR) = (((K a).1 = 5 ∧ vp_in j (K a).2) ∧ WP sa (EV sa d) i Q k z (pc + 1) L (va_rf (AR a j.toNatClampNeg) :: st) (n, K, FI, FL, FR, AI, AL, AR)) := wp_h hd rfl rfl rfl
theorem wp_ias {x : Int32} (hd : decode (mj_b i) pc = .ok (.iastore, 1)) : WP sa (EV sa d) i Q k z pc L (.int x :: .int j :: .ref a :: st) (n, K, FI, FL, FR, AI, AL, AR) = (((K a).1 = 2 ∧ vp_in j (K a).2) ∧ WP sa (EV sa d) i Q k z (pc + 1) L st (n, K, FI, FL, FR, mj_u2 AI a j.toNatClampNeg x, AL, AR)) := wp_h hd rfl rfl rfl
theorem wp_bas {x : Int32} (hd : decode (mj_b i) pc = .ok (.bastore, 1)) : WP sa (EV sa d) i Q k z pc L (.int x :: .int j :: .ref a :: st) (n, K, FI, FL, FR, AI, AL, AR) = (((K a).1 = 3 ∧ vp_in j (K a).2) ∧ WP sa (EV sa d) i Q k z (pc + 1) L st (n, K, FI, FL, FR, mj_u2 AI a j.toNatClampNeg x.toInt8.toInt32, AL, AR)) := wp_h hd rfl rfl rfl
theorem wp_las {x : Int64} (hd : decode (mj_b i) pc = .ok (.lastore, 1)) : WP sa (EV sa d) i Q k z pc L (.long x :: .int j :: .ref a :: st) (n, K, FI, FL, FR, AI, AL, AR) = (((K a).1 = 4 ∧ vp_in j (K a).2) ∧ WP sa (EV sa d) i Q k z (pc + 1) L st (n, K, FI, FL, FR, AI, mj_u2 AL a j.toNatClampNeg x, AR)) := wp_h hd rfl rfl rfl
theorem wp_len (hd : decode (mj_b i) pc = .ok (.arraylength, 1)) : WP sa (EV sa d) i Q k z pc L (.ref a :: st) (n, K, FI, FL, FR, AI, AL, AR) = (mj_isA (K a).1 ∧ WP sa (EV sa d) i Q k z (pc + 1) L (.int (Int32.ofNat (K a).2) :: st) (n, K, FI, FL, FR, AI, AL, AR)) := wp_h hd rfl rfl rfl
theorem wp_cpy {x y b : Nat} {cn dp sp : Int32} (hd : decode (mj_b i) pc = .ok (.invokestatic idx, 3)) (ho : mj_o i = o) (hp : mj_pool o idx = some (9, x, y)) : WP sa (EV sa d) i Q k z pc L (.int cn :: .int dp :: .ref b :: .int sp :: .ref a :: st) (n, K, FI, FL, FR, AI, AL, AR) = (((K a).1 = 2 ∧ (K b).1 = 2 ∧ ¬ sp < 0 ∧ ¬ dp < 0 ∧ ¬ cn < 0 ∧ sp.toNatClampNeg + cn.toNatClampNeg ≤ (K a).2 ∧ dp.toNatClampNeg + cn.toNatClampNeg ≤ (K b).2 ∧ st.length ≤ 4) ∧ WP sa (EV sa d) i Q k z (pc + 3) L st (n, K, FI, FL, FR, mj_cp AI a b sp.toNatClampNeg dp.toNatClampNeg cn.toNatClampNeg, AL, AR)) := by
  refine wp_h hd rfl rfl ?_
  simp only [mj_h, mj_hst, ho, hp]
theorem wp_max {x y : Nat} {v w : Int32} (hd : decode (mj_b i) pc = .ok (.invokestatic idx, 3)) (ho : mj_o i = o) (hp : mj_pool o idx = some (14, x, y)) : WP sa (EV sa d) i Q k z pc L (.int w :: .int v :: st) μ = (st.length ≤ 4 ∧ WP sa (EV sa d) i Q k z (pc + 3) L (.int (if v < w then w else v) :: st) μ) := by
  refine wp_h hd rfl rfl ?_
  simp only [mj_h, mj_hst, ho, hp]
theorem wp_min {x y : Nat} {v w : Int32} (hd : decode (mj_b i) pc = .ok (.invokestatic idx, 3)) (ho : mj_o i = o) (hp : mj_pool o idx = some (15, x, y)) : WP sa (EV sa d) i Q k z pc L (.int w :: .int v :: st) μ = (st.length ≤ 4 ∧ WP sa (EV sa d) i Q k z (pc + 3) L (.int (if w < v then w else v) :: st) μ) := by
  refine wp_h hd rfl rfl ?_
  simp only [mj_h, mj_hst, ho, hp]
theorem wp_obj {x y : Nat} (hd : decode (mj_b i) pc = .ok (.invokespecial idx, 3)) (ho : mj_o i = o) (hp : mj_pool o idx = some (8, x, y)) : WP sa (EV sa d) i Q k z pc L (.ref a :: st) μ = (st.length ≤ 4 ∧ WP sa (EV sa d) i Q k z (pc + 3) L st μ) := by
  refine wp_h hd rfl rfl ?_
  simp only [mj_h, mj_hsp, ho, hp]
/-- calls -/
theorem wp_c {x : Nat} {As r : List Value} (hd : decode (mj_b i) pc = .ok (ins, 3)) (hp : mj_p ins = none) (hb : mj_br ins st = none) (hh : mj_h sa (mj_o i) i ins st μ = none) (hv : mj_iv (mj_o i) ins st = some (x, As, r)) : WP sa (EV sa d) i Q k z pc L st μ = (r.length ≤ 4 ∧ (mj_al x = (0, 0) ∨ (k + (mj_al x).1 ≤ (mj_al i).1 ∧ z + (mj_al x).2 ≤ (mj_al i).2)) ∧ EV sa d x As μ (fun v μ' => WP sa (EV sa d) i Q (k + (mj_al x).1) (z + (mj_al x).2) (pc + 3) L (v.toList ++ r) μ')) := by
  rw [WP_eq (EV_mono sa d) hd]
  unfold mj_1
  rw [hp, hb, hh, hv]
  simp
theorem wp_V {x y : Nat} {As r : List Value} (hd : decode (mj_b i) pc = .ok (.invokevirtual idx, 3)) (ho : mj_o i = o) (hp : mj_pool o idx = some (4, x, y)) (hal : mj_al x = (0, 0)) (hk : mj_tk (mj_np x) st [] = some (As, .ref a :: r)) : WP sa (EV sa d) i Q k z pc L st μ = (r.length ≤ 4 ∧ EV sa d x (.ref a :: As) μ (fun v μ' => WP sa (EV sa d) i Q k z (pc + 3) L (v.toList ++ r) μ')) := by
  rw [wp_c (x := x) (As := .ref a :: As) (r := r) hd rfl rfl rfl (by simp only [mj_iv, ho, hp, hk, Option.bind_some])]
  simp [hal]
theorem wp_S {x y : Nat} {As r : List Value} (hd : decode (mj_b i) pc = .ok (.invokestatic idx, 3)) (ho : mj_o i = o) (hp : mj_pool o idx = some (5, x, y)) (hal : mj_al x = (0, 0)) (hk : mj_tk (mj_np x) st [] = some (As, r)) : WP sa (EV sa d) i Q k z pc L st μ = (r.length ≤ 4 ∧ EV sa d x As μ (fun v μ' => WP sa (EV sa d) i Q k z (pc + 3) L (v.toList ++ r) μ')) := by
  rw [wp_c (x := x) (As := As) (r := r) hd rfl rfl (by simp only [mj_h, mj_hst, ho, hp]) (by simp only [mj_iv, ho, hp, hk, Option.map_some])]
  simp [hal]
theorem wp_I {x y : Nat} {As r : List Value} (hd : decode (mj_b i) pc = .ok (.invokespecial idx, 3)) (ho : mj_o i = o) (hp : mj_pool o idx = some (t, x, y)) (ht : t = 6 ∨ t = 7) (hk : mj_tk (mj_np x) st [] = some (As, .ref a :: r)) : WP sa (EV sa d) i Q k z pc L st μ = (r.length ≤ 4 ∧ (mj_al x = (0, 0) ∨ (k + (mj_al x).1 ≤ (mj_al i).1 ∧ z + (mj_al x).2 ≤ (mj_al i).2)) ∧ EV sa d x (.ref a :: As) μ (fun v μ' => WP sa (EV sa d) i Q (k + (mj_al x).1) (z + (mj_al x).2) (pc + 3) L (v.toList ++ r) μ')) := by
  refine wp_c (x := x) (As := .ref a :: As) (r := r) hd rfl rfl ?_ ?_
  · rcases ht with rfl | rfl <;> simp only [mj_h, mj_hsp, ho, hp]
  · simp only [mj_iv, ho, hp, if_pos ht, hk, Option.bind_some]
/-- returns -/
theorem wp_r {v : Option Value} (hd : decode (mj_b i) pc = .ok (ins, 1)) (hp : mj_p ins = none) (hb : mj_br ins st = none) (hh : mj_h sa (mj_o i) i ins st μ = none) (hv : mj_iv (mj_o i) ins st = none) (hr : mj_re i ins st = some (g, v)) : WP sa (EV sa d) i Q k z pc L st μ = (g ∧ Q v μ) := by
  rw [WP_eq (EV_mono sa d) hd]
  unfold mj_1
  rw [hp, hb, hh, hv, hr]
  simp
theorem wp_ri {v : Int32} (hd : decode (mj_b i) pc = .ok (.ireturn, 1)) (hr : mj_rt i = some .int) : WP sa (EV sa d) i Q k z pc L [.int v] μ = Q (some (.int v)) μ := by
  rw [wp_r hd rfl rfl rfl rfl (g := True) (v := some (.int v)) (by simp only [mj_re, hr])]
  simp
theorem wp_rz {v : Int32} (hd : decode (mj_b i) pc = .ok (.ireturn, 1)) (hr : mj_rt i = some .boolean) : WP sa (EV sa d) i Q k z pc L [.int v] μ = ((v = 0 ∨ v = 1) ∧ Q (some (.int v)) μ) := wp_r hd rfl rfl rfl rfl (by simp only [mj_re, hr])
theorem wp_rl {v : Int64} (hd : decode (mj_b i) pc = .ok (.lreturn, 1)) (hr : mj_rt i = some .long) : WP sa (EV sa d) i Q k z pc L [.long v] μ = Q (some (.long v)) μ := by
  rw [wp_r hd rfl rfl rfl rfl (g := True) (v := some (.long v)) (by simp only [mj_re, hr])]
  simp
theorem wp_ra {v : Nat} {x : String} (hd : decode (mj_b i) pc = .ok (.areturn, 1)) (hr : mj_rt i = some (.object x)) : WP sa (EV sa d) i Q k z pc L [.ref v] μ = Q (some (.ref v)) μ := by
  rw [wp_r hd rfl rfl rfl rfl (g := True) (v := some (.ref v)) (by simp only [mj_re, hr])]
  simp
theorem wp_rv (hd : decode (mj_b i) pc = .ok (.return_, 1)) (hr : mj_rt i = none) : WP sa (EV sa d) i Q k z pc L [] μ = Q none μ := by
  rw [wp_r hd rfl rfl rfl rfl (g := True) (v := none) (by simp only [mj_re, hr])]
  simp
/-- making -/
theorem wp_a {sl : Nat} (hd : decode (mj_b i) pc = .ok (ins, len)) (hp : mj_p ins = none) (hb : mj_br ins st = none) (hh : mj_h sa (mj_o i) i ins st μ = none) (hv : mj_iv (mj_o i) ins st = none) (hr : mj_re i ins st = none) (ha : mj_a (mj_o i) ins st μ = some (sl, g, st', μ', len)) : WP sa (EV sa d) i Q k z pc L st μ = (g ∧ k + 1 ≤ (mj_al i).1 ∧ z + sl ≤ (mj_al i).2 ∧ WP sa (EV sa d) i Q (k + 1) (z + sl) (pc + len) L st' μ') := by
  rw [WP_eq (EV_mono sa d) hd]
  unfold mj_1
  rw [hp, hb, hh, hv, hr, ha]
  simp
/-- a switch -/
theorem wp_sw {dd lo hi : Int} {offs : Array Int} {x : Int32} (hd : decode (mj_b i) pc = .ok (.tableswitch dd lo hi offs, len)) : WP sa (EV sa d) i Q k z pc L (.int x :: st) μ = ((¬ x.toInt < lo → ¬ hi < x.toInt → ∃ off, offs[(x.toInt - lo).toNat]? = some off ∧ 0 ≤ (pc : Int) + off ∧ WP sa (EV sa d) i Q k z ((pc : Int) + off).toNat L st μ) ∧ (x.toInt < lo ∨ hi < x.toInt → 0 ≤ (pc : Int) + dd ∧ WP sa (EV sa d) i Q k z ((pc : Int) + dd).toNat L st μ)) := by
  rw [WP_eq (EV_mono sa d) hd]
  unfold mj_1
  simp only [mj_p, mj_br, mj_h, mj_iv, mj_re, mj_a, mj_sw]
end MJR
