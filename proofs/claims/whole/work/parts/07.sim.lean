/-! ## one step -/
def mj_hget (o idx : Nat) (st : List Value) (μ : mj_M) : Option (Prop × List Value × mj_M × Nat) := match st with
  | .ref a :: r => match mj_pool o idx with
    | some (t, ci, k) => if t = 1 ∨ t = 2 then some (μ.2.1 a = (1, ci), mj_fv ci k (fun f => μ.2.2.1 f a) (fun f => μ.2.2.2.1 f a) (fun f => μ.2.2.2.2.1 f a) :: r, μ, 3) else none
    | none => none
  | _ => none
def mj_wrt (ci k a : Nat) (v : Value) (μ : mj_M) : Option (Prop × mj_M) := match μ with
  | (n, K, FI, FL, FR, AI, AL, AR) => match mj_ty ci k, v with
    | .int, .int x => some (K a = (1, ci), (n, K, mj_u2 FI (64 * ci + k) a x, FL, FR, AI, AL, AR))
    | .boolean, .int x => some (K a = (1, ci) ∧ (x = 0 ∨ x = 1), (n, K, mj_u2 FI (64 * ci + k) a x, FL, FR, AI, AL, AR))
    | .long, .long x => some (K a = (1, ci), (n, K, FI, mj_u2 FL (64 * ci + k) a x, FR, AI, AL, AR))
    | .object _, .ref q => some (K a = (1, ci), (n, K, FI, FL, mj_u2 FR (64 * ci + k) a (some q), AI, AL, AR))
    | .array _, .ref q => some (K a = (1, ci), (n, K, FI, FL, mj_u2 FR (64 * ci + k) a (some q), AI, AL, AR))
    | _, _ => none
def mj_hput (o i idx : Nat) (st : List Value) (μ : mj_M) : Option (Prop × List Value × mj_M × Nat) := match st with
  | v :: .ref a :: r => match mj_pool o idx with
    | some (t, ci, k) => if (t = 1 ∨ t = 2) ∧ ((mj_T ci k).2.2.2 = false ∨ (t = 1 ∧ ci = o ∧ mj_ini i = true)) then (mj_wrt ci k a v μ).map (fun q => (q.1, r, q.2, 3)) else none
    | none => none
  | _ => none
def mj_hcon (sa : Nat → Nat) (o idx len : Nat) (st : List Value) (μ : mj_M) : Option (Prop × List Value × mj_M × Nat) := match mj_pool o idx with
  | some (10, x, _) => some (True, .int (Int32.ofNat x) :: st, μ, len)
  | some (12, x, _) => some (True, .ref (sa x) :: st, μ, len)
  | _ => none
def mj_hlon (o idx : Nat) (st : List Value) (μ : mj_M) : Option (Prop × List Value × mj_M × Nat) := match mj_pool o idx with
  | some (11, x, y) => some (True, .long (if y = 0 then Int64.ofNat x else - Int64.ofNat x) :: st, μ, 3)
  | _ => none
def mj_hdiv (f : Int32 → Int32 → Int32) (st : List Value) (μ : mj_M) : Option (Prop × List Value × mj_M × Nat) := match st with
  | .int y :: .int x :: r => some (¬ y = 0, .int (f x y) :: r, μ, 1)
  | _ => none
def mj_hld (g : Nat × Nat → Prop) (f : mj_M → Nat → Nat → Value) (st : List Value) (μ : mj_M) : Option (Prop × List Value × mj_M × Nat) := match st with
  | .int j :: .ref a :: r => some (g (μ.2.1 a) ∧ vp_in j (μ.2.1 a).2, f μ a j.toNatClampNeg :: r, μ, 1)
  | _ => none
def mj_hsti (t : Nat) (g : Int32 → Int32) (st : List Value) (μ : mj_M) : Option (Prop × List Value × mj_M × Nat) := match st, μ with
  | .int x :: .int j :: .ref a :: r, (n, K, FI, FL, FR, AI, AL, AR) => some ((K a).1 = t ∧ vp_in j (K a).2, r, (n, K, FI, FL, FR, mj_u2 AI a j.toNatClampNeg (g x), AL, AR), 1)
  | _, _ => none
def mj_hstl (st : List Value) (μ : mj_M) : Option (Prop × List Value × mj_M × Nat) := match st, μ with
  | .long x :: .int j :: .ref a :: r, (n, K, FI, FL, FR, AI, AL, AR) => some ((K a).1 = 4 ∧ vp_in j (K a).2, r, (n, K, FI, FL, FR, AI, mj_u2 AL a j.toNatClampNeg x, AR), 1)
  | _, _ => none
def mj_hlen (st : List Value) (μ : mj_M) : Option (Prop × List Value × mj_M × Nat) := match st with
  | .ref a :: r => some (mj_isA (μ.2.1 a).1, .int (Int32.ofNat (μ.2.1 a).2) :: r, μ, 1)
  | _ => none
def mj_hst (o idx : Nat) (st : List Value) (μ : mj_M) : Option (Prop × List Value × mj_M × Nat) := match mj_pool o idx with
  | some (9, _, _) => match st, μ with
    | .int cn :: .int dp :: .ref b :: .int sp :: .ref a :: r, (n, K, FI, FL, FR, AI, AL, AR) => some ((K a).1 = 2 ∧ (K b).1 = 2 ∧ ¬ sp < 0 ∧ ¬ dp < 0 ∧ ¬ cn < 0 ∧ sp.toNatClampNeg + cn.toNatClampNeg ≤ (K a).2 ∧ dp.toNatClampNeg + cn.toNatClampNeg ≤ (K b).2 ∧ r.length ≤ 4, r, (n, K, FI, FL, FR, mj_cp AI a b sp.toNatClampNeg dp.toNatClampNeg cn.toNatClampNeg, AL, AR), 3)
    | _, _ => none
  | some (14, _, _) => match st with
    | .int y :: .int x :: r => some (r.length ≤ 4, .int (if x < y then y else x) :: r, μ, 3)
    | _ => none
  | some (15, _, _) => match st with
    | .int y :: .int x :: r => some (r.length ≤ 4, .int (if y < x then y else x) :: r, μ, 3)
    | _ => none
  | _ => none
def mj_hsp (o idx : Nat) (st : List Value) (μ : mj_M) : Option (Prop × List Value × mj_M × Nat) := match mj_pool o idx with
  | some (8, _, _) => match st with
    | .ref _ :: r => some (r.length ≤ 4, r, μ, 3)
    | _ => none
  | _ => none
def mj_h (sa : Nat → Nat) (o i : Nat) (ins : Instr) (st : List Value) (μ : mj_M) : Option (Prop × List Value × mj_M × Nat) := match ins with
  | .getfield idx => mj_hget o idx st μ
  | .putfield idx => mj_hput o i idx st μ
  | .ldc idx => mj_hcon sa o idx 2 st μ
  | .ldc_w idx => mj_hcon sa o idx 3 st μ
  | .ldc2_w idx => mj_hlon o idx st μ
  | .idiv => mj_hdiv (fun x y => x / y) st μ
  | .irem => mj_hdiv (fun x y => x - x / y * y) st μ
  | .iaload => mj_hld (fun q => q.1 = 2 ∨ q.1 = 9) (fun μ a j => .int (μ.2.2.2.2.2.1 a j)) st μ
  | .baload => mj_hld (fun q => q.1 = 3) (fun μ a j => .int (μ.2.2.2.2.2.1 a j)) st μ
  | .laload => mj_hld (fun q => q.1 = 4) (fun μ a j => .long (μ.2.2.2.2.2.2.1 a j)) st μ
  | .aaload => mj_hld (fun q => q.1 = 5) (fun μ a j => va_rf (μ.2.2.2.2.2.2.2 a j)) st μ
  | .iastore => mj_hsti 2 (fun x => x) st μ
  | .bastore => mj_hsti 3 (fun x => x.toInt8.toInt32) st μ
  | .lastore => mj_hstl st μ
  | .arraylength => mj_hlen st μ
  | .invokestatic idx => mj_hst o idx st μ
  | .invokespecial idx => mj_hsp o idx st μ
  | _ => none
/-- making: cells, slots, guard, stack, memory, length -/
def mj_a (o : Nat) (ins : Instr) (st : List Value) (μ : mj_M) : Option (Nat × Prop × List Value × mj_M × Nat) := match μ with
  | (n, K, FI, FL, FR, AI, AL, AR) => match ins with
    | .new idx => match mj_pool o idx with
      | some (3, ci, _) => some (mj_N ci, True, .ref n :: st, (n + 1, mj_uk K n (1, ci), mj_zf 0 FI n, mj_zf 0 FL n, mj_zf none FR n, AI, AL, AR), 3)
      | _ => none
    | .newarray ty => match st with
      | .int j :: r => match ty with
        | .int => some (j.toNatClampNeg, ¬ j < 0 ∧ j.toNatClampNeg ≤ 10000, .ref n :: r, (n + 1, mj_uk K n (2, j.toNatClampNeg), FI, FL, FR, mj_za (fun _ => 0) AI n, AL, AR), 2)
        | .byte => some (j.toNatClampNeg, ¬ j < 0 ∧ j.toNatClampNeg ≤ 10000, .ref n :: r, (n + 1, mj_uk K n (3, j.toNatClampNeg), FI, FL, FR, mj_za (fun _ => 0) AI n, AL, AR), 2)
        | .long => some (j.toNatClampNeg, ¬ j < 0 ∧ j.toNatClampNeg ≤ 10000, .ref n :: r, (n + 1, mj_uk K n (4, j.toNatClampNeg), FI, FL, FR, AI, mj_za (fun _ => 0) AL n, AR), 2)
        | _ => none
      | _ => none
    | _ => none
def mj_tk : Nat → List Value → List Value → Option (List Value × List Value)
  | 0, r, acc => some (acc, r)
  | k + 1, v :: r, acc => mj_tk k r (v :: acc)
  | _ + 1, [], _ => none
theorem mj_tk_sp : ∀ (k : Nat) (st acc As r : List Value), mj_tk k st acc = some (As, r) → ∃ xs : List Value, xs.length = k ∧ st = xs ++ r ∧ As = xs.reverse ++ acc
  | 0, st, acc, As, r, h => by simp [mj_tk] at h; exact ⟨[], rfl, by simp [h.2], by simp [h.1]⟩
  | k + 1, [], acc, As, r, h => by simp [mj_tk] at h
  | k + 1, v :: st, acc, As, r, h => by
    obtain ⟨xs, h1, h2, h3⟩ := mj_tk_sp k st (v :: acc) As r (by simpa [mj_tk] using h)
    exact ⟨v :: xs, by simp [h1], by simp [h2], by simp [h3]⟩
/-- a call: method, arguments, the rest of the stack -/
def mj_iv (o : Nat) (ins : Instr) (st : List Value) : Option (Nat × List Value × List Value) := match ins with
  | .invokevirtual idx => match mj_pool o idx with
    | some (4, x, _) => (mj_tk (mj_np x) st []).bind (fun q => match q.2 with
      | .ref b :: r => some (x, .ref b :: q.1, r)
      | _ => none)
    | _ => none
  | .invokespecial idx => match mj_pool o idx with
    | some (t, x, _) => if t = 6 ∨ t = 7 then (mj_tk (mj_np x) st []).bind (fun q => match q.2 with
      | .ref b :: r => some (x, .ref b :: q.1, r)
      | _ => none) else none
    | _ => none
  | .invokestatic idx => match mj_pool o idx with
    | some (5, x, _) => (mj_tk (mj_np x) st []).map (fun q => (x, q.1, q.2))
    | _ => none
  | _ => none
def mj_re (i : Nat) (ins : Instr) (st : List Value) : Option (Prop × Option Value) := match ins, st with
  | .ireturn, [.int v] => match mj_rt i with
    | some .int => some (True, some (.int v))
    | some .boolean => some (v = 0 ∨ v = 1, some (.int v))
    | _ => none
  | .lreturn, [.long v] => match mj_rt i with
    | some .long => some (True, some (.long v))
    | _ => none
  | .areturn, [.ref a] => match mj_rt i with
    | some (.object _) => some (True, some (.ref a))
    | _ => none
  | .return_, [] => match mj_rt i with
    | none => some (True, none)
    | _ => none
  | _, _ => none
def mj_sw (ins : Instr) (st : List Value) : Option (Int × Int × Int × Array Int × Int32 × List Value) := match ins, st with
  | .tableswitch d lo hi offs, .int x :: r => some (d, lo, hi, offs, x, r)
  | _, _ => none
abbrev mj_Q : Type := Option Value → mj_M → Prop
abbrev mj_Cl : Type := Nat → List Value → mj_M → mj_Q → Prop
abbrev mj_P : Type := Nat → Nat → Nat → List Value → List Value → mj_M → Prop
def mj_1 (sa : Nat → Nat) (cal : mj_Cl) (i : Nat) (Q : mj_Q) (P : mj_P) (k z pc : Nat) (L st : List Value) (μ : mj_M) (ins : Instr) (len : Nat) : Prop :=
  match mj_p ins with
  | some (op, len') => len' = len ∧ ∃ q, op L st = some q ∧ P k z (pc + len) q.1 q.2 μ
  | none => match mj_br ins st with
    | some (cnd, off, st') => len = 3 ∧ 0 ≤ (pc : Int) + off ∧ (cnd → P k z ((pc : Int) + off).toNat L st' μ) ∧ (¬ cnd → P k z (pc + 3) L st' μ)
    | none => match mj_h sa (mj_o i) i ins st μ with
      | some (g, st', μ', len') => len' = len ∧ g ∧ P k z (pc + len) L st' μ'
      | none => match mj_iv (mj_o i) ins st with
        | some (x, As, r) => len = 3 ∧ r.length ≤ 4 ∧ (mj_al x = (0, 0) ∨ (k + (mj_al x).1 ≤ (mj_al i).1 ∧ z + (mj_al x).2 ≤ (mj_al i).2)) ∧ cal x As μ (fun v μ' => P (k + (mj_al x).1) (z + (mj_al x).2) (pc + 3) L (v.toList ++ r) μ')
        | none => match mj_re i ins st with
          | some (g, v) => len = 1 ∧ g ∧ Q v μ
          | none => match mj_a (mj_o i) ins st μ with
            | some (sl, g, st', μ', len') => len' = len ∧ g ∧ k + 1 ≤ (mj_al i).1 ∧ z + sl ≤ (mj_al i).2 ∧ P (k + 1) (z + sl) (pc + len) L st' μ'
            | none => match mj_sw ins st with
              | some (d, lo, hi, offs, x, r) => (¬ x.toInt < lo → ¬ hi < x.toInt → ∃ off, offs[(x.toInt - lo).toNat]? = some off ∧ 0 ≤ (pc : Int) + off ∧ P k z ((pc : Int) + off).toNat L r μ) ∧ (x.toInt < lo ∨ hi < x.toInt → 0 ≤ (pc : Int) + d ∧ P k z ((pc : Int) + d).toNat L r μ)
              | none => False
def mj_step (sa : Nat → Nat) (cal : mj_Cl) (i : Nat) (Q : mj_Q) (P : mj_P) (k z pc : Nat) (L st : List Value) (μ : mj_M) : Prop :=
  ∃ ins len, decode (mj_b i) pc = .ok (ins, len) ∧ mj_1 sa cal i Q P k z pc L st μ ins len
/-- a call's meaning lets a weaker end through -/
def mj_mono (cal : mj_Cl) : Prop := ∀ x As μ (Q Q' : mj_Q), (∀ v μ', Q v μ' → Q' v μ') → cal x As μ Q → cal x As μ Q'
theorem mj_1_mono {sa : Nat → Nat} {cal : mj_Cl} (hc : mj_mono cal) {i : Nat} {Q Q' : mj_Q} {P P' : mj_P} (hQ : ∀ v μ, Q v μ → Q' v μ) (hP : ∀ k z pc L st μ, P k z pc L st μ → P' k z pc L st μ) {k z pc : Nat} {L st : List Value} {μ : mj_M} {ins : Instr} {len : Nat} (h : mj_1 sa cal i Q P k z pc L st μ ins len) : mj_1 sa cal i Q' P' k z pc L st μ ins len := by
  unfold mj_1 at h ⊢
  split at h
  · obtain ⟨h1, q, h2, h3⟩ := h; exact ⟨h1, q, h2, hP _ _ _ _ _ _ h3⟩
  · split at h
    · obtain ⟨h1, h2, h3, h4⟩ := h; exact ⟨h1, h2, fun q => hP _ _ _ _ _ _ (h3 q), fun q => hP _ _ _ _ _ _ (h4 q)⟩
    · split at h
      · obtain ⟨h1, h2, h3⟩ := h; exact ⟨h1, h2, hP _ _ _ _ _ _ h3⟩
      · split at h
        · obtain ⟨h1, h2, h3, h4⟩ := h; exact ⟨h1, h2, h3, hc _ _ _ _ _ (fun v μ' q => hP _ _ _ _ _ _ q) h4⟩
        · split at h
          · obtain ⟨h1, h2, h3⟩ := h; exact ⟨h1, h2, hQ _ _ h3⟩
          · split at h
            · obtain ⟨h1, h2, h3, h4, h5⟩ := h; exact ⟨h1, h2, h3, h4, hP _ _ _ _ _ _ h5⟩
            · split at h
              · obtain ⟨h1, h2⟩ := h
                exact ⟨fun a b => by obtain ⟨off, e1, e2, e3⟩ := h1 a b; exact ⟨off, e1, e2, hP _ _ _ _ _ _ e3⟩, fun a => ⟨(h2 a).1, hP _ _ _ _ _ _ (h2 a).2⟩⟩
              · exact h
/-- from here the method comes to its end, and Q holds there -/
def WP (sa : Nat → Nat) (cal : mj_Cl) (i : Nat) (Q : mj_Q) (k z pc : Nat) (L st : List Value) (μ : mj_M) : Prop :=
  ∀ P : mj_P, (∀ k z pc L st μ, mj_step sa cal i Q P k z pc L st μ → P k z pc L st μ) → P k z pc L st μ
theorem WP.fold {sa : Nat → Nat} {cal : mj_Cl} (hc : mj_mono cal) {i : Nat} {Q : mj_Q} {k z pc : Nat} {L st : List Value} {μ : mj_M} (h : mj_step sa cal i Q (WP sa cal i Q) k z pc L st μ) : WP sa cal i Q k z pc L st μ := by
  intro P hP
  apply hP
  obtain ⟨ins, len, h1, h2⟩ := h
  exact ⟨ins, len, h1, mj_1_mono hc (fun _ _ q => q) (fun k z pc L st μ q => q P hP) h2⟩
theorem WP.unfold {sa : Nat → Nat} {cal : mj_Cl} (hc : mj_mono cal) {i : Nat} {Q : mj_Q} {k z pc : Nat} {L st : List Value} {μ : mj_M} (h : WP sa cal i Q k z pc L st μ) : mj_step sa cal i Q (WP sa cal i Q) k z pc L st μ := by
  refine h (fun k z pc L st μ => mj_step sa cal i Q (WP sa cal i Q) k z pc L st μ) (fun k z pc L st μ q => ?_)
  obtain ⟨ins, len, h1, h2⟩ := q
  exact ⟨ins, len, h1, mj_1_mono hc (fun _ _ q => q) (fun k z pc L st μ q => WP.fold hc q) h2⟩
theorem WP_eq {sa : Nat → Nat} {cal : mj_Cl} (hc : mj_mono cal) {i : Nat} {Q : mj_Q} {k z pc : Nat} {L st : List Value} {μ : mj_M} {ins : Instr} {len : Nat} (hd : decode (mj_b i) pc = .ok (ins, len)) : WP sa cal i Q k z pc L st μ = mj_1 sa cal i Q (WP sa cal i Q) k z pc L st μ ins len := by
  apply propext
  constructor
  · intro h
    obtain ⟨ins', len', h1, h2⟩ := WP.unfold hc h
    rw [hd] at h1
    cases h1
    exact h2
  · intro h
    exact WP.fold hc ⟨ins, len, hd, h⟩
theorem WP.mono {sa : Nat → Nat} {cal : mj_Cl} (hc : mj_mono cal) {i : Nat} {Q Q' : mj_Q} (hQ : ∀ v μ, Q v μ → Q' v μ) {k z pc : Nat} {L st : List Value} {μ : mj_M} (h : WP sa cal i Q k z pc L st μ) : WP sa cal i Q' k z pc L st μ := by
  refine h (fun k z pc L st μ => WP sa cal i Q' k z pc L st μ) (fun k z pc L st μ q => WP.fold hc ?_)
  obtain ⟨ins, len, h1, h2⟩ := q
  exact ⟨ins, len, h1, mj_1_mono hc hQ (fun _ _ _ _ _ _ q => q) h2⟩
/-! ## methods by depth -/
def mj_ent : List Value → List Value
  | [] => []
  | .long x :: r => .long x :: mj_u :: mj_ent r
  | .double x :: r => .double x :: mj_u :: mj_ent r
  | v :: r => v :: mj_ent r
def mj_en (i : Nat) (As : List Value) : List Value := mj_ent As ++ List.replicate (mj_mx i - (mj_ent As).length) mj_u
def mj_rc (i : Nat) (As : List Value) (μ : mj_M) : Prop := mj_stat i = true ∨ ∃ a r, As = .ref a :: r ∧ μ.2.1 a = (1, mj_o i)
def shAI (n R e : Nat) (AI : Nat → Nat → Int32) : Nat → Nat → Int32 := fun c => if n ≤ c ∧ c ≤ n + R ∧ c ≠ e then fun _ => 0 else AI c
def shAR (R e : Nat) (g : Nat → Nat) (AR : Nat → Nat → Option Nat) : Nat → Nat → Option Nat := fun c => if c = e then fun i => if i < R then some (g i) else none else AR c
def shK (n R e : Nat) (K : Nat → Nat × Nat) : Nat → Nat × Nat := fun c => if c = e then (5, R) else if n ≤ c ∧ c ≤ n + R then (2, 37) else K c
/-- String.length (276) and charAt (277) of the constants; a Shelf made (45) -/
def mj_bi (sa : Nat → Nat) (i : Nat) (As : List Value) (μ : mj_M) (Q : mj_Q) : Prop :=
  (i = 276 ∧ ∃ x, x < 20 ∧ As = [.ref (sa x)] ∧ Q (some (.int (Int32.ofNat (mj_sl.getD x 0)))) μ) ∨
  (i = 277 ∧ ∃ x j, x < 20 ∧ As = [.ref (sa x), .int j] ∧ vp_in j (mj_sl.getD x 0) ∧ Q (some (.int ((mj_sby.getD x []).getD j.toNatClampNeg 0))) μ) ∨
  (i = 45 ∧ ∃ a R, (R = 12 ∨ R = 3) ∧ As = [.ref a, .int (Int32.ofNat R)] ∧ μ.2.1 a = (1, 3) ∧ ∀ (e : Nat) (g : Nat → Nat), (μ.1 ≤ e ∧ e ≤ μ.1 + R) → (∀ t, t < R → μ.1 ≤ g t ∧ g t ≤ μ.1 + R ∧ g t ≠ e) → (∀ t j, t < R → j < R → g t = g j → t = j) → Q none (μ.1 + R + 1, shK μ.1 R e μ.2.1, μ.2.2.1, μ.2.2.2.1, mj_u2 μ.2.2.2.2.1 192 a (some e), shAI μ.1 R e μ.2.2.2.2.2.1, μ.2.2.2.2.2.2.1, shAR R e g μ.2.2.2.2.2.2.2))
def EV (sa : Nat → Nat) : Nat → mj_Cl
  | 0, _, _, _, _ => False
  | d + 1, i, As, μ, Q => (8 ≤ d ∧ mj_bi sa i As μ Q) ∨ (i < 276 ∧ mj_rc i As μ ∧ (mj_ent As).length ≤ mj_mx i ∧ WP sa (EV sa d) i Q 0 0 0 (mj_en i As) [] μ)
theorem EV_mono (sa : Nat → Nat) : ∀ d, mj_mono (EV sa d)
  | 0 => fun _ _ _ _ _ _ h => h
  | d + 1 => fun x As μ Q Q' hQ h => by
    rcases h with ⟨h0, h⟩ | ⟨h1, h2, h3, h4⟩
    · refine Or.inl ⟨h0, ?_⟩
      rcases h with ⟨e, x, h1, h2, h3⟩ | ⟨e, x, j, h1, h2, h3, h4⟩ | ⟨e, a, R, h1, h2, h3, h4⟩
      · exact Or.inl ⟨e, x, h1, h2, hQ _ _ h3⟩
      · exact Or.inr (Or.inl ⟨e, x, j, h1, h2, h3, hQ _ _ h4⟩)
      · exact Or.inr (Or.inr ⟨e, a, R, h1, h2, h3, fun e' g y1 y2 y3 => hQ _ _ (h4 e' g y1 y2 y3)⟩)
    · exact Or.inr ⟨h1, h2, h3, WP.mono (EV_mono sa d) hQ h4⟩
