set_option maxRecDepth 100000 in
theorem mj_in_0 : ∀ k, k < 13 → tables_1[([176, 178, 180, 182, 184, 186, 188, 190, 192, 194, 196, 198, 200] : List Nat).getD k 0]? = some (u_lay RX0 TX0 k) := by decide +kernel
set_option maxRecDepth 100000 in
theorem mj_in_1 : ∀ k, k < 6 → tables_1[([339, 341, 343, 345, 347, 349] : List Nat).getD k 0]? = some (u_lay RX1 TX1 k) := by decide +kernel
set_option maxRecDepth 100000 in
theorem mj_in_2 : ∀ k, k < 3 → tables_1[([316, 318, 320] : List Nat).getD k 0]? = some (u_lay RX2 TX2 k) := by decide +kernel
set_option maxRecDepth 100000 in
theorem mj_in_3 : ∀ k, k < 3 → tables_1[([297, 299, 301] : List Nat).getD k 0]? = some (u_lay RX3 TX3 k) := by decide +kernel
set_option maxRecDepth 100000 in
theorem mj_in_4 : ∀ k, k < 11 → tables_1[([259, 261, 263, 265, 267, 269, 271, 273, 275, 277, 279] : List Nat).getD k 0]? = some (u_lay RX4 TX4 k) := by decide +kernel
set_option maxRecDepth 100000 in
theorem mj_in_5 : ∀ k, k < 8 → tables_1[([228, 230, 232, 234, 236, 238, 240, 242] : List Nat).getD k 0]? = some (u_lay RX5 TX5 k) := by decide +kernel
set_option maxRecDepth 100000 in
theorem mj_in_6 : ∀ k, k < 20 → tables_1[([98, 100, 102, 104, 106, 108, 110, 112, 114, 116, 118, 120, 122, 124, 126, 128, 130, 132, 134, 136] : List Nat).getD k 0]? = some (u_lay RX6 TX6 k) := by decide +kernel
set_option maxRecDepth 100000 in
theorem mj_in_7 : ∀ k, k < 11 → tables_1[([363, 365, 367, 369, 371, 373, 375, 377, 379, 381, 383] : List Nat).getD k 0]? = some (u_lay RX7 TX7 k) := by decide +kernel
set_option maxRecDepth 100000 in
theorem mj_in_8 : ∀ k, k < 2 → tables_1[([1391, 1393] : List Nat).getD k 0]? = some (u_lay RX8 TX8 k) := by decide +kernel
set_option maxRecDepth 100000 in
theorem mj_in_9 : ∀ k, k < 22 → tables_1[([1336, 1338, 1340, 1342, 1344, 1346, 1348, 1350, 1352, 1354, 1356, 1358, 1360, 1362, 1364, 1366, 1368, 1370, 1372, 1374, 1376, 1378] : List Nat).getD k 0]? = some (u_lay RX9 TX9 k) := by decide +kernel
set_option maxRecDepth 100000 in
theorem mj_in_10 : ∀ k, k < 41 → tables_1[([1194, 1196, 1198, 1200, 1202, 1204, 1206, 1208, 1210, 1212, 1214, 1216, 1218, 1220, 1222, 1224, 1226, 1228, 1230, 1232, 1234, 1236, 1238, 1240, 1242, 1244, 1246, 1248, 1250, 1252, 1254, 1256, 1258, 1260, 1262, 1264, 1266, 1268, 1270, 1272, 1274] : List Nat).getD k 0]? = some (u_lay RX10 TX10 k) := by decide +kernel
def mj_cok (ci : Nat) : Prop := vwCl[ci]? = some (mj_R ci, mj_T ci, mj_N ci) ∧ (∀ w ∈ u_ws (mj_R ci) (mj_T ci) (mj_N ci), w ∈ mj_gw) ∧ (∀ k, k < mj_N ci → parseFieldDescriptor (mj_T ci k).2.2.1 = some (mj_ty ci k)) ∧ (∀ a, a < mj_N ci → ∀ b, b < mj_N ci → a ≠ b → (mj_T ci a).2.1 ≠ (mj_T ci b).2.1) ∧ (∀ k, k < mj_N ci → (mj_T ci k).1 = mj_R ci)
theorem mj_lay_good (C : String) (T : u_T) (k : Nat) : goodWord (u_lay C T k) = true := by
  unfold u_lay
  split <;> rfl
theorem mj_uin {C : String} {T : u_T} {N : Nat} {ps : List Nat} (h : ∀ k, k < N → tables_1[ps.getD k 0]? = some (u_lay C T k)) : ∀ w ∈ u_ws C T N, w ∈ mj_gw := by
  intro w hw
  obtain ⟨k, hk, rfl⟩ := List.mem_map.mp hw
  exact mj_tb _ (h k (List.mem_range.mp hk)) (mj_lay_good C T k)
set_option maxRecDepth 100000 in
theorem mj_cok_0 : mj_cok 0 := ⟨rfl, mj_uin mj_in_0, tyX0_ok, nmX0, by decide +kernel⟩
set_option maxRecDepth 100000 in
theorem mj_cok_1 : mj_cok 1 := ⟨rfl, mj_uin mj_in_1, tyX1_ok, nmX1, by decide +kernel⟩
set_option maxRecDepth 100000 in
theorem mj_cok_2 : mj_cok 2 := ⟨rfl, mj_uin mj_in_2, tyX2_ok, nmX2, by decide +kernel⟩
set_option maxRecDepth 100000 in
theorem mj_cok_3 : mj_cok 3 := ⟨rfl, mj_uin mj_in_3, tyX3_ok, nmX3, by decide +kernel⟩
set_option maxRecDepth 100000 in
theorem mj_cok_4 : mj_cok 4 := ⟨rfl, mj_uin mj_in_4, tyX4_ok, nmX4, by decide +kernel⟩
set_option maxRecDepth 100000 in
theorem mj_cok_5 : mj_cok 5 := ⟨rfl, mj_uin mj_in_5, tyX5_ok, nmX5, by decide +kernel⟩
set_option maxRecDepth 100000 in
theorem mj_cok_6 : mj_cok 6 := ⟨rfl, mj_uin mj_in_6, tyX6_ok, nmX6, by decide +kernel⟩
set_option maxRecDepth 100000 in
theorem mj_cok_7 : mj_cok 7 := ⟨rfl, mj_uin mj_in_7, tyX7_ok, nmX7, by decide +kernel⟩
set_option maxRecDepth 100000 in
theorem mj_cok_8 : mj_cok 8 := ⟨rfl, mj_uin mj_in_8, tyX8_ok, nmX8, by decide +kernel⟩
set_option maxRecDepth 100000 in
theorem mj_cok_9 : mj_cok 9 := ⟨rfl, mj_uin mj_in_9, tyX9_ok, nmX9, by decide +kernel⟩
set_option maxRecDepth 100000 in
theorem mj_cok_10 : mj_cok 10 := ⟨rfl, mj_uin mj_in_10, tyX10_ok, nmX10, by decide +kernel⟩
theorem mj_cok_all {ci : Nat} (h : ci < 11) : mj_cok ci := by
  rcases (show ci = 0 ∨ ci = 1 ∨ ci = 2 ∨ ci = 3 ∨ ci = 4 ∨ ci = 5 ∨ ci = 6 ∨ ci = 7 ∨ ci = 8 ∨ ci = 9 ∨ ci = 10 by omega) with rfl | rfl | rfl | rfl | rfl | rfl | rfl | rfl | rfl | rfl | rfl
  · exact mj_cok_0
  · exact mj_cok_1
  · exact mj_cok_2
  · exact mj_cok_3
  · exact mj_cok_4
  · exact mj_cok_5
  · exact mj_cok_6
  · exact mj_cok_7
  · exact mj_cok_8
  · exact mj_cok_9
  · exact mj_cok_10
/-! ## memory: size, shapes, int, long and reference fields (by 64 * class + slot, address), int, long and reference places of arrays (by address, place) -/
abbrev mj_M : Type := Nat × (Nat → Nat × Nat) × (Nat → Nat → Int32) × (Nat → Nat → Int64) × (Nat → Nat → Option Nat) × (Nat → Nat → Int32) × (Nat → Nat → Int64) × (Nat → Nat → Option Nat)
def mj_u2 {α : Type} (f : Nat → Nat → α) (k a : Nat) (v : α) : Nat → Nat → α := fun k' a' => if k' = k ∧ a' = a then v else f k' a'
theorem mj_u2_s {α : Type} {f : Nat → Nat → α} {k a : Nat} {v : α} : mj_u2 f k a v k a = v := by simp [mj_u2]
theorem mj_u2_1 {α : Type} {f : Nat → Nat → α} {k a k' a' : Nat} {v : α} (h : k' ≠ k) : mj_u2 f k a v k' a' = f k' a' := by simp [mj_u2, h]
theorem mj_u2_2 {α : Type} {f : Nat → Nat → α} {k a k' a' : Nat} {v : α} (h : a' ≠ a) : mj_u2 f k a v k' a' = f k' a' := by simp [mj_u2, h]
def mj_fv (ci k : Nat) (fi : Nat → Int32) (fl : Nat → Int64) (fr : Nat → Option Nat) : Value := match mj_ty ci k with
  | .int => .int (fi (64 * ci + k))
  | .boolean => .int (fi (64 * ci + k))
  | .long => .long (fl (64 * ci + k))
  | _ => va_rf (fr (64 * ci + k))
def mj_cl (D : va_G) (U : State) (sh : Nat × Nat) (fi : Nat → Int32) (fl : Nat → Int64) (fr : Nat → Option Nat) (ai : Nat → Int32) (al : Nat → Int64) (ar : Nat → Option Nat) (a : Nat) (H : Heap) : Prop := match sh.1 with
  | 0 => True
  | 1 => sh.2 < 11 ∧ t_OB a (D.1 sh.2) (mj_N sh.2) (D.2 sh.2) H (fun k => mj_fv sh.2 k fi fl fr)
  | 2 => ∃ cA, ArrOfT U cA .int ∧ H[a]? = some (arrV cA sh.2 (fun j => .int (ai j)))
  | 3 => ∃ cA, ArrOfT U cA .byte ∧ H[a]? = some (arrV cA sh.2 (fun j => .int (ai j)))
  | 4 => ∃ cA, ArrOfT U cA .long ∧ H[a]? = some (arrV cA sh.2 (fun j => .long (al j)))
  | 5 => ∃ cA, ArrOfT U cA (.array .int) ∧ H[a]? = some (arrV cA sh.2 (fun j => va_rf (ar j)))
  | 9 => va_X a sh.2 ai U H
  | _ => False
theorem mj_cl.kept {D : va_G} {U : State} {sh : Nat × Nat} {fi : Nat → Int32} {fl : Nat → Int64} {fr : Nat → Option Nat} {ai : Nat → Int32} {al : Nat → Int64} {ar : Nat → Option Nat} {a : Nat} {H H1 : Heap} (h : mj_cl D U sh fi fl fr ai al ar a H) (e : H1[a]? = H[a]?) : mj_cl D U sh fi fl fr ai al ar a H1 := by
  unfold mj_cl at h ⊢
  split at h
  · trivial
  · exact ⟨h.1, h.2.kept e⟩
  · obtain ⟨cA, h1, h2⟩ := h; exact ⟨cA, h1, e.trans h2⟩
  · obtain ⟨cA, h1, h2⟩ := h; exact ⟨cA, h1, e.trans h2⟩
  · obtain ⟨cA, h1, h2⟩ := h; exact ⟨cA, h1, e.trans h2⟩
  · obtain ⟨cA, h1, h2⟩ := h; exact ⟨cA, h1, e.trans h2⟩
  · exact h.kept e
  · exact h
theorem mj_cl.moved {D : va_G} {u U : State} {sh : Nat × Nat} {fi : Nat → Int32} {fl : Nat → Int64} {fr : Nat → Option Nat} {ai : Nat → Int32} {al : Nat → Int64} {ar : Nat → Option Nat} {a : Nat} {H : Heap} (hvm : u.vm.Alike U.vm) (h : mj_cl D u sh fi fl fr ai al ar a H) : mj_cl D U sh fi fl fr ai al ar a H := by
  unfold mj_cl at h ⊢
  split at h
  · trivial
  · exact h
  · obtain ⟨cA, h1, h2⟩ := h; exact ⟨cA, arrOfT_moved hvm h1, h2⟩
  · obtain ⟨cA, h1, h2⟩ := h; exact ⟨cA, arrOfT_moved hvm h1, h2⟩
  · obtain ⟨cA, h1, h2⟩ := h; exact ⟨cA, arrOfT_moved hvm h1, h2⟩
  · obtain ⟨cA, h1, h2⟩ := h; exact ⟨cA, arrOfT_moved hvm h1, h2⟩
  · exact h.moved hvm
  · exact h
theorem mj_cl.lt {D : va_G} {U : State} {sh : Nat × Nat} {fi : Nat → Int32} {fl : Nat → Int64} {fr : Nat → Option Nat} {ai : Nat → Int32} {al : Nat → Int64} {ar : Nat → Option Nat} {a : Nat} {H : Heap} (h : mj_cl D U sh fi fl fr ai al ar a H) (h0 : sh.1 ≠ 0) : a < H.size := by
  have gt : ∀ {c : Cell}, H[a]? = some c → a < H.size := fun q => (Array.getElem?_eq_some_iff.mp q).1
  unfold mj_cl at h
  split at h
  · next e => exact absurd e h0
  · obtain ⟨-, cell, h1, -⟩ := h; exact gt h1
  · obtain ⟨cA, h1, h2⟩ := h; exact gt h2
  · obtain ⟨cA, h1, h2⟩ := h; exact gt h2
  · obtain ⟨cA, h1, h2⟩ := h; exact gt h2
  · obtain ⟨cA, h1, h2⟩ := h; exact gt h2
  · obtain ⟨cell, h1, -⟩ := h; exact gt h1
  · exact h.elim
def mj_at (D : va_G) (U : State) (μ : mj_M) (a : Nat) (H : Heap) : Prop := match μ with
  | (_, K, FI, FL, FR, AI, AL, AR) => mj_cl D U (K a) (fun f => FI f a) (fun f => FL f a) (fun f => FR f a) (AI a) (AL a) (AR a) a H
def mj_W (D : va_G) (base : Nat) (U : State) (μ : mj_M) (H : Heap) : Prop := H.size = μ.1 ∧ (∀ a, (μ.2.1 a).1 ≠ 0 → (μ.2.1 a).1 ≠ 9 → base ≤ a) ∧ ∀ a, mj_at D U μ a H
theorem mj_W.moved {D : va_G} {base : Nat} {u U : State} {μ : mj_M} {H : Heap} (hvm : u.vm.Alike U.vm) (h : mj_W D base u μ H) : mj_W D base U μ H := ⟨h.1, h.2.1, fun a => mj_cl.moved hvm (h.2.2 a)⟩
/-- one cell is written -/
theorem mj_W.put {D : va_G} {base n : Nat} {U : State} {K : Nat → Nat × Nat} {FI FI' : Nat → Nat → Int32} {FL FL' : Nat → Nat → Int64} {FR FR' : Nat → Nat → Option Nat} {AI AI' : Nat → Nat → Int32} {AL AL' : Nat → Nat → Int64} {AR AR' : Nat → Nat → Option Nat} {H H1 : Heap} {a : Nat}
    (h : mj_W D base U (n, K, FI, FL, FR, AI, AL, AR) H) (z : H1.size = H.size) (oq : ∀ q, q ≠ a → H1[q]? = H[q]?)
    (e : ∀ q, q ≠ a → (∀ f, FI' f q = FI f q) ∧ (∀ f, FL' f q = FL f q) ∧ (∀ f, FR' f q = FR f q) ∧ AI' q = AI q ∧ AL' q = AL q ∧ AR' q = AR q)
    (hc : mj_cl D U (K a) (fun f => FI' f a) (fun f => FL' f a) (fun f => FR' f a) (AI' a) (AL' a) (AR' a) a H1) : mj_W D base U (n, K, FI', FL', FR', AI', AL', AR') H1 := by
  refine ⟨z.trans h.1, h.2.1, fun q => ?_⟩
  by_cases hq : q = a
  · subst hq; exact hc
  · obtain ⟨e1, e2, e3, e4, e5, e6⟩ := e q hq
    show mj_cl D U (K q) (fun f => FI' f q) (fun f => FL' f q) (fun f => FR' f q) (AI' q) (AL' q) (AR' q) q H1
    rw [funext e1, funext e2, funext e3, e4, e5, e6]
    exact mj_cl.kept (h.2.2 q) (oq q hq)
section MJH
variable {p : Program} {l : Launch} {e : Env} {R : Room} {s : State} {m : MethodId} {args : Array Value} {below : List Frame} {meth : Method} {c : Code} {H : Heap} {locs : List Loc} {cells slots : Nat} {Q : State → Prop}
variable {cc : ByteArray} {pc : Nat} {ls : Array Slot} {rest : List Value} {D : va_G} {base o idx n : Nat} {K : Nat → Nat × Nat} {FI : Nat → Nat → Int32} {FL : Nat → Nat → Int64} {FR : Nat → Nat → Option Nat} {AI : Nat → Nat → Int32} {AL : Nat → Nat → Int64} {AR : Nat → Nat → Option Nat}
def mj_C (p : Program) (s : State) (m : MethodId) (args : Array Value) (c : Code) (cc : ByteArray) (D : va_G) (o : Nat) : Prop := p.tables.exec = Jvm.exec ∧ c.code = cc ∧ s.vm.findClass (mj_R o) = some m.cls ∧ (∀ w ∈ mj_gw, w.before args s = true) ∧ (∀ q ∈ mj_nF, va_Nw (mj_fq q) s) ∧ (∀ q ∈ mj_nM, va_Nw (mj_mq q) s) ∧ va_K D vwCl [] s
theorem mj_getf (C : mj_C p s m args c cc D o) (hW : mj_W D base s (n, K, FI, FL, FR, AI, AL, AR) H) {a t ci k : Nat} (hp : mj_pool o idx = some (t, ci, k)) (ht : t = 1 ∨ t = 2) (ha : K a = (1, ci)) (hd : decode cc pc = .ok (.getfield idx, 3))
    (kk : W p l e R s m args below meth c H locs cells slots Q (F0 m (pc + 3) ls (mj_fv ci k (fun f => FI f a) (fun f => FL f a) (fun f => FR f a) :: rest))) : W p l e R s m args below meth c H locs cells slots Q (F0 m pc ls (.ref a :: rest)) := by
  obtain ⟨hx, hb, hown, hts, hnF, -, hK⟩ := C
  have hcl := hW.2.2 a
  simp only [mj_at, mj_cl, ha] at hcl
  obtain ⟨hci, cell, q1, q2, q3, q4⟩ := hcl
  obtain ⟨o1, o2, -, -, -⟩ := mj_cok_all hci
  obtain ⟨hS, hfc, kC, hkC, hkind⟩ := hK.1 ci _ o1
  have hsp := mj_pool_sp hp
  rcases ht with rfl | rfl
  · obtain ⟨hk, hl⟩ := hsp
    obtain ⟨cf, kf, fi, f, hi, hsl⟩ := hS k hk
    refine W.getf hx hb hown (hts _ hl) hi (u_facts hfc hkC (u_lays hts o2 hk) hi).1 q1 (by rw [q3]; exact fun h => by cases h) (v := mj_fv ci k (fun f => FI f a) (fun f => FL f a) (fun f => FR f a)) ?_ rfl rfl hd kk
    rw [hsl, q4 k hk]
  · obtain ⟨hk, host, hl⟩ := hsp
    obtain ⟨cf, kf, fi, f, hi, hsl⟩ := hS k hk
    refine va_Wgetf hx hb hown (va_Nw.use rfl (hnF _ hl)) hi (u_facts hfc hkC (u_lays hts o2 hk) hi).1 q1 (by rw [q3]; exact fun h => by cases h) (v := mj_fv ci k (fun f => FI f a) (fun f => FL f a) (fun f => FR f a)) ?_ rfl rfl hd kk
    rw [hsl, q4 k hk]
/-- putfield: the cell gets the value at slot k, whatever the new memory says of it there -/
theorem mj_putf (C : mj_C p s m args c cc D o) (hW : mj_W D base s (n, K, FI, FL, FR, AI, AL, AR) H) {a t ci k : Nat} (hp : mj_pool o idx = some (t, ci, k)) (ht : t = 1 ∨ t = 2) (hf : (mj_T ci k).2.2.2 = false ∨ (t = 1 ∧ ci = o ∧ meth.name = "<init>")) (ha : K a = (1, ci)) {v : Value} (hn : narrow (mj_ty ci k) v = v) (hfit : fits (mj_ty ci k) v = true) (hd : decode cc pc = .ok (.putfield idx, 3))
    {FI' : Nat → Nat → Int32} {FL' : Nat → Nat → Int64} {FR' : Nat → Nat → Option Nat} (eo : ∀ q, q ≠ a → (∀ f, FI' f q = FI f q) ∧ (∀ f, FL' f q = FL f q) ∧ (∀ f, FR' f q = FR f q))
    (hv : ∀ j, j < mj_N ci → mj_fv ci j (fun f => FI' f a) (fun f => FL' f a) (fun f => FR' f a) = if j = k then v else mj_fv ci j (fun f => FI f a) (fun f => FL f a) (fun f => FR f a))
    (hS0 : va_S (fun q => base ≤ q) s.heap H locs)
    (kk : ∀ (H1 : Heap) (locs1 : List Loc), mj_W D base s (n, K, FI', FL', FR', AI, AL, AR) H1 → va_S (fun q => base ≤ q) s.heap H1 locs1 → W p l e R s m args below meth c H1 locs1 cells slots Q (F0 m (pc + 3) ls rest)) : W p l e R s m args below meth c H locs cells slots Q (F0 m pc ls (v :: .ref a :: rest)) := by
  obtain ⟨hx, hb, hown, hts, hnF, -, hK⟩ := C
  have hcl := hW.2.2 a
  simp only [mj_at, mj_cl, ha] at hcl
  obtain ⟨hci, cell, q1, q2, q3, q4⟩ := hcl
  obtain ⟨o1, o2, o3, o4, o5⟩ := mj_cok_all hci
  have hap := va_apart (own := mj_R o) hts o2 (mj_ty ci) o3 o4 hK o1
  obtain ⟨hS, hfc, kC, hkC, hkind⟩ := hK.1 ci _ o1
  have hsp := mj_pool_sp hp
  have hba : base ≤ a := hW.2.1 a (by simp [ha]) (by simp [ha])
  have fin : ∀ (hk : k < mj_N ci) {f : Field} {H' : Heap}, (D.2 ci) k = f.slot → H'[a]? = some (cell.setSlot f.slot v) → H'.size = H.size → (∀ q, q ≠ a → H'[q]? = H[q]?) → mj_W D base s (n, K, FI', FL', FR', AI, AL, AR) H' ∧ va_S (fun q => base ≤ q) s.heap H' (locs ++ [⟨a, f.slot⟩]) := by
    intro hk f H' hsl e1 e2 e3
    refine ⟨mj_W.put hW e2 e3 (fun q hq => ⟨(eo q hq).1, (eo q hq).2.1, (eo q hq).2.2, rfl, rfl, rfl⟩) ?_, hS0.put e2 e3 hba⟩
    simp only [mj_cl, ha]
    refine ⟨hci, t_OB.to (V := updV (fun j => mj_fv ci j (fun f => FI f a) (fun f => FL f a) (fun f => FR f a)) k v) ⟨_, e1, q2, q3, ?_⟩ (fun j hj => ?_)⟩
    · rw [← hsl]
      exact t_set q4 hap hk v
    · rw [hv j hj]
      simp [updV]
  rcases ht with rfl | rfl
  · obtain ⟨hk, hl⟩ := hsp
    obtain ⟨cf, kf, fi, f, hi, hsl⟩ := hS k hk
    have hlay := hts _ (o2 _ (u_in_lay hk))
    have hst := (u_facts hfc hkC (u_lays hts o2 hk) hi).1
    by_cases hfin : (mj_T ci k).2.2.2 = false
    · unfold u_lay at hlay
      rw [if_neg (by rw [hfin]; decide)] at hlay
      have h6 := u_store hfc hkC hkind hlay hi (o3 k hk) hn hfit
      refine W.putK hx hb (f := f) ⟨hown, hts _ hl, ⟨_, _, _, hi⟩, hst⟩ (by rw [q2]; exact h6) q1 q3 (by rw [hsl]; exact k2_hasslot (q4 k hk)) rfl rfl hd fun H' e1 e2 e3 => ?_
      obtain ⟨z1, z2⟩ := fin hk hsl.symm e1 e2 e3
      exact kk H' _ z1 z2
    · obtain ⟨-, rfl, hin2⟩ := hf.resolve_left hfin
      unfold u_lay at hlay
      rw [if_pos (by simpa using hfin)] at hlay
      have hcf : m.cls = cf := by
        obtain ⟨_, _, c', _, _, _, -, -, hf', -, -, -, hown2, -⟩ := Cond.laysFinal_spec hlay
        have e1 : c' = cf := by have := hi.symm.trans hf'; simp at this; exact this.1.symm
        rw [o5 k hk] at hown2
        rw [← e1]; exact Option.some.inj (hown.symm.trans hown2)
      have h6 := u_fits hfc hkC hkind (Or.inr hlay) hi (o3 k hk) hn hfit
      refine W.putFinK hx hb hown (hts _ hl) hi hst hcf hin2 (by rw [q2]; exact h6) q1 q3 (by rw [hsl]; exact k2_hasslot (q4 k hk)) rfl rfl hd fun H' e1 e2 e3 => ?_
      obtain ⟨z1, z2⟩ := fin hk hsl.symm e1 e2 e3
      exact kk H' _ z1 z2
  · obtain ⟨hk, host, hl⟩ := hsp
    obtain ⟨cf, kf, fi, f, hi, hsl⟩ := hS k hk
    have hlay := hts _ (o2 _ (u_in_lay hk))
    have hst := (u_facts hfc hkC (u_lays hts o2 hk) hi).1
    have hfin : (mj_T ci k).2.2.2 = false := by
      rcases hf with h | h
      · exact h
      · exact absurd h.1 (by decide)
    unfold u_lay at hlay
    rw [if_neg (by rw [hfin]; decide)] at hlay
    have h6 := u_store hfc hkC hkind hlay hi (o3 k hk) hn hfit
    refine va_WputK hx hb (f := f) hown (va_Nw.use rfl (hnF _ hl)) hi hst (by rw [q2]; exact h6) q1 q3 (by rw [hsl]; exact k2_hasslot (q4 k hk)) rfl rfl hd fun H' e1 e2 e3 => ?_
    obtain ⟨z1, z2⟩ := fin hk hsl.symm e1 e2 e3
    exact kk H' _ z1 z2
end MJH

