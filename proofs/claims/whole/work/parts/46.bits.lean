section
variable {sa : Nat → Nat} {d k z n a b : Nat} {Q : mj_Q} {L st : List Value} {μ : mj_M} {u v : Int32} {x0 : Value}
theorem pj_12_265 : mj_pool 12 265 = some (10, 1431655765, 0) := by decide +kernel
theorem pj_12_266 : mj_pool 12 266 = some (10, 858993459, 0) := by decide +kernel
theorem pj_12_267 : mj_pool 12 267 = some (10, 252645135, 0) := by decide +kernel
theorem e275_0 : WP sa (EV sa d) 275 Q k z 0 [.int u] st μ = WP sa (EV sa d) 275 Q k z 1 [.int u] (.int u :: st) μ := wp_p (ins := .iload_n 0) (by decide +kernel) rfl rfl
theorem e275_1 : WP sa (EV sa d) 275 Q k z 1 [.int u] st μ = WP sa (EV sa d) 275 Q k z 2 [.int u] (.int u :: st) μ := wp_p (ins := .iload_n 0) (by decide +kernel) rfl rfl
theorem e275_2 : WP sa (EV sa d) 275 Q k z 2 L st μ = WP sa (EV sa d) 275 Q k z 3 L (.int 1 :: st) μ := wp_p (ins := .iconst 1) (by decide +kernel) rfl rfl
theorem e275_3 : WP sa (EV sa d) 275 Q k z 3 L (.int v :: .int u :: st) μ = WP sa (EV sa d) 275 Q k z 4 L (.int (u.toUInt32 >>> (v.toUInt32 &&& Int32.toUInt32 31)).toInt32 :: st) μ := wp_p (ins := .iushr) (by decide +kernel) rfl rfl
theorem e275_4 : WP sa (EV sa d) 275 Q k z 4 L st μ = WP sa (EV sa d) 275 Q k z 7 L (.int (nI 1431655765) :: st) μ := wp_cI (idx := 265) (by decide +kernel) rfl pj_12_265
theorem e275_7 : WP sa (EV sa d) 275 Q k z 7 L (.int v :: .int u :: st) μ = WP sa (EV sa d) 275 Q k z 8 L (.int (u &&& v) :: st) μ := wp_p (ins := .iand) (by decide +kernel) rfl rfl
theorem e275_8 : WP sa (EV sa d) 275 Q k z 8 L (.int v :: .int u :: st) μ = WP sa (EV sa d) 275 Q k z 9 L (.int (u - v) :: st) μ := wp_p (ins := .isub) (by decide +kernel) rfl rfl
theorem e275_9 : WP sa (EV sa d) 275 Q k z 9 [x0] (.int u :: st) μ = WP sa (EV sa d) 275 Q k z 10 [.int u] st μ := wp_p (ins := .istore_n 0) (by decide +kernel) rfl rfl
theorem e275_10 : WP sa (EV sa d) 275 Q k z 10 [.int u] st μ = WP sa (EV sa d) 275 Q k z 11 [.int u] (.int u :: st) μ := wp_p (ins := .iload_n 0) (by decide +kernel) rfl rfl
theorem e275_11 : WP sa (EV sa d) 275 Q k z 11 L st μ = WP sa (EV sa d) 275 Q k z 14 L (.int (nI 858993459) :: st) μ := wp_cI (idx := 266) (by decide +kernel) rfl pj_12_266
theorem e275_14 : WP sa (EV sa d) 275 Q k z 14 L (.int v :: .int u :: st) μ = WP sa (EV sa d) 275 Q k z 15 L (.int (u &&& v) :: st) μ := wp_p (ins := .iand) (by decide +kernel) rfl rfl
theorem e275_15 : WP sa (EV sa d) 275 Q k z 15 [.int u] st μ = WP sa (EV sa d) 275 Q k z 16 [.int u] (.int u :: st) μ := wp_p (ins := .iload_n 0) (by decide +kernel) rfl rfl
theorem e275_16 : WP sa (EV sa d) 275 Q k z 16 L st μ = WP sa (EV sa d) 275 Q k z 17 L (.int 2 :: st) μ := wp_p (ins := .iconst 2) (by decide +kernel) rfl rfl
theorem e275_17 : WP sa (EV sa d) 275 Q k z 17 L (.int v :: .int u :: st) μ = WP sa (EV sa d) 275 Q k z 18 L (.int (u.toUInt32 >>> (v.toUInt32 &&& Int32.toUInt32 31)).toInt32 :: st) μ := wp_p (ins := .iushr) (by decide +kernel) rfl rfl
theorem e275_18 : WP sa (EV sa d) 275 Q k z 18 L st μ = WP sa (EV sa d) 275 Q k z 21 L (.int (nI 858993459) :: st) μ := wp_cI (idx := 266) (by decide +kernel) rfl pj_12_266
theorem e275_21 : WP sa (EV sa d) 275 Q k z 21 L (.int v :: .int u :: st) μ = WP sa (EV sa d) 275 Q k z 22 L (.int (u &&& v) :: st) μ := wp_p (ins := .iand) (by decide +kernel) rfl rfl
theorem e275_22 : WP sa (EV sa d) 275 Q k z 22 L (.int v :: .int u :: st) μ = WP sa (EV sa d) 275 Q k z 23 L (.int (u + v) :: st) μ := wp_p (ins := .iadd) (by decide +kernel) rfl rfl
theorem e275_23 : WP sa (EV sa d) 275 Q k z 23 [x0] (.int u :: st) μ = WP sa (EV sa d) 275 Q k z 24 [.int u] st μ := wp_p (ins := .istore_n 0) (by decide +kernel) rfl rfl
theorem e275_24 : WP sa (EV sa d) 275 Q k z 24 [.int u] st μ = WP sa (EV sa d) 275 Q k z 25 [.int u] (.int u :: st) μ := wp_p (ins := .iload_n 0) (by decide +kernel) rfl rfl
theorem e275_25 : WP sa (EV sa d) 275 Q k z 25 [.int u] st μ = WP sa (EV sa d) 275 Q k z 26 [.int u] (.int u :: st) μ := wp_p (ins := .iload_n 0) (by decide +kernel) rfl rfl
theorem e275_26 : WP sa (EV sa d) 275 Q k z 26 L st μ = WP sa (EV sa d) 275 Q k z 27 L (.int 4 :: st) μ := wp_p (ins := .iconst 4) (by decide +kernel) rfl rfl
theorem e275_27 : WP sa (EV sa d) 275 Q k z 27 L (.int v :: .int u :: st) μ = WP sa (EV sa d) 275 Q k z 28 L (.int (u.toUInt32 >>> (v.toUInt32 &&& Int32.toUInt32 31)).toInt32 :: st) μ := wp_p (ins := .iushr) (by decide +kernel) rfl rfl
theorem e275_28 : WP sa (EV sa d) 275 Q k z 28 L (.int v :: .int u :: st) μ = WP sa (EV sa d) 275 Q k z 29 L (.int (u + v) :: st) μ := wp_p (ins := .iadd) (by decide +kernel) rfl rfl
theorem e275_29 : WP sa (EV sa d) 275 Q k z 29 L st μ = WP sa (EV sa d) 275 Q k z 32 L (.int (nI 252645135) :: st) μ := wp_cI (idx := 267) (by decide +kernel) rfl pj_12_267
theorem e275_32 : WP sa (EV sa d) 275 Q k z 32 L (.int v :: .int u :: st) μ = WP sa (EV sa d) 275 Q k z 33 L (.int (u &&& v) :: st) μ := wp_p (ins := .iand) (by decide +kernel) rfl rfl
theorem e275_33 : WP sa (EV sa d) 275 Q k z 33 [x0] (.int u :: st) μ = WP sa (EV sa d) 275 Q k z 34 [.int u] st μ := wp_p (ins := .istore_n 0) (by decide +kernel) rfl rfl
theorem e275_34 : WP sa (EV sa d) 275 Q k z 34 [.int u] st μ = WP sa (EV sa d) 275 Q k z 35 [.int u] (.int u :: st) μ := wp_p (ins := .iload_n 0) (by decide +kernel) rfl rfl
theorem e275_35 : WP sa (EV sa d) 275 Q k z 35 [.int u] st μ = WP sa (EV sa d) 275 Q k z 36 [.int u] (.int u :: st) μ := wp_p (ins := .iload_n 0) (by decide +kernel) rfl rfl
theorem e275_36 : WP sa (EV sa d) 275 Q k z 36 L st μ = WP sa (EV sa d) 275 Q k z 38 L (.int 8 :: st) μ := wp_p (ins := .bipush 8) (by decide +kernel) rfl rfl
theorem e275_38 : WP sa (EV sa d) 275 Q k z 38 L (.int v :: .int u :: st) μ = WP sa (EV sa d) 275 Q k z 39 L (.int (u.toUInt32 >>> (v.toUInt32 &&& Int32.toUInt32 31)).toInt32 :: st) μ := wp_p (ins := .iushr) (by decide +kernel) rfl rfl
theorem e275_39 : WP sa (EV sa d) 275 Q k z 39 L (.int v :: .int u :: st) μ = WP sa (EV sa d) 275 Q k z 40 L (.int (u + v) :: st) μ := wp_p (ins := .iadd) (by decide +kernel) rfl rfl
theorem e275_40 : WP sa (EV sa d) 275 Q k z 40 [x0] (.int u :: st) μ = WP sa (EV sa d) 275 Q k z 41 [.int u] st μ := wp_p (ins := .istore_n 0) (by decide +kernel) rfl rfl
theorem e275_41 : WP sa (EV sa d) 275 Q k z 41 [.int u] st μ = WP sa (EV sa d) 275 Q k z 42 [.int u] (.int u :: st) μ := wp_p (ins := .iload_n 0) (by decide +kernel) rfl rfl
theorem e275_42 : WP sa (EV sa d) 275 Q k z 42 [.int u] st μ = WP sa (EV sa d) 275 Q k z 43 [.int u] (.int u :: st) μ := wp_p (ins := .iload_n 0) (by decide +kernel) rfl rfl
theorem e275_43 : WP sa (EV sa d) 275 Q k z 43 L st μ = WP sa (EV sa d) 275 Q k z 45 L (.int 16 :: st) μ := wp_p (ins := .bipush 16) (by decide +kernel) rfl rfl
theorem e275_45 : WP sa (EV sa d) 275 Q k z 45 L (.int v :: .int u :: st) μ = WP sa (EV sa d) 275 Q k z 46 L (.int (u.toUInt32 >>> (v.toUInt32 &&& Int32.toUInt32 31)).toInt32 :: st) μ := wp_p (ins := .iushr) (by decide +kernel) rfl rfl
theorem e275_46 : WP sa (EV sa d) 275 Q k z 46 L (.int v :: .int u :: st) μ = WP sa (EV sa d) 275 Q k z 47 L (.int (u + v) :: st) μ := wp_p (ins := .iadd) (by decide +kernel) rfl rfl
theorem e275_47 : WP sa (EV sa d) 275 Q k z 47 [x0] (.int u :: st) μ = WP sa (EV sa d) 275 Q k z 48 [.int u] st μ := wp_p (ins := .istore_n 0) (by decide +kernel) rfl rfl
theorem e275_48 : WP sa (EV sa d) 275 Q k z 48 [.int u] st μ = WP sa (EV sa d) 275 Q k z 49 [.int u] (.int u :: st) μ := wp_p (ins := .iload_n 0) (by decide +kernel) rfl rfl
theorem e275_49 : WP sa (EV sa d) 275 Q k z 49 L st μ = WP sa (EV sa d) 275 Q k z 51 L (.int 63 :: st) μ := wp_p (ins := .bipush 63) (by decide +kernel) rfl rfl
theorem e275_51 : WP sa (EV sa d) 275 Q k z 51 L (.int v :: .int u :: st) μ = WP sa (EV sa d) 275 Q k z 52 L (.int (u &&& v) :: st) μ := wp_p (ins := .iand) (by decide +kernel) rfl rfl
theorem e275_52 : WP sa (EV sa d) 275 Q k z 52 L [.int u] μ = Q (some (.int u)) μ := wp_ri (by decide +kernel) rfl
end
def hor (B : Nat) : List Nat → Nat
  | [] => 0
  | a :: l => a + B * hor B l
theorem land_dig (b : Nat) {a c q r : Nat} (ha : a < 2 ^ b) (hc : c < 2 ^ b) : (a + 2 ^ b * q) &&& (c + 2 ^ b * r) = (a &&& c) + 2 ^ b * (q &&& r) := by
  apply Nat.eq_of_testBit_eq
  intro i
  have hac : a &&& c < 2 ^ b := Nat.and_lt_two_pow _ hc
  rw [Nat.testBit_and, Nat.add_comm a, Nat.add_comm c, Nat.add_comm (a &&& c), Nat.testBit_two_pow_mul_add _ ha, Nat.testBit_two_pow_mul_add _ hc, Nat.testBit_two_pow_mul_add _ hac]
  split
  · rw [Nat.testBit_and]
  · rw [Nat.testBit_and]
theorem hor_land (b : Nat) : ∀ (l m : List Nat), l.length = m.length → (∀ a ∈ l, a < 2 ^ b) → (∀ a ∈ m, a < 2 ^ b) → hor (2 ^ b) l &&& hor (2 ^ b) m = hor (2 ^ b) (List.zipWith (· &&& ·) l m)
  | [], [], _, _, _ => by simp [hor]
  | a :: l, c :: m, h, h1, h2 => by
    have ih := hor_land b l m (by simpa using h) (fun x hx => h1 x (List.mem_cons_of_mem _ hx)) (fun x hx => h2 x (List.mem_cons_of_mem _ hx))
    have ha := h1 a (List.mem_cons_self ..)
    have hc := h2 c (List.mem_cons_self ..)
    simp only [hor, List.zipWith_cons_cons, ← ih]
    exact land_dig b ha hc
theorem hor_shr (b a : Nat) (l : List Nat) (h : a < 2 ^ b) : hor (2 ^ b) (a :: l) / 2 ^ b = hor (2 ^ b) l := by
  simp only [hor]
  rw [Nat.add_mul_div_left _ _ (Nat.two_pow_pos b), Nat.div_eq_of_lt h, Nat.zero_add]
theorem hor4_16 (a b : Nat) (l : List Nat) : hor 4 (a :: b :: l) = a + 4 * b + 16 * hor 4 l := by simp only [hor]; omega
theorem bc1 : ∀ P : List (Nat × Nat), (∀ p ∈ P, p.1 < 2 ∧ p.2 < 2) → hor 4 (P.map fun p => p.1 + 2 * p.2) - (hor 4 (P.map fun p => p.1 + 2 * p.2) / 2 &&& hor 4 (P.map fun _ => 1)) = hor 4 (P.map fun p => p.1 + p.2) ∧ (hor 4 (P.map fun p => p.1 + 2 * p.2) / 2 &&& hor 4 (P.map fun _ => 1)) ≤ hor 4 (P.map fun p => p.1 + 2 * p.2)
  | [], _ => by simp [hor]
  | p :: P, h => by
    obtain ⟨ih, ih2⟩ := bc1 P (fun x hx => h x (List.mem_cons_of_mem _ hx))
    obtain ⟨h1, h2⟩ := h p (List.mem_cons_self ..)
    simp only [List.map_cons, hor]
    generalize hor 4 (P.map fun p => p.1 + 2 * p.2) = X at *
    generalize hor 4 (P.map fun _ => 1) = M at *
    generalize hor 4 (P.map fun p => p.1 + p.2) = Y at *
    have e1 : (p.1 + 2 * p.2 + 4 * X) / 2 = (p.2 + 2 * (X % 2)) + 2 ^ 2 * (X / 2) := by omega
    have e2 : (p.2 + 2 * (X % 2)) &&& 1 = p.2 := by rw [Nat.and_one_is_mod]; omega
    rw [e1, show 4 * M = 2 ^ 2 * M from rfl, land_dig 2 (by omega) (by decide), e2]
    generalize X / 2 &&& M = T at *
    omega
theorem bc2 : ∀ P : List (Nat × Nat), (∀ p ∈ P, p.1 < 4 ∧ p.2 < 4) → (hor 16 (P.map fun p => p.1 + 4 * p.2) &&& hor 16 (P.map fun _ => 3)) + (hor 16 (P.map fun p => p.1 + 4 * p.2) / 4 &&& hor 16 (P.map fun _ => 3)) = hor 16 (P.map fun p => p.1 + p.2)
  | [], _ => by simp [hor]
  | p :: P, h => by
    have ih := bc2 P (fun x hx => h x (List.mem_cons_of_mem _ hx))
    obtain ⟨h1, h2⟩ := h p (List.mem_cons_self ..)
    simp only [List.map_cons, hor]
    generalize hor 16 (P.map fun p => p.1 + 4 * p.2) = X at *
    generalize hor 16 (P.map fun _ => 3) = M at *
    generalize hor 16 (P.map fun p => p.1 + p.2) = Y at *
    have e1 : (p.1 + 4 * p.2 + 16 * X) / 4 = (p.2 + 4 * (X % 4)) + 2 ^ 4 * (X / 4) := by omega
    have e2 : (p.2 + 4 * (X % 4)) &&& 3 = p.2 := by rw [show (3 : Nat) = 2 ^ 2 - 1 from rfl, Nat.and_two_pow_sub_one_eq_mod]; omega
    have e3 : (p.1 + 4 * p.2) &&& 3 = p.1 := by rw [show (3 : Nat) = 2 ^ 2 - 1 from rfl, Nat.and_two_pow_sub_one_eq_mod]; omega
    rw [e1, show 16 * M = 2 ^ 4 * M from rfl, show 16 * X = 2 ^ 4 * X from rfl, land_dig 4 (by omega) (by decide), land_dig 4 (by omega) (by decide), e2, e3]
    generalize X / 4 &&& M = T at *
    generalize X &&& M = U at *
    omega
theorem bc3 {t0 t1 t2 t3 t4 t5 t6 t7 : Nat} (ht0 : t0 < 8) (ht1 : t1 < 8) (ht2 : t2 < 8) (ht3 : t3 < 8) (ht4 : t4 < 8) (ht5 : t5 < 8) (ht6 : t6 < 8) (ht7 : t7 < 8) : (hor 16 [t0, t1, t2, t3, t4, t5, t6, t7] + hor 16 [t0, t1, t2, t3, t4, t5, t6, t7] / 16 &&& 252645135) = hor 256 [t0 + t1, t2 + t3, t4 + t5, t6 + t7] := by
  have e1 : hor 16 [t0, t1, t2, t3, t4, t5, t6, t7] / 16 = hor 16 [t1, t2, t3, t4, t5, t6, t7, 0] := (hor_shr 4 t0 [t1, t2, t3, t4, t5, t6, t7] (by omega)).trans (by simp [hor])
  have e2 : (252645135 : Nat) = hor 16 [15, 0, 15, 0, 15, 0, 15, 0] := by decide
  have e3 := hor_land 4 [t0 + t1, t1 + t2, t2 + t3, t3 + t4, t4 + t5, t5 + t6, t6 + t7, t7] [15, 0, 15, 0, 15, 0, 15, 0] rfl (by intro a ha; simp only [List.mem_cons, List.not_mem_nil, or_false] at ha; omega) (by decide)
  have a1 : ∀ c, c < 16 → c &&& 15 = c := by decide
  simp only [List.zipWith_cons_cons, List.zipWith_nil_left, Nat.and_zero] at e3
  rw [a1 (t0 + t1) (by omega), a1 (t2 + t3) (by omega), a1 (t4 + t5) (by omega), a1 (t6 + t7) (by omega)] at e3
  rw [show (2 : Nat) ^ 4 = 16 from rfl] at e3
  have e5 : hor 16 [t0, t1, t2, t3, t4, t5, t6, t7] + hor 16 [t1, t2, t3, t4, t5, t6, t7, 0] = hor 16 [t0 + t1, t1 + t2, t2 + t3, t3 + t4, t4 + t5, t5 + t6, t6 + t7, t7] := by simp only [hor]; omega
  rw [e1, e2, e5, e3]
  simp only [hor]
  omega
theorem bc4 {u0 u1 u2 u3 : Nat} (h0 : u0 < 9) (h1 : u1 < 9) (h2 : u2 < 9) (h3 : u3 < 9) : (hor 256 [u0, u1, u2, u3] + hor 256 [u0, u1, u2, u3] / 256) + (hor 256 [u0, u1, u2, u3] + hor 256 [u0, u1, u2, u3] / 256) / 65536 &&& 63 = u0 + u1 + u2 + u3 := by
  rw [show (63 : Nat) = 2 ^ 6 - 1 from rfl, Nat.and_two_pow_sub_one_eq_mod]
  have e1 : hor 256 [u0, u1, u2, u3] / 256 = hor 256 [u1, u2, u3] := hor_shr 8 u0 [u1, u2, u3] (by omega)
  rw [e1]
  have e2 : hor 256 [u0, u1, u2, u3] + hor 256 [u1, u2, u3] = (u0 + u1 + 256 * (u1 + u2)) + 65536 * (u2 + u3 + 256 * u3) := by simp only [hor]; omega
  rw [e2, Nat.add_mul_div_left _ _ (by decide), Nat.div_eq_of_lt (by omega), Nat.zero_add]
  rw [show u0 + u1 + 256 * (u1 + u2) + 65536 * (u2 + u3 + 256 * u3) + (u2 + u3 + 256 * u3) = u0 + u1 + u2 + u3 + 2 ^ 6 * (4 * (u1 + u2) + 1024 * (u2 + u3 + 256 * u3) + 4 * u3) by omega, Nat.add_mul_mod_self_left, Nat.mod_eq_of_lt (by omega)]
def bcN (x : Nat) : Nat :=
  let a := x - (x / 2 &&& 1431655765)
  let b := (a &&& 858993459) + (a / 4 &&& 858993459)
  let c := b + b / 16 &&& 252645135
  let e := c + c / 256
  e + e / 65536 &&& 63
theorem bcN_key {b0 b1 b2 b3 b4 b5 b6 b7 b8 b9 b10 b11 b12 b13 b14 b15 b16 b17 b18 b19 b20 b21 b22 b23 b24 b25 b26 b27 b28 b29 b30 b31 : Nat} (hb0 : b0 < 2) (hb1 : b1 < 2) (hb2 : b2 < 2) (hb3 : b3 < 2) (hb4 : b4 < 2) (hb5 : b5 < 2) (hb6 : b6 < 2) (hb7 : b7 < 2) (hb8 : b8 < 2) (hb9 : b9 < 2) (hb10 : b10 < 2) (hb11 : b11 < 2) (hb12 : b12 < 2) (hb13 : b13 < 2) (hb14 : b14 < 2) (hb15 : b15 < 2) (hb16 : b16 < 2) (hb17 : b17 < 2) (hb18 : b18 < 2) (hb19 : b19 < 2) (hb20 : b20 < 2) (hb21 : b21 < 2) (hb22 : b22 < 2) (hb23 : b23 < 2) (hb24 : b24 < 2) (hb25 : b25 < 2) (hb26 : b26 < 2) (hb27 : b27 < 2) (hb28 : b28 < 2) (hb29 : b29 < 2) (hb30 : b30 < 2) (hb31 : b31 < 2) : bcN (hor 4 [b0 + 2 * b1, b2 + 2 * b3, b4 + 2 * b5, b6 + 2 * b7, b8 + 2 * b9, b10 + 2 * b11, b12 + 2 * b13, b14 + 2 * b15, b16 + 2 * b17, b18 + 2 * b19, b20 + 2 * b21, b22 + 2 * b23, b24 + 2 * b25, b26 + 2 * b27, b28 + 2 * b29, b30 + 2 * b31]) = b0 + b1 + b2 + b3 + b4 + b5 + b6 + b7 + b8 + b9 + b10 + b11 + b12 + b13 + b14 + b15 + b16 + b17 + b18 + b19 + b20 + b21 + b22 + b23 + b24 + b25 + b26 + b27 + b28 + b29 + b30 + b31 := by
  have q1 := (bc1 [(b0, b1), (b2, b3), (b4, b5), (b6, b7), (b8, b9), (b10, b11), (b12, b13), (b14, b15), (b16, b17), (b18, b19), (b20, b21), (b22, b23), (b24, b25), (b26, b27), (b28, b29), (b30, b31)] (by intro p hp; simp only [List.mem_cons, List.not_mem_nil, or_false] at hp; rcases hp with rfl | rfl | rfl | rfl | rfl | rfl | rfl | rfl | rfl | rfl | rfl | rfl | rfl | rfl | rfl | rfl <;> exact ⟨by assumption, by assumption⟩)).1
  have q2 := bc2 [(b0 + b1, b2 + b3), (b4 + b5, b6 + b7), (b8 + b9, b10 + b11), (b12 + b13, b14 + b15), (b16 + b17, b18 + b19), (b20 + b21, b22 + b23), (b24 + b25, b26 + b27), (b28 + b29, b30 + b31)] (by intro p hp; simp only [List.mem_cons, List.not_mem_nil, or_false] at hp; rcases hp with rfl | rfl | rfl | rfl | rfl | rfl | rfl | rfl <;> exact ⟨by simp only []; omega, by simp only []; omega⟩)
  simp only [List.map_cons, List.map_nil] at q1 q2
  rw [show hor 4 [1, 1, 1, 1, 1, 1, 1, 1, 1, 1, 1, 1, 1, 1, 1, 1] = 1431655765 by decide] at q1
  rw [show hor 16 [3, 3, 3, 3, 3, 3, 3, 3] = 858993459 by decide] at q2
  unfold bcN
  simp only []
  have e4 : hor 4 [b0 + b1, b2 + b3, b4 + b5, b6 + b7, b8 + b9, b10 + b11, b12 + b13, b14 + b15, b16 + b17, b18 + b19, b20 + b21, b22 + b23, b24 + b25, b26 + b27, b28 + b29, b30 + b31] = hor 16 [b0 + b1 + 4 * (b2 + b3), b4 + b5 + 4 * (b6 + b7), b8 + b9 + 4 * (b10 + b11), b12 + b13 + 4 * (b14 + b15), b16 + b17 + 4 * (b18 + b19), b20 + b21 + 4 * (b22 + b23), b24 + b25 + 4 * (b26 + b27), b28 + b29 + 4 * (b30 + b31)] := by simp only [hor4_16]; simp only [hor]
  rw [q1, e4, q2]
  have q3 := bc3 (show b0 + b1 + (b2 + b3) < 8 by omega) (show b4 + b5 + (b6 + b7) < 8 by omega) (show b8 + b9 + (b10 + b11) < 8 by omega) (show b12 + b13 + (b14 + b15) < 8 by omega) (show b16 + b17 + (b18 + b19) < 8 by omega) (show b20 + b21 + (b22 + b23) < 8 by omega) (show b24 + b25 + (b26 + b27) < 8 by omega) (show b28 + b29 + (b30 + b31) < 8 by omega)
  rw [q3, bc4 (by omega) (by omega) (by omega) (by omega)]
  simp only [Nat.add_assoc]
theorem bcN_eq {x : Nat} (hx : x < 2 ^ 32) : bcN x = ct (fun i => x.testBit i) 32 := by
  have dg : ∀ n x : Nat, x = x % 2 + 2 * (x / 2 % 2) + 4 * (x / 4) := fun n x => by omega
  have e : x = hor 4 [x / 2 ^ 0 % 2 + 2 * (x / 2 ^ 1 % 2), x / 2 ^ 2 % 2 + 2 * (x / 2 ^ 3 % 2), x / 2 ^ 4 % 2 + 2 * (x / 2 ^ 5 % 2), x / 2 ^ 6 % 2 + 2 * (x / 2 ^ 7 % 2), x / 2 ^ 8 % 2 + 2 * (x / 2 ^ 9 % 2), x / 2 ^ 10 % 2 + 2 * (x / 2 ^ 11 % 2), x / 2 ^ 12 % 2 + 2 * (x / 2 ^ 13 % 2), x / 2 ^ 14 % 2 + 2 * (x / 2 ^ 15 % 2), x / 2 ^ 16 % 2 + 2 * (x / 2 ^ 17 % 2), x / 2 ^ 18 % 2 + 2 * (x / 2 ^ 19 % 2), x / 2 ^ 20 % 2 + 2 * (x / 2 ^ 21 % 2), x / 2 ^ 22 % 2 + 2 * (x / 2 ^ 23 % 2), x / 2 ^ 24 % 2 + 2 * (x / 2 ^ 25 % 2), x / 2 ^ 26 % 2 + 2 * (x / 2 ^ 27 % 2), x / 2 ^ 28 % 2 + 2 * (x / 2 ^ 29 % 2), x / 2 ^ 30 % 2 + 2 * (x / 2 ^ 31 % 2)] := by
    simp only [hor]
    have z : x / 2 ^ 32 = 0 := Nat.div_eq_of_lt hx
    have st : ∀ k, x / 2 ^ k = x / 2 ^ k % 2 + 2 * (x / 2 ^ (k + 1) % 2) + 4 * (x / 2 ^ (k + 2)) := fun k => by
      rw [show x / 2 ^ (k + 1) = x / 2 ^ k / 2 by rw [Nat.pow_succ, Nat.div_div_eq_div_mul], show x / 2 ^ (k + 2) = x / 2 ^ k / 4 by rw [Nat.pow_add, Nat.div_div_eq_div_mul]]
      exact dg 0 _
    have st0 := st 0
    have st2 := st 2
    have st4 := st 4
    have st6 := st 6
    have st8 := st 8
    have st10 := st 10
    have st12 := st 12
    have st14 := st 14
    have st16 := st 16
    have st18 := st 18
    have st20 := st 20
    have st22 := st 22
    have st24 := st 24
    have st26 := st 26
    have st28 := st 28
    have st30 := st 30
    simp only [Nat.reduceAdd] at st0 st2 st4 st6 st8 st10 st12 st14 st16 st18 st20 st22 st24 st26 st28 st30
    rw [z] at st30
    rw [← st30, ← st28, ← st26, ← st24, ← st22, ← st20, ← st18, ← st16, ← st14, ← st12, ← st10, ← st8, ← st6, ← st4, ← st2, ← st0]
    rw [Nat.pow_zero, Nat.div_one]
  have k := bcN_key (Nat.mod_lt (x / 2 ^ 0) (show 2 > 0 by decide)) (Nat.mod_lt (x / 2 ^ 1) (show 2 > 0 by decide)) (Nat.mod_lt (x / 2 ^ 2) (show 2 > 0 by decide)) (Nat.mod_lt (x / 2 ^ 3) (show 2 > 0 by decide)) (Nat.mod_lt (x / 2 ^ 4) (show 2 > 0 by decide)) (Nat.mod_lt (x / 2 ^ 5) (show 2 > 0 by decide)) (Nat.mod_lt (x / 2 ^ 6) (show 2 > 0 by decide)) (Nat.mod_lt (x / 2 ^ 7) (show 2 > 0 by decide)) (Nat.mod_lt (x / 2 ^ 8) (show 2 > 0 by decide)) (Nat.mod_lt (x / 2 ^ 9) (show 2 > 0 by decide)) (Nat.mod_lt (x / 2 ^ 10) (show 2 > 0 by decide)) (Nat.mod_lt (x / 2 ^ 11) (show 2 > 0 by decide)) (Nat.mod_lt (x / 2 ^ 12) (show 2 > 0 by decide)) (Nat.mod_lt (x / 2 ^ 13) (show 2 > 0 by decide)) (Nat.mod_lt (x / 2 ^ 14) (show 2 > 0 by decide)) (Nat.mod_lt (x / 2 ^ 15) (show 2 > 0 by decide)) (Nat.mod_lt (x / 2 ^ 16) (show 2 > 0 by decide)) (Nat.mod_lt (x / 2 ^ 17) (show 2 > 0 by decide)) (Nat.mod_lt (x / 2 ^ 18) (show 2 > 0 by decide)) (Nat.mod_lt (x / 2 ^ 19) (show 2 > 0 by decide)) (Nat.mod_lt (x / 2 ^ 20) (show 2 > 0 by decide)) (Nat.mod_lt (x / 2 ^ 21) (show 2 > 0 by decide)) (Nat.mod_lt (x / 2 ^ 22) (show 2 > 0 by decide)) (Nat.mod_lt (x / 2 ^ 23) (show 2 > 0 by decide)) (Nat.mod_lt (x / 2 ^ 24) (show 2 > 0 by decide)) (Nat.mod_lt (x / 2 ^ 25) (show 2 > 0 by decide)) (Nat.mod_lt (x / 2 ^ 26) (show 2 > 0 by decide)) (Nat.mod_lt (x / 2 ^ 27) (show 2 > 0 by decide)) (Nat.mod_lt (x / 2 ^ 28) (show 2 > 0 by decide)) (Nat.mod_lt (x / 2 ^ 29) (show 2 > 0 by decide)) (Nat.mod_lt (x / 2 ^ 30) (show 2 > 0 by decide)) (Nat.mod_lt (x / 2 ^ 31) (show 2 > 0 by decide))
  rw [← e] at k
  rw [k]
  have bit : ∀ i, (if x.testBit i = true then 1 else 0) = x / 2 ^ i % 2 := fun i => by
    rw [Nat.testBit_eq_decide_div_mod_eq]
    have := Nat.mod_two_eq_zero_or_one (x / 2 ^ i)
    rcases this with h | h <;> simp [h]
  simp only [ct, bit, Nat.zero_add]
theorem nq_ush {k j : Nat} (hk : k < 2 ^ 32) (hj : j < 32) : ((nI k).toUInt32 >>> ((nI j).toUInt32 &&& Int32.toUInt32 31)).toInt32 = nI (k / 2 ^ j) := by
  have hs : k / 2 ^ j ≤ k := Nat.div_le_self _ _
  have e2 : UInt32.ofNat k >>> (UInt32.ofNat j &&& Int32.toUInt32 31) = UInt32.ofNat (k / 2 ^ j) := by
    apply UInt32.toNat_inj.1
    have h1 : (UInt32.ofNat k).toNat = k := Nat.mod_eq_of_lt hk
    have h2 : (UInt32.ofNat (k / 2 ^ j)).toNat = k / 2 ^ j := Nat.mod_eq_of_lt (by omega)
    rw [UInt32.toNat_shiftRight, nx_cnt ⟨j, hj⟩, h1, h2, Nat.shiftRight_eq_div_pow]
  show (UInt32.ofNat k >>> (UInt32.ofNat j &&& Int32.toUInt32 31)).toInt32 = _
  rw [e2]
  rfl
theorem nq_sub {a b : Nat} (h : b ≤ a) : nI a - nI b = nI (a - b) := by
  have e : nI (a - b) + nI b = nI a := by rw [nI_add, Nat.sub_add_cancel h]
  rw [← e, Int32.add_sub_cancel]
theorem c_bitCount {sa : Nat → Nat} {d : Nat} {Q : mj_Q} {μ : mj_M} {x : Int32} (hQ : Q (some (.int (nI (ct (bt x) 32)))) μ) : EV sa (d + 1) 275 [.int x] μ Q := by
  obtain ⟨y, hy, rfl⟩ := wb_of32 x
  have eb : ct (bt (nI y)) 32 = bcN y := by
    rw [bcN_eq hy]
    refine ct_congr fun i hi => ?_
    show (BitVec.ofNat 32 y).getLsbD i = _
    rw [BitVec.getLsbD_ofNat]
    simp [hi]
  rw [eb] at hQ
  refine n275 ?_
  have s1 : ∀ {k : Nat}, k < 2 ^ 32 → ((nI k).toUInt32 >>> ((1 : Int32).toUInt32 &&& Int32.toUInt32 31)).toInt32 = nI (k / 2) := fun h => nq_ush (j := 1) h (by decide)
  have s2 : ∀ {k : Nat}, k < 2 ^ 32 → ((nI k).toUInt32 >>> ((2 : Int32).toUInt32 &&& Int32.toUInt32 31)).toInt32 = nI (k / 4) := fun h => nq_ush (j := 2) h (by decide)
  have s4 : ∀ {k : Nat}, k < 2 ^ 32 → ((nI k).toUInt32 >>> ((4 : Int32).toUInt32 &&& Int32.toUInt32 31)).toInt32 = nI (k / 16) := fun h => nq_ush (j := 4) h (by decide)
  have s8 : ∀ {k : Nat}, k < 2 ^ 32 → ((nI k).toUInt32 >>> ((8 : Int32).toUInt32 &&& Int32.toUInt32 31)).toInt32 = nI (k / 256) := fun h => nq_ush (j := 8) h (by decide)
  have s16 : ∀ {k : Nat}, k < 2 ^ 32 → ((nI k).toUInt32 >>> ((16 : Int32).toUInt32 &&& Int32.toUInt32 31)).toInt32 = nI (k / 65536) := fun h => nq_ush (j := 16) h (by decide)
  simp only [e275_0, e275_1, e275_2, e275_3, e275_4, e275_7, e275_8, e275_9, e275_10, e275_11, e275_14, e275_15, e275_16, e275_17, e275_18, e275_21, e275_22, e275_23, e275_24, e275_25, e275_26, e275_27, e275_28, e275_29, e275_32, e275_33, e275_34, e275_35, e275_36, e275_38, e275_39, e275_40, e275_41, e275_42, e275_43, e275_45, e275_46, e275_47, e275_48, e275_49, e275_51, e275_52]
  have l1 : (y / 2 &&& 1431655765) ≤ y := Nat.le_trans Nat.and_le_left (Nat.div_le_self _ _)
  refine (congrArg (fun v => Q (some (.int v)) μ) ?_).mpr hQ
  unfold bcN
  simp only []
  rw [s1 hy, nx_and, nq_sub l1]
  generalize hA : y - (y / 2 &&& 1431655765) = A
  have ha : A < 2 ^ 32 := by omega
  rw [s2 ha, nx_and, nx_and, nI_add]
  have hb1 : A &&& 858993459 ≤ 858993459 := Nat.and_le_right
  have hb2 : A / 4 &&& 858993459 ≤ 858993459 := Nat.and_le_right
  generalize hB : (A &&& 858993459) + (A / 4 &&& 858993459) = B
  have hb : B < 2 ^ 32 := by omega
  rw [s4 hb, nI_add, nx_and]
  have hc1 : B + B / 16 &&& 252645135 ≤ 252645135 := Nat.and_le_right
  generalize hC : (B + B / 16 &&& 252645135) = C at *
  have hc : C < 2 ^ 32 := by omega
  rw [s8 hc, nI_add]
  generalize hE : C + C / 256 = E
  have he : E < 2 ^ 32 := by omega
  rw [s16 he, nI_add, show (63 : Int32) = nI 63 from rfl, nx_and]

