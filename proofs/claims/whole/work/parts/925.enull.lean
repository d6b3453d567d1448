section
variable {sa : Nat → Nat} {d k z a : Nat} {Q : mj_Q} {L st : List Value} {μ : mj_M}
theorem e208_4r : WP sa (EV sa d) 208 Q k z 4 L (.ref a :: st) μ = WP sa (EV sa d) 208 Q k z 7 L st μ := by rw [← rf_some a, e208_4]; simp
theorem e209_4r : WP sa (EV sa d) 209 Q k z 4 L (.ref a :: st) μ = WP sa (EV sa d) 209 Q k z 7 L st μ := by rw [← rf_some a, e209_4]; simp
theorem e210_4r : WP sa (EV sa d) 210 Q k z 4 L (.ref a :: st) μ = WP sa (EV sa d) 210 Q k z 7 L st μ := by rw [← rf_some a, e210_4]; simp
theorem e211_4r : WP sa (EV sa d) 211 Q k z 4 L (.ref a :: st) μ = WP sa (EV sa d) 211 Q k z 7 L st μ := by rw [← rf_some a, e211_4]; simp
theorem e217_9r : WP sa (EV sa d) 217 Q k z 9 L (.ref a :: st) μ = WP sa (EV sa d) 217 Q k z 20 L st μ := by rw [← rf_some a, e217_9]; simp
theorem e230_9r : WP sa (EV sa d) 230 Q k z 9 L (.ref a :: st) μ = WP sa (EV sa d) 230 Q k z 20 L st μ := by rw [← rf_some a, e230_9]; simp
theorem e234_9r : WP sa (EV sa d) 234 Q k z 9 L (.ref a :: st) μ = WP sa (EV sa d) 234 Q k z 12 L st μ := by rw [← rf_some a, e234_9]; simp
theorem e236_9r : WP sa (EV sa d) 236 Q k z 9 L (.ref a :: st) μ = WP sa (EV sa d) 236 Q k z 18 L st μ := by rw [← rf_some a, e236_9]; simp
theorem e238_9r : WP sa (EV sa d) 238 Q k z 9 L (.ref a :: st) μ = WP sa (EV sa d) 238 Q k z 18 L st μ := by rw [← rf_some a, e238_9]; simp
theorem e240_9r : WP sa (EV sa d) 240 Q k z 9 L (.ref a :: st) μ = WP sa (EV sa d) 240 Q k z 12 L st μ := by rw [← rf_some a, e240_9]; simp
theorem e241_4r : WP sa (EV sa d) 241 Q k z 4 L (.ref a :: st) μ = WP sa (EV sa d) 241 Q k z 7 L st μ := by rw [← rf_some a, e241_4]; simp
theorem e253_4r : WP sa (EV sa d) 253 Q k z 4 L (.ref a :: st) μ = WP sa (EV sa d) 253 Q k z 9 L st μ := by rw [← rf_some a, e253_4]; simp
theorem e254_4r : WP sa (EV sa d) 254 Q k z 4 L (.ref a :: st) μ = WP sa (EV sa d) 254 Q k z 11 L st μ := by rw [← rf_some a, e254_4]; simp
theorem e254_29r : WP sa (EV sa d) 254 Q k z 29 L (.ref a :: st) μ = WP sa (EV sa d) 254 Q k z 32 L st μ := by rw [← rf_some a, e254_29]; simp
theorem e264_9r : WP sa (EV sa d) 264 Q k z 9 L (.ref a :: st) μ = WP sa (EV sa d) 264 Q k z 18 L st μ := by rw [← rf_some a, e264_9]; simp
theorem e268_9r : WP sa (EV sa d) 268 Q k z 9 L (.ref a :: st) μ = WP sa (EV sa d) 268 Q k z 18 L st μ := by rw [← rf_some a, e268_9]; simp
theorem e270_9r : WP sa (EV sa d) 270 Q k z 9 L (.ref a :: st) μ = WP sa (EV sa d) 270 Q k z 18 L st μ := by rw [← rf_some a, e270_9]; simp
theorem e271_9r : WP sa (EV sa d) 271 Q k z 9 L (.ref a :: st) μ = WP sa (EV sa d) 271 Q k z 12 L st μ := by rw [← rf_some a, e271_9]; simp
theorem e272_11r : WP sa (EV sa d) 272 Q k z 11 L (.ref a :: st) μ = WP sa (EV sa d) 272 Q k z 14 L st μ := by rw [← rf_some a, e272_11]; simp
theorem e272_32r : WP sa (EV sa d) 272 Q k z 32 L (.ref a :: st) μ = WP sa (EV sa d) 272 Q k z 35 L st μ := by rw [← rf_some a, e272_32]; simp
theorem e273_32r : WP sa (EV sa d) 273 Q k z 32 L (.ref a :: st) μ = WP sa (EV sa d) 273 Q k z 37 L st μ := by rw [← rf_some a, e273_32]; simp
end
