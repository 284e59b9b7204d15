/-! ===== the start ===== -/
theorem ini_1 : R1 h_ini := ⟨⟨by decide, by decide, by decide⟩, ⟨by decide, by decide⟩, ⟨by decide, by decide⟩⟩
theorem ini_2 : R2 h_ini := by
  intro t ht
  have e : t = 0 ∨ t = 1 ∨ t = 2 ∨ t = 3 := by omega
  rcases e with e | e | e | e <;> subst e <;> refine ⟨by decide, by decide, fun k hk => ?_⟩
  · exact absurd (show (k : Int) < -1 from hk) (by omega)
  · exact absurd (show (k : Int) < -1 from hk) (by omega)
  · exact absurd (show (k : Int) < -1 from hk) (by omega)
  · exact absurd (show (k : Int) < -1 from hk) (by omega)
theorem ini_3 : R3 h_ini := ⟨by decide, by decide, by decide, fun k hk => absurd (show (k : Int) < 0 from hk) (by omega)⟩
theorem ini_z (c k : Nat) (hc : c = 45 ∨ c = 142 ∨ c = 160) : h_ini c k = 0 := by
  rcases hc with e | e | e <;> subst e <;> rfl
theorem ini_48 (k : Nat) : h_ini 48 k = 0 := rfl
theorem ini_p : PR 34 0 0 h_ini := by
  refine ⟨by decide, by decide, by decide, by decide, by decide, fun m hm => absurd (show (m : Int) < 0 from hm) (by omega), fun k hk => ?_, fun k hk => ?_⟩
  · rw [ini_z (34 + 11) k (Or.inl rfl), ini_z 142 _ (Or.inr (Or.inl rfl))]; exact ⟨by decide, by decide, rfl⟩
  · rw [ini_48 k, ini_z 142 _ (Or.inr (Or.inl rfl))]; exact ⟨by decide, by decide, rfl⟩
theorem ini_s : SR 49 0 h_ini := by
  refine ⟨0, by decide, by decide, by decide, by decide, by decide, fun e he => ?_, fun e he => absurd he (by omega), fun e l he => absurd he (by omega)⟩
  have : e = 0 := by omega
  subst this
  exact ⟨by decide, by decide⟩
theorem ini_6 : R6 0 h_ini := ⟨by decide, fun j hj => absurd (show (j : Int) < 0 from hj) (by omega)⟩
theorem ini_7 : R7 h_ini := ⟨by decide, by decide, by decide, fun k hk => absurd (show (k : Int) < 0 from hk) (by omega)⟩
theorem ini_8 : R8 h_ini := Or.inl ⟨by decide, by decide⟩
theorem ini_9 : R9 h_ini := Or.inl ⟨by decide, by decide, by decide⟩
theorem ini_10 : R10 h_ini := ⟨by decide, fun k hk => absurd (show (k : Int) < 0 from hk) (by omega)⟩
theorem ini_11 : R11 h_ini := ⟨by decide, fun k hk => absurd (show (k : Int) < 0 from hk) (by omega)⟩
theorem RR_0 : RR 0 h_ini := ⟨ini_1, ini_2, ini_3, ini_p, ini_s, ini_6, ini_7, ini_8, ini_9, ini_10, ini_11, fun k _ => ini_z 160 k (Or.inr (Or.inr rfl))⟩
