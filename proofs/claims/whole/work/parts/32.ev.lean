/-! ===== a plain function ends, and then .. ===== -/
def Ev {α : Type} (o : Option α) (P : α → Prop) : Prop := ∃ a, o = some a ∧ P a
theorem ev_some {α : Type} {a : α} {P : α → Prop} (h : P a) : Ev (some a) P := ⟨a, rfl, h⟩
theorem ev_ck {α : Type} {c : Prop} {d : Decidable c} {k : Option α} {P : α → Prop} (hc : c) (h : Ev k P) : Ev (ck c k) P := by
  exact (show Ev (@ite _ c d k none) P by rw [if_pos hc]; exact h)
theorem ev_nx {α β : Type} {a : α} {k : α → Option β} {P : β → Prop} (h : Ev (k a) P) : Ev (nx a k) P := h
theorem ev_bind {α β : Type} {o : Option α} {k : α → Option β} {P : β → Prop} (h : Ev o fun a => Ev (k a) P) : Ev (o.bind k) P := by
  obtain ⟨a, e, b, e2, q⟩ := h
  exact ⟨b, by rw [e]; exact e2, q⟩
theorem ev_if {α : Type} {c : Prop} {d : Decidable c} {x y : Option α} {P : α → Prop} (h1 : c → Ev x P) (h2 : ¬ c → Ev y P) : Ev (if c then x else y) P := by
  by_cases hc : c
  · rw [if_pos hc]; exact h1 hc
  · rw [if_neg hc]; exact h2 hc
theorem ev_it {α : Type} {c : Prop} {d : Decidable c} {x y : Option α} {P : α → Prop} (hc : c) (h1 : Ev x P) : Ev (if c then x else y) P := by
  rw [if_pos hc]; exact h1
theorem ev_ie {α : Type} {c : Prop} {d : Decidable c} {x y : Option α} {P : α → Prop} (hc : ¬ c) (h1 : Ev y P) : Ev (if c then x else y) P := by
  rw [if_neg hc]; exact h1
theorem ev_mono {α : Type} {o : Option α} {P Q : α → Prop} (h : Ev o P) (w : ∀ a, P a → Q a) : Ev o Q := by
  obtain ⟨a, e, q⟩ := h; exact ⟨a, e, w a q⟩
theorem ob_ev {n : Nat} {A : Option (Int × MH)} {B : MH → Option (Int × MH)} {I : Int → Prop} (h : Ev A (fun a => Ev (B a.2) (fun b => a.1 = b.1 ∧ I a.1 ∧ RR (n + 1) b.2))) : ∃ (r : Int) (h1 h2 : MH), A = some (r, h1) ∧ B h1 = some (r, h2) ∧ I r ∧ RR (n + 1) h2 := by
  obtain ⟨⟨r, h1⟩, e1, ⟨r2, h2⟩, e2, q1, q2, q3⟩ := h
  exact ⟨r, h1, h2, e1, by rw [e2]; rw [show r = r2 from q1], q2, q3⟩
/-- tdiv and tmod of what is not negative -/
theorem td_le {a b : Int} (ha : 0 ≤ a) (hb : 0 < b) : 0 ≤ Int.tdiv a b ∧ Int.tdiv a b ≤ a := by
  rw [Int.tdiv_eq_ediv_of_nonneg ha]
  exact ⟨Int.ediv_nonneg ha (by omega), Int.ediv_le_self _ ha⟩
