/-! ===== the relation between the two objects' cells ===== -/
def Ag (P : Nat → Nat → Prop) (h h' : MH) : Prop := ∀ c k, P c k → h' c k = h c k
theorem Ag.rf {P : Nat → Nat → Prop} {h : MH} : Ag P h h := fun _ _ _ => rfl
theorem Ag.tr {P : Nat → Nat → Prop} {h h' h'' : MH} (a : Ag P h h') (b : Ag P h' h'') : Ag P h h'' := fun c k q => (b c k q).trans (a c k q)
theorem Ag.wk {P P' : Nat → Nat → Prop} {h h' : MH} (a : Ag P h h') (w : ∀ c k, P' c k → P c k) : Ag P' h h' := fun c k q => a c k (w c k q)
theorem Ag.up {P : Nat → Nat → Prop} {h h' : MH} {c0 k0 : Nat} {v : Int} (a : Ag P h h') (w : ¬ P c0 k0) : Ag P h (hup h' c0 k0 v) := fun c k q => by
  unfold hup
  by_cases e : c = c0 ∧ k = k0
  · rw [e.1, e.2] at q; exact absurd q w
  · rw [if_neg e]; exact a c k q
theorem hup_s (h : MH) (c k : Nat) (v : Int) : hup h c k v c k = v := by simp [hup]
theorem hup_n (h : MH) (c k : Nat) (v : Int) (c' k' : Nat) (e : ¬ (c' = c ∧ k' = k)) : hup h c k v c' k' = h c' k' := if_neg e
theorem hup_c (h : MH) (c k : Nat) (v : Int) (c' k' : Nat) (e : c' ≠ c) : hup h c k v c' k' = h c' k' := if_neg (fun q => e q.1)
theorem hup_k (h : MH) (c k : Nat) (v : Int) (k' : Nat) (e : k' ≠ k) : hup h c k v c k' = h c k' := if_neg (fun q => e q.2)
theorem nx_eq {α β : Type} (a : α) (k : α → Option β) : nx a k = k a := rfl
theorem bind_eq {α β : Type} (a : α) (k : α → Option β) : (some a).bind k = k a := rfl
/-! names: letters in base 32 on one side, bytes on the other -/
def en5 (w : List Int) : Int := w.foldl (fun a c => a * 32 + (c - 96)) 0
def en8 (w : List Int) : Int := w.foldl (fun a c => a * 256 + c) 0
def nmR (a b : Int) : Prop := ∃ w : List Int, (∀ c ∈ w, 97 ≤ c ∧ c ≤ 122) ∧ w.length ≤ 8 ∧ a = en5 w ∧ b = en8 w
/-! zones -/
def Z1 (c k : Nat) : Prop := (c = 0 ∧ k ≤ 2) ∨ (c = 141 ∧ 1 ≤ k ∧ k ≤ 3)
def Z2 (c _k : Nat) : Prop := (2 ≤ c ∧ c ≤ 7) ∨ (143 ≤ c ∧ c ≤ 145)
def Z3 (c k : Nat) : Prop := (c = 8 ∧ (k = 1 ∨ k = 9 ∨ k = 10)) ∨ c = 9 ∨ (c = 141 ∧ (k = 9 ∨ k = 15 ∨ k = 16)) ∨ c = 146
def Zp (p b c k : Nat) : Prop := (p ≤ c ∧ c ≤ p + 14) ∨ (c = 142 ∧ b ≤ k ∧ k < b + 190 ∧ k ≠ b + 5)
def Zs (q b c k : Nat) : Prop := (q ≤ c ∧ c ≤ q + 4) ∨ (c = 142 ∧ (k = b + 5 ∨ (b + 190 ≤ k ∧ k < b + 440)))
def Z6 (c k : Nat) : Prop := (c = 0 ∧ k = 13) ∨ (81 ≤ c ∧ c ≤ 140) ∨ (c = 141 ∧ k = 50) ∨ (c = 142 ∧ 440 ≤ k ∧ k < 1760)
def Z7 (c k : Nat) : Prop := (c = 56 ∧ 1 ≤ k ∧ k ≤ 3) ∨ c = 68 ∨ (c = 141 ∧ (k = 23 ∨ k = 24 ∨ k = 27)) ∨ c = 152
def Z8 (c k : Nat) : Prop := (c = 70 ∧ k ≤ 4) ∨ (c = 141 ∧ 29 ≤ k ∧ k ≤ 31)
def Z9 (c k : Nat) : Prop := (c = 73 ∧ 1 ≤ k ∧ k ≤ 4) ∨ (c = 141 ∧ (k = 40 ∨ k = 41)) ∨ c = 159
def Z10 (c k : Nat) : Prop := (c = 75 ∧ k = 2) ∨ c = 77 ∨ (c = 141 ∧ k = 45) ∨ c = 162
def Z11 (c k : Nat) : Prop := (c = 78 ∧ k = 1) ∨ c = 79 ∨ (c = 141 ∧ k = 49) ∨ c = 164
def Z12 (c _k : Nat) : Prop := c = 160
/-! relations, zone by zone -/
def R1 (h : MH) : Prop := (0 ≤ h 0 0 ∧ h 0 0 ≤ 9 ∧ h 141 1 = h 0 0) ∧ (in64 (h 0 1) ∧ h 141 2 = h 0 1) ∧ (in64 (h 0 2) ∧ h 141 3 = h 0 2)
def R2 (h : MH) : Prop := ∀ t : Nat, t < 4 → (0 ≤ h 6 t ∧ h 6 t ≤ 3 ∧ h 143 t = h 6 t) ∧ (-1 ≤ h 7 t ∧ h 7 t ≤ 60 ∧ h 144 t = h 7 t) ∧ ∀ k : Nat, (k : Int) < h 7 t → in64 (h (2 + t) k) ∧ h 145 (60 * t + k) = h (2 + t) k
def R3 (h : MH) : Prop := (0 ≤ h 8 1 ∧ h 8 1 ≤ 700 ∧ h 141 9 = h 8 1) ∧ (in32 (h 8 9) ∧ h 141 15 = h 8 9) ∧ (in32 (h 8 10) ∧ h 141 16 = h 8 10) ∧ ∀ k : Nat, (k : Int) < h 8 1 → (-128 ≤ h 9 k ∧ h 9 k ≤ 127) ∧ h 146 k = h 9 k
/-- a machine: plan at cell p, the other's slot at b, B calls so far -/
def MR (p b B m : Nat) (h : MH) : Prop :=
  (1 ≤ h (p + 2) m ∧ h (p + 2) m ≤ 99 ∧ h 142 (b + 8 + 16 * m) = h (p + 2) m) ∧
  (1 ≤ h (p + 13) m ∧ h (p + 13) m ≤ 24 ∧ h 142 (b + 8 + 16 * m + 1) = h (p + 13) m) ∧
  (0 ≤ h (p + 3) m ∧ h (p + 3) m ≤ 64 ∧ h 142 (b + 8 + 16 * m + 2) = h (p + 3) m) ∧
  (0 ≤ h (p + 4) m ∧ h (p + 4) m ≤ 99 ∧ h 142 (b + 8 + 16 * m + 3) = h (p + 4) m ∧ (0 < h (p + 3) m → 1 ≤ h (p + 4) m)) ∧
  (0 ≤ h (p + 6) m ∧ h (p + 6) m ≤ 99 ∧ h 142 (b + 8 + 16 * m + 4) = h (p + 6) m) ∧
  (-1 ≤ h (p + 7) m ∧ h (p + 7) m ≤ 3 ∧ h 142 (b + 8 + 16 * m + 5) = h (p + 7) m ∧ (h (p + 7) m = -1 ↔ h (p + 1) 7 = 0)) ∧
  (0 ≤ h (p + 8) m ∧ h (p + 8) m ≤ 600000 * B ∧ h 142 (b + 8 + 16 * m + 6) = h (p + 8) m) ∧
  (∀ s : Nat, s < 4 → 0 ≤ h (p + 10) (4 * m + s) ∧ h (p + 10) (4 * m + s) ≤ 6000 * B ∧ h 142 (b + 8 + 16 * m + 7 + s) = h (p + 10) (4 * m + s)) ∧
  (0 ≤ h (p + 5) m ∧ h (p + 5) m ≤ 999 ∧ h 142 (b + 8 + 16 * m + 11) = h (p + 5) m) ∧
  (0 ≤ h (p + 9) m ∧ h (p + 9) m ≤ h (p + 5) m ∧ h 142 (b + 8 + 16 * m + 12) = h (p + 9) m) ∧
  nmR (h (p + 12) m) (h 142 (b + 8 + 16 * m + 13))
/-- the plan with its floor -/
def PR (p b B : Nat) (h : MH) : Prop :=
  (0 ≤ h (p + 1) 0 ∧ h (p + 1) 0 ≤ 6 ∧ h 142 b = h (p + 1) 0) ∧
  (0 ≤ h p 4 ∧ h p 4 ≤ 7 ∧ h 142 (b + 1) = h p 4) ∧
  (0 ≤ h (p + 1) 7 ∧ h (p + 1) 7 ≤ 1000 * B ∧ h 142 (b + 2) = h (p + 1) 7) ∧
  (0 ≤ h (p + 1) 5 ∧ h (p + 1) 5 ≤ 9999 ∧ h 142 (b + 3) = h (p + 1) 5) ∧
  (0 ≤ h (p + 1) 6 ∧ h (p + 1) 6 ≤ 65535 ∧ h 142 (b + 4) = h (p + 1) 6) ∧
  (∀ m : Nat, (m : Int) < h (p + 1) 0 → MR p b B m h) ∧
  (∀ k : Nat, k < 36 → 0 ≤ h (p + 11) k ∧ h (p + 11) k ≤ 6000 * B ∧ h 142 (b + 104 + k) = h (p + 11) k) ∧
  (∀ k : Nat, k < 49 → -1 ≤ h (p + 14) k ∧ h (p + 14) k ≤ 999 ∧ h 142 (b + 140 + k) = if h (p + 14) k = -1 then 10 else h (p + 14) k)
/-- how many of the other's first e entries are steps (no end) -/
def cntS (b : Nat) (h : MH) : Nat → Nat
  | 0 => 0
  | e + 1 => cntS b h e + (if h 142 (b + 190 + 4 * e) = 6 then 0 else 1)
/-- entry e of the other's shift beside the class's step -/
def SR1 (q b e : Nat) (h : MH) : Prop :=
  let K := h 142 (b + 190 + 4 * e)
  (0 ≤ K ∧ K ≤ 6) ∧
  (K ≠ 6 → h (q + 1) (cntS b h e) = K ∧ (K = 1 ∨ K = 2 ∨ K = 3 ∨ K = 5 → nmR (h (q + 2) (cntS b h e)) (h 142 (b + 190 + 4 * e + 1))) ∧ (K ≠ 3 → h (q + 3) (cntS b h e) = h 142 (b + 190 + 4 * e + 2)) ∧ (K = 3 → h 142 (b + 190 + 4 * e + 2) = 0) ∧ (K = 0 → 1 ≤ h 142 (b + 190 + 4 * e + 2) ∧ h 142 (b + 190 + 4 * e + 2) ≤ 60) ∧ (K = 1 → 1 ≤ h 142 (b + 190 + 4 * e + 2) ∧ h 142 (b + 190 + 4 * e + 2) ≤ 99) ∧ (K = 2 → 0 ≤ h 142 (b + 190 + 4 * e + 2) ∧ h 142 (b + 190 + 4 * e + 2) ≤ 99) ∧ (K = 4 → 1 ≤ h 142 (b + 190 + 4 * e + 2) ∧ h 142 (b + 190 + 4 * e + 2) ≤ 9) ∧ (K = 5 → 0 ≤ h 142 (b + 190 + 4 * e + 2) ∧ h 142 (b + 190 + 4 * e + 2) ≤ 3)) ∧
  (K = 4 ∨ K = 5 → ∃ l : Nat, h 142 (b + 190 + 4 * e + 3) = (l : Int) ∧ e < l ∧ (l : Int) < h 142 (b + 5) ∧ h 142 (b + 190 + 4 * l) = 6 ∧ h 142 (b + 190 + 4 * l + 3) = (e : Int) ∧ h (q + 4) (cntS b h e) = (cntS b h l : Int)) ∧
  (K = 6 → ∃ o : Nat, h 142 (b + 190 + 4 * e + 3) = (o : Int) ∧ o < e ∧ (h 142 (b + 190 + 4 * o) = 4 ∨ h 142 (b + 190 + 4 * o) = 5) ∧ h 142 (b + 190 + 4 * o + 3) = (e : Int))
/-- how many blocks are open ahead of entry e -/
def opnS (b : Nat) (h : MH) : Nat → Int
  | 0 => 0
  | e + 1 => opnS b h e + (if h 142 (b + 190 + 4 * e) = 6 then -1 else if h 142 (b + 190 + 4 * e) = 4 ∨ h 142 (b + 190 + 4 * e) = 5 then 1 else 0)
/-- the shift at cell q, the other's slot at b -/
def SR (q b : Nat) (h : MH) : Prop := ∃ E : Nat, h 142 (b + 5) = (E : Int) ∧ E ≤ 60 ∧ h q 0 = (cntS b h E : Int) ∧ cntS b h E ≤ 30 ∧ opnS b h E = 0 ∧ (∀ e : Nat, e ≤ E → 0 ≤ opnS b h e ∧ opnS b h e ≤ 3) ∧ (∀ e : Nat, e < E → SR1 q b e h) ∧ ∀ e l : Nat, e < E → h 142 (b + 190 + 4 * e + 3) = (l : Int) → (h 142 (b + 190 + 4 * e) = 4 ∨ h 142 (b + 190 + 4 * e) = 5) → opnS b h l = opnS b h e + 1 ∧ ∀ j, e < j → j ≤ l → opnS b h e < opnS b h j
def R6 (B : Nat) (h : MH) : Prop := (0 ≤ h 0 13 ∧ h 0 13 ≤ 3 ∧ h 141 50 = h 0 13) ∧ ∀ j : Nat, (j : Int) < h 0 13 → PR (81 + 20 * j) (440 * (j + 1)) B h ∧ SR (96 + 20 * j) (440 * (j + 1)) h
def R7 (h : MH) : Prop := ((h 56 1 = 0 ∨ h 56 1 = 1) ∧ h 141 24 = h 56 1) ∧ (h 56 1 = 1 → in32 (h 56 2) ∧ h 141 23 = h 56 2) ∧ (0 ≤ h 56 3 ∧ h 56 3 ≤ 5 ∧ h 141 27 = h 56 3) ∧ ∀ k : Nat, (k : Int) < h 56 3 → 0 ≤ h 68 k ∧ h 68 k ≤ 8 ∧ h 152 k = h 68 k
def R8 (h : MH) : Prop := (h 70 0 = 0 ∧ h 141 30 = -1) ∨ (h 70 0 = 1 ∧ (h 70 4 = 0 ∨ h 70 4 = 1) ∧ h 141 30 = h 70 4 ∧ (0 ≤ h 70 2 ∧ h 70 2 ≤ 1000 ∧ h 141 29 = h 70 2) ∧ (0 ≤ h 70 3 ∧ h 70 3 ≤ 600000 ∧ h 141 31 = h 70 3))
def R9 (h : MH) : Prop := (h 73 2 = 0 ∧ h 141 41 = -1 ∧ h 141 40 = 0) ∨ ((1 ≤ h 73 2 ∧ h 73 2 ≤ 20736 ∧ h 141 40 = h 73 2) ∧ (0 ≤ h 73 1 ∧ h 73 1 ≤ 2 ∧ h 141 41 = h 73 1) ∧ (1 ≤ h 73 1 → 0 ≤ h 73 3 ∧ h 73 3 < 144 ∧ h 159 0 = (h 73 3).tdiv 24 ∧ h 159 1 = (h 73 3).tmod 24) ∧ (h 73 1 = 2 → 0 ≤ h 73 4 ∧ h 73 4 < 144 ∧ h 159 2 = (h 73 4).tdiv 24 ∧ h 159 3 = (h 73 4).tmod 24))
def R10 (h : MH) : Prop := (0 ≤ h 75 2 ∧ h 75 2 ≤ 7 ∧ h 141 45 = h 75 2) ∧ ∀ k : Nat, (k : Int) < h 75 2 → 0 ≤ h 77 k ∧ h 77 k ≤ 6 ∧ h 162 k = h 77 k
def R11 (h : MH) : Prop := (0 ≤ h 78 1 ∧ h 78 1 ≤ 8 ∧ h 141 49 = h 78 1) ∧ ∀ k : Nat, (k : Int) < h 78 1 → 0 ≤ h 79 k ∧ h 79 k ≤ 7 ∧ h 164 k = h 79 k
def R12 (h : MH) : Prop := ∀ k : Nat, k < 10200 → h 160 k = 0
/-- THE RELATION, after n calls -/
def RR (n : Nat) (h : MH) : Prop := R1 h ∧ R2 h ∧ R3 h ∧ PR 34 0 n h ∧ SR 49 0 h ∧ R6 n h ∧ R7 h ∧ R8 h ∧ R9 h ∧ R10 h ∧ R11 h ∧ R12 h
