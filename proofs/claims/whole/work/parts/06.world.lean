/-! ===== the layout: which cell is what, once the two objects are made ===== -/
def zKl : List (Nat × Nat) := [(11, 19), (26, 4), (22, 60), (22, 60), (22, 60), (22, 60), (21, 4), (21, 4), (8, 11), (20, 700), (3, 6), (5, 5), (1, 14), (21, 6), (21, 6), (21, 6), (21, 6), (21, 6), (21, 6), (21, 6), (21, 6), (21, 24), (21, 36), (22, 6), (21, 6), (21, 49), (22, 7), (7, 4), (6, 5), (21, 30), (22, 30), (21, 30), (21, 30), (21, 3), (5, 5), (1, 14), (21, 6), (21, 6), (21, 6), (21, 6), (21, 6), (21, 6), (21, 6), (21, 6), (21, 24), (21, 36), (22, 6), (21, 6), (21, 49), (6, 5), (21, 30), (22, 30), (21, 30), (21, 30), (24, 3), (25, 3), (9, 7), (1, 14), (21, 6), (21, 6), (21, 6), (21, 6), (21, 6), (21, 6), (21, 6), (21, 6), (21, 24), (21, 36), (21, 5), (21, 5), (0, 9), (21, 3), (21, 3), (2, 5), (22, 144), (10, 4), (21, 7), (21, 7), (4, 3), (21, 8), (22, 8), (5, 5), (1, 14), (21, 6), (21, 6), (21, 6), (21, 6), (21, 6), (21, 6), (21, 6), (21, 6), (21, 24), (21, 36), (22, 6), (21, 6), (21, 49), (6, 5), (21, 30), (22, 30), (21, 30), (21, 30), (5, 5), (1, 14), (21, 6), (21, 6), (21, 6), (21, 6), (21, 6), (21, 6), (21, 6), (21, 6), (21, 24), (21, 36), (22, 6), (21, 6), (21, 49), (6, 5), (21, 30), (22, 30), (21, 30), (21, 30), (5, 5), (1, 14), (21, 6), (21, 6), (21, 6), (21, 6), (21, 6), (21, 6), (21, 6), (21, 6), (21, 24), (21, 36), (22, 6), (21, 6), (21, 49), (6, 5), (21, 30), (22, 30), (21, 30), (21, 30), (12, 51), (22, 2640), (21, 4), (21, 4), (22, 240), (20, 700), (20, 700), (22, 7), (23, 49), (21, 3), (21, 5), (21, 5), (21, 64), (23, 10000), (21, 144), (21, 144), (21, 144), (21, 60), (21, 4), (23, 10200), (21, 896), (21, 7), (21, 8), (21, 8), (21, 8)]
def zK (c : Nat) : Nat × Nat := zKl.getD c (99, 0)
abbrev zN : Nat := 166
def zRf (kd k c : Nat) : Option Nat := match kd with
  | 0 => (match k with | 7 => some 71 | 8 => some 72 | _ => none)
  | 1 => (match k with | 1 => some (c + 1) | 2 => some (c + 2) | 3 => some (c + 3) | 4 => some (c + 4) | 8 => some (c + 5) | 9 => some (c + 6) | 10 => some (c + 7) | 11 => some (c + 8) | 12 => some (c + 9) | 13 => some (c + 10) | _ => none)
  | 2 => (match k with | 0 => some 74 | _ => none)
  | 3 => (match k with | 0 => some 8 | 1 => some 11 | 2 => some 26 | _ => none)
  | 4 => (match k with | 0 => some 79 | 2 => some 80 | _ => none)
  | 5 => (match k with | 0 => some (c + 1) | 1 => some (c + 12) | 2 => some (c + 13) | 3 => some (c + 14) | _ => none)
  | 6 => (match k with | 1 => some (c + 1) | 2 => some (c + 2) | 3 => some (c + 3) | 4 => some (c + 4) | _ => none)
  | 7 => (match k with | 0 => some 8 | 1 => some 28 | 2 => some 33 | _ => none)
  | 8 => (match k with | 0 => some 9 | _ => none)
  | 9 => (match k with | 0 => some 57 | 4 => some 68 | 5 => some 69 | _ => none)
  | 10 => (match k with | 0 => some 76 | 1 => some 77 | _ => none)
  | 11 => (match k with | 3 => some 1 | 4 => some 6 | 5 => some 7 | 6 => some 8 | 7 => some 10 | 8 => some 27 | 9 => some 34 | 10 => some 49 | 11 => some 54 | 12 => some 55 | 14 => some 56 | 15 => some 70 | 16 => some 73 | 17 => some 75 | 18 => some 78 | _ => none)
  | 12 => (match k with | 0 => some 142 | 4 => some 143 | 5 => some 144 | 6 => some 145 | 7 => some 146 | 8 => some 147 | 18 => some 148 | 19 => some 149 | 20 => some 150 | 25 => some 151 | 26 => some 152 | 28 => some 153 | 33 => some 154 | 34 => some 155 | 35 => some 156 | 36 => some 157 | 37 => some 158 | 38 => some 159 | 42 => some 160 | 43 => some 161 | 44 => some 162 | 46 => some 163 | 47 => some 164 | 48 => some 165 | _ => none)
  | 24 => some (81 + 20 * k)
  | 25 => some (96 + 20 * k)
  | 26 => some (c + 1 + k)
  | _ => none
def zG : GH := fun c k => zRf (zK c).1 k c
def zfk (t : FieldType) : Nat := match t with
  | .long => 1
  | .array _ => 2
  | .object _ => 2
  | _ => 0
def zft (ci k : Nat) : FieldType := match ci with
  | 0 => tyX0 k
  | 1 => tyX1 k
  | 2 => tyX2 k
  | 3 => tyX3 k
  | 4 => tyX4 k
  | 5 => tyX5 k
  | 6 => tyX6 k
  | 7 => tyX7 k
  | 8 => tyX8 k
  | 9 => tyX9 k
  | 10 => tyX10 k
  | 11 => tyX11 k
  | _ => tyX12 k
def zfv (ad : Nat → Nat) (ci k c : Nat) (g : GH) (h : MH) : Value := match zfk (zft ci k) with
  | 0 => iv (h c k)
  | 1 => lvv (h c k)
  | _ => va_rf ((g c k).map ad)
def zE (ad : Nat → Nat) (cy : Nat → ClassId) (g : GH) (h : MH) (c : Nat) : va_E :=
  if (zK c).1 < 13 then .inr ((zK c).1, (List.range (zK c).2).map fun k => zfv ad (zK c).1 k c g h)
  else if (zK c).1 = 22 then .inl (cy 2, (zK c).2, .inr (.inl fun j => Int64.ofInt (h c j)))
  else if 24 ≤ (zK c).1 then .inl (cy ((zK c).1 - 20), (zK c).2, .inr (.inr (.inr (.inr fun j => (g c j).map ad))))
  else .inl (cy ((zK c).1 - 20), (zK c).2, .inl fun j => Int32.ofInt (h c j))
def zW (ad : Nat → Nat) (cy : Nat → ClassId) (n : Nat) (g : GH) (h : MH) : va_W := (List.range n).map fun c => (ad c, zE ad cy g h c)
theorem zW_at {ad : Nat → Nat} {cy : Nat → ClassId} {n : Nat} {g : GH} {h : MH} {c : Nat} (hc : c < n) : (zW ad cy n g h)[c]? = some (ad c, zE ad cy g h c) := by simp [zW, hc]
theorem zW_inv {ad : Nat → Nat} {cy : Nat → ClassId} {n : Nat} {g : GH} {h : MH} {c : Nat} {q : Nat × va_E} (hq : (zW ad cy n g h)[c]? = some q) : c < n ∧ q = (ad c, zE ad cy g h c) := by
  by_cases hc : c < n
  · rw [zW_at hc] at hq; exact ⟨hc, (Option.some.inj hq).symm⟩
  · rw [zW, List.getElem?_map, List.getElem?_eq_none (by simpa using hc)] at hq; cases hq
theorem zW_len {ad : Nat → Nat} {cy : Nat → ClassId} {n : Nat} {g : GH} {h : MH} : (zW ad cy n g h).length = n := by simp [zW]
theorem zW_set {ad : Nat → Nat} {cy : Nat → ClassId} {n : Nat} {g g' : GH} {h h' : MH} {c : Nat} {e : va_E} (hc : c < n) (he : e = zE ad cy g' h' c) (ho : ∀ c', c' ≠ c → zE ad cy g' h' c' = zE ad cy g h c') : (zW ad cy n g h).set c (ad c, e) = zW ad cy n g' h' := by
  apply List.ext_getElem?
  intro i
  by_cases hi : i = c
  · subst hi
    rw [List.getElem?_set_self (by rw [zW_len]; exact hc), zW_at hc, he]
  · rw [List.getElem?_set_ne (fun q => hi q.symm)]
    by_cases hn : i < n
    · rw [zW_at hn, zW_at hn, ho i hi]
    · rw [List.getElem?_eq_none (by rw [zW_len]; omega), List.getElem?_eq_none (by rw [zW_len]; omega)]
def zInj (ad : Nat → Nat) (A : Nat → Prop) (n : Nat) : Prop := (∀ i j : Nat, i < n → j < n → ad i = ad j → i = j) ∧ ∀ i : Nat, i < n → A (ad i)
theorem zW_D {ad : Nat → Nat} {cy : Nat → ClassId} {A : Nat → Prop} {n : Nat} {g : GH} {h : MH} (hI : zInj ad A n) : va_D A (zW ad cy n g h) := by
  refine ⟨fun i j p q hi hj hpq => ?_, fun k q hk => ?_⟩
  · obtain ⟨h1, rfl⟩ := zW_inv hi
    obtain ⟨h2, rfl⟩ := zW_inv hj
    exact hI.1 i j h1 h2 hpq
  · obtain ⟨h1, rfl⟩ := zW_inv hk
    exact hI.2 k h1
theorem zE_ne {ad : Nat → Nat} {cy : Nat → ClassId} {g : GH} {h : MH} {c k : Nat} {v : Int} {c' : Nat} (hc : c' ≠ c) : zE ad cy g (hup h c k v) c' = zE ad cy g h c' := by
  simp [zE, zfv, hup, hc]
theorem zE_neg {ad : Nat → Nat} {cy : Nat → ClassId} {g : GH} {h : MH} {c k : Nat} {v : Nat} {c' : Nat} (hc : c' ≠ c) : zE ad cy (gup g c k v) h c' = zE ad cy g h c' := by
  simp [zE, zfv, gup, hc]
theorem zE_o {ad : Nat → Nat} {cy : Nat → ClassId} {g : GH} {h : MH} {c ci nf : Nat} (hK : zK c = (ci, nf)) (hci : ci < 13) : zE ad cy g h c = .inr (ci, (List.range nf).map fun k => zfv ad ci k c g h) := by
  simp [zE, hK, hci]
theorem zE_i {ad : Nat → Nat} {cy : Nat → ClassId} {g : GH} {h : MH} {c t len : Nat} (hK : zK c = (20 + t, len)) (ht : t = 0 ∨ t = 1 ∨ t = 3) : zE ad cy g h c = .inl (cy t, len, .inl fun j => Int32.ofInt (h c j)) := by
  rcases ht with rfl | rfl | rfl <;> simp [zE, hK]
theorem zE_l {ad : Nat → Nat} {cy : Nat → ClassId} {g : GH} {h : MH} {c len : Nat} (hK : zK c = (22, len)) : zE ad cy g h c = .inl (cy 2, len, .inr (.inl fun j => Int64.ofInt (h c j))) := by
  simp [zE, hK]
theorem zE_q {ad : Nat → Nat} {cy : Nat → ClassId} {g : GH} {h : MH} {c t len : Nat} (hK : zK c = (20 + t, len)) (ht : 4 ≤ t) : zE ad cy g h c = .inl (cy t, len, .inr (.inr (.inr (.inr fun j => (g c j).map ad)))) := by
  simp [zE, hK, show ¬ 20 + t < 13 by omega, show ¬ 20 + t = 22 by omega, show 24 ≤ 20 + t by omega]
def zTys (cy : Nat → ClassId) : List (ClassId × FieldType) := [(cy 0, .byte), (cy 1, .int), (cy 2, .long), (cy 3, .boolean), (cy 4, .object "BottleLine$Plan"), (cy 5, .object "BottleLine$Script"), (cy 6, .array .long)]
/-! the String constants -/
def zsT : List (String × Nat × String) := [("BottleLine$LineReader", 53, "machine"), ("BottleLine$LineReader", 83, "speed"), ("BottleLine$LineReader", 85, "heads"), ("BottleLine$LineReader", 87, "stops"), ("BottleLine$LineReader", 89, "lasts"), ("BottleLine$LineReader", 62, "table"), ("BottleLine$LineReader", 67, "sort"), ("BottleLine$LineReader", 72, "wash"), ("BottleLine$ShiftReader", 45, "end"), ("BottleLine$ShiftReader", 81, "run"), ("BottleLine$ShiftReader", 83, "speed"), ("BottleLine$ShiftReader", 85, "halt"), ("BottleLine$ShiftReader", 87, "mend"), ("BottleLine$ShiftReader", 89, "loop"), ("BottleLine$ShiftReader", 91, "when"), ("BottleLine$ShiftReader", 126, "works"), ("BottleLine$ShiftReader", 130, "starved"), ("BottleLine$ShiftReader", 132, "blocked"), ("BottleLine$ShiftReader", 134, "stopped"), ("BottleLineModel", 186, " machine table sort wash speed heads stops lasts "), ("BottleLineModel", 254, " run speed halt mend loop when end works starved blocked stopped ")]
def zsO (i : Nat) : String := (zsT.getD i ("", 0, "")).1
def zsI (i : Nat) : Nat := (zsT.getD i ("", 0, "")).2.1
def zsX (i : Nat) : String := (zsT.getD i ("", 0, "")).2.2
def zsB : List (List Int) := [[109, 97, 99, 104, 105, 110, 101], [115, 112, 101, 101, 100], [104, 101, 97, 100, 115], [115, 116, 111, 112, 115], [108, 97, 115, 116, 115], [116, 97, 98, 108, 101], [115, 111, 114, 116], [119, 97, 115, 104], [101, 110, 100], [114, 117, 110], [115, 112, 101, 101, 100], [104, 97, 108, 116], [109, 101, 110, 100], [108, 111, 111, 112], [119, 104, 101, 110], [119, 111, 114, 107, 115], [115, 116, 97, 114, 118, 101, 100], [98, 108, 111, 99, 107, 101, 100], [115, 116, 111, 112, 112, 101, 100], [32, 109, 97, 99, 104, 105, 110, 101, 32, 116, 97, 98, 108, 101, 32, 115, 111, 114, 116, 32, 119, 97, 115, 104, 32, 115, 112, 101, 101, 100, 32, 104, 101, 97, 100, 115, 32, 115, 116, 111, 112, 115, 32, 108, 97, 115, 116, 115, 32], [32, 114, 117, 110, 32, 115, 112, 101, 101, 100, 32, 104, 97, 108, 116, 32, 109, 101, 110, 100, 32, 108, 111, 111, 112, 32, 119, 104, 101, 110, 32, 101, 110, 100, 32, 119, 111, 114, 107, 115, 32, 115, 116, 97, 114, 118, 101, 100, 32, 98, 108, 111, 99, 107, 101, 100, 32, 115, 116, 111, 112, 112, 101, 100, 32]]
def sch (i k : Nat) : Int := (zsB.getD i []).getD k 0
def slen (i : Nat) : Int := ((zsB.getD i []).length : Int)
def zNest : List Cond := [Cond.methodLinkNest "BottleLine" 34 (⟨"BottleLine$Tape", "<init>", "()V"⟩ : MethodName) "BottleLine", Cond.methodLinkNest "BottleLine$LineReader" 11 (⟨"BottleLine$Plan", "<init>", "()V"⟩ : MethodName) "BottleLine", Cond.methodLinkNest "BottleLine$Plan" 11 (⟨"BottleLine$Floor", "<init>", "()V"⟩ : MethodName) "BottleLine", Cond.methodLinkNest "BottleLine$ShiftReader" 11 (⟨"BottleLine$Script", "<init>", "()V"⟩ : MethodName) "BottleLine", Cond.methodLinkNest "BottleLine" 57 (⟨"BottleLine$Plan", "<init>", "()V"⟩ : MethodName) "BottleLine", Cond.methodLinkNest "BottleLine" 64 (⟨"BottleLine$Script", "<init>", "()V"⟩ : MethodName) "BottleLine", Cond.methodLinkNest "BottleLine" 82 (⟨"BottleLine$Trials", "<init>", "()V"⟩ : MethodName) "BottleLine", Cond.methodLinkNest "BottleLine$Trials" 11 (⟨"BottleLine$Floor", "<init>", "()V"⟩ : MethodName) "BottleLine", Cond.methodLinkNest "BottleLine" 89 (⟨"BottleLine$Doing", "<init>", "()V"⟩ : MethodName) "BottleLine", Cond.methodLinkNest "BottleLine" 96 (⟨"BottleLine$HeadSearch", "<init>", "()V"⟩ : MethodName) "BottleLine", Cond.methodLinkNest "BottleLine" 103 (⟨"BottleLine$Washing", "<init>", "()V"⟩ : MethodName) "BottleLine", Cond.methodLinkNest "BottleLine" 110 (⟨"BottleLine$Packing", "<init>", "()V"⟩ : MethodName) "BottleLine", Cond.methodLinkNest "BottleLine$Tape" 83 (⟨"BottleLine", "outside", "(JJJ)Z"⟩ : MethodName) "BottleLine"]
