/-! ===== what the Statement gives of the start ===== -/
theorem zA_low {X : XT} {s : State} (hb : xb X = s.heap.size) : ∀ a : Nat, a < s.heap.size → ¬ zA X a := fun a ha q => by
  unfold zA at q
  omega
theorem getD_mapI (l : List Int) (j : Nat) : (l.map Int32.ofInt).getD j 0 = Int32.ofInt (l.getD j 0) := by
  rw [List.getD_eq_getElem?_getD, List.getD_eq_getElem?_getD, List.getElem?_map]
  cases l[j]? <;> rfl
theorem zbl {a b : Cond} {A : Array Value} {s : State} (h : (Cond.and a b).before A s = true) : a.before A s = true := by
  rw [Cond.before_and, Bool.and_eq_true] at h
  exact h.1
theorem zbr {a b : Cond} {A : Array Value} {s : State} (h : (Cond.and a b).before A s = true) : b.before A s = true := by
  rw [Cond.before_and, Bool.and_eq_true] at h
  exact h.2
theorem zel_0 {s : State} {args : Array Value} (hgv : (Jvm.Cond.and given_1 narrow_1).before args s = true) : ∀ j, j < 7 → (Cond.eq (.elem (.field (Term.string "BottleLine$LineReader" 53) "java/lang/String" "value" "[B") (.int (Int32.ofNat j))) (.int (Int32.ofInt (sch 0 j)))).before args s = true := by
  intro j hj
  match j, hj with
  | 0, _ => exact (zbl (zbl (zbr (zbl (zbl (zbr (zbl (zbl (zbl (zbr hgv))))))))))
  | 1, _ => exact (zbr (zbl (zbr (zbl (zbl (zbr (zbl (zbl (zbl (zbr hgv))))))))))
  | 2, _ => exact (zbl (zbr (zbr (zbl (zbl (zbr (zbl (zbl (zbl (zbr hgv))))))))))
  | 3, _ => exact (zbr (zbr (zbr (zbl (zbl (zbr (zbl (zbl (zbl (zbr hgv))))))))))
  | 4, _ => exact (zbl (zbl (zbl (zbr (zbl (zbr (zbl (zbl (zbl (zbr hgv))))))))))
  | 5, _ => exact (zbr (zbl (zbl (zbr (zbl (zbr (zbl (zbl (zbl (zbr hgv))))))))))
  | 6, _ => exact (zbl (zbr (zbl (zbr (zbl (zbr (zbl (zbl (zbl (zbr hgv))))))))))
  | j + 7, hj => exact absurd hj (by omega)
theorem zst_0 {A : Nat → Prop} {s : State} {args : Array Value} (hgv : (Jvm.Cond.and given_1 narrow_1).before args s = true) (ht : ∀ w ∈ lw_tbl, w.before args s = true) (hA : ∀ a : Nat, a < s.heap.size → ¬ A a) : ∃ q v : Nat, vk_R (zsO 0) (zsI 0) (zsX 0) q s ∧ va_O "java/lang/String" q A s s.heap ∧ va_OF "java/lang/String" "coder" "B" (.int 0) q A s s.heap ∧ va_OF "java/lang/String" "value" "[B" (.ref v) q A s s.heap ∧ va_T .byte v (zsB.getD 0 []).length (fun j => .int (Int32.ofInt (sch 0 j))) A s s.heap := by
  obtain ⟨adK, adV, hS, hK⟩ := vk_Sof (args := args) (s := s) (N := 1) (tm := fun _ => (Term.string "BottleLine$LineReader" 53)) (len := [7]) (byt := [(zsB.getD 0 []).map Int32.ofInt]) (A := A) (fun i hi => by rw [show i = 0 by omega]; decide) (fun _ _ => (zbl (zbl (zbl (zbl (zbl (zbr (zbl (zbl (zbl (zbr hgv))))))))))) (fun _ _ => (zbr (zbl (zbl (zbl (zbl (zbr (zbl (zbl (zbl (zbr hgv))))))))))) (fun _ _ => (zbl (zbr (zbl (zbl (zbl (zbr (zbl (zbl (zbl (zbr hgv))))))))))) (fun i hi => by rw [show i = 0 by omega]; exact (zbr (zbr (zbl (zbl (zbl (zbr (zbl (zbl (zbl (zbr hgv))))))))))) (fun i hi j hj => by
    rw [show i = 0 by omega] at hj ⊢
    have h1 := zel_0 hgv j hj
    show (Cond.eq _ (.int (((zsB.getD 0 []).map Int32.ofInt).getD j 0))).before args s = true
    rw [getD_mapI]
    exact h1) (fun i j hi hj hij => absurd (show i = j by omega) hij) hA
  obtain ⟨h1, h2, h3, h4⟩ := hS.1 0 (by decide)
  refine ⟨adK 0, adV 0, vk_R.of (ht _ (tin_3 (List.mem_of_getElem? (i := 109) rfl))) (hK 0 (by decide)), h1, h2, h3, ?_⟩
  have e : (fun j => Value.int (Int32.ofInt (sch 0 j))) = fun j => Value.int ((([(zsB.getD 0 []).map Int32.ofInt] : List (List Int32)).getD 0 []).getD j 0) := funext fun j => by
    show Value.int (Int32.ofInt ((zsB.getD 0 []).getD j 0)) = Value.int (((zsB.getD 0 []).map Int32.ofInt).getD j 0)
    rw [getD_mapI]
  rw [e]
  exact h4
theorem zel_1 {s : State} {args : Array Value} (hgv : (Jvm.Cond.and given_1 narrow_1).before args s = true) : ∀ j, j < 5 → (Cond.eq (.elem (.field (Term.string "BottleLine$LineReader" 83) "java/lang/String" "value" "[B") (.int (Int32.ofNat j))) (.int (Int32.ofInt (sch 1 j)))).before args s = true := by
  intro j hj
  match j, hj with
  | 0, _ => exact (zbr (zbr (zbr (zbr (zbl (zbr (zbl (zbl (zbl (zbr hgv))))))))))
  | 1, _ => exact (zbl (zbl (zbl (zbl (zbr (zbr (zbl (zbl (zbl (zbr hgv))))))))))
  | 2, _ => exact (zbr (zbl (zbl (zbl (zbr (zbr (zbl (zbl (zbl (zbr hgv))))))))))
  | 3, _ => exact (zbl (zbr (zbl (zbl (zbr (zbr (zbl (zbl (zbl (zbr hgv))))))))))
  | 4, _ => exact (zbr (zbr (zbl (zbl (zbr (zbr (zbl (zbl (zbl (zbr hgv))))))))))
  | j + 5, hj => exact absurd hj (by omega)
theorem zst_1 {A : Nat → Prop} {s : State} {args : Array Value} (hgv : (Jvm.Cond.and given_1 narrow_1).before args s = true) (ht : ∀ w ∈ lw_tbl, w.before args s = true) (hA : ∀ a : Nat, a < s.heap.size → ¬ A a) : ∃ q v : Nat, vk_R (zsO 1) (zsI 1) (zsX 1) q s ∧ va_O "java/lang/String" q A s s.heap ∧ va_OF "java/lang/String" "coder" "B" (.int 0) q A s s.heap ∧ va_OF "java/lang/String" "value" "[B" (.ref v) q A s s.heap ∧ va_T .byte v (zsB.getD 1 []).length (fun j => .int (Int32.ofInt (sch 1 j))) A s s.heap := by
  obtain ⟨adK, adV, hS, hK⟩ := vk_Sof (args := args) (s := s) (N := 1) (tm := fun _ => (Term.string "BottleLine$LineReader" 83)) (len := [5]) (byt := [(zsB.getD 1 []).map Int32.ofInt]) (A := A) (fun i hi => by rw [show i = 0 by omega]; decide) (fun _ _ => (zbr (zbr (zbl (zbr (zbl (zbr (zbl (zbl (zbl (zbr hgv))))))))))) (fun _ _ => (zbl (zbl (zbr (zbr (zbl (zbr (zbl (zbl (zbl (zbr hgv))))))))))) (fun _ _ => (zbr (zbl (zbr (zbr (zbl (zbr (zbl (zbl (zbl (zbr hgv))))))))))) (fun i hi => by rw [show i = 0 by omega]; exact (zbl (zbr (zbr (zbr (zbl (zbr (zbl (zbl (zbl (zbr hgv))))))))))) (fun i hi j hj => by
    rw [show i = 0 by omega] at hj ⊢
    have h1 := zel_1 hgv j hj
    show (Cond.eq _ (.int (((zsB.getD 1 []).map Int32.ofInt).getD j 0))).before args s = true
    rw [getD_mapI]
    exact h1) (fun i j hi hj hij => absurd (show i = j by omega) hij) hA
  obtain ⟨h1, h2, h3, h4⟩ := hS.1 0 (by decide)
  refine ⟨adK 0, adV 0, vk_R.of (ht _ (tin_3 (List.mem_of_getElem? (i := 179) rfl))) (hK 0 (by decide)), h1, h2, h3, ?_⟩
  have e : (fun j => Value.int (Int32.ofInt (sch 1 j))) = fun j => Value.int ((([(zsB.getD 1 []).map Int32.ofInt] : List (List Int32)).getD 0 []).getD j 0) := funext fun j => by
    show Value.int (Int32.ofInt ((zsB.getD 1 []).getD j 0)) = Value.int (((zsB.getD 1 []).map Int32.ofInt).getD j 0)
    rw [getD_mapI]
  rw [e]
  exact h4
theorem zel_2 {s : State} {args : Array Value} (hgv : (Jvm.Cond.and given_1 narrow_1).before args s = true) : ∀ j, j < 5 → (Cond.eq (.elem (.field (Term.string "BottleLine$LineReader" 85) "java/lang/String" "value" "[B") (.int (Int32.ofNat j))) (.int (Int32.ofInt (sch 2 j)))).before args s = true := by
  intro j hj
  match j, hj with
  | 0, _ => exact (zbr (zbl (zbl (zbr (zbr (zbr (zbl (zbl (zbl (zbr hgv))))))))))
  | 1, _ => exact (zbl (zbr (zbl (zbr (zbr (zbr (zbl (zbl (zbl (zbr hgv))))))))))
  | 2, _ => exact (zbr (zbr (zbl (zbr (zbr (zbr (zbl (zbl (zbl (zbr hgv))))))))))
  | 3, _ => exact (zbl (zbl (zbr (zbr (zbr (zbr (zbl (zbl (zbl (zbr hgv))))))))))
  | 4, _ => exact (zbr (zbl (zbr (zbr (zbr (zbr (zbl (zbl (zbl (zbr hgv))))))))))
  | j + 5, hj => exact absurd hj (by omega)
theorem zst_2 {A : Nat → Prop} {s : State} {args : Array Value} (hgv : (Jvm.Cond.and given_1 narrow_1).before args s = true) (ht : ∀ w ∈ lw_tbl, w.before args s = true) (hA : ∀ a : Nat, a < s.heap.size → ¬ A a) : ∃ q v : Nat, vk_R (zsO 2) (zsI 2) (zsX 2) q s ∧ va_O "java/lang/String" q A s s.heap ∧ va_OF "java/lang/String" "coder" "B" (.int 0) q A s s.heap ∧ va_OF "java/lang/String" "value" "[B" (.ref v) q A s s.heap ∧ va_T .byte v (zsB.getD 2 []).length (fun j => .int (Int32.ofInt (sch 2 j))) A s s.heap := by
  obtain ⟨adK, adV, hS, hK⟩ := vk_Sof (args := args) (s := s) (N := 1) (tm := fun _ => (Term.string "BottleLine$LineReader" 85)) (len := [5]) (byt := [(zsB.getD 2 []).map Int32.ofInt]) (A := A) (fun i hi => by rw [show i = 0 by omega]; decide) (fun _ _ => (zbr (zbl (zbr (zbl (zbr (zbr (zbl (zbl (zbl (zbr hgv))))))))))) (fun _ _ => (zbl (zbr (zbr (zbl (zbr (zbr (zbl (zbl (zbl (zbr hgv))))))))))) (fun _ _ => (zbr (zbr (zbr (zbl (zbr (zbr (zbl (zbl (zbl (zbr hgv))))))))))) (fun i hi => by rw [show i = 0 by omega]; exact (zbl (zbl (zbl (zbr (zbr (zbr (zbl (zbl (zbl (zbr hgv))))))))))) (fun i hi j hj => by
    rw [show i = 0 by omega] at hj ⊢
    have h1 := zel_2 hgv j hj
    show (Cond.eq _ (.int (((zsB.getD 2 []).map Int32.ofInt).getD j 0))).before args s = true
    rw [getD_mapI]
    exact h1) (fun i j hi hj hij => absurd (show i = j by omega) hij) hA
  obtain ⟨h1, h2, h3, h4⟩ := hS.1 0 (by decide)
  refine ⟨adK 0, adV 0, vk_R.of (ht _ (tin_3 (List.mem_of_getElem? (i := 180) rfl))) (hK 0 (by decide)), h1, h2, h3, ?_⟩
  have e : (fun j => Value.int (Int32.ofInt (sch 2 j))) = fun j => Value.int ((([(zsB.getD 2 []).map Int32.ofInt] : List (List Int32)).getD 0 []).getD j 0) := funext fun j => by
    show Value.int (Int32.ofInt ((zsB.getD 2 []).getD j 0)) = Value.int (((zsB.getD 2 []).map Int32.ofInt).getD j 0)
    rw [getD_mapI]
  rw [e]
  exact h4
theorem zel_3 {s : State} {args : Array Value} (hgv : (Jvm.Cond.and given_1 narrow_1).before args s = true) : ∀ j, j < 5 → (Cond.eq (.elem (.field (Term.string "BottleLine$LineReader" 87) "java/lang/String" "value" "[B") (.int (Int32.ofNat j))) (.int (Int32.ofInt (sch 3 j)))).before args s = true := by
  intro j hj
  match j, hj with
  | 0, _ => exact (zbr (zbr (zbl (zbl (zbl (zbl (zbr (zbl (zbl (zbr hgv))))))))))
  | 1, _ => exact (zbl (zbl (zbr (zbl (zbl (zbl (zbr (zbl (zbl (zbr hgv))))))))))
  | 2, _ => exact (zbr (zbl (zbr (zbl (zbl (zbl (zbr (zbl (zbl (zbr hgv))))))))))
  | 3, _ => exact (zbl (zbr (zbr (zbl (zbl (zbl (zbr (zbl (zbl (zbr hgv))))))))))
  | 4, _ => exact (zbr (zbr (zbr (zbl (zbl (zbl (zbr (zbl (zbl (zbr hgv))))))))))
  | j + 5, hj => exact absurd hj (by omega)
theorem zst_3 {A : Nat → Prop} {s : State} {args : Array Value} (hgv : (Jvm.Cond.and given_1 narrow_1).before args s = true) (ht : ∀ w ∈ lw_tbl, w.before args s = true) (hA : ∀ a : Nat, a < s.heap.size → ¬ A a) : ∃ q v : Nat, vk_R (zsO 3) (zsI 3) (zsX 3) q s ∧ va_O "java/lang/String" q A s s.heap ∧ va_OF "java/lang/String" "coder" "B" (.int 0) q A s s.heap ∧ va_OF "java/lang/String" "value" "[B" (.ref v) q A s s.heap ∧ va_T .byte v (zsB.getD 3 []).length (fun j => .int (Int32.ofInt (sch 3 j))) A s s.heap := by
  obtain ⟨adK, adV, hS, hK⟩ := vk_Sof (args := args) (s := s) (N := 1) (tm := fun _ => (Term.string "BottleLine$LineReader" 87)) (len := [5]) (byt := [(zsB.getD 3 []).map Int32.ofInt]) (A := A) (fun i hi => by rw [show i = 0 by omega]; decide) (fun _ _ => (zbr (zbr (zbr (zbr (zbr (zbr (zbr (zbl (zbl (zbl (zbr hgv)))))))))))) (fun _ _ => (zbl (zbl (zbl (zbl (zbl (zbl (zbr (zbl (zbl (zbr hgv))))))))))) (fun _ _ => (zbr (zbl (zbl (zbl (zbl (zbl (zbr (zbl (zbl (zbr hgv))))))))))) (fun i hi => by rw [show i = 0 by omega]; exact (zbl (zbr (zbl (zbl (zbl (zbl (zbr (zbl (zbl (zbr hgv))))))))))) (fun i hi j hj => by
    rw [show i = 0 by omega] at hj ⊢
    have h1 := zel_3 hgv j hj
    show (Cond.eq _ (.int (((zsB.getD 3 []).map Int32.ofInt).getD j 0))).before args s = true
    rw [getD_mapI]
    exact h1) (fun i j hi hj hij => absurd (show i = j by omega) hij) hA
  obtain ⟨h1, h2, h3, h4⟩ := hS.1 0 (by decide)
  refine ⟨adK 0, adV 0, vk_R.of (ht _ (tin_3 (List.mem_of_getElem? (i := 181) rfl))) (hK 0 (by decide)), h1, h2, h3, ?_⟩
  have e : (fun j => Value.int (Int32.ofInt (sch 3 j))) = fun j => Value.int ((([(zsB.getD 3 []).map Int32.ofInt] : List (List Int32)).getD 0 []).getD j 0) := funext fun j => by
    show Value.int (Int32.ofInt ((zsB.getD 3 []).getD j 0)) = Value.int (((zsB.getD 3 []).map Int32.ofInt).getD j 0)
    rw [getD_mapI]
  rw [e]
  exact h4
theorem zel_4 {s : State} {args : Array Value} (hgv : (Jvm.Cond.and given_1 narrow_1).before args s = true) : ∀ j, j < 5 → (Cond.eq (.elem (.field (Term.string "BottleLine$LineReader" 89) "java/lang/String" "value" "[B") (.int (Int32.ofNat j))) (.int (Int32.ofInt (sch 4 j)))).before args s = true := by
  intro j hj
  match j, hj with
  | 0, _ => exact (zbr (zbr (zbr (zbr (zbl (zbl (zbr (zbl (zbl (zbr hgv))))))))))
  | 1, _ => exact (zbl (zbl (zbl (zbl (zbr (zbl (zbr (zbl (zbl (zbr hgv))))))))))
  | 2, _ => exact (zbr (zbl (zbl (zbl (zbr (zbl (zbr (zbl (zbl (zbr hgv))))))))))
  | 3, _ => exact (zbl (zbr (zbl (zbl (zbr (zbl (zbr (zbl (zbl (zbr hgv))))))))))
  | 4, _ => exact (zbr (zbr (zbl (zbl (zbr (zbl (zbr (zbl (zbl (zbr hgv))))))))))
  | j + 5, hj => exact absurd hj (by omega)
theorem zst_4 {A : Nat → Prop} {s : State} {args : Array Value} (hgv : (Jvm.Cond.and given_1 narrow_1).before args s = true) (ht : ∀ w ∈ lw_tbl, w.before args s = true) (hA : ∀ a : Nat, a < s.heap.size → ¬ A a) : ∃ q v : Nat, vk_R (zsO 4) (zsI 4) (zsX 4) q s ∧ va_O "java/lang/String" q A s s.heap ∧ va_OF "java/lang/String" "coder" "B" (.int 0) q A s s.heap ∧ va_OF "java/lang/String" "value" "[B" (.ref v) q A s s.heap ∧ va_T .byte v (zsB.getD 4 []).length (fun j => .int (Int32.ofInt (sch 4 j))) A s s.heap := by
  obtain ⟨adK, adV, hS, hK⟩ := vk_Sof (args := args) (s := s) (N := 1) (tm := fun _ => (Term.string "BottleLine$LineReader" 89)) (len := [5]) (byt := [(zsB.getD 4 []).map Int32.ofInt]) (A := A) (fun i hi => by rw [show i = 0 by omega]; decide) (fun _ _ => (zbr (zbr (zbl (zbr (zbl (zbl (zbr (zbl (zbl (zbr hgv))))))))))) (fun _ _ => (zbl (zbl (zbr (zbr (zbl (zbl (zbr (zbl (zbl (zbr hgv))))))))))) (fun _ _ => (zbr (zbl (zbr (zbr (zbl (zbl (zbr (zbl (zbl (zbr hgv))))))))))) (fun i hi => by rw [show i = 0 by omega]; exact (zbl (zbr (zbr (zbr (zbl (zbl (zbr (zbl (zbl (zbr hgv))))))))))) (fun i hi j hj => by
    rw [show i = 0 by omega] at hj ⊢
    have h1 := zel_4 hgv j hj
    show (Cond.eq _ (.int (((zsB.getD 4 []).map Int32.ofInt).getD j 0))).before args s = true
    rw [getD_mapI]
    exact h1) (fun i j hi hj hij => absurd (show i = j by omega) hij) hA
  obtain ⟨h1, h2, h3, h4⟩ := hS.1 0 (by decide)
  refine ⟨adK 0, adV 0, vk_R.of (ht _ (tin_3 (List.mem_of_getElem? (i := 182) rfl))) (hK 0 (by decide)), h1, h2, h3, ?_⟩
  have e : (fun j => Value.int (Int32.ofInt (sch 4 j))) = fun j => Value.int ((([(zsB.getD 4 []).map Int32.ofInt] : List (List Int32)).getD 0 []).getD j 0) := funext fun j => by
    show Value.int (Int32.ofInt ((zsB.getD 4 []).getD j 0)) = Value.int (((zsB.getD 4 []).map Int32.ofInt).getD j 0)
    rw [getD_mapI]
  rw [e]
  exact h4
theorem zel_5 {s : State} {args : Array Value} (hgv : (Jvm.Cond.and given_1 narrow_1).before args s = true) : ∀ j, j < 5 → (Cond.eq (.elem (.field (Term.string "BottleLine$LineReader" 62) "java/lang/String" "value" "[B") (.int (Int32.ofNat j))) (.int (Int32.ofInt (sch 5 j)))).before args s = true := by
  intro j hj
  match j, hj with
  | 0, _ => exact (zbl (zbl (zbr (zbr (zbr (zbl (zbr (zbl (zbl (zbr hgv))))))))))
  | 1, _ => exact (zbr (zbl (zbr (zbr (zbr (zbl (zbr (zbl (zbl (zbr hgv))))))))))
  | 2, _ => exact (zbl (zbr (zbr (zbr (zbr (zbl (zbr (zbl (zbl (zbr hgv))))))))))
  | 3, _ => exact (zbl (zbr (zbr (zbr (zbr (zbr (zbl (zbr (zbl (zbl (zbr hgv)))))))))))
  | 4, _ => exact (zbr (zbr (zbr (zbr (zbr (zbr (zbl (zbr (zbl (zbl (zbr hgv)))))))))))
  | j + 5, hj => exact absurd hj (by omega)
theorem zst_5 {A : Nat → Prop} {s : State} {args : Array Value} (hgv : (Jvm.Cond.and given_1 narrow_1).before args s = true) (ht : ∀ w ∈ lw_tbl, w.before args s = true) (hA : ∀ a : Nat, a < s.heap.size → ¬ A a) : ∃ q v : Nat, vk_R (zsO 5) (zsI 5) (zsX 5) q s ∧ va_O "java/lang/String" q A s s.heap ∧ va_OF "java/lang/String" "coder" "B" (.int 0) q A s s.heap ∧ va_OF "java/lang/String" "value" "[B" (.ref v) q A s s.heap ∧ va_T .byte v (zsB.getD 5 []).length (fun j => .int (Int32.ofInt (sch 5 j))) A s s.heap := by
  obtain ⟨adK, adV, hS, hK⟩ := vk_Sof (args := args) (s := s) (N := 1) (tm := fun _ => (Term.string "BottleLine$LineReader" 62)) (len := [5]) (byt := [(zsB.getD 5 []).map Int32.ofInt]) (A := A) (fun i hi => by rw [show i = 0 by omega]; decide) (fun _ _ => (zbl (zbl (zbl (zbr (zbr (zbl (zbr (zbl (zbl (zbr hgv))))))))))) (fun _ _ => (zbr (zbl (zbl (zbr (zbr (zbl (zbr (zbl (zbl (zbr hgv))))))))))) (fun _ _ => (zbl (zbr (zbl (zbr (zbr (zbl (zbr (zbl (zbl (zbr hgv))))))))))) (fun i hi => by rw [show i = 0 by omega]; exact (zbr (zbr (zbl (zbr (zbr (zbl (zbr (zbl (zbl (zbr hgv))))))))))) (fun i hi j hj => by
    rw [show i = 0 by omega] at hj ⊢
    have h1 := zel_5 hgv j hj
    show (Cond.eq _ (.int (((zsB.getD 5 []).map Int32.ofInt).getD j 0))).before args s = true
    rw [getD_mapI]
    exact h1) (fun i j hi hj hij => absurd (show i = j by omega) hij) hA
  obtain ⟨h1, h2, h3, h4⟩ := hS.1 0 (by decide)
  refine ⟨adK 0, adV 0, vk_R.of (ht _ (tin_3 (List.mem_of_getElem? (i := 183) rfl))) (hK 0 (by decide)), h1, h2, h3, ?_⟩
  have e : (fun j => Value.int (Int32.ofInt (sch 5 j))) = fun j => Value.int ((([(zsB.getD 5 []).map Int32.ofInt] : List (List Int32)).getD 0 []).getD j 0) := funext fun j => by
    show Value.int (Int32.ofInt ((zsB.getD 5 []).getD j 0)) = Value.int (((zsB.getD 5 []).map Int32.ofInt).getD j 0)
    rw [getD_mapI]
  rw [e]
  exact h4
theorem zel_6 {s : State} {args : Array Value} (hgv : (Jvm.Cond.and given_1 narrow_1).before args s = true) : ∀ j, j < 4 → (Cond.eq (.elem (.field (Term.string "BottleLine$LineReader" 67) "java/lang/String" "value" "[B") (.int (Int32.ofNat j))) (.int (Int32.ofInt (sch 6 j)))).before args s = true := by
  intro j hj
  match j, hj with
  | 0, _ => exact (zbr (zbl (zbl (zbr (zbl (zbr (zbr (zbl (zbl (zbr hgv))))))))))
  | 1, _ => exact (zbl (zbr (zbl (zbr (zbl (zbr (zbr (zbl (zbl (zbr hgv))))))))))
  | 2, _ => exact (zbr (zbr (zbl (zbr (zbl (zbr (zbr (zbl (zbl (zbr hgv))))))))))
  | 3, _ => exact (zbl (zbl (zbr (zbr (zbl (zbr (zbr (zbl (zbl (zbr hgv))))))))))
  | j + 4, hj => exact absurd hj (by omega)
theorem zst_6 {A : Nat → Prop} {s : State} {args : Array Value} (hgv : (Jvm.Cond.and given_1 narrow_1).before args s = true) (ht : ∀ w ∈ lw_tbl, w.before args s = true) (hA : ∀ a : Nat, a < s.heap.size → ¬ A a) : ∃ q v : Nat, vk_R (zsO 6) (zsI 6) (zsX 6) q s ∧ va_O "java/lang/String" q A s s.heap ∧ va_OF "java/lang/String" "coder" "B" (.int 0) q A s s.heap ∧ va_OF "java/lang/String" "value" "[B" (.ref v) q A s s.heap ∧ va_T .byte v (zsB.getD 6 []).length (fun j => .int (Int32.ofInt (sch 6 j))) A s s.heap := by
  obtain ⟨adK, adV, hS, hK⟩ := vk_Sof (args := args) (s := s) (N := 1) (tm := fun _ => (Term.string "BottleLine$LineReader" 67)) (len := [4]) (byt := [(zsB.getD 6 []).map Int32.ofInt]) (A := A) (fun i hi => by rw [show i = 0 by omega]; decide) (fun _ _ => (zbr (zbl (zbr (zbl (zbl (zbr (zbr (zbl (zbl (zbr hgv))))))))))) (fun _ _ => (zbl (zbr (zbr (zbl (zbl (zbr (zbr (zbl (zbl (zbr hgv))))))))))) (fun _ _ => (zbr (zbr (zbr (zbl (zbl (zbr (zbr (zbl (zbl (zbr hgv))))))))))) (fun i hi => by rw [show i = 0 by omega]; exact (zbl (zbl (zbl (zbr (zbl (zbr (zbr (zbl (zbl (zbr hgv))))))))))) (fun i hi j hj => by
    rw [show i = 0 by omega] at hj ⊢
    have h1 := zel_6 hgv j hj
    show (Cond.eq _ (.int (((zsB.getD 6 []).map Int32.ofInt).getD j 0))).before args s = true
    rw [getD_mapI]
    exact h1) (fun i j hi hj hij => absurd (show i = j by omega) hij) hA
  obtain ⟨h1, h2, h3, h4⟩ := hS.1 0 (by decide)
  refine ⟨adK 0, adV 0, vk_R.of (ht _ (tin_3 (List.mem_of_getElem? (i := 184) rfl))) (hK 0 (by decide)), h1, h2, h3, ?_⟩
  have e : (fun j => Value.int (Int32.ofInt (sch 6 j))) = fun j => Value.int ((([(zsB.getD 6 []).map Int32.ofInt] : List (List Int32)).getD 0 []).getD j 0) := funext fun j => by
    show Value.int (Int32.ofInt ((zsB.getD 6 []).getD j 0)) = Value.int (((zsB.getD 6 []).map Int32.ofInt).getD j 0)
    rw [getD_mapI]
  rw [e]
  exact h4
theorem zel_7 {s : State} {args : Array Value} (hgv : (Jvm.Cond.and given_1 narrow_1).before args s = true) : ∀ j, j < 4 → (Cond.eq (.elem (.field (Term.string "BottleLine$LineReader" 72) "java/lang/String" "value" "[B") (.int (Int32.ofNat j))) (.int (Int32.ofInt (sch 7 j)))).before args s = true := by
  intro j hj
  match j, hj with
  | 0, _ => exact (zbl (zbr (zbr (zbl (zbr (zbr (zbr (zbl (zbl (zbr hgv))))))))))
  | 1, _ => exact (zbr (zbr (zbr (zbl (zbr (zbr (zbr (zbl (zbl (zbr hgv))))))))))
  | 2, _ => exact (zbl (zbl (zbl (zbr (zbr (zbr (zbr (zbl (zbl (zbr hgv))))))))))
  | 3, _ => exact (zbr (zbl (zbl (zbr (zbr (zbr (zbr (zbl (zbl (zbr hgv))))))))))
  | j + 4, hj => exact absurd hj (by omega)
theorem zst_7 {A : Nat → Prop} {s : State} {args : Array Value} (hgv : (Jvm.Cond.and given_1 narrow_1).before args s = true) (ht : ∀ w ∈ lw_tbl, w.before args s = true) (hA : ∀ a : Nat, a < s.heap.size → ¬ A a) : ∃ q v : Nat, vk_R (zsO 7) (zsI 7) (zsX 7) q s ∧ va_O "java/lang/String" q A s s.heap ∧ va_OF "java/lang/String" "coder" "B" (.int 0) q A s s.heap ∧ va_OF "java/lang/String" "value" "[B" (.ref v) q A s s.heap ∧ va_T .byte v (zsB.getD 7 []).length (fun j => .int (Int32.ofInt (sch 7 j))) A s s.heap := by
  obtain ⟨adK, adV, hS, hK⟩ := vk_Sof (args := args) (s := s) (N := 1) (tm := fun _ => (Term.string "BottleLine$LineReader" 72)) (len := [4]) (byt := [(zsB.getD 7 []).map Int32.ofInt]) (A := A) (fun i hi => by rw [show i = 0 by omega]; decide) (fun _ _ => (zbl (zbr (zbl (zbl (zbr (zbr (zbr (zbl (zbl (zbr hgv))))))))))) (fun _ _ => (zbr (zbr (zbl (zbl (zbr (zbr (zbr (zbl (zbl (zbr hgv))))))))))) (fun _ _ => (zbl (zbl (zbr (zbl (zbr (zbr (zbr (zbl (zbl (zbr hgv))))))))))) (fun i hi => by rw [show i = 0 by omega]; exact (zbr (zbl (zbr (zbl (zbr (zbr (zbr (zbl (zbl (zbr hgv))))))))))) (fun i hi j hj => by
    rw [show i = 0 by omega] at hj ⊢
    have h1 := zel_7 hgv j hj
    show (Cond.eq _ (.int (((zsB.getD 7 []).map Int32.ofInt).getD j 0))).before args s = true
    rw [getD_mapI]
    exact h1) (fun i j hi hj hij => absurd (show i = j by omega) hij) hA
  obtain ⟨h1, h2, h3, h4⟩ := hS.1 0 (by decide)
  refine ⟨adK 0, adV 0, vk_R.of (ht _ (tin_3 (List.mem_of_getElem? (i := 185) rfl))) (hK 0 (by decide)), h1, h2, h3, ?_⟩
  have e : (fun j => Value.int (Int32.ofInt (sch 7 j))) = fun j => Value.int ((([(zsB.getD 7 []).map Int32.ofInt] : List (List Int32)).getD 0 []).getD j 0) := funext fun j => by
    show Value.int (Int32.ofInt ((zsB.getD 7 []).getD j 0)) = Value.int (((zsB.getD 7 []).map Int32.ofInt).getD j 0)
    rw [getD_mapI]
  rw [e]
  exact h4
theorem zel_8 {s : State} {args : Array Value} (hgv : (Jvm.Cond.and given_1 narrow_1).before args s = true) : ∀ j, j < 3 → (Cond.eq (.elem (.field (Term.string "BottleLine$ShiftReader" 45) "java/lang/String" "value" "[B") (.int (Int32.ofNat j))) (.int (Int32.ofInt (sch 8 j)))).before args s = true := by
  intro j hj
  match j, hj with
  | 0, _ => exact (zbl (zbl (zbr (zbl (zbl (zbl (zbl (zbr (zbl (zbr hgv))))))))))
  | 1, _ => exact (zbr (zbl (zbr (zbl (zbl (zbl (zbl (zbr (zbl (zbr hgv))))))))))
  | 2, _ => exact (zbl (zbr (zbr (zbl (zbl (zbl (zbl (zbr (zbl (zbr hgv))))))))))
  | j + 3, hj => exact absurd hj (by omega)
theorem zst_8 {A : Nat → Prop} {s : State} {args : Array Value} (hgv : (Jvm.Cond.and given_1 narrow_1).before args s = true) (ht : ∀ w ∈ lw_tbl, w.before args s = true) (hA : ∀ a : Nat, a < s.heap.size → ¬ A a) : ∃ q v : Nat, vk_R (zsO 8) (zsI 8) (zsX 8) q s ∧ va_O "java/lang/String" q A s s.heap ∧ va_OF "java/lang/String" "coder" "B" (.int 0) q A s s.heap ∧ va_OF "java/lang/String" "value" "[B" (.ref v) q A s s.heap ∧ va_T .byte v (zsB.getD 8 []).length (fun j => .int (Int32.ofInt (sch 8 j))) A s s.heap := by
  obtain ⟨adK, adV, hS, hK⟩ := vk_Sof (args := args) (s := s) (N := 1) (tm := fun _ => (Term.string "BottleLine$ShiftReader" 45)) (len := [3]) (byt := [(zsB.getD 8 []).map Int32.ofInt]) (A := A) (fun i hi => by rw [show i = 0 by omega]; decide) (fun _ _ => (zbl (zbl (zbl (zbl (zbl (zbl (zbl (zbr (zbl (zbr hgv))))))))))) (fun _ _ => (zbr (zbl (zbl (zbl (zbl (zbl (zbl (zbr (zbl (zbr hgv))))))))))) (fun _ _ => (zbl (zbr (zbl (zbl (zbl (zbl (zbl (zbr (zbl (zbr hgv))))))))))) (fun i hi => by rw [show i = 0 by omega]; exact (zbr (zbr (zbl (zbl (zbl (zbl (zbl (zbr (zbl (zbr hgv))))))))))) (fun i hi j hj => by
    rw [show i = 0 by omega] at hj ⊢
    have h1 := zel_8 hgv j hj
    show (Cond.eq _ (.int (((zsB.getD 8 []).map Int32.ofInt).getD j 0))).before args s = true
    rw [getD_mapI]
    exact h1) (fun i j hi hj hij => absurd (show i = j by omega) hij) hA
  obtain ⟨h1, h2, h3, h4⟩ := hS.1 0 (by decide)
  refine ⟨adK 0, adV 0, vk_R.of (ht _ (tin_4 (List.mem_of_getElem? (i := 31) rfl))) (hK 0 (by decide)), h1, h2, h3, ?_⟩
  have e : (fun j => Value.int (Int32.ofInt (sch 8 j))) = fun j => Value.int ((([(zsB.getD 8 []).map Int32.ofInt] : List (List Int32)).getD 0 []).getD j 0) := funext fun j => by
    show Value.int (Int32.ofInt ((zsB.getD 8 []).getD j 0)) = Value.int (((zsB.getD 8 []).map Int32.ofInt).getD j 0)
    rw [getD_mapI]
  rw [e]
  exact h4
theorem zel_9 {s : State} {args : Array Value} (hgv : (Jvm.Cond.and given_1 narrow_1).before args s = true) : ∀ j, j < 3 → (Cond.eq (.elem (.field (Term.string "BottleLine$ShiftReader" 81) "java/lang/String" "value" "[B") (.int (Int32.ofNat j))) (.int (Int32.ofInt (sch 9 j)))).before args s = true := by
  intro j hj
  match j, hj with
  | 0, _ => exact (zbr (zbr (zbl (zbl (zbr (zbl (zbl (zbr (zbl (zbr hgv))))))))))
  | 1, _ => exact (zbl (zbl (zbr (zbl (zbr (zbl (zbl (zbr (zbl (zbr hgv))))))))))
  | 2, _ => exact (zbr (zbl (zbr (zbl (zbr (zbl (zbl (zbr (zbl (zbr hgv))))))))))
  | j + 3, hj => exact absurd hj (by omega)
theorem zst_9 {A : Nat → Prop} {s : State} {args : Array Value} (hgv : (Jvm.Cond.and given_1 narrow_1).before args s = true) (ht : ∀ w ∈ lw_tbl, w.before args s = true) (hA : ∀ a : Nat, a < s.heap.size → ¬ A a) : ∃ q v : Nat, vk_R (zsO 9) (zsI 9) (zsX 9) q s ∧ va_O "java/lang/String" q A s s.heap ∧ va_OF "java/lang/String" "coder" "B" (.int 0) q A s s.heap ∧ va_OF "java/lang/String" "value" "[B" (.ref v) q A s s.heap ∧ va_T .byte v (zsB.getD 9 []).length (fun j => .int (Int32.ofInt (sch 9 j))) A s s.heap := by
  obtain ⟨adK, adV, hS, hK⟩ := vk_Sof (args := args) (s := s) (N := 1) (tm := fun _ => (Term.string "BottleLine$ShiftReader" 81)) (len := [3]) (byt := [(zsB.getD 9 []).map Int32.ofInt]) (A := A) (fun i hi => by rw [show i = 0 by omega]; decide) (fun _ _ => (zbr (zbr (zbr (zbr (zbl (zbl (zbl (zbr (zbl (zbr hgv))))))))))) (fun _ _ => (zbl (zbl (zbl (zbl (zbr (zbl (zbl (zbr (zbl (zbr hgv))))))))))) (fun _ _ => (zbr (zbl (zbl (zbl (zbr (zbl (zbl (zbr (zbl (zbr hgv))))))))))) (fun i hi => by rw [show i = 0 by omega]; exact (zbl (zbr (zbl (zbl (zbr (zbl (zbl (zbr (zbl (zbr hgv))))))))))) (fun i hi j hj => by
    rw [show i = 0 by omega] at hj ⊢
    have h1 := zel_9 hgv j hj
    show (Cond.eq _ (.int (((zsB.getD 9 []).map Int32.ofInt).getD j 0))).before args s = true
    rw [getD_mapI]
    exact h1) (fun i j hi hj hij => absurd (show i = j by omega) hij) hA
  obtain ⟨h1, h2, h3, h4⟩ := hS.1 0 (by decide)
  refine ⟨adK 0, adV 0, vk_R.of (ht _ (tin_4 (List.mem_of_getElem? (i := 47) rfl))) (hK 0 (by decide)), h1, h2, h3, ?_⟩
  have e : (fun j => Value.int (Int32.ofInt (sch 9 j))) = fun j => Value.int ((([(zsB.getD 9 []).map Int32.ofInt] : List (List Int32)).getD 0 []).getD j 0) := funext fun j => by
    show Value.int (Int32.ofInt ((zsB.getD 9 []).getD j 0)) = Value.int (((zsB.getD 9 []).map Int32.ofInt).getD j 0)
    rw [getD_mapI]
  rw [e]
  exact h4
theorem zel_10 {s : State} {args : Array Value} (hgv : (Jvm.Cond.and given_1 narrow_1).before args s = true) : ∀ j, j < 5 → (Cond.eq (.elem (.field (Term.string "BottleLine$ShiftReader" 83) "java/lang/String" "value" "[B") (.int (Int32.ofNat j))) (.int (Int32.ofInt (sch 10 j)))).before args s = true := by
  intro j hj
  match j, hj with
  | 0, _ => exact (zbl (zbr (zbl (zbl (zbl (zbr (zbl (zbr (zbl (zbr hgv))))))))))
  | 1, _ => exact (zbr (zbr (zbl (zbl (zbl (zbr (zbl (zbr (zbl (zbr hgv))))))))))
  | 2, _ => exact (zbl (zbl (zbr (zbl (zbl (zbr (zbl (zbr (zbl (zbr hgv))))))))))
  | 3, _ => exact (zbr (zbl (zbr (zbl (zbl (zbr (zbl (zbr (zbl (zbr hgv))))))))))
  | 4, _ => exact (zbl (zbr (zbr (zbl (zbl (zbr (zbl (zbr (zbl (zbr hgv))))))))))
  | j + 5, hj => exact absurd hj (by omega)
theorem zst_10 {A : Nat → Prop} {s : State} {args : Array Value} (hgv : (Jvm.Cond.and given_1 narrow_1).before args s = true) (ht : ∀ w ∈ lw_tbl, w.before args s = true) (hA : ∀ a : Nat, a < s.heap.size → ¬ A a) : ∃ q v : Nat, vk_R (zsO 10) (zsI 10) (zsX 10) q s ∧ va_O "java/lang/String" q A s s.heap ∧ va_OF "java/lang/String" "coder" "B" (.int 0) q A s s.heap ∧ va_OF "java/lang/String" "value" "[B" (.ref v) q A s s.heap ∧ va_T .byte v (zsB.getD 10 []).length (fun j => .int (Int32.ofInt (sch 10 j))) A s s.heap := by
  obtain ⟨adK, adV, hS, hK⟩ := vk_Sof (args := args) (s := s) (N := 1) (tm := fun _ => (Term.string "BottleLine$ShiftReader" 83)) (len := [5]) (byt := [(zsB.getD 10 []).map Int32.ofInt]) (A := A) (fun i hi => by rw [show i = 0 by omega]; decide) (fun _ _ => (zbl (zbr (zbr (zbr (zbr (zbr (zbl (zbl (zbr (zbl (zbr hgv)))))))))))) (fun _ _ => (zbr (zbr (zbr (zbr (zbr (zbr (zbl (zbl (zbr (zbl (zbr hgv)))))))))))) (fun _ _ => (zbl (zbl (zbl (zbl (zbl (zbr (zbl (zbr (zbl (zbr hgv))))))))))) (fun i hi => by rw [show i = 0 by omega]; exact (zbr (zbl (zbl (zbl (zbl (zbr (zbl (zbr (zbl (zbr hgv))))))))))) (fun i hi j hj => by
    rw [show i = 0 by omega] at hj ⊢
    have h1 := zel_10 hgv j hj
    show (Cond.eq _ (.int (((zsB.getD 10 []).map Int32.ofInt).getD j 0))).before args s = true
    rw [getD_mapI]
    exact h1) (fun i j hi hj hij => absurd (show i = j by omega) hij) hA
  obtain ⟨h1, h2, h3, h4⟩ := hS.1 0 (by decide)
  refine ⟨adK 0, adV 0, vk_R.of (ht _ (tin_4 (List.mem_of_getElem? (i := 48) rfl))) (hK 0 (by decide)), h1, h2, h3, ?_⟩
  have e : (fun j => Value.int (Int32.ofInt (sch 10 j))) = fun j => Value.int ((([(zsB.getD 10 []).map Int32.ofInt] : List (List Int32)).getD 0 []).getD j 0) := funext fun j => by
    show Value.int (Int32.ofInt ((zsB.getD 10 []).getD j 0)) = Value.int (((zsB.getD 10 []).map Int32.ofInt).getD j 0)
    rw [getD_mapI]
  rw [e]
  exact h4
theorem zel_11 {s : State} {args : Array Value} (hgv : (Jvm.Cond.and given_1 narrow_1).before args s = true) : ∀ j, j < 4 → (Cond.eq (.elem (.field (Term.string "BottleLine$ShiftReader" 85) "java/lang/String" "value" "[B") (.int (Int32.ofNat j))) (.int (Int32.ofInt (sch 11 j)))).before args s = true := by
  intro j hj
  match j, hj with
  | 0, _ => exact (zbl (zbl (zbr (zbl (zbr (zbr (zbl (zbr (zbl (zbr hgv))))))))))
  | 1, _ => exact (zbr (zbl (zbr (zbl (zbr (zbr (zbl (zbr (zbl (zbr hgv))))))))))
  | 2, _ => exact (zbl (zbr (zbr (zbl (zbr (zbr (zbl (zbr (zbl (zbr hgv))))))))))
  | 3, _ => exact (zbr (zbr (zbr (zbl (zbr (zbr (zbl (zbr (zbl (zbr hgv))))))))))
  | j + 4, hj => exact absurd hj (by omega)
theorem zst_11 {A : Nat → Prop} {s : State} {args : Array Value} (hgv : (Jvm.Cond.and given_1 narrow_1).before args s = true) (ht : ∀ w ∈ lw_tbl, w.before args s = true) (hA : ∀ a : Nat, a < s.heap.size → ¬ A a) : ∃ q v : Nat, vk_R (zsO 11) (zsI 11) (zsX 11) q s ∧ va_O "java/lang/String" q A s s.heap ∧ va_OF "java/lang/String" "coder" "B" (.int 0) q A s s.heap ∧ va_OF "java/lang/String" "value" "[B" (.ref v) q A s s.heap ∧ va_T .byte v (zsB.getD 11 []).length (fun j => .int (Int32.ofInt (sch 11 j))) A s s.heap := by
  obtain ⟨adK, adV, hS, hK⟩ := vk_Sof (args := args) (s := s) (N := 1) (tm := fun _ => (Term.string "BottleLine$ShiftReader" 85)) (len := [4]) (byt := [(zsB.getD 11 []).map Int32.ofInt]) (A := A) (fun i hi => by rw [show i = 0 by omega]; decide) (fun _ _ => (zbl (zbl (zbl (zbl (zbr (zbr (zbl (zbr (zbl (zbr hgv))))))))))) (fun _ _ => (zbr (zbl (zbl (zbl (zbr (zbr (zbl (zbr (zbl (zbr hgv))))))))))) (fun _ _ => (zbl (zbr (zbl (zbl (zbr (zbr (zbl (zbr (zbl (zbr hgv))))))))))) (fun i hi => by rw [show i = 0 by omega]; exact (zbr (zbr (zbl (zbl (zbr (zbr (zbl (zbr (zbl (zbr hgv))))))))))) (fun i hi j hj => by
    rw [show i = 0 by omega] at hj ⊢
    have h1 := zel_11 hgv j hj
    show (Cond.eq _ (.int (((zsB.getD 11 []).map Int32.ofInt).getD j 0))).before args s = true
    rw [getD_mapI]
    exact h1) (fun i j hi hj hij => absurd (show i = j by omega) hij) hA
  obtain ⟨h1, h2, h3, h4⟩ := hS.1 0 (by decide)
  refine ⟨adK 0, adV 0, vk_R.of (ht _ (tin_4 (List.mem_of_getElem? (i := 49) rfl))) (hK 0 (by decide)), h1, h2, h3, ?_⟩
  have e : (fun j => Value.int (Int32.ofInt (sch 11 j))) = fun j => Value.int ((([(zsB.getD 11 []).map Int32.ofInt] : List (List Int32)).getD 0 []).getD j 0) := funext fun j => by
    show Value.int (Int32.ofInt ((zsB.getD 11 []).getD j 0)) = Value.int (((zsB.getD 11 []).map Int32.ofInt).getD j 0)
    rw [getD_mapI]
  rw [e]
  exact h4
theorem zel_12 {s : State} {args : Array Value} (hgv : (Jvm.Cond.and given_1 narrow_1).before args s = true) : ∀ j, j < 4 → (Cond.eq (.elem (.field (Term.string "BottleLine$ShiftReader" 87) "java/lang/String" "value" "[B") (.int (Int32.ofNat j))) (.int (Int32.ofInt (sch 12 j)))).before args s = true := by
  intro j hj
  match j, hj with
  | 0, _ => exact (zbl (zbr (zbr (zbl (zbl (zbl (zbr (zbr (zbl (zbr hgv))))))))))
  | 1, _ => exact (zbr (zbr (zbr (zbl (zbl (zbl (zbr (zbr (zbl (zbr hgv))))))))))
  | 2, _ => exact (zbl (zbl (zbl (zbr (zbl (zbl (zbr (zbr (zbl (zbr hgv))))))))))
  | 3, _ => exact (zbr (zbl (zbl (zbr (zbl (zbl (zbr (zbr (zbl (zbr hgv))))))))))
  | j + 4, hj => exact absurd hj (by omega)
theorem zst_12 {A : Nat → Prop} {s : State} {args : Array Value} (hgv : (Jvm.Cond.and given_1 narrow_1).before args s = true) (ht : ∀ w ∈ lw_tbl, w.before args s = true) (hA : ∀ a : Nat, a < s.heap.size → ¬ A a) : ∃ q v : Nat, vk_R (zsO 12) (zsI 12) (zsX 12) q s ∧ va_O "java/lang/String" q A s s.heap ∧ va_OF "java/lang/String" "coder" "B" (.int 0) q A s s.heap ∧ va_OF "java/lang/String" "value" "[B" (.ref v) q A s s.heap ∧ va_T .byte v (zsB.getD 12 []).length (fun j => .int (Int32.ofInt (sch 12 j))) A s s.heap := by
  obtain ⟨adK, adV, hS, hK⟩ := vk_Sof (args := args) (s := s) (N := 1) (tm := fun _ => (Term.string "BottleLine$ShiftReader" 87)) (len := [4]) (byt := [(zsB.getD 12 []).map Int32.ofInt]) (A := A) (fun i hi => by rw [show i = 0 by omega]; decide) (fun _ _ => (zbl (zbr (zbl (zbl (zbl (zbl (zbr (zbr (zbl (zbr hgv))))))))))) (fun _ _ => (zbr (zbr (zbl (zbl (zbl (zbl (zbr (zbr (zbl (zbr hgv))))))))))) (fun _ _ => (zbl (zbl (zbr (zbl (zbl (zbl (zbr (zbr (zbl (zbr hgv))))))))))) (fun i hi => by rw [show i = 0 by omega]; exact (zbr (zbl (zbr (zbl (zbl (zbl (zbr (zbr (zbl (zbr hgv))))))))))) (fun i hi j hj => by
    rw [show i = 0 by omega] at hj ⊢
    have h1 := zel_12 hgv j hj
    show (Cond.eq _ (.int (((zsB.getD 12 []).map Int32.ofInt).getD j 0))).before args s = true
    rw [getD_mapI]
    exact h1) (fun i j hi hj hij => absurd (show i = j by omega) hij) hA
  obtain ⟨h1, h2, h3, h4⟩ := hS.1 0 (by decide)
  refine ⟨adK 0, adV 0, vk_R.of (ht _ (tin_4 (List.mem_of_getElem? (i := 50) rfl))) (hK 0 (by decide)), h1, h2, h3, ?_⟩
  have e : (fun j => Value.int (Int32.ofInt (sch 12 j))) = fun j => Value.int ((([(zsB.getD 12 []).map Int32.ofInt] : List (List Int32)).getD 0 []).getD j 0) := funext fun j => by
    show Value.int (Int32.ofInt ((zsB.getD 12 []).getD j 0)) = Value.int (((zsB.getD 12 []).map Int32.ofInt).getD j 0)
    rw [getD_mapI]
  rw [e]
  exact h4
theorem zel_13 {s : State} {args : Array Value} (hgv : (Jvm.Cond.and given_1 narrow_1).before args s = true) : ∀ j, j < 4 → (Cond.eq (.elem (.field (Term.string "BottleLine$ShiftReader" 89) "java/lang/String" "value" "[B") (.int (Int32.ofNat j))) (.int (Int32.ofInt (sch 13 j)))).before args s = true := by
  intro j hj
  match j, hj with
  | 0, _ => exact (zbl (zbr (zbl (zbr (zbr (zbl (zbr (zbr (zbl (zbr hgv))))))))))
  | 1, _ => exact (zbr (zbr (zbl (zbr (zbr (zbl (zbr (zbr (zbl (zbr hgv))))))))))
  | 2, _ => exact (zbl (zbl (zbr (zbr (zbr (zbl (zbr (zbr (zbl (zbr hgv))))))))))
  | 3, _ => exact (zbr (zbl (zbr (zbr (zbr (zbl (zbr (zbr (zbl (zbr hgv))))))))))
  | j + 4, hj => exact absurd hj (by omega)
theorem zst_13 {A : Nat → Prop} {s : State} {args : Array Value} (hgv : (Jvm.Cond.and given_1 narrow_1).before args s = true) (ht : ∀ w ∈ lw_tbl, w.before args s = true) (hA : ∀ a : Nat, a < s.heap.size → ¬ A a) : ∃ q v : Nat, vk_R (zsO 13) (zsI 13) (zsX 13) q s ∧ va_O "java/lang/String" q A s s.heap ∧ va_OF "java/lang/String" "coder" "B" (.int 0) q A s s.heap ∧ va_OF "java/lang/String" "value" "[B" (.ref v) q A s s.heap ∧ va_T .byte v (zsB.getD 13 []).length (fun j => .int (Int32.ofInt (sch 13 j))) A s s.heap := by
  obtain ⟨adK, adV, hS, hK⟩ := vk_Sof (args := args) (s := s) (N := 1) (tm := fun _ => (Term.string "BottleLine$ShiftReader" 89)) (len := [4]) (byt := [(zsB.getD 13 []).map Int32.ofInt]) (A := A) (fun i hi => by rw [show i = 0 by omega]; decide) (fun _ _ => (zbl (zbr (zbr (zbl (zbr (zbl (zbr (zbr (zbl (zbr hgv))))))))))) (fun _ _ => (zbr (zbr (zbr (zbl (zbr (zbl (zbr (zbr (zbl (zbr hgv))))))))))) (fun _ _ => (zbl (zbl (zbl (zbr (zbr (zbl (zbr (zbr (zbl (zbr hgv))))))))))) (fun i hi => by rw [show i = 0 by omega]; exact (zbr (zbl (zbl (zbr (zbr (zbl (zbr (zbr (zbl (zbr hgv))))))))))) (fun i hi j hj => by
    rw [show i = 0 by omega] at hj ⊢
    have h1 := zel_13 hgv j hj
    show (Cond.eq _ (.int (((zsB.getD 13 []).map Int32.ofInt).getD j 0))).before args s = true
    rw [getD_mapI]
    exact h1) (fun i j hi hj hij => absurd (show i = j by omega) hij) hA
  obtain ⟨h1, h2, h3, h4⟩ := hS.1 0 (by decide)
  refine ⟨adK 0, adV 0, vk_R.of (ht _ (tin_4 (List.mem_of_getElem? (i := 51) rfl))) (hK 0 (by decide)), h1, h2, h3, ?_⟩
  have e : (fun j => Value.int (Int32.ofInt (sch 13 j))) = fun j => Value.int ((([(zsB.getD 13 []).map Int32.ofInt] : List (List Int32)).getD 0 []).getD j 0) := funext fun j => by
    show Value.int (Int32.ofInt ((zsB.getD 13 []).getD j 0)) = Value.int (((zsB.getD 13 []).map Int32.ofInt).getD j 0)
    rw [getD_mapI]
  rw [e]
  exact h4
theorem zel_14 {s : State} {args : Array Value} (hgv : (Jvm.Cond.and given_1 narrow_1).before args s = true) : ∀ j, j < 4 → (Cond.eq (.elem (.field (Term.string "BottleLine$ShiftReader" 91) "java/lang/String" "value" "[B") (.int (Int32.ofNat j))) (.int (Int32.ofInt (sch 14 j)))).before args s = true := by
  intro j hj
  match j, hj with
  | 0, _ => exact (zbl (zbr (zbr (zbr (zbl (zbr (zbr (zbr (zbl (zbr hgv))))))))))
  | 1, _ => exact (zbl (zbr (zbr (zbr (zbr (zbl (zbr (zbr (zbr (zbl (zbr hgv)))))))))))
  | 2, _ => exact (zbr (zbr (zbr (zbr (zbr (zbl (zbr (zbr (zbr (zbl (zbr hgv)))))))))))
  | 3, _ => exact (zbl (zbl (zbl (zbl (zbr (zbr (zbr (zbr (zbl (zbr hgv))))))))))
  | j + 4, hj => exact absurd hj (by omega)
theorem zst_14 {A : Nat → Prop} {s : State} {args : Array Value} (hgv : (Jvm.Cond.and given_1 narrow_1).before args s = true) (ht : ∀ w ∈ lw_tbl, w.before args s = true) (hA : ∀ a : Nat, a < s.heap.size → ¬ A a) : ∃ q v : Nat, vk_R (zsO 14) (zsI 14) (zsX 14) q s ∧ va_O "java/lang/String" q A s s.heap ∧ va_OF "java/lang/String" "coder" "B" (.int 0) q A s s.heap ∧ va_OF "java/lang/String" "value" "[B" (.ref v) q A s s.heap ∧ va_T .byte v (zsB.getD 14 []).length (fun j => .int (Int32.ofInt (sch 14 j))) A s s.heap := by
  obtain ⟨adK, adV, hS, hK⟩ := vk_Sof (args := args) (s := s) (N := 1) (tm := fun _ => (Term.string "BottleLine$ShiftReader" 91)) (len := [4]) (byt := [(zsB.getD 14 []).map Int32.ofInt]) (A := A) (fun i hi => by rw [show i = 0 by omega]; decide) (fun _ _ => (zbl (zbr (zbl (zbr (zbl (zbr (zbr (zbr (zbl (zbr hgv))))))))))) (fun _ _ => (zbr (zbr (zbl (zbr (zbl (zbr (zbr (zbr (zbl (zbr hgv))))))))))) (fun _ _ => (zbl (zbl (zbr (zbr (zbl (zbr (zbr (zbr (zbl (zbr hgv))))))))))) (fun i hi => by rw [show i = 0 by omega]; exact (zbr (zbl (zbr (zbr (zbl (zbr (zbr (zbr (zbl (zbr hgv))))))))))) (fun i hi j hj => by
    rw [show i = 0 by omega] at hj ⊢
    have h1 := zel_14 hgv j hj
    show (Cond.eq _ (.int (((zsB.getD 14 []).map Int32.ofInt).getD j 0))).before args s = true
    rw [getD_mapI]
    exact h1) (fun i j hi hj hij => absurd (show i = j by omega) hij) hA
  obtain ⟨h1, h2, h3, h4⟩ := hS.1 0 (by decide)
  refine ⟨adK 0, adV 0, vk_R.of (ht _ (tin_4 (List.mem_of_getElem? (i := 52) rfl))) (hK 0 (by decide)), h1, h2, h3, ?_⟩
  have e : (fun j => Value.int (Int32.ofInt (sch 14 j))) = fun j => Value.int ((([(zsB.getD 14 []).map Int32.ofInt] : List (List Int32)).getD 0 []).getD j 0) := funext fun j => by
    show Value.int (Int32.ofInt ((zsB.getD 14 []).getD j 0)) = Value.int (((zsB.getD 14 []).map Int32.ofInt).getD j 0)
    rw [getD_mapI]
  rw [e]
  exact h4
theorem zel_15 {s : State} {args : Array Value} (hgv : (Jvm.Cond.and given_1 narrow_1).before args s = true) : ∀ j, j < 5 → (Cond.eq (.elem (.field (Term.string "BottleLine$ShiftReader" 126) "java/lang/String" "value" "[B") (.int (Int32.ofNat j))) (.int (Int32.ofInt (sch 15 j)))).before args s = true := by
  intro j hj
  match j, hj with
  | 0, _ => exact (zbl (zbr (zbl (zbl (zbl (zbl (zbl (zbl (zbr (zbr hgv))))))))))
  | 1, _ => exact (zbr (zbr (zbl (zbl (zbl (zbl (zbl (zbl (zbr (zbr hgv))))))))))
  | 2, _ => exact (zbl (zbl (zbr (zbl (zbl (zbl (zbl (zbl (zbr (zbr hgv))))))))))
  | 3, _ => exact (zbr (zbl (zbr (zbl (zbl (zbl (zbl (zbl (zbr (zbr hgv))))))))))
  | 4, _ => exact (zbl (zbr (zbr (zbl (zbl (zbl (zbl (zbl (zbr (zbr hgv))))))))))
  | j + 5, hj => exact absurd hj (by omega)
theorem zst_15 {A : Nat → Prop} {s : State} {args : Array Value} (hgv : (Jvm.Cond.and given_1 narrow_1).before args s = true) (ht : ∀ w ∈ lw_tbl, w.before args s = true) (hA : ∀ a : Nat, a < s.heap.size → ¬ A a) : ∃ q v : Nat, vk_R (zsO 15) (zsI 15) (zsX 15) q s ∧ va_O "java/lang/String" q A s s.heap ∧ va_OF "java/lang/String" "coder" "B" (.int 0) q A s s.heap ∧ va_OF "java/lang/String" "value" "[B" (.ref v) q A s s.heap ∧ va_T .byte v (zsB.getD 15 []).length (fun j => .int (Int32.ofInt (sch 15 j))) A s s.heap := by
  obtain ⟨adK, adV, hS, hK⟩ := vk_Sof (args := args) (s := s) (N := 1) (tm := fun _ => (Term.string "BottleLine$ShiftReader" 126)) (len := [5]) (byt := [(zsB.getD 15 []).map Int32.ofInt]) (A := A) (fun i hi => by rw [show i = 0 by omega]; decide) (fun _ _ => (zbl (zbr (zbr (zbr (zbr (zbr (zbr (zbr (zbr (zbl (zbr hgv)))))))))))) (fun _ _ => (zbr (zbr (zbr (zbr (zbr (zbr (zbr (zbr (zbr (zbl (zbr hgv)))))))))))) (fun _ _ => (zbl (zbl (zbl (zbl (zbl (zbl (zbl (zbl (zbr (zbr hgv))))))))))) (fun i hi => by rw [show i = 0 by omega]; exact (zbr (zbl (zbl (zbl (zbl (zbl (zbl (zbl (zbr (zbr hgv))))))))))) (fun i hi j hj => by
    rw [show i = 0 by omega] at hj ⊢
    have h1 := zel_15 hgv j hj
    show (Cond.eq _ (.int (((zsB.getD 15 []).map Int32.ofInt).getD j 0))).before args s = true
    rw [getD_mapI]
    exact h1) (fun i j hi hj hij => absurd (show i = j by omega) hij) hA
  obtain ⟨h1, h2, h3, h4⟩ := hS.1 0 (by decide)
  refine ⟨adK 0, adV 0, vk_R.of (ht _ (tin_4 (List.mem_of_getElem? (i := 72) rfl))) (hK 0 (by decide)), h1, h2, h3, ?_⟩
  have e : (fun j => Value.int (Int32.ofInt (sch 15 j))) = fun j => Value.int ((([(zsB.getD 15 []).map Int32.ofInt] : List (List Int32)).getD 0 []).getD j 0) := funext fun j => by
    show Value.int (Int32.ofInt ((zsB.getD 15 []).getD j 0)) = Value.int (((zsB.getD 15 []).map Int32.ofInt).getD j 0)
    rw [getD_mapI]
  rw [e]
  exact h4
theorem zel_16 {s : State} {args : Array Value} (hgv : (Jvm.Cond.and given_1 narrow_1).before args s = true) : ∀ j, j < 7 → (Cond.eq (.elem (.field (Term.string "BottleLine$ShiftReader" 130) "java/lang/String" "value" "[B") (.int (Int32.ofNat j))) (.int (Int32.ofInt (sch 16 j)))).before args s = true := by
  intro j hj
  match j, hj with
  | 0, _ => exact (zbl (zbr (zbl (zbr (zbr (zbl (zbl (zbl (zbr (zbr hgv))))))))))
  | 1, _ => exact (zbr (zbr (zbl (zbr (zbr (zbl (zbl (zbl (zbr (zbr hgv))))))))))
  | 2, _ => exact (zbl (zbl (zbr (zbr (zbr (zbl (zbl (zbl (zbr (zbr hgv))))))))))
  | 3, _ => exact (zbr (zbl (zbr (zbr (zbr (zbl (zbl (zbl (zbr (zbr hgv))))))))))
  | 4, _ => exact (zbl (zbr (zbr (zbr (zbr (zbl (zbl (zbl (zbr (zbr hgv))))))))))
  | 5, _ => exact (zbl (zbr (zbr (zbr (zbr (zbr (zbl (zbl (zbl (zbr (zbr hgv)))))))))))
  | 6, _ => exact (zbr (zbr (zbr (zbr (zbr (zbr (zbl (zbl (zbl (zbr (zbr hgv)))))))))))
  | j + 7, hj => exact absurd hj (by omega)
theorem zst_16 {A : Nat → Prop} {s : State} {args : Array Value} (hgv : (Jvm.Cond.and given_1 narrow_1).before args s = true) (ht : ∀ w ∈ lw_tbl, w.before args s = true) (hA : ∀ a : Nat, a < s.heap.size → ¬ A a) : ∃ q v : Nat, vk_R (zsO 16) (zsI 16) (zsX 16) q s ∧ va_O "java/lang/String" q A s s.heap ∧ va_OF "java/lang/String" "coder" "B" (.int 0) q A s s.heap ∧ va_OF "java/lang/String" "value" "[B" (.ref v) q A s s.heap ∧ va_T .byte v (zsB.getD 16 []).length (fun j => .int (Int32.ofInt (sch 16 j))) A s s.heap := by
  obtain ⟨adK, adV, hS, hK⟩ := vk_Sof (args := args) (s := s) (N := 1) (tm := fun _ => (Term.string "BottleLine$ShiftReader" 130)) (len := [7]) (byt := [(zsB.getD 16 []).map Int32.ofInt]) (A := A) (fun i hi => by rw [show i = 0 by omega]; decide) (fun _ _ => (zbl (zbr (zbr (zbl (zbr (zbl (zbl (zbl (zbr (zbr hgv))))))))))) (fun _ _ => (zbr (zbr (zbr (zbl (zbr (zbl (zbl (zbl (zbr (zbr hgv))))))))))) (fun _ _ => (zbl (zbl (zbl (zbr (zbr (zbl (zbl (zbl (zbr (zbr hgv))))))))))) (fun i hi => by rw [show i = 0 by omega]; exact (zbr (zbl (zbl (zbr (zbr (zbl (zbl (zbl (zbr (zbr hgv))))))))))) (fun i hi j hj => by
    rw [show i = 0 by omega] at hj ⊢
    have h1 := zel_16 hgv j hj
    show (Cond.eq _ (.int (((zsB.getD 16 []).map Int32.ofInt).getD j 0))).before args s = true
    rw [getD_mapI]
    exact h1) (fun i j hi hj hij => absurd (show i = j by omega) hij) hA
  obtain ⟨h1, h2, h3, h4⟩ := hS.1 0 (by decide)
  refine ⟨adK 0, adV 0, vk_R.of (ht _ (tin_4 (List.mem_of_getElem? (i := 73) rfl))) (hK 0 (by decide)), h1, h2, h3, ?_⟩
  have e : (fun j => Value.int (Int32.ofInt (sch 16 j))) = fun j => Value.int ((([(zsB.getD 16 []).map Int32.ofInt] : List (List Int32)).getD 0 []).getD j 0) := funext fun j => by
    show Value.int (Int32.ofInt ((zsB.getD 16 []).getD j 0)) = Value.int (((zsB.getD 16 []).map Int32.ofInt).getD j 0)
    rw [getD_mapI]
  rw [e]
  exact h4
theorem zel_17 {s : State} {args : Array Value} (hgv : (Jvm.Cond.and given_1 narrow_1).before args s = true) : ∀ j, j < 7 → (Cond.eq (.elem (.field (Term.string "BottleLine$ShiftReader" 132) "java/lang/String" "value" "[B") (.int (Int32.ofNat j))) (.int (Int32.ofInt (sch 17 j)))).before args s = true := by
  intro j hj
  match j, hj with
  | 0, _ => exact (zbl (zbl (zbr (zbl (zbr (zbr (zbl (zbl (zbr (zbr hgv))))))))))
  | 1, _ => exact (zbr (zbl (zbr (zbl (zbr (zbr (zbl (zbl (zbr (zbr hgv))))))))))
  | 2, _ => exact (zbl (zbr (zbr (zbl (zbr (zbr (zbl (zbl (zbr (zbr hgv))))))))))
  | 3, _ => exact (zbr (zbr (zbr (zbl (zbr (zbr (zbl (zbl (zbr (zbr hgv))))))))))
  | 4, _ => exact (zbl (zbl (zbl (zbr (zbr (zbr (zbl (zbl (zbr (zbr hgv))))))))))
  | 5, _ => exact (zbr (zbl (zbl (zbr (zbr (zbr (zbl (zbl (zbr (zbr hgv))))))))))
  | 6, _ => exact (zbl (zbr (zbl (zbr (zbr (zbr (zbl (zbl (zbr (zbr hgv))))))))))
  | j + 7, hj => exact absurd hj (by omega)
theorem zst_17 {A : Nat → Prop} {s : State} {args : Array Value} (hgv : (Jvm.Cond.and given_1 narrow_1).before args s = true) (ht : ∀ w ∈ lw_tbl, w.before args s = true) (hA : ∀ a : Nat, a < s.heap.size → ¬ A a) : ∃ q v : Nat, vk_R (zsO 17) (zsI 17) (zsX 17) q s ∧ va_O "java/lang/String" q A s s.heap ∧ va_OF "java/lang/String" "coder" "B" (.int 0) q A s s.heap ∧ va_OF "java/lang/String" "value" "[B" (.ref v) q A s s.heap ∧ va_T .byte v (zsB.getD 17 []).length (fun j => .int (Int32.ofInt (sch 17 j))) A s s.heap := by
  obtain ⟨adK, adV, hS, hK⟩ := vk_Sof (args := args) (s := s) (N := 1) (tm := fun _ => (Term.string "BottleLine$ShiftReader" 132)) (len := [7]) (byt := [(zsB.getD 17 []).map Int32.ofInt]) (A := A) (fun i hi => by rw [show i = 0 by omega]; decide) (fun _ _ => (zbl (zbl (zbl (zbl (zbr (zbr (zbl (zbl (zbr (zbr hgv))))))))))) (fun _ _ => (zbr (zbl (zbl (zbl (zbr (zbr (zbl (zbl (zbr (zbr hgv))))))))))) (fun _ _ => (zbl (zbr (zbl (zbl (zbr (zbr (zbl (zbl (zbr (zbr hgv))))))))))) (fun i hi => by rw [show i = 0 by omega]; exact (zbr (zbr (zbl (zbl (zbr (zbr (zbl (zbl (zbr (zbr hgv))))))))))) (fun i hi j hj => by
    rw [show i = 0 by omega] at hj ⊢
    have h1 := zel_17 hgv j hj
    show (Cond.eq _ (.int (((zsB.getD 17 []).map Int32.ofInt).getD j 0))).before args s = true
    rw [getD_mapI]
    exact h1) (fun i j hi hj hij => absurd (show i = j by omega) hij) hA
  obtain ⟨h1, h2, h3, h4⟩ := hS.1 0 (by decide)
  refine ⟨adK 0, adV 0, vk_R.of (ht _ (tin_4 (List.mem_of_getElem? (i := 74) rfl))) (hK 0 (by decide)), h1, h2, h3, ?_⟩
  have e : (fun j => Value.int (Int32.ofInt (sch 17 j))) = fun j => Value.int ((([(zsB.getD 17 []).map Int32.ofInt] : List (List Int32)).getD 0 []).getD j 0) := funext fun j => by
    show Value.int (Int32.ofInt ((zsB.getD 17 []).getD j 0)) = Value.int (((zsB.getD 17 []).map Int32.ofInt).getD j 0)
    rw [getD_mapI]
  rw [e]
  exact h4
theorem zel_18 {s : State} {args : Array Value} (hgv : (Jvm.Cond.and given_1 narrow_1).before args s = true) : ∀ j, j < 7 → (Cond.eq (.elem (.field (Term.string "BottleLine$ShiftReader" 134) "java/lang/String" "value" "[B") (.int (Int32.ofNat j))) (.int (Int32.ofInt (sch 18 j)))).before args s = true := by
  intro j hj
  match j, hj with
  | 0, _ => exact (zbr (zbr (zbr (zbr (zbl (zbl (zbr (zbl (zbr (zbr hgv))))))))))
  | 1, _ => exact (zbl (zbl (zbl (zbl (zbr (zbl (zbr (zbl (zbr (zbr hgv))))))))))
  | 2, _ => exact (zbr (zbl (zbl (zbl (zbr (zbl (zbr (zbl (zbr (zbr hgv))))))))))
  | 3, _ => exact (zbl (zbr (zbl (zbl (zbr (zbl (zbr (zbl (zbr (zbr hgv))))))))))
  | 4, _ => exact (zbr (zbr (zbl (zbl (zbr (zbl (zbr (zbl (zbr (zbr hgv))))))))))
  | 5, _ => exact (zbl (zbl (zbr (zbl (zbr (zbl (zbr (zbl (zbr (zbr hgv))))))))))
  | 6, _ => exact (zbr (zbl (zbr (zbl (zbr (zbl (zbr (zbl (zbr (zbr hgv))))))))))
  | j + 7, hj => exact absurd hj (by omega)
theorem zst_18 {A : Nat → Prop} {s : State} {args : Array Value} (hgv : (Jvm.Cond.and given_1 narrow_1).before args s = true) (ht : ∀ w ∈ lw_tbl, w.before args s = true) (hA : ∀ a : Nat, a < s.heap.size → ¬ A a) : ∃ q v : Nat, vk_R (zsO 18) (zsI 18) (zsX 18) q s ∧ va_O "java/lang/String" q A s s.heap ∧ va_OF "java/lang/String" "coder" "B" (.int 0) q A s s.heap ∧ va_OF "java/lang/String" "value" "[B" (.ref v) q A s s.heap ∧ va_T .byte v (zsB.getD 18 []).length (fun j => .int (Int32.ofInt (sch 18 j))) A s s.heap := by
  obtain ⟨adK, adV, hS, hK⟩ := vk_Sof (args := args) (s := s) (N := 1) (tm := fun _ => (Term.string "BottleLine$ShiftReader" 134)) (len := [7]) (byt := [(zsB.getD 18 []).map Int32.ofInt]) (A := A) (fun i hi => by rw [show i = 0 by omega]; decide) (fun _ _ => (zbr (zbr (zbl (zbr (zbl (zbl (zbr (zbl (zbr (zbr hgv))))))))))) (fun _ _ => (zbl (zbl (zbr (zbr (zbl (zbl (zbr (zbl (zbr (zbr hgv))))))))))) (fun _ _ => (zbr (zbl (zbr (zbr (zbl (zbl (zbr (zbl (zbr (zbr hgv))))))))))) (fun i hi => by rw [show i = 0 by omega]; exact (zbl (zbr (zbr (zbr (zbl (zbl (zbr (zbl (zbr (zbr hgv))))))))))) (fun i hi j hj => by
    rw [show i = 0 by omega] at hj ⊢
    have h1 := zel_18 hgv j hj
    show (Cond.eq _ (.int (((zsB.getD 18 []).map Int32.ofInt).getD j 0))).before args s = true
    rw [getD_mapI]
    exact h1) (fun i j hi hj hij => absurd (show i = j by omega) hij) hA
  obtain ⟨h1, h2, h3, h4⟩ := hS.1 0 (by decide)
  refine ⟨adK 0, adV 0, vk_R.of (ht _ (tin_4 (List.mem_of_getElem? (i := 75) rfl))) (hK 0 (by decide)), h1, h2, h3, ?_⟩
  have e : (fun j => Value.int (Int32.ofInt (sch 18 j))) = fun j => Value.int ((([(zsB.getD 18 []).map Int32.ofInt] : List (List Int32)).getD 0 []).getD j 0) := funext fun j => by
    show Value.int (Int32.ofInt ((zsB.getD 18 []).getD j 0)) = Value.int (((zsB.getD 18 []).map Int32.ofInt).getD j 0)
    rw [getD_mapI]
  rw [e]
  exact h4
theorem zel_19 {s : State} {args : Array Value} (hgv : (Jvm.Cond.and given_1 narrow_1).before args s = true) : ∀ j, j < 49 → (Cond.eq (.elem (.field (Term.string "BottleLineModel" 186) "java/lang/String" "value" "[B") (.int (Int32.ofNat j))) (.int (Int32.ofInt (sch 19 j)))).before args s = true := by
  intro j hj
  match j, hj with
  | 0, _ => exact (zbr (zbr (zbl (zbr (zbl (zbr (zbr (zbl (zbr (zbr hgv))))))))))
  | 1, _ => exact (zbl (zbl (zbr (zbr (zbl (zbr (zbr (zbl (zbr (zbr hgv))))))))))
  | 2, _ => exact (zbr (zbl (zbr (zbr (zbl (zbr (zbr (zbl (zbr (zbr hgv))))))))))
  | 3, _ => exact (zbl (zbr (zbr (zbr (zbl (zbr (zbr (zbl (zbr (zbr hgv))))))))))
  | 4, _ => exact (zbl (zbr (zbr (zbr (zbr (zbl (zbr (zbr (zbl (zbr (zbr hgv)))))))))))
  | 5, _ => exact (zbr (zbr (zbr (zbr (zbr (zbl (zbr (zbr (zbl (zbr (zbr hgv)))))))))))
  | 6, _ => exact (zbl (zbl (zbl (zbl (zbr (zbr (zbr (zbl (zbr (zbr hgv))))))))))
  | 7, _ => exact (zbr (zbl (zbl (zbl (zbr (zbr (zbr (zbl (zbr (zbr hgv))))))))))
  | 8, _ => exact (zbl (zbr (zbl (zbl (zbr (zbr (zbr (zbl (zbr (zbr hgv))))))))))
  | 9, _ => exact (zbr (zbr (zbl (zbl (zbr (zbr (zbr (zbl (zbr (zbr hgv))))))))))
  | 10, _ => exact (zbl (zbl (zbr (zbl (zbr (zbr (zbr (zbl (zbr (zbr hgv))))))))))
  | 11, _ => exact (zbr (zbl (zbr (zbl (zbr (zbr (zbr (zbl (zbr (zbr hgv))))))))))
  | 12, _ => exact (zbl (zbr (zbr (zbl (zbr (zbr (zbr (zbl (zbr (zbr hgv))))))))))
  | 13, _ => exact (zbr (zbr (zbr (zbl (zbr (zbr (zbr (zbl (zbr (zbr hgv))))))))))
  | 14, _ => exact (zbl (zbl (zbl (zbr (zbr (zbr (zbr (zbl (zbr (zbr hgv))))))))))
  | 15, _ => exact (zbr (zbl (zbl (zbr (zbr (zbr (zbr (zbl (zbr (zbr hgv))))))))))
  | 16, _ => exact (zbl (zbr (zbl (zbr (zbr (zbr (zbr (zbl (zbr (zbr hgv))))))))))
  | 17, _ => exact (zbr (zbr (zbl (zbr (zbr (zbr (zbr (zbl (zbr (zbr hgv))))))))))
  | 18, _ => exact (zbl (zbl (zbr (zbr (zbr (zbr (zbr (zbl (zbr (zbr hgv))))))))))
  | 19, _ => exact (zbr (zbl (zbr (zbr (zbr (zbr (zbr (zbl (zbr (zbr hgv))))))))))
  | 20, _ => exact (zbl (zbr (zbr (zbr (zbr (zbr (zbr (zbl (zbr (zbr hgv))))))))))
  | 21, _ => exact (zbl (zbr (zbr (zbr (zbr (zbr (zbr (zbr (zbl (zbr (zbr hgv)))))))))))
  | 22, _ => exact (zbr (zbr (zbr (zbr (zbr (zbr (zbr (zbr (zbl (zbr (zbr hgv)))))))))))
  | 23, _ => exact (zbl (zbl (zbl (zbl (zbl (zbl (zbl (zbr (zbr (zbr hgv))))))))))
  | 24, _ => exact (zbr (zbl (zbl (zbl (zbl (zbl (zbl (zbr (zbr (zbr hgv))))))))))
  | 25, _ => exact (zbl (zbr (zbl (zbl (zbl (zbl (zbl (zbr (zbr (zbr hgv))))))))))
  | 26, _ => exact (zbr (zbr (zbl (zbl (zbl (zbl (zbl (zbr (zbr (zbr hgv))))))))))
  | 27, _ => exact (zbl (zbl (zbr (zbl (zbl (zbl (zbl (zbr (zbr (zbr hgv))))))))))
  | 28, _ => exact (zbr (zbl (zbr (zbl (zbl (zbl (zbl (zbr (zbr (zbr hgv))))))))))
  | 29, _ => exact (zbl (zbr (zbr (zbl (zbl (zbl (zbl (zbr (zbr (zbr hgv))))))))))
  | 30, _ => exact (zbr (zbr (zbr (zbl (zbl (zbl (zbl (zbr (zbr (zbr hgv))))))))))
  | 31, _ => exact (zbl (zbl (zbl (zbr (zbl (zbl (zbl (zbr (zbr (zbr hgv))))))))))
  | 32, _ => exact (zbr (zbl (zbl (zbr (zbl (zbl (zbl (zbr (zbr (zbr hgv))))))))))
  | 33, _ => exact (zbl (zbr (zbl (zbr (zbl (zbl (zbl (zbr (zbr (zbr hgv))))))))))
  | 34, _ => exact (zbr (zbr (zbl (zbr (zbl (zbl (zbl (zbr (zbr (zbr hgv))))))))))
  | 35, _ => exact (zbl (zbl (zbr (zbr (zbl (zbl (zbl (zbr (zbr (zbr hgv))))))))))
  | 36, _ => exact (zbr (zbl (zbr (zbr (zbl (zbl (zbl (zbr (zbr (zbr hgv))))))))))
  | 37, _ => exact (zbl (zbr (zbr (zbr (zbl (zbl (zbl (zbr (zbr (zbr hgv))))))))))
  | 38, _ => exact (zbr (zbr (zbr (zbr (zbl (zbl (zbl (zbr (zbr (zbr hgv))))))))))
  | 39, _ => exact (zbl (zbl (zbl (zbl (zbr (zbl (zbl (zbr (zbr (zbr hgv))))))))))
  | 40, _ => exact (zbr (zbl (zbl (zbl (zbr (zbl (zbl (zbr (zbr (zbr hgv))))))))))
  | 41, _ => exact (zbl (zbr (zbl (zbl (zbr (zbl (zbl (zbr (zbr (zbr hgv))))))))))
  | 42, _ => exact (zbr (zbr (zbl (zbl (zbr (zbl (zbl (zbr (zbr (zbr hgv))))))))))
  | 43, _ => exact (zbl (zbl (zbr (zbl (zbr (zbl (zbl (zbr (zbr (zbr hgv))))))))))
  | 44, _ => exact (zbr (zbl (zbr (zbl (zbr (zbl (zbl (zbr (zbr (zbr hgv))))))))))
  | 45, _ => exact (zbl (zbr (zbr (zbl (zbr (zbl (zbl (zbr (zbr (zbr hgv))))))))))
  | 46, _ => exact (zbr (zbr (zbr (zbl (zbr (zbl (zbl (zbr (zbr (zbr hgv))))))))))
  | 47, _ => exact (zbl (zbl (zbl (zbr (zbr (zbl (zbl (zbr (zbr (zbr hgv))))))))))
  | 48, _ => exact (zbr (zbl (zbl (zbr (zbr (zbl (zbl (zbr (zbr (zbr hgv))))))))))
  | j + 49, hj => exact absurd hj (by omega)
theorem zst_19 {A : Nat → Prop} {s : State} {args : Array Value} (hgv : (Jvm.Cond.and given_1 narrow_1).before args s = true) (ht : ∀ w ∈ lw_tbl, w.before args s = true) (hA : ∀ a : Nat, a < s.heap.size → ¬ A a) : ∃ q v : Nat, vk_R (zsO 19) (zsI 19) (zsX 19) q s ∧ va_O "java/lang/String" q A s s.heap ∧ va_OF "java/lang/String" "coder" "B" (.int 0) q A s s.heap ∧ va_OF "java/lang/String" "value" "[B" (.ref v) q A s s.heap ∧ va_T .byte v (zsB.getD 19 []).length (fun j => .int (Int32.ofInt (sch 19 j))) A s s.heap := by
  obtain ⟨adK, adV, hS, hK⟩ := vk_Sof (args := args) (s := s) (N := 1) (tm := fun _ => (Term.string "BottleLineModel" 186)) (len := [49]) (byt := [(zsB.getD 19 []).map Int32.ofInt]) (A := A) (fun i hi => by rw [show i = 0 by omega]; decide) (fun _ _ => (zbr (zbr (zbr (zbl (zbl (zbr (zbr (zbl (zbr (zbr hgv))))))))))) (fun _ _ => (zbl (zbl (zbl (zbr (zbl (zbr (zbr (zbl (zbr (zbr hgv))))))))))) (fun _ _ => (zbr (zbl (zbl (zbr (zbl (zbr (zbr (zbl (zbr (zbr hgv))))))))))) (fun i hi => by rw [show i = 0 by omega]; exact (zbl (zbr (zbl (zbr (zbl (zbr (zbr (zbl (zbr (zbr hgv))))))))))) (fun i hi j hj => by
    rw [show i = 0 by omega] at hj ⊢
    have h1 := zel_19 hgv j hj
    show (Cond.eq _ (.int (((zsB.getD 19 []).map Int32.ofInt).getD j 0))).before args s = true
    rw [getD_mapI]
    exact h1) (fun i j hi hj hij => absurd (show i = j by omega) hij) hA
  obtain ⟨h1, h2, h3, h4⟩ := hS.1 0 (by decide)
  refine ⟨adK 0, adV 0, vk_R.of (ht _ (tin_6 (List.mem_of_getElem? (i := 217) rfl))) (hK 0 (by decide)), h1, h2, h3, ?_⟩
  have e : (fun j => Value.int (Int32.ofInt (sch 19 j))) = fun j => Value.int ((([(zsB.getD 19 []).map Int32.ofInt] : List (List Int32)).getD 0 []).getD j 0) := funext fun j => by
    show Value.int (Int32.ofInt ((zsB.getD 19 []).getD j 0)) = Value.int (((zsB.getD 19 []).map Int32.ofInt).getD j 0)
    rw [getD_mapI]
  rw [e]
  exact h4
theorem zel_20 {s : State} {args : Array Value} (hgv : (Jvm.Cond.and given_1 narrow_1).before args s = true) : ∀ j, j < 65 → (Cond.eq (.elem (.field (Term.string "BottleLineModel" 254) "java/lang/String" "value" "[B") (.int (Int32.ofNat j))) (.int (Int32.ofInt (sch 20 j)))).before args s = true := by
  intro j hj
  match j, hj with
  | 0, _ => exact (zbr (zbr (zbr (zbr (zbr (zbl (zbr (zbl (zbr (zbr (zbr hgv)))))))))))
  | 1, _ => exact (zbl (zbl (zbl (zbl (zbr (zbr (zbl (zbr (zbr (zbr hgv))))))))))
  | 2, _ => exact (zbr (zbl (zbl (zbl (zbr (zbr (zbl (zbr (zbr (zbr hgv))))))))))
  | 3, _ => exact (zbl (zbr (zbl (zbl (zbr (zbr (zbl (zbr (zbr (zbr hgv))))))))))
  | 4, _ => exact (zbr (zbr (zbl (zbl (zbr (zbr (zbl (zbr (zbr (zbr hgv))))))))))
  | 5, _ => exact (zbl (zbl (zbr (zbl (zbr (zbr (zbl (zbr (zbr (zbr hgv))))))))))
  | 6, _ => exact (zbr (zbl (zbr (zbl (zbr (zbr (zbl (zbr (zbr (zbr hgv))))))))))
  | 7, _ => exact (zbl (zbr (zbr (zbl (zbr (zbr (zbl (zbr (zbr (zbr hgv))))))))))
  | 8, _ => exact (zbr (zbr (zbr (zbl (zbr (zbr (zbl (zbr (zbr (zbr hgv))))))))))
  | 9, _ => exact (zbl (zbl (zbl (zbr (zbr (zbr (zbl (zbr (zbr (zbr hgv))))))))))
  | 10, _ => exact (zbr (zbl (zbl (zbr (zbr (zbr (zbl (zbr (zbr (zbr hgv))))))))))
  | 11, _ => exact (zbl (zbr (zbl (zbr (zbr (zbr (zbl (zbr (zbr (zbr hgv))))))))))
  | 12, _ => exact (zbr (zbr (zbl (zbr (zbr (zbr (zbl (zbr (zbr (zbr hgv))))))))))
  | 13, _ => exact (zbl (zbl (zbr (zbr (zbr (zbr (zbl (zbr (zbr (zbr hgv))))))))))
  | 14, _ => exact (zbr (zbl (zbr (zbr (zbr (zbr (zbl (zbr (zbr (zbr hgv))))))))))
  | 15, _ => exact (zbl (zbr (zbr (zbr (zbr (zbr (zbl (zbr (zbr (zbr hgv))))))))))
  | 16, _ => exact (zbl (zbr (zbr (zbr (zbr (zbr (zbr (zbl (zbr (zbr (zbr hgv)))))))))))
  | 17, _ => exact (zbr (zbr (zbr (zbr (zbr (zbr (zbr (zbl (zbr (zbr (zbr hgv)))))))))))
  | 18, _ => exact (zbl (zbl (zbl (zbl (zbl (zbl (zbr (zbr (zbr (zbr hgv))))))))))
  | 19, _ => exact (zbr (zbl (zbl (zbl (zbl (zbl (zbr (zbr (zbr (zbr hgv))))))))))
  | 20, _ => exact (zbl (zbr (zbl (zbl (zbl (zbl (zbr (zbr (zbr (zbr hgv))))))))))
  | 21, _ => exact (zbr (zbr (zbl (zbl (zbl (zbl (zbr (zbr (zbr (zbr hgv))))))))))
  | 22, _ => exact (zbl (zbl (zbr (zbl (zbl (zbl (zbr (zbr (zbr (zbr hgv))))))))))
  | 23, _ => exact (zbr (zbl (zbr (zbl (zbl (zbl (zbr (zbr (zbr (zbr hgv))))))))))
  | 24, _ => exact (zbl (zbr (zbr (zbl (zbl (zbl (zbr (zbr (zbr (zbr hgv))))))))))
  | 25, _ => exact (zbr (zbr (zbr (zbl (zbl (zbl (zbr (zbr (zbr (zbr hgv))))))))))
  | 26, _ => exact (zbl (zbl (zbl (zbr (zbl (zbl (zbr (zbr (zbr (zbr hgv))))))))))
  | 27, _ => exact (zbr (zbl (zbl (zbr (zbl (zbl (zbr (zbr (zbr (zbr hgv))))))))))
  | 28, _ => exact (zbl (zbr (zbl (zbr (zbl (zbl (zbr (zbr (zbr (zbr hgv))))))))))
  | 29, _ => exact (zbr (zbr (zbl (zbr (zbl (zbl (zbr (zbr (zbr (zbr hgv))))))))))
  | 30, _ => exact (zbl (zbl (zbr (zbr (zbl (zbl (zbr (zbr (zbr (zbr hgv))))))))))
  | 31, _ => exact (zbr (zbl (zbr (zbr (zbl (zbl (zbr (zbr (zbr (zbr hgv))))))))))
  | 32, _ => exact (zbl (zbr (zbr (zbr (zbl (zbl (zbr (zbr (zbr (zbr hgv))))))))))
  | 33, _ => exact (zbr (zbr (zbr (zbr (zbl (zbl (zbr (zbr (zbr (zbr hgv))))))))))
  | 34, _ => exact (zbl (zbl (zbl (zbl (zbr (zbl (zbr (zbr (zbr (zbr hgv))))))))))
  | 35, _ => exact (zbr (zbl (zbl (zbl (zbr (zbl (zbr (zbr (zbr (zbr hgv))))))))))
  | 36, _ => exact (zbl (zbr (zbl (zbl (zbr (zbl (zbr (zbr (zbr (zbr hgv))))))))))
  | 37, _ => exact (zbr (zbr (zbl (zbl (zbr (zbl (zbr (zbr (zbr (zbr hgv))))))))))
  | 38, _ => exact (zbl (zbl (zbr (zbl (zbr (zbl (zbr (zbr (zbr (zbr hgv))))))))))
  | 39, _ => exact (zbr (zbl (zbr (zbl (zbr (zbl (zbr (zbr (zbr (zbr hgv))))))))))
  | 40, _ => exact (zbl (zbr (zbr (zbl (zbr (zbl (zbr (zbr (zbr (zbr hgv))))))))))
  | 41, _ => exact (zbr (zbr (zbr (zbl (zbr (zbl (zbr (zbr (zbr (zbr hgv))))))))))
  | 42, _ => exact (zbl (zbl (zbl (zbr (zbr (zbl (zbr (zbr (zbr (zbr hgv))))))))))
  | 43, _ => exact (zbr (zbl (zbl (zbr (zbr (zbl (zbr (zbr (zbr (zbr hgv))))))))))
  | 44, _ => exact (zbl (zbr (zbl (zbr (zbr (zbl (zbr (zbr (zbr (zbr hgv))))))))))
  | 45, _ => exact (zbr (zbr (zbl (zbr (zbr (zbl (zbr (zbr (zbr (zbr hgv))))))))))
  | 46, _ => exact (zbl (zbl (zbr (zbr (zbr (zbl (zbr (zbr (zbr (zbr hgv))))))))))
  | 47, _ => exact (zbr (zbl (zbr (zbr (zbr (zbl (zbr (zbr (zbr (zbr hgv))))))))))
  | 48, _ => exact (zbl (zbr (zbr (zbr (zbr (zbl (zbr (zbr (zbr (zbr hgv))))))))))
  | 49, _ => exact (zbl (zbr (zbr (zbr (zbr (zbr (zbl (zbr (zbr (zbr (zbr hgv)))))))))))
  | 50, _ => exact (zbr (zbr (zbr (zbr (zbr (zbr (zbl (zbr (zbr (zbr (zbr hgv)))))))))))
  | 51, _ => exact (zbl (zbl (zbl (zbl (zbl (zbr (zbr (zbr (zbr (zbr hgv))))))))))
  | 52, _ => exact (zbr (zbl (zbl (zbl (zbl (zbr (zbr (zbr (zbr (zbr hgv))))))))))
  | 53, _ => exact (zbl (zbr (zbl (zbl (zbl (zbr (zbr (zbr (zbr (zbr hgv))))))))))
  | 54, _ => exact (zbr (zbr (zbl (zbl (zbl (zbr (zbr (zbr (zbr (zbr hgv))))))))))
  | 55, _ => exact (zbl (zbl (zbr (zbl (zbl (zbr (zbr (zbr (zbr (zbr hgv))))))))))
  | 56, _ => exact (zbr (zbl (zbr (zbl (zbl (zbr (zbr (zbr (zbr (zbr hgv))))))))))
  | 57, _ => exact (zbl (zbr (zbr (zbl (zbl (zbr (zbr (zbr (zbr (zbr hgv))))))))))
  | 58, _ => exact (zbr (zbr (zbr (zbl (zbl (zbr (zbr (zbr (zbr (zbr hgv))))))))))
  | 59, _ => exact (zbl (zbl (zbl (zbr (zbl (zbr (zbr (zbr (zbr (zbr hgv))))))))))
  | 60, _ => exact (zbr (zbl (zbl (zbr (zbl (zbr (zbr (zbr (zbr (zbr hgv))))))))))
  | 61, _ => exact (zbl (zbr (zbl (zbr (zbl (zbr (zbr (zbr (zbr (zbr hgv))))))))))
  | 62, _ => exact (zbr (zbr (zbl (zbr (zbl (zbr (zbr (zbr (zbr (zbr hgv))))))))))
  | 63, _ => exact (zbl (zbl (zbr (zbr (zbl (zbr (zbr (zbr (zbr (zbr hgv))))))))))
  | 64, _ => exact (zbr (zbl (zbr (zbr (zbl (zbr (zbr (zbr (zbr (zbr hgv))))))))))
  | j + 65, hj => exact absurd hj (by omega)
theorem zst_20 {A : Nat → Prop} {s : State} {args : Array Value} (hgv : (Jvm.Cond.and given_1 narrow_1).before args s = true) (ht : ∀ w ∈ lw_tbl, w.before args s = true) (hA : ∀ a : Nat, a < s.heap.size → ¬ A a) : ∃ q v : Nat, vk_R (zsO 20) (zsI 20) (zsX 20) q s ∧ va_O "java/lang/String" q A s s.heap ∧ va_OF "java/lang/String" "coder" "B" (.int 0) q A s s.heap ∧ va_OF "java/lang/String" "value" "[B" (.ref v) q A s s.heap ∧ va_T .byte v (zsB.getD 20 []).length (fun j => .int (Int32.ofInt (sch 20 j))) A s s.heap := by
  obtain ⟨adK, adV, hS, hK⟩ := vk_Sof (args := args) (s := s) (N := 1) (tm := fun _ => (Term.string "BottleLineModel" 254)) (len := [65]) (byt := [(zsB.getD 20 []).map Int32.ofInt]) (A := A) (fun i hi => by rw [show i = 0 by omega]; decide) (fun _ _ => (zbl (zbl (zbr (zbr (zbl (zbr (zbl (zbr (zbr (zbr hgv))))))))))) (fun _ _ => (zbr (zbl (zbr (zbr (zbl (zbr (zbl (zbr (zbr (zbr hgv))))))))))) (fun _ _ => (zbl (zbr (zbr (zbr (zbl (zbr (zbl (zbr (zbr (zbr hgv))))))))))) (fun i hi => by rw [show i = 0 by omega]; exact (zbl (zbr (zbr (zbr (zbr (zbl (zbr (zbl (zbr (zbr (zbr hgv)))))))))))) (fun i hi j hj => by
    rw [show i = 0 by omega] at hj ⊢
    have h1 := zel_20 hgv j hj
    show (Cond.eq _ (.int (((zsB.getD 20 []).map Int32.ofInt).getD j 0))).before args s = true
    rw [getD_mapI]
    exact h1) (fun i j hi hj hij => absurd (show i = j by omega) hij) hA
  obtain ⟨h1, h2, h3, h4⟩ := hS.1 0 (by decide)
  refine ⟨adK 0, adV 0, vk_R.of (ht _ (tin_7 (List.mem_of_getElem? (i := 52) rfl))) (hK 0 (by decide)), h1, h2, h3, ?_⟩
  have e : (fun j => Value.int (Int32.ofInt (sch 20 j))) = fun j => Value.int ((([(zsB.getD 20 []).map Int32.ofInt] : List (List Int32)).getD 0 []).getD j 0) := funext fun j => by
    show Value.int (Int32.ofInt ((zsB.getD 20 []).getD j 0)) = Value.int (((zsB.getD 20 []).map Int32.ofInt).getD j 0)
    rw [getD_mapI]
  rw [e]
  exact h4
