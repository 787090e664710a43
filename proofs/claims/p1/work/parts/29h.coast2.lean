noncomputable def hXg : List ri_C := ri_set (.inl (3, [.inr (.inl (some 69)), .inr (.inl (some 72)), .inl (0, (-1), 59), .inl (0, 0, 0), .inl (0, 0, 500), .inl (0, 0, 0), .inl (0, 0, 0)])) hX 68
noncomputable def hXr : List ri_C := ri_set (.inl (3, [.inr (.inl (some 69)), .inr (.inl (some 72)), .inl (1, 0, 0), .inl (0, 0, 0), .inl (2, 0, 0), .inl (0, 0, 0), .inl (0, 0, 0)])) hX 68
noncomputable def hMg : List ri_C := ri_set (.inl (12, [.inr (.inl (some 1)), .inr (.inl (some 2)), .inl (0, 0, 0), .inl (0, 0, 0), .inl (0, 0, 0), .inl (0, (-1), (-1)), .inl (0, 0, 0), .inl (0, 0, 0), .inl (0, 0, 0), .inl (0, 0, 0), .inr (.inr ()), .inr (.inl (some 3)), .inr (.inl (some 4)), .inr (.inl (some 5)), .inr (.inl (some 6)), .inr (.inl (some 7)), .inr (.inl (some 8)), .inr (.inl (some 9)), .inr (.inl (some 10)), .inr (.inl (some 11)), .inr (.inl (some 12)), .inr (.inl (some 13)), .inr (.inl (some 14)), .inr (.inl (some 15)), .inr (.inl (some 16)), .inr (.inl (some 17)), .inr (.inl (some 18)), .inr (.inl (some 19)), .inr (.inl (some 20)), .inr (.inl (some 21)), .inr (.inl (some 22)), .inr (.inl (some 23)), .inr (.inl (some 24)), .inr (.inl (some 25)), .inr (.inl (some 26)), .inr (.inl (some 27)), .inr (.inl (some 28)), .inr (.inl (some 29)), .inr (.inl (some 30)), .inr (.inl (some 31)), .inr (.inl (some 32)), .inr (.inl (some 33)), .inr (.inl (some 34)), .inr (.inl (some 35)), .inl (0, 0, 0), .inl (0, 0, 0), .inr (.inl (some 36)), .inr (.inl (some 37)), .inr (.inl (some 38)), .inr (.inl (some 39)), .inr (.inl (some 40)), .inl (0, 0, 0), .inl (0, 0, 0), .inl (0, 0, 0), .inr (.inl (some 41)), .inr (.inl (some 42)), .inr (.inl (some 43)), .inr (.inl (some 44)), .inr (.inl (some 45)), .inr (.inl (some 46)), .inr (.inl (some 47)), .inr (.inl (some 48)), .inr (.inl (some 49)), .inl (0, 0, 0), .inl (0, (-1), (-1)), .inl (0, 0, 0), .inl (0, 0, 0), .inl (0, 0, 0), .inl (0, 0, 0), .inl (0, 0, 0), .inl (0, 0, 0), .inl (0, (-1), (-1)), .inl (0, 0, 0), .inl (0, 0, 0), .inl (0, 0, 0), .inl (0, (-1), (-1)), .inl (0, 0, 0), .inr (.inl (some 50)), .inr (.inl (some 51)), .inr (.inl (some 52)), .inr (.inl (some 53)), .inr (.inl (some 54)), .inr (.inl (some 55)), .inr (.inl (some 56)), .inr (.inl (some 57)), .inr (.inl (some 58)), .inl (0, 0, 0), .inl (0, (-1), 59), .inl (0, 0, 500), .inl (0, 0, 0), .inr (.inl (some 59)), .inr (.inl (some 60)), .inr (.inl (some 61)), .inr (.inl (some 62)), .inr (.inl (some 63)), .inr (.inl (some 64)), .inl (0, 0, 0), .inl (0, 0, 0), .inr (.inl (some 65)), .inr (.inl (some 66)), .inr (.inl (some 67)), .inr (.inl (some 68)), .inr (.inl (some 69)), .inr (.inl (some 70)), .inr (.inl (some 71)), .inr (.inl (some 72)), .inr (.inl (some 73)), .inr (.inl (some 74)), .inr (.inl (some 75)), .inr (.inl (some 76)), .inr (.inl (some 77)), .inr (.inl (some 78)), .inr (.inl (some 79))])) hM 0
noncomputable def hMf : List ri_C := ri_set (.inl (12, [.inr (.inl (some 1)), .inr (.inl (some 2)), .inl (0, 0, 0), .inl (0, 0, 0), .inl (0, 0, 0), .inl (0, (-1), (-1)), .inl (0, 0, 0), .inl (0, 0, 0), .inl (0, 0, 0), .inl (0, 0, 0), .inr (.inr ()), .inr (.inl (some 3)), .inr (.inl (some 4)), .inr (.inl (some 5)), .inr (.inl (some 6)), .inr (.inl (some 7)), .inr (.inl (some 8)), .inr (.inl (some 9)), .inr (.inl (some 10)), .inr (.inl (some 11)), .inr (.inl (some 12)), .inr (.inl (some 13)), .inr (.inl (some 14)), .inr (.inl (some 15)), .inr (.inl (some 16)), .inr (.inl (some 17)), .inr (.inl (some 18)), .inr (.inl (some 19)), .inr (.inl (some 20)), .inr (.inl (some 21)), .inr (.inl (some 22)), .inr (.inl (some 23)), .inr (.inl (some 24)), .inr (.inl (some 25)), .inr (.inl (some 26)), .inr (.inl (some 27)), .inr (.inl (some 28)), .inr (.inl (some 29)), .inr (.inl (some 30)), .inr (.inl (some 31)), .inr (.inl (some 32)), .inr (.inl (some 33)), .inr (.inl (some 34)), .inr (.inl (some 35)), .inl (0, 0, 0), .inl (0, 0, 0), .inr (.inl (some 36)), .inr (.inl (some 37)), .inr (.inl (some 38)), .inr (.inl (some 39)), .inr (.inl (some 40)), .inl (0, 0, 0), .inl (0, 0, 0), .inl (0, 0, 0), .inr (.inl (some 41)), .inr (.inl (some 42)), .inr (.inl (some 43)), .inr (.inl (some 44)), .inr (.inl (some 45)), .inr (.inl (some 46)), .inr (.inl (some 47)), .inr (.inl (some 48)), .inr (.inl (some 49)), .inl (0, 0, 0), .inl (0, (-1), (-1)), .inl (0, 0, 0), .inl (0, 0, 0), .inl (0, 0, 0), .inl (0, 0, 0), .inl (0, 0, 0), .inl (0, 0, 0), .inl (0, (-1), (-1)), .inl (0, 0, 0), .inl (0, 0, 0), .inl (0, 0, 0), .inl (0, (-1), (-1)), .inl (0, 0, 0), .inr (.inl (some 50)), .inr (.inl (some 51)), .inr (.inl (some 52)), .inr (.inl (some 53)), .inr (.inl (some 54)), .inr (.inl (some 55)), .inr (.inl (some 56)), .inr (.inl (some 57)), .inr (.inl (some 58)), .inl (0, 0, 0), .inl (0, (-1), 59), .inl (3, (-1), (-1)), .inl (0, 0, 0), .inr (.inl (some 59)), .inr (.inl (some 60)), .inr (.inl (some 61)), .inr (.inl (some 62)), .inr (.inl (some 63)), .inr (.inl (some 64)), .inl (0, 0, 0), .inl (0, 0, 0), .inr (.inl (some 65)), .inr (.inl (some 66)), .inr (.inl (some 67)), .inr (.inl (some 68)), .inr (.inl (some 69)), .inr (.inl (some 70)), .inr (.inl (some 71)), .inr (.inl (some 72)), .inr (.inl (some 73)), .inr (.inl (some 74)), .inr (.inl (some 75)), .inr (.inl (some 76)), .inr (.inl (some 77)), .inr (.inl (some 78)), .inr (.inl (some 79))])) hM 0
noncomputable def hMr : List ri_C := ri_set (.inl (12, [.inr (.inl (some 1)), .inr (.inl (some 2)), .inl (0, 0, 0), .inl (0, 0, 0), .inl (0, 0, 0), .inl (0, (-1), (-1)), .inl (0, 0, 0), .inl (0, 0, 0), .inl (0, 0, 0), .inl (0, 0, 0), .inr (.inr ()), .inr (.inl (some 3)), .inr (.inl (some 4)), .inr (.inl (some 5)), .inr (.inl (some 6)), .inr (.inl (some 7)), .inr (.inl (some 8)), .inr (.inl (some 9)), .inr (.inl (some 10)), .inr (.inl (some 11)), .inr (.inl (some 12)), .inr (.inl (some 13)), .inr (.inl (some 14)), .inr (.inl (some 15)), .inr (.inl (some 16)), .inr (.inl (some 17)), .inr (.inl (some 18)), .inr (.inl (some 19)), .inr (.inl (some 20)), .inr (.inl (some 21)), .inr (.inl (some 22)), .inr (.inl (some 23)), .inr (.inl (some 24)), .inr (.inl (some 25)), .inr (.inl (some 26)), .inr (.inl (some 27)), .inr (.inl (some 28)), .inr (.inl (some 29)), .inr (.inl (some 30)), .inr (.inl (some 31)), .inr (.inl (some 32)), .inr (.inl (some 33)), .inr (.inl (some 34)), .inr (.inl (some 35)), .inl (0, 0, 0), .inl (0, 0, 0), .inr (.inl (some 36)), .inr (.inl (some 37)), .inr (.inl (some 38)), .inr (.inl (some 39)), .inr (.inl (some 40)), .inl (0, 0, 0), .inl (0, 0, 0), .inl (0, 0, 0), .inr (.inl (some 41)), .inr (.inl (some 42)), .inr (.inl (some 43)), .inr (.inl (some 44)), .inr (.inl (some 45)), .inr (.inl (some 46)), .inr (.inl (some 47)), .inr (.inl (some 48)), .inr (.inl (some 49)), .inl (0, 0, 0), .inl (0, (-1), (-1)), .inl (0, 0, 0), .inl (0, 0, 0), .inl (0, 0, 0), .inl (0, 0, 0), .inl (0, 0, 0), .inl (0, 0, 0), .inl (0, (-1), (-1)), .inl (0, 0, 0), .inl (0, 0, 0), .inl (0, 0, 0), .inl (0, (-1), (-1)), .inl (0, 0, 0), .inr (.inl (some 50)), .inr (.inl (some 51)), .inr (.inl (some 52)), .inr (.inl (some 53)), .inr (.inl (some 54)), .inr (.inl (some 55)), .inr (.inl (some 56)), .inr (.inl (some 57)), .inr (.inl (some 58)), .inl (0, 0, 0), .inl (1, 0, 0), .inl (2, 0, 0), .inl (0, 0, 0), .inr (.inl (some 59)), .inr (.inl (some 60)), .inr (.inl (some 61)), .inr (.inl (some 62)), .inr (.inl (some 63)), .inr (.inl (some 64)), .inl (0, 0, 0), .inl (0, 0, 0), .inr (.inl (some 65)), .inr (.inl (some 66)), .inr (.inl (some 67)), .inr (.inl (some 68)), .inr (.inl (some 69)), .inr (.inl (some 70)), .inr (.inl (some 71)), .inr (.inl (some 72)), .inr (.inl (some 73)), .inr (.inl (some 74)), .inr (.inl (some 75)), .inr (.inl (some 76)), .inr (.inl (some 77)), .inr (.inl (some 78)), .inr (.inl (some 79))])) hM 0
def cEp : ri_E := ([(0, 59), (1, 60), (0, 590)], [(2, (0, 10, 10), (1, 0, 0), 3)])
def cLp : List (ri_I × ri_I) := [((3, 0, 0), (1, 0, 0)), ((2, 0, 0), (0, 1, 60)), ((2, 0, 0), (2, 0, 0)), ((0, 1, 1), (3, 0, 0)), ((0, 0, 0), (3, (-1), (-1)))]
theorem co_ep {a : Int} {j : Nat} (h1 : 0 ≤ a) (h2 : a ≤ 59) (h3 : j ≤ 59) : ri_okE cEp (co_S a ((j : Int) + 1)) ∧ ∀ q ∈ cLp, ∀ v, ri_gI (co_S a ((j : Int) + 1)) q.1 v → ri_gI (co_T 1 (j : Int) (10 * a) 1) q.2 v := by
  refine ⟨?_, ?_⟩
  · refine ri_okE_of ?_ ?_
    · show (0 ≤ a ∧ a ≤ 59) ∧ (1 ≤ ((j : Int) + 1) ∧ ((j : Int) + 1) ≤ 60) ∧ (0 ≤ (10 * a) ∧ (10 * a) ≤ 590) ∧ True
      refine ⟨?_, ?_, ?_, trivial⟩
      all_goals omega
    · refine List.forall_mem_cons.mpr ⟨ru_mul (fun u v hu hv => ?_), ?_⟩
      · have hu : 0 + 10 ≤ u ∧ u ≤ 0 + 10 := hu
        have hv : a + 0 ≤ v ∧ v ≤ a + 0 := hv
        have eu : u = 10 := by omega
        subst eu
        show 10 * v = (10 * a) ∧ -2147483648 ≤ 10 * v ∧ 10 * v ≤ 2147483647
        omega
      exact fun q hq => by cases hq
  · refine List.forall_mem_cons.mpr ⟨fun v hv => ?_, ?_⟩
    · have hv : (10 * a) + 0 ≤ v.toInt ∧ v.toInt ≤ (10 * a) + 0 := hv
      show (10 * a) + 0 ≤ v.toInt ∧ v.toInt ≤ (10 * a) + 0
      omega
    refine List.forall_mem_cons.mpr ⟨fun v hv => ?_, ?_⟩
    · have hv : ((j : Int) + 1) + 0 ≤ v.toInt ∧ v.toInt ≤ ((j : Int) + 1) + 0 := hv
      show 0 + 1 ≤ v.toInt ∧ v.toInt ≤ 0 + 60
      omega
    refine List.forall_mem_cons.mpr ⟨fun v hv => ?_, ?_⟩
    · have hv : ((j : Int) + 1) + 0 ≤ v.toInt ∧ v.toInt ≤ ((j : Int) + 1) + 0 := hv
      show (1 * ((j : Int) + 1)) + 0 ≤ v.toInt ∧ v.toInt ≤ (1 * ((j : Int) + 1)) + 0
      omega
    refine List.forall_mem_cons.mpr ⟨fun v hv => ?_, ?_⟩
    · have hv : 0 + 1 ≤ v.toInt ∧ v.toInt ≤ 0 + 1 := hv
      show 1 + 0 ≤ v.toInt ∧ v.toInt ≤ 1 + 0
      omega
    refine List.forall_mem_cons.mpr ⟨fun v hv => ?_, ?_⟩
    · have hv : 0 + 0 ≤ v.toInt ∧ v.toInt ≤ 0 + 0 := hv
      show 1 + (-1) ≤ v.toInt ∧ v.toInt ≤ 1 + (-1)
      omega
    exact fun q hq => by cases hq
def cEn : ri_E := ([(0, 59), ((-60), (-1)), (0, 590)], [(2, (0, 10, 10), (1, 0, 0), 3)])
def cLn : List (ri_I × ri_I) := [((3, 0, 0), (1, 0, 0)), ((2, 0, 0), (0, (-60), (-1))), ((2, 0, 0), (2, 0, 0)), ((0, 1, 1), (3, 0, 0)), ((0, 0, 0), (3, (-1), (-1)))]
theorem co_en {a : Int} {j : Nat} (h1 : 0 ≤ a) (h2 : a ≤ 59) (h3 : j ≤ 59) : ri_okE cEn (co_S a (-((j : Int) + 1))) ∧ ∀ q ∈ cLn, ∀ v, ri_gI (co_S a (-((j : Int) + 1))) q.1 v → ri_gI (co_T (-1) (j : Int) (10 * a) 1) q.2 v := by
  refine ⟨?_, ?_⟩
  · refine ri_okE_of ?_ ?_
    · show (0 ≤ a ∧ a ≤ 59) ∧ ((-60) ≤ (-((j : Int) + 1)) ∧ (-((j : Int) + 1)) ≤ (-1)) ∧ (0 ≤ (10 * a) ∧ (10 * a) ≤ 590) ∧ True
      refine ⟨?_, ?_, ?_, trivial⟩
      all_goals omega
    · refine List.forall_mem_cons.mpr ⟨ru_mul (fun u v hu hv => ?_), ?_⟩
      · have hu : 0 + 10 ≤ u ∧ u ≤ 0 + 10 := hu
        have hv : a + 0 ≤ v ∧ v ≤ a + 0 := hv
        have eu : u = 10 := by omega
        subst eu
        show 10 * v = (10 * a) ∧ -2147483648 ≤ 10 * v ∧ 10 * v ≤ 2147483647
        omega
      exact fun q hq => by cases hq
  · refine List.forall_mem_cons.mpr ⟨fun v hv => ?_, ?_⟩
    · have hv : (10 * a) + 0 ≤ v.toInt ∧ v.toInt ≤ (10 * a) + 0 := hv
      show (10 * a) + 0 ≤ v.toInt ∧ v.toInt ≤ (10 * a) + 0
      omega
    refine List.forall_mem_cons.mpr ⟨fun v hv => ?_, ?_⟩
    · have hv : (-((j : Int) + 1)) + 0 ≤ v.toInt ∧ v.toInt ≤ (-((j : Int) + 1)) + 0 := hv
      show 0 + (-60) ≤ v.toInt ∧ v.toInt ≤ 0 + (-1)
      omega
    refine List.forall_mem_cons.mpr ⟨fun v hv => ?_, ?_⟩
    · have hv : (-((j : Int) + 1)) + 0 ≤ v.toInt ∧ v.toInt ≤ (-((j : Int) + 1)) + 0 := hv
      show ((-1) * ((j : Int) + 1)) + 0 ≤ v.toInt ∧ v.toInt ≤ ((-1) * ((j : Int) + 1)) + 0
      omega
    refine List.forall_mem_cons.mpr ⟨fun v hv => ?_, ?_⟩
    · have hv : 0 + 1 ≤ v.toInt ∧ v.toInt ≤ 0 + 1 := hv
      show 1 + 0 ≤ v.toInt ∧ v.toInt ≤ 1 + 0
      omega
    refine List.forall_mem_cons.mpr ⟨fun v hv => ?_, ?_⟩
    · have hv : 0 + 0 ≤ v.toInt ∧ v.toInt ≤ 0 + 0 := hv
      show 1 + (-1) ≤ v.toInt ∧ v.toInt ≤ 1 + (-1)
      omega
    exact fun q hq => by cases hq
def cEz : ri_E := ([(0, 59), (0, 0), (0, 590)], [(2, (0, 10, 10), (1, 0, 0), 3), (3, (3, 0, 0), (0, 10, 10), 1)])
def cLz : List (ri_I × ri_I) := [((1, 0, 0), (1, 0, 0)), ((0, 1, 1), (2, 0, 0))]
theorem co_ez {a : Int} (h1 : 0 ≤ a) (h2 : a ≤ 59) : ri_okE cEz (co_S a 0) ∧ ∀ q ∈ cLz, ∀ v, ri_gI (co_S a 0) q.1 v → ri_gI (co_R (a, 1)) q.2 v := by
  refine ⟨?_, ?_⟩
  · refine ri_okE_of ?_ ?_
    · show (0 ≤ a ∧ a ≤ 59) ∧ (0 ≤ 0 ∧ 0 ≤ 0) ∧ (0 ≤ (10 * a) ∧ (10 * a) ≤ 590) ∧ True
      refine ⟨?_, ?_, ?_, trivial⟩
      all_goals omega
    · refine List.forall_mem_cons.mpr ⟨ru_mul (fun u v hu hv => ?_), ?_⟩
      · have hu : 0 + 10 ≤ u ∧ u ≤ 0 + 10 := hu
        have hv : a + 0 ≤ v ∧ v ≤ a + 0 := hv
        have eu : u = 10 := by omega
        subst eu
        show 10 * v = (10 * a) ∧ -2147483648 ≤ 10 * v ∧ 10 * v ≤ 2147483647
        omega
      refine List.forall_mem_cons.mpr ⟨ru_div (fun u v hu hv => ?_), ?_⟩
      · have hu : (10 * a) + 0 ≤ u ∧ u ≤ (10 * a) + 0 := hu
        have hv : 0 + 10 ≤ v ∧ v ≤ 0 + 10 := hv
        show v = 10 ∧ 0 ≤ u ∧ u / 10 = a
        omega
      exact fun q hq => by cases hq
  · refine List.forall_mem_cons.mpr ⟨fun v hv => ?_, ?_⟩
    · have hv : a + 0 ≤ v.toInt ∧ v.toInt ≤ a + 0 := hv
      show a + 0 ≤ v.toInt ∧ v.toInt ≤ a + 0
      omega
    refine List.forall_mem_cons.mpr ⟨fun v hv => ?_, ?_⟩
    · have hv : 0 + 1 ≤ v.toInt ∧ v.toInt ≤ 0 + 1 := hv
      show 1 + 0 ≤ v.toInt ∧ v.toInt ≤ 1 + 0
      omega
    exact fun q hq => by cases hq
def cLi : List (ri_I × ri_I) := [((1, 0, 0), (1, 0, 0)), ((2, 0, 0), (2, 0, 0))]
def cLi0 : List (ri_I × ri_I) := [((1, 0, 0), (1, 0, 0)), ((2, 0, 0), (0, 0, 0))]
theorem co_li {a b : Int} : ∀ q ∈ cLi, ∀ v, ri_gI (co_S a b) q.1 v → ri_gI (co_S a b) q.2 v := by
  refine List.forall_mem_cons.mpr ⟨fun v hv => ?_, ?_⟩
  · have hv : a + 0 ≤ v.toInt ∧ v.toInt ≤ a + 0 := hv
    show a + 0 ≤ v.toInt ∧ v.toInt ≤ a + 0
    omega
  refine List.forall_mem_cons.mpr ⟨fun v hv => ?_, ?_⟩
  · have hv : b + 0 ≤ v.toInt ∧ v.toInt ≤ b + 0 := hv
    show b + 0 ≤ v.toInt ∧ v.toInt ≤ b + 0
    omega
  exact fun q hq => by cases hq
theorem co_li0 {a : Int} : ∀ q ∈ cLi0, ∀ v, ri_gI (co_S a 0) q.1 v → ri_gI (co_S a 0) q.2 v := by
  refine List.forall_mem_cons.mpr ⟨fun v hv => ?_, ?_⟩
  · have hv : a + 0 ≤ v.toInt ∧ v.toInt ≤ a + 0 := hv
    show a + 0 ≤ v.toInt ∧ v.toInt ≤ a + 0
    omega
  refine List.forall_mem_cons.mpr ⟨fun v hv => ?_, ?_⟩
  · have hv : 0 + 0 ≤ v.toInt ∧ v.toInt ≤ 0 + 0 := hv
    show 0 + 0 ≤ v.toInt ∧ v.toInt ≤ 0 + 0
    omega
  exact fun q hq => by cases hq
noncomputable def slXp : ri_S := ((12, [some (.inr (.inl (some 68))), some (.inr (.inl (some 8))), none, some (.inl (0, 1, 60)), some (.inl (1, 0, 0)), some (.inl (2, 0, 0)), some (.inl (3, 0, 0)), none], [], hXg, 0, 0) : ri_S)
theorem kAXp : ri_k2 (ri_fl cLAp) slXp (ri_run cEAp rD mt (14, 12) 9 18 14) (ri_run cEAp rD mt (14, 135) 200 18 14 slXp) = true := by decide +kernel
theorem kBXp : ri_ko (ri_fl cLBp) none hXr (ri_run cEBp rD mt (999, 0) 200 18 14 slXp) = true := by decide +kernel
theorem kCXp : ri_ko (ri_fl cLCp) none hXr (ri_run cECp rD mt (999, 0) 200 18 14 slXp) = true := by decide +kernel
theorem kEXp : ri_k1 (ri_fl cLp) slXp (ri_run cEp rD mt (14, 12) 40 18 14 (0, [some (.inr (.inl (some 68))), some (.inr (.inl (some 8))), some (.inl (1, 0, 0)), some (.inl (2, 0, 0)), none, none, none, none], [], hXg, 0, 0)) = true := by decide +kernel
noncomputable def slXn : ri_S := ((12, [some (.inr (.inl (some 68))), some (.inr (.inl (some 8))), none, some (.inl (0, (-60), (-1))), some (.inl (1, 0, 0)), some (.inl (2, 0, 0)), some (.inl (3, 0, 0)), none], [], hXg, 0, 0) : ri_S)
theorem kAXn : ri_k2 (ri_fl cLAn) slXn (ri_run cEAn rD mt (14, 12) 9 18 14) (ri_run cEAn rD mt (14, 135) 200 18 14 slXn) = true := by decide +kernel
theorem kBXn : ri_ko (ri_fl cLBn) none hXr (ri_run cEBn rD mt (999, 0) 200 18 14 slXn) = true := by decide +kernel
theorem kCXn : ri_ko (ri_fl cLCn) none hXr (ri_run cECn rD mt (999, 0) 200 18 14 slXn) = true := by decide +kernel
theorem kEXn : ri_k1 (ri_fl cLn) slXn (ri_run cEn rD mt (14, 12) 40 18 14 (0, [some (.inr (.inl (some 68))), some (.inr (.inl (some 8))), some (.inl (1, 0, 0)), some (.inl (2, 0, 0)), none, none, none, none], [], hXg, 0, 0)) = true := by decide +kernel
theorem kZX : ri_ko (ri_fl cLz) none hXr (ri_run cEz rD mt (999, 0) 200 18 14 (0, [some (.inr (.inl (some 68))), some (.inr (.inl (some 8))), some (.inl (1, 0, 0)), some (.inl (0, 0, 0)), none, none, none, none], [], hXg, 0, 0)) = true := by decide +kernel
theorem co_met_X (l : Launch) {κ : Nat → ClassId} {D : va_G} {ws : va_W} (sz : Nat) {a b : Int} {vs : List Value} (hH : ri_gH (co_S a b) κ hXg ws) (hr : ri_rel (co_S a b) (ri_ad ws) [some (.inr (.inl (some 68))), some (.inr (.inl (some 8))), some (.inl (1, 0, 0)), some (.inl (2, 0, 0))] vs) (ha : 0 ≤ a ∧ a ≤ 59) (hb : -60 ≤ b ∧ b ≤ 60) {y : MethodName} {cc : ByteArray} {nL : Nat} {ret : Option FieldType} (hm : mT[14]? = some (y, cc, nL, ret)) : Met l y (.code y cc nL ret :: gU) (ri_rm 18 0 0) (ri_Pc κ D ws sz vs) (ri_Qo (co_R (co_G a b)) κ D ws sz none hXr) 0 0 (va_A ws sz) := by
  have hm0 := hm
  rw [mT_14] at hm
  cases hm
  have hlen : vs.length ≤ 8 := by
    have := hr.1
    have e : ([some (.inr (.inl (some 68))), some (.inr (.inl (some 8))), some (.inl (1, 0, 0)), some (.inl (2, 0, 0))] : List (Option ri_V)).length = 4 := rfl
    omega
  rcases (show b = 0 ∨ 0 < b ∨ b < 0 by omega) with h0 | h0 | h0
  · subst h0
    have e0 : co_G a 0 = (a, 1) := if_pos rfl
    rw [e0]
    obtain ⟨e1, e2⟩ := co_ez ha.1 ha.2
    refine ri_body_met (d := 18) hm0 l sz (A0 := [some (.inr (.inl (some 68))), some (.inr (.inl (some 8))), some (.inl (1, 0, 0)), some (.inl (0, 0, 0)), none, none, none, none]) (Qc := fun sz => ri_Qo (co_R (a, 1)) κ D ws sz none hXr) hH hr.2.2 hlen (ri_rel_ent (k := 4) hr (ri_fl_ok co_li0) (by decide +kernel)) (fun p e s m below meth c B => ?_)
    exact AB_kv hm0 B e1 (ri_fl_ok e2) kZX
  · obtain ⟨j, hj⟩ : ∃ j : Nat, b = (j : Int) + 1 := ⟨(b - 1).toNat, by omega⟩
    subst hj
    have e0 : co_G a ((j : Int) + 1) = co_F 1 j (10 * a) 1 := by
      unfold co_G
      rw [if_neg (by omega), if_pos h0, show ((j : Int) + 1 - 1).toNat = j by omega]
    rw [e0]
    obtain ⟨e1, e2⟩ := co_ep (a := a) (j := j) ha.1 ha.2 (by omega)
    refine ri_body_met (d := 18) hm0 l sz (A0 := [some (.inr (.inl (some 68))), some (.inr (.inl (some 8))), some (.inl (1, 0, 0)), some (.inl (2, 0, 0)), none, none, none, none]) (Qc := fun sz => ri_Qo (co_R (co_F 1 j (10 * a) 1)) κ D ws sz none hXr) hH hr.2.2 hlen (ri_rel_ent (k := 4) hr (ri_fl_ok co_li) (by decide +kernel)) (fun p e s m below meth c B => ?_)
    exact AB_k1 hm0 B e1 (ri_fl_ok e2) ⟨rfl, rfl⟩ kEXp (co_loop co_ok_p hm0 ⟨rfl, rfl⟩ kAXp kBXp kCXp B j (10 * a) 1 (by omega) (by omega) (by omega) (by omega) (by omega))
  · obtain ⟨j, hj⟩ : ∃ j : Nat, b = -((j : Int) + 1) := ⟨(-b - 1).toNat, by omega⟩
    subst hj
    have e0 : co_G a (-((j : Int) + 1)) = co_F (-1) j (10 * a) 1 := by
      unfold co_G
      rw [if_neg (by omega), if_neg (by omega), show (-(-((j : Int) + 1)) - 1).toNat = j by omega]
    rw [e0]
    obtain ⟨e1, e2⟩ := co_en (a := a) (j := j) ha.1 ha.2 (by omega)
    refine ri_body_met (d := 18) hm0 l sz (A0 := [some (.inr (.inl (some 68))), some (.inr (.inl (some 8))), some (.inl (1, 0, 0)), some (.inl (2, 0, 0)), none, none, none, none]) (Qc := fun sz => ri_Qo (co_R (co_F (-1) j (10 * a) 1)) κ D ws sz none hXr) hH hr.2.2 hlen (ri_rel_ent (k := 4) hr (ri_fl_ok co_li) (by decide +kernel)) (fun p e s m below meth c B => ?_)
    exact AB_k1 hm0 B e1 (ri_fl_ok e2) ⟨rfl, rfl⟩ kEXn (co_loop co_ok_n hm0 ⟨rfl, rfl⟩ kAXn kBXn kCXn B j (10 * a) 1 (by omega) (by omega) (by omega) (by omega) (by omega))
noncomputable def slMp : ri_S := ((21, [some (.inr (.inl (some 0))), none, some (.inl (0, 1, 60)), some (.inl (1, 0, 0)), some (.inl (2, 0, 0)), some (.inl (0, 1, 1)), none], [], hMf, 0, 0) : ri_S)
theorem kAMp : ri_k2 (ri_fl cLAp) slMp (ri_run cEAp rD mt (102, 21) 9 18 102) (ri_run cEAp rD mt (102, 159) 200 18 102 slMp) = true := by decide +kernel
theorem kBMp : ri_ko (ri_fl cLBp) none hMr (ri_run cEBp rD mt (999, 0) 200 18 102 slMp) = true := by decide +kernel
theorem kCMp : ri_ko (ri_fl cLCp) none hMr (ri_run cECp rD mt (999, 0) 200 18 102 slMp) = true := by decide +kernel
theorem kEMp : ri_k1 (ri_fl cLp) slMp (ri_run cEp rD mt (102, 21) 40 18 102 (0, [some (.inr (.inl (some 0))), some (.inl (1, 0, 0)), some (.inl (2, 0, 0)), none, none, none, none], [], hMg, 0, 0)) = true := by decide +kernel
noncomputable def slMn : ri_S := ((21, [some (.inr (.inl (some 0))), none, some (.inl (0, (-60), (-1))), some (.inl (1, 0, 0)), some (.inl (2, 0, 0)), some (.inl (0, 1, 1)), none], [], hMf, 0, 0) : ri_S)
theorem kAMn : ri_k2 (ri_fl cLAn) slMn (ri_run cEAn rD mt (102, 21) 9 18 102) (ri_run cEAn rD mt (102, 159) 200 18 102 slMn) = true := by decide +kernel
theorem kBMn : ri_ko (ri_fl cLBn) none hMr (ri_run cEBn rD mt (999, 0) 200 18 102 slMn) = true := by decide +kernel
theorem kCMn : ri_ko (ri_fl cLCn) none hMr (ri_run cECn rD mt (999, 0) 200 18 102 slMn) = true := by decide +kernel
theorem kEMn : ri_k1 (ri_fl cLn) slMn (ri_run cEn rD mt (102, 21) 40 18 102 (0, [some (.inr (.inl (some 0))), some (.inl (1, 0, 0)), some (.inl (2, 0, 0)), none, none, none, none], [], hMg, 0, 0)) = true := by decide +kernel
theorem kZM : ri_ko (ri_fl cLz) none hMr (ri_run cEz rD mt (999, 0) 200 18 102 (0, [some (.inr (.inl (some 0))), some (.inl (1, 0, 0)), some (.inl (0, 0, 0)), none, none, none, none], [], hMg, 0, 0)) = true := by decide +kernel
theorem co_met_M (l : Launch) {κ : Nat → ClassId} {D : va_G} {ws : va_W} (sz : Nat) {a b : Int} {vs : List Value} (hH : ri_gH (co_S a b) κ hMg ws) (hr : ri_rel (co_S a b) (ri_ad ws) [some (.inr (.inl (some 0))), some (.inl (1, 0, 0)), some (.inl (2, 0, 0))] vs) (ha : 0 ≤ a ∧ a ≤ 59) (hb : -60 ≤ b ∧ b ≤ 60) {y : MethodName} {cc : ByteArray} {nL : Nat} {ret : Option FieldType} (hm : mT[102]? = some (y, cc, nL, ret)) : Met l y (.code y cc nL ret :: gU) (ri_rm 18 0 0) (ri_Pc κ D ws sz vs) (ri_Qo (co_R (co_G a b)) κ D ws sz none hMr) 0 0 (va_A ws sz) := by
  have hm0 := hm
  rw [mT_102] at hm
  cases hm
  have hlen : vs.length ≤ 7 := by
    have := hr.1
    have e : ([some (.inr (.inl (some 0))), some (.inl (1, 0, 0)), some (.inl (2, 0, 0))] : List (Option ri_V)).length = 3 := rfl
    omega
  rcases (show b = 0 ∨ 0 < b ∨ b < 0 by omega) with h0 | h0 | h0
  · subst h0
    have e0 : co_G a 0 = (a, 1) := if_pos rfl
    rw [e0]
    obtain ⟨e1, e2⟩ := co_ez ha.1 ha.2
    refine ri_body_met (d := 18) hm0 l sz (A0 := [some (.inr (.inl (some 0))), some (.inl (1, 0, 0)), some (.inl (0, 0, 0)), none, none, none, none]) (Qc := fun sz => ri_Qo (co_R (a, 1)) κ D ws sz none hMr) hH hr.2.2 hlen (ri_rel_ent (k := 4) hr (ri_fl_ok co_li0) (by decide +kernel)) (fun p e s m below meth c B => ?_)
    exact AB_kv hm0 B e1 (ri_fl_ok e2) kZM
  · obtain ⟨j, hj⟩ : ∃ j : Nat, b = (j : Int) + 1 := ⟨(b - 1).toNat, by omega⟩
    subst hj
    have e0 : co_G a ((j : Int) + 1) = co_F 1 j (10 * a) 1 := by
      unfold co_G
      rw [if_neg (by omega), if_pos h0, show ((j : Int) + 1 - 1).toNat = j by omega]
    rw [e0]
    obtain ⟨e1, e2⟩ := co_ep (a := a) (j := j) ha.1 ha.2 (by omega)
    refine ri_body_met (d := 18) hm0 l sz (A0 := [some (.inr (.inl (some 0))), some (.inl (1, 0, 0)), some (.inl (2, 0, 0)), none, none, none, none]) (Qc := fun sz => ri_Qo (co_R (co_F 1 j (10 * a) 1)) κ D ws sz none hMr) hH hr.2.2 hlen (ri_rel_ent (k := 4) hr (ri_fl_ok co_li) (by decide +kernel)) (fun p e s m below meth c B => ?_)
    exact AB_k1 hm0 B e1 (ri_fl_ok e2) ⟨rfl, rfl⟩ kEMp (co_loop co_ok_p hm0 ⟨rfl, rfl⟩ kAMp kBMp kCMp B j (10 * a) 1 (by omega) (by omega) (by omega) (by omega) (by omega))
  · obtain ⟨j, hj⟩ : ∃ j : Nat, b = -((j : Int) + 1) := ⟨(-b - 1).toNat, by omega⟩
    subst hj
    have e0 : co_G a (-((j : Int) + 1)) = co_F (-1) j (10 * a) 1 := by
      unfold co_G
      rw [if_neg (by omega), if_neg (by omega), show (-(-((j : Int) + 1)) - 1).toNat = j by omega]
    rw [e0]
    obtain ⟨e1, e2⟩ := co_en (a := a) (j := j) ha.1 ha.2 (by omega)
    refine ri_body_met (d := 18) hm0 l sz (A0 := [some (.inr (.inl (some 0))), some (.inl (1, 0, 0)), some (.inl (2, 0, 0)), none, none, none, none]) (Qc := fun sz => ri_Qo (co_R (co_F (-1) j (10 * a) 1)) κ D ws sz none hMr) hH hr.2.2 hlen (ri_rel_ent (k := 4) hr (ri_fl_ok co_li) (by decide +kernel)) (fun p e s m below meth c B => ?_)
    exact AB_k1 hm0 B e1 (ri_fl_ok e2) ⟨rfl, rfl⟩ kEMn (co_loop co_ok_n hm0 ⟨rfl, rfl⟩ kAMn kBMn kCMn B j (10 * a) 1 (by omega) (by omega) (by omega) (by omega) (by omega))
