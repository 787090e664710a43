theorem co_F_rng {σ : Int} : ∀ (j : Nat) (x t : Int), 0 ≤ x → x ≤ 599 → 0 ≤ t → t + (j : Int) ≤ 100 → (-1 ≤ (co_F σ j x t).1 ∧ (co_F σ j x t).1 ≤ 59) ∧ 0 ≤ (co_F σ j x t).2 ∧ (co_F σ j x t).2 ≤ 500 := by
  intro j
  induction j with
  | zero =>
    intro x t h1 h2 h3 h4
    show (-1 ≤ x / 10 ∧ x / 10 ≤ 59) ∧ 0 ≤ t ∧ t ≤ 500
    omega
  | succ j ih =>
    intro x t h1 h2 h3 h4
    by_cases hy : x + σ * ((j : Int) + 1) < 0 ∨ 600 ≤ x + σ * ((j : Int) + 1)
    · rw [show co_F σ (j + 1) x t = (-1, t) from if_pos hy]
      show (-1 ≤ (-1 : Int) ∧ (-1 : Int) ≤ 59) ∧ 0 ≤ t ∧ t ≤ 500
      omega
    · rw [show co_F σ (j + 1) x t = co_F σ j (x + σ * ((j : Int) + 1)) (t + 1) from if_neg hy]
      exact ih _ _ (by omega) (by omega) (by omega) (by omega)
theorem co_G_rng {a b : Int} (ha : 0 ≤ a ∧ a ≤ 59) (hb : -60 ≤ b ∧ b ≤ 60) : (-1 ≤ (co_G a b).1 ∧ (co_G a b).1 ≤ 59) ∧ 0 ≤ (co_G a b).2 ∧ (co_G a b).2 ≤ 500 := by
  unfold co_G
  split
  · show (-1 ≤ a ∧ a ≤ 59) ∧ 0 ≤ (1 : Int) ∧ (1 : Int) ≤ 500
    omega
  · split
    · exact co_F_rng _ _ _ (by omega) (by omega) (by omega) (by omega)
    · exact co_F_rng _ _ _ (by omega) (by omega) (by omega) (by omega)
theorem ri_ofInt {n : Int} (h1 : -2147483648 ≤ n) (h2 : n ≤ 2147483647) : ∃ z : Int32, z.toInt = n := ⟨Int32.ofInt n, by
  rw [Int32.toInt_ofInt]
  exact ri_bm h1 h2⟩
def cEc : ri_E := ([(0, 59), ((-60), 60)], [])
def cER : ri_E := ([((-1), 59), (0, 500)], [])
def cEv : ri_E := ([(0, 59), (1, 59)], [])
def cEw : ri_E := ([(0, 59), (60, 60)], [])
def cEs : ri_E := ([(0, 59)], [])
theorem ok_cEc {a b : Int} (h1 : 0 ≤ a ∧ a ≤ 59) (h2 : -60 ≤ b ∧ b ≤ 60) : ri_okE cEc (co_S a b) := by
  refine ri_okE_of ?_ ?_
  · show (0 ≤ a ∧ a ≤ 59) ∧ ((-60) ≤ b ∧ b ≤ 60) ∧ True
    refine ⟨?_, ?_, trivial⟩
    all_goals omega
  · exact fun q hq => by cases hq
theorem ok_cEs {a b : Int} (h1 : 0 ≤ a ∧ a ≤ 59) : ri_okE cEs (co_S a b) := by
  refine ri_okE_of ?_ ?_
  · show (0 ≤ a ∧ a ≤ 59) ∧ True
    refine ⟨?_, trivial⟩
    all_goals omega
  · exact fun q hq => by cases hq
theorem ok_cEv {a b : Int} (h1 : 0 ≤ a ∧ a ≤ 59) (h2 : 1 ≤ b ∧ b ≤ 59) : ri_okE cEv (co_S a b) := by
  refine ri_okE_of ?_ ?_
  · show (0 ≤ a ∧ a ≤ 59) ∧ (1 ≤ b ∧ b ≤ 59) ∧ True
    refine ⟨?_, ?_, trivial⟩
    all_goals omega
  · exact fun q hq => by cases hq
theorem ok_cEw {a b : Int} (h1 : 0 ≤ a ∧ a ≤ 59) (h2 : b = 60) : ri_okE cEw (co_S a b) := by
  refine ri_okE_of ?_ ?_
  · show (0 ≤ a ∧ a ≤ 59) ∧ (60 ≤ b ∧ b ≤ 60) ∧ True
    refine ⟨?_, ?_, trivial⟩
    all_goals omega
  · exact fun q hq => by cases hq
theorem ok_cER {a b : Int} (ha : 0 ≤ a ∧ a ≤ 59) (hb : -60 ≤ b ∧ b ≤ 60) : ri_okE cER (co_R (co_G a b)) := by
  have hg := co_G_rng ha hb
  refine ri_okE_of ?_ ?_
  · show ((-1) ≤ (co_G a b).1 ∧ (co_G a b).1 ≤ 59) ∧ (0 ≤ (co_G a b).2 ∧ (co_G a b).2 ≤ 500) ∧ True
    refine ⟨?_, ?_, trivial⟩
    all_goals omega
  · exact fun q hq => by cases hq
def cLg : List (ri_I × ri_I) := [((1, 0, 0), (1, 0, 0)), ((2, 0, 0), (2, 0, 0)), ((0, 0, 0), (0, (-1), 59)), ((0, (-1), (-1)), (0, (-1), 59)), ((0, 0, 0), (0, 0, 500))]
theorem ok_cLg {a b : Int}  : ∀ q ∈ cLg, ∀ v, ri_gI (co_S a b) q.1 v → ri_gI (co_S a b) q.2 v := by
  refine List.forall_mem_cons.mpr ⟨fun v hv => ?_, ?_⟩
  · have hv : a + 0 ≤ v.toInt ∧ v.toInt ≤ a + 0 := hv
    show a + 0 ≤ v.toInt ∧ v.toInt ≤ a + 0
    omega
  refine List.forall_mem_cons.mpr ⟨fun v hv => ?_, ?_⟩
  · have hv : b + 0 ≤ v.toInt ∧ v.toInt ≤ b + 0 := hv
    show b + 0 ≤ v.toInt ∧ v.toInt ≤ b + 0
    omega
  refine List.forall_mem_cons.mpr ⟨fun v hv => ?_, ?_⟩
  · have hv : 0 + 0 ≤ v.toInt ∧ v.toInt ≤ 0 + 0 := hv
    show 0 + (-1) ≤ v.toInt ∧ v.toInt ≤ 0 + 59
    omega
  refine List.forall_mem_cons.mpr ⟨fun v hv => ?_, ?_⟩
  · have hv : 0 + (-1) ≤ v.toInt ∧ v.toInt ≤ 0 + (-1) := hv
    show 0 + (-1) ≤ v.toInt ∧ v.toInt ≤ 0 + 59
    omega
  refine List.forall_mem_cons.mpr ⟨fun v hv => ?_, ?_⟩
  · have hv : 0 + 0 ≤ v.toInt ∧ v.toInt ≤ 0 + 0 := hv
    show 0 + 0 ≤ v.toInt ∧ v.toInt ≤ 0 + 500
    omega
  exact fun q hq => by cases hq
def cLw : List (ri_I × ri_I) := [((1, 0, 0), (0, (-1), 59)), ((2, 0, 0), (0, 0, 500))]
theorem ok_cLw {a b : Int} (ha : 0 ≤ a ∧ a ≤ 59) (hb : -60 ≤ b ∧ b ≤ 60) : ∀ q ∈ cLw, ∀ v, ri_gI (co_R (co_G a b)) q.1 v → ri_gI (co_S a b) q.2 v := by
  have hg := co_G_rng ha hb
  refine List.forall_mem_cons.mpr ⟨fun v hv => ?_, ?_⟩
  · have hv : (co_G a b).1 + 0 ≤ v.toInt ∧ v.toInt ≤ (co_G a b).1 + 0 := hv
    show 0 + (-1) ≤ v.toInt ∧ v.toInt ≤ 0 + 59
    omega
  refine List.forall_mem_cons.mpr ⟨fun v hv => ?_, ?_⟩
  · have hv : (co_G a b).2 + 0 ≤ v.toInt ∧ v.toInt ≤ (co_G a b).2 + 0 := hv
    show 0 + 0 ≤ v.toInt ∧ v.toInt ≤ 0 + 500
    omega
  exact fun q hq => by cases hq
def cL1 : List (ri_I × ri_I) := [((1, 0, 0), (1, 0, 0)), ((0, 1, 1), (2, 0, 0)), ((0, 0, 0), (0, (-1), 59)), ((0, (-1), (-1)), (0, (-1), 59)), ((0, 0, 0), (0, 0, 500))]
theorem ok_cL1 {a : Int}  : ∀ q ∈ cL1, ∀ v, ri_gI (co_S a 1) q.1 v → ri_gI (co_S a 1) q.2 v := by
  refine List.forall_mem_cons.mpr ⟨fun v hv => ?_, ?_⟩
  · have hv : a + 0 ≤ v.toInt ∧ v.toInt ≤ a + 0 := hv
    show a + 0 ≤ v.toInt ∧ v.toInt ≤ a + 0
    omega
  refine List.forall_mem_cons.mpr ⟨fun v hv => ?_, ?_⟩
  · have hv : 0 + 1 ≤ v.toInt ∧ v.toInt ≤ 0 + 1 := hv
    show 1 + 0 ≤ v.toInt ∧ v.toInt ≤ 1 + 0
    omega
  refine List.forall_mem_cons.mpr ⟨fun v hv => ?_, ?_⟩
  · have hv : 0 + 0 ≤ v.toInt ∧ v.toInt ≤ 0 + 0 := hv
    show 0 + (-1) ≤ v.toInt ∧ v.toInt ≤ 0 + 59
    omega
  refine List.forall_mem_cons.mpr ⟨fun v hv => ?_, ?_⟩
  · have hv : 0 + (-1) ≤ v.toInt ∧ v.toInt ≤ 0 + (-1) := hv
    show 0 + (-1) ≤ v.toInt ∧ v.toInt ≤ 0 + 59
    omega
  refine List.forall_mem_cons.mpr ⟨fun v hv => ?_, ?_⟩
  · have hv : 0 + 0 ≤ v.toInt ∧ v.toInt ≤ 0 + 0 := hv
    show 0 + 0 ≤ v.toInt ∧ v.toInt ≤ 0 + 500
    omega
  exact fun q hq => by cases hq
def cLv : List (ri_I × ri_I) := [((1, 0, 0), (1, 0, 0)), ((2, 1, 1), (2, 0, 0))]
theorem ok_cLv {a b : Int}  : ∀ q ∈ cLv, ∀ v, ri_gI (co_S a b) q.1 v → ri_gI (co_S a (b + 1)) q.2 v := by
  refine List.forall_mem_cons.mpr ⟨fun v hv => ?_, ?_⟩
  · have hv : a + 0 ≤ v.toInt ∧ v.toInt ≤ a + 0 := hv
    show a + 0 ≤ v.toInt ∧ v.toInt ≤ a + 0
    omega
  refine List.forall_mem_cons.mpr ⟨fun v hv => ?_, ?_⟩
  · have hv : b + 1 ≤ v.toInt ∧ v.toInt ≤ b + 1 := hv
    show (b + 1) + 0 ≤ v.toInt ∧ v.toInt ≤ (b + 1) + 0
    omega
  exact fun q hq => by cases hq
theorem co_wk_X (l : Launch) {κ : Nat → ClassId} {D : va_G} {ws : va_W} (sz : Nat) {a b : Int} {vs : List Value} (hH : ri_gH (co_S a b) κ hXg ws) (hr : ri_rel (co_S a b) (ri_ad ws) [some (.inr (.inl (some 68))), some (.inr (.inl (some 8))), some (.inl (1, 0, 0)), some (.inl (2, 0, 0))] vs) (ha : 0 ≤ a ∧ a ≤ 59) (hb : -60 ≤ b ∧ b ≤ 60) {y : MethodName} {cc : ByteArray} {nL : Nat} {ret : Option FieldType} (hm : mT[14]? = some (y, cc, nL, ret)) : Met l y (.code y cc nL ret :: gU) (ri_rm 18 0 0) (ri_Pc κ D ws sz vs) (ri_Qo (co_S a b) κ D ws sz none hXg) 0 0 (va_A ws sz) := by
  refine MetFree.mono (co_met_X l sz hH hr ha hb hm) (fun _ _ g => g) (fun _ _ _ _ _ g => g) (fun a' st o t _ hQ => ?_)
  obtain ⟨⟨⟨ws', ov, q1, q2, q3, q4, q5, q6⟩, q9⟩, hf⟩ := hQ
  exact ⟨⟨⟨ws', ov, q1, q2, ri_fH_ok (ri_fl_ok (ok_cLw ha hb)) (by decide +kernel) q3, q4, q5, q6⟩, q9⟩, hf⟩
theorem co_wk_M (l : Launch) {κ : Nat → ClassId} {D : va_G} {ws : va_W} (sz : Nat) {a b : Int} {vs : List Value} (hH : ri_gH (co_S a b) κ hMg ws) (hr : ri_rel (co_S a b) (ri_ad ws) [some (.inr (.inl (some 0))), some (.inl (1, 0, 0)), some (.inl (2, 0, 0))] vs) (ha : 0 ≤ a ∧ a ≤ 59) (hb : -60 ≤ b ∧ b ≤ 60) {y : MethodName} {cc : ByteArray} {nL : Nat} {ret : Option FieldType} (hm : mT[102]? = some (y, cc, nL, ret)) : Met l y (.code y cc nL ret :: gU) (ri_rm 18 0 0) (ri_Pc κ D ws sz vs) (ri_Qo (co_S a b) κ D ws sz none hMg) 0 0 (va_A ws sz) := by
  refine MetFree.mono (co_met_M l sz hH hr ha hb hm) (fun _ _ g => g) (fun _ _ _ _ _ g => g) (fun a' st o t _ hQ => ?_)
  obtain ⟨⟨⟨ws', ov, q1, q2, q3, q4, q5, q6⟩, q9⟩, hf⟩ := hQ
  exact ⟨⟨⟨ws', ov, q1, q2, ri_fH_ok (ri_fl_ok (ok_cLw ha hb)) (by decide +kernel) q3, q4, q5, q6⟩, q9⟩, hf⟩
theorem ke_X_0 : ri_k1 (ri_fl cLg) ((32, [some (.inr (.inl (some 0))), some (.inl (1, 0, 0)), some (.inl (2, 0, 0)), some (.inl (0, 0, 0))], [.inl (2, 0, 0), .inl (1, 0, 0), .inr (.inl (some 8)), .inr (.inl (some 68))], hXg, 0, 0) : ri_S) (ri_run cEc rD mt (57, 32) 100 20 57 (0, [some (.inr (.inl (some 0))), some (.inl (1, 0, 0)), some (.inl (2, 0, 0)), some (.inl (0, 0, 0))], [], hX, 0, 0)) = true := by decide +kernel
theorem kr_X_0 : ri_chkR (1, 0, 0) (ri_run cER rD mt (999, 0) 60 20 57 (35, [some (.inr (.inl (some 0))), none, none, some (.inl (0, 0, 0))], [], hXr, 0, 0)) = true := by decide +kernel
theorem co_X_0 {a1 a2 a3 : Int32} {z : Int32} (hz : z.toInt = (co_G a1.toInt a2.toInt).1) (h1 : 0 ≤ a1.toInt ∧ a1.toInt ≤ 59) (h2 : -60 ≤ a2.toInt ∧ a2.toInt ≤ 60) (h3 : 0 ≤ a3.toInt ∧ a3.toInt ≤ 0) : ri_con 57 hX [a1, a2, a3] z := by
  intro l κ D ws sz q0 y cc nL ret hm hH hq0
  have hm0 := hm
  rw [mT_57] at hm
  cases hm
  refine ri_body_met (d := 20) hm0 l sz (τ := co_S a1.toInt a2.toInt) (A0 := [some (.inr (.inl (some 0))), some (.inl (1, 0, 0)), some (.inl (2, 0, 0)), some (.inl (0, 0, 0))]) (Qc := fun sz => ri_Qz ws sz z) (hH _) (fun v hv => by
    rcases List.mem_cons.mp hv with rfl | hv
    · rfl
    · obtain ⟨w, -, rfl⟩ := List.mem_map.mp hv
      rfl) (Nat.le_of_ble_eq_true rfl) (fun i x hx => by
    rcases i with _ | _ | _ | _ | i
    · cases hx
      exact ⟨.ref q0, rfl, q0, hq0, rfl⟩
    · cases hx
      exact ⟨.int a1, rfl, a1, rfl, (by show a1.toInt + 0 ≤ a1.toInt ∧ a1.toInt ≤ a1.toInt + 0; omega)⟩
    · cases hx
      exact ⟨.int a2, rfl, a2, rfl, (by show a2.toInt + 0 ≤ a2.toInt ∧ a2.toInt ≤ a2.toInt + 0; omega)⟩
    · cases hx
      exact ⟨.int a3, rfl, a3, rfl, (ri_gI_0.mpr (by omega))⟩
    · simp at hx) (fun p e s m below meth c B => ?_)
  refine AB_k1 hm0 B (ok_cEc h1 h2) (ri_fl_ok ok_cLg) ⟨rfl, rfl⟩ ke_X_0 ?_
  refine ri_At_call hm0 B (d1 := 18) (j := 242) (ci := 3) (mj := 14) (np := 3) (a := ([some (.inr (.inl (some 68))), some (.inr (.inl (some 8))), some (.inl (1, 0, 0)), some (.inl (2, 0, 0))], [])) (h' := hXr) (st' := []) (lo' := [some (.inr (.inl (some 0))), none, none, some (.inl (0, 0, 0))]) (o := none) (f := ri_f0) (τ' := co_R (co_G a1.toInt a2.toInt)) (by decide) (((tab_all 57 _ _ _ _ mT_57).2.2.2.2.2 32 (.invokevirtual 242, 3, 7, 14, 4) rfl).resolve_left (fun h => by cases h)) rfl (by decide) (by decide +kernel) ⟨rfl, rfl⟩ ri_f0_ok (by decide +kernel) (by decide +kernel) (fun yy cc' nL' ret' ws1 sz1 top hmm hg hrel => co_met_X l sz1 hg hrel h1 h2 hmm) ?_
  exact AB_r hm0 B (ok_cER h1 h2) (fun u hu => by
    have hu : (co_G a1.toInt a2.toInt).1 + 0 ≤ u.toInt ∧ u.toInt ≤ (co_G a1.toInt a2.toInt).1 + 0 := hu
    exact Int32.toInt_inj.mp (by omega)) kr_X_0
theorem ke_X_1 : ri_k1 (ri_fl cLg) ((32, [some (.inr (.inl (some 0))), some (.inl (1, 0, 0)), some (.inl (2, 0, 0)), some (.inl (0, 1, 1))], [.inl (2, 0, 0), .inl (1, 0, 0), .inr (.inl (some 8)), .inr (.inl (some 68))], hXg, 0, 0) : ri_S) (ri_run cEc rD mt (57, 32) 100 20 57 (0, [some (.inr (.inl (some 0))), some (.inl (1, 0, 0)), some (.inl (2, 0, 0)), some (.inl (0, 1, 1))], [], hX, 0, 0)) = true := by decide +kernel
theorem kr_X_1 : ri_chkR (0, 0, 0) (ri_run cER rD mt (999, 0) 60 20 57 (35, [some (.inr (.inl (some 0))), none, none, some (.inl (0, 1, 1))], [], hXr, 0, 0)) = true := by decide +kernel
theorem co_X_1 {a1 a2 a3 : Int32}  (h1 : 0 ≤ a1.toInt ∧ a1.toInt ≤ 59) (h2 : -60 ≤ a2.toInt ∧ a2.toInt ≤ 60) (h3 : 1 ≤ a3.toInt ∧ a3.toInt ≤ 1) : ri_con 57 hX [a1, a2, a3] 0 := by
  intro l κ D ws sz q0 y cc nL ret hm hH hq0
  have hm0 := hm
  rw [mT_57] at hm
  cases hm
  refine ri_body_met (d := 20) hm0 l sz (τ := co_S a1.toInt a2.toInt) (A0 := [some (.inr (.inl (some 0))), some (.inl (1, 0, 0)), some (.inl (2, 0, 0)), some (.inl (0, 1, 1))]) (Qc := fun sz => ri_Qz ws sz 0) (hH _) (fun v hv => by
    rcases List.mem_cons.mp hv with rfl | hv
    · rfl
    · obtain ⟨w, -, rfl⟩ := List.mem_map.mp hv
      rfl) (Nat.le_of_ble_eq_true rfl) (fun i x hx => by
    rcases i with _ | _ | _ | _ | i
    · cases hx
      exact ⟨.ref q0, rfl, q0, hq0, rfl⟩
    · cases hx
      exact ⟨.int a1, rfl, a1, rfl, (by show a1.toInt + 0 ≤ a1.toInt ∧ a1.toInt ≤ a1.toInt + 0; omega)⟩
    · cases hx
      exact ⟨.int a2, rfl, a2, rfl, (by show a2.toInt + 0 ≤ a2.toInt ∧ a2.toInt ≤ a2.toInt + 0; omega)⟩
    · cases hx
      exact ⟨.int a3, rfl, a3, rfl, (ri_gI_0.mpr (by omega))⟩
    · simp at hx) (fun p e s m below meth c B => ?_)
  refine AB_k1 hm0 B (ok_cEc h1 h2) (ri_fl_ok ok_cLg) ⟨rfl, rfl⟩ ke_X_1 ?_
  refine ri_At_call hm0 B (d1 := 18) (j := 242) (ci := 3) (mj := 14) (np := 3) (a := ([some (.inr (.inl (some 68))), some (.inr (.inl (some 8))), some (.inl (1, 0, 0)), some (.inl (2, 0, 0))], [])) (h' := hXr) (st' := []) (lo' := [some (.inr (.inl (some 0))), none, none, some (.inl (0, 1, 1))]) (o := none) (f := ri_f0) (τ' := co_R (co_G a1.toInt a2.toInt)) (by decide) (((tab_all 57 _ _ _ _ mT_57).2.2.2.2.2 32 (.invokevirtual 242, 3, 7, 14, 4) rfl).resolve_left (fun h => by cases h)) rfl (by decide) (by decide +kernel) ⟨rfl, rfl⟩ ri_f0_ok (by decide +kernel) (by decide +kernel) (fun yy cc' nL' ret' ws1 sz1 top hmm hg hrel => co_met_X l sz1 hg hrel h1 h2 hmm) ?_
  exact AB_r hm0 B (ok_cER h1 h2) (ri_zz (by decide +kernel)) kr_X_1
theorem ke_X_2 : ri_k1 (ri_fl cLg) ((32, [some (.inr (.inl (some 0))), some (.inl (1, 0, 0)), some (.inl (2, 0, 0)), some (.inl (0, 2, 2))], [.inl (2, 0, 0), .inl (1, 0, 0), .inr (.inl (some 8)), .inr (.inl (some 68))], hXg, 0, 0) : ri_S) (ri_run cEc rD mt (57, 32) 100 20 57 (0, [some (.inr (.inl (some 0))), some (.inl (1, 0, 0)), some (.inl (2, 0, 0)), some (.inl (0, 2, 2))], [], hX, 0, 0)) = true := by decide +kernel
theorem kr_X_2 : ri_chkR (2, 0, 0) (ri_run cER rD mt (999, 0) 60 20 57 (35, [some (.inr (.inl (some 0))), none, none, some (.inl (0, 2, 2))], [], hXr, 0, 0)) = true := by decide +kernel
theorem co_X_2 {a1 a2 a3 : Int32} {z : Int32} (hz : z.toInt = (co_G a1.toInt a2.toInt).2) (h1 : 0 ≤ a1.toInt ∧ a1.toInt ≤ 59) (h2 : -60 ≤ a2.toInt ∧ a2.toInt ≤ 60) (h3 : 2 ≤ a3.toInt ∧ a3.toInt ≤ 2) : ri_con 57 hX [a1, a2, a3] z := by
  intro l κ D ws sz q0 y cc nL ret hm hH hq0
  have hm0 := hm
  rw [mT_57] at hm
  cases hm
  refine ri_body_met (d := 20) hm0 l sz (τ := co_S a1.toInt a2.toInt) (A0 := [some (.inr (.inl (some 0))), some (.inl (1, 0, 0)), some (.inl (2, 0, 0)), some (.inl (0, 2, 2))]) (Qc := fun sz => ri_Qz ws sz z) (hH _) (fun v hv => by
    rcases List.mem_cons.mp hv with rfl | hv
    · rfl
    · obtain ⟨w, -, rfl⟩ := List.mem_map.mp hv
      rfl) (Nat.le_of_ble_eq_true rfl) (fun i x hx => by
    rcases i with _ | _ | _ | _ | i
    · cases hx
      exact ⟨.ref q0, rfl, q0, hq0, rfl⟩
    · cases hx
      exact ⟨.int a1, rfl, a1, rfl, (by show a1.toInt + 0 ≤ a1.toInt ∧ a1.toInt ≤ a1.toInt + 0; omega)⟩
    · cases hx
      exact ⟨.int a2, rfl, a2, rfl, (by show a2.toInt + 0 ≤ a2.toInt ∧ a2.toInt ≤ a2.toInt + 0; omega)⟩
    · cases hx
      exact ⟨.int a3, rfl, a3, rfl, (ri_gI_0.mpr (by omega))⟩
    · simp at hx) (fun p e s m below meth c B => ?_)
  refine AB_k1 hm0 B (ok_cEc h1 h2) (ri_fl_ok ok_cLg) ⟨rfl, rfl⟩ ke_X_2 ?_
  refine ri_At_call hm0 B (d1 := 18) (j := 242) (ci := 3) (mj := 14) (np := 3) (a := ([some (.inr (.inl (some 68))), some (.inr (.inl (some 8))), some (.inl (1, 0, 0)), some (.inl (2, 0, 0))], [])) (h' := hXr) (st' := []) (lo' := [some (.inr (.inl (some 0))), none, none, some (.inl (0, 2, 2))]) (o := none) (f := ri_f0) (τ' := co_R (co_G a1.toInt a2.toInt)) (by decide) (((tab_all 57 _ _ _ _ mT_57).2.2.2.2.2 32 (.invokevirtual 242, 3, 7, 14, 4) rfl).resolve_left (fun h => by cases h)) rfl (by decide) (by decide +kernel) ⟨rfl, rfl⟩ ri_f0_ok (by decide +kernel) (by decide +kernel) (fun yy cc' nL' ret' ws1 sz1 top hmm hg hrel => co_met_X l sz1 hg hrel h1 h2 hmm) ?_
  exact AB_r hm0 B (ok_cER h1 h2) (fun u hu => by
    have hu : (co_G a1.toInt a2.toInt).2 + 0 ≤ u.toInt ∧ u.toInt ≤ (co_G a1.toInt a2.toInt).2 + 0 := hu
    exact Int32.toInt_inj.mp (by omega)) kr_X_2
theorem ke_X_3 : ri_k1 (ri_fl cLg) ((32, [some (.inr (.inl (some 0))), some (.inl (1, 0, 0)), some (.inl (2, 0, 0)), some (.inl (0, (-2147483648), (-1)))], [.inl (2, 0, 0), .inl (1, 0, 0), .inr (.inl (some 8)), .inr (.inl (some 68))], hXg, 0, 0) : ri_S) (ri_run cEc rD mt (57, 32) 100 20 57 (0, [some (.inr (.inl (some 0))), some (.inl (1, 0, 0)), some (.inl (2, 0, 0)), some (.inl (0, (-2147483648), (-1)))], [], hX, 0, 0)) = true := by decide +kernel
theorem kr_X_3 : ri_chkR (0, (-2), (-2)) (ri_run cER rD mt (999, 0) 60 20 57 (35, [some (.inr (.inl (some 0))), none, none, some (.inl (0, (-2147483648), (-1)))], [], hXr, 0, 0)) = true := by decide +kernel
theorem co_X_3 {a1 a2 a3 : Int32}  (h1 : 0 ≤ a1.toInt ∧ a1.toInt ≤ 59) (h2 : -60 ≤ a2.toInt ∧ a2.toInt ≤ 60) (h3 : (-2147483648) ≤ a3.toInt ∧ a3.toInt ≤ (-1)) : ri_con 57 hX [a1, a2, a3] (-2) := by
  intro l κ D ws sz q0 y cc nL ret hm hH hq0
  have hm0 := hm
  rw [mT_57] at hm
  cases hm
  refine ri_body_met (d := 20) hm0 l sz (τ := co_S a1.toInt a2.toInt) (A0 := [some (.inr (.inl (some 0))), some (.inl (1, 0, 0)), some (.inl (2, 0, 0)), some (.inl (0, (-2147483648), (-1)))]) (Qc := fun sz => ri_Qz ws sz (-2)) (hH _) (fun v hv => by
    rcases List.mem_cons.mp hv with rfl | hv
    · rfl
    · obtain ⟨w, -, rfl⟩ := List.mem_map.mp hv
      rfl) (Nat.le_of_ble_eq_true rfl) (fun i x hx => by
    rcases i with _ | _ | _ | _ | i
    · cases hx
      exact ⟨.ref q0, rfl, q0, hq0, rfl⟩
    · cases hx
      exact ⟨.int a1, rfl, a1, rfl, (by show a1.toInt + 0 ≤ a1.toInt ∧ a1.toInt ≤ a1.toInt + 0; omega)⟩
    · cases hx
      exact ⟨.int a2, rfl, a2, rfl, (by show a2.toInt + 0 ≤ a2.toInt ∧ a2.toInt ≤ a2.toInt + 0; omega)⟩
    · cases hx
      exact ⟨.int a3, rfl, a3, rfl, (ri_gI_0.mpr (by omega))⟩
    · simp at hx) (fun p e s m below meth c B => ?_)
  refine AB_k1 hm0 B (ok_cEc h1 h2) (ri_fl_ok ok_cLg) ⟨rfl, rfl⟩ ke_X_3 ?_
  refine ri_At_call hm0 B (d1 := 18) (j := 242) (ci := 3) (mj := 14) (np := 3) (a := ([some (.inr (.inl (some 68))), some (.inr (.inl (some 8))), some (.inl (1, 0, 0)), some (.inl (2, 0, 0))], [])) (h' := hXr) (st' := []) (lo' := [some (.inr (.inl (some 0))), none, none, some (.inl (0, (-2147483648), (-1)))]) (o := none) (f := ri_f0) (τ' := co_R (co_G a1.toInt a2.toInt)) (by decide) (((tab_all 57 _ _ _ _ mT_57).2.2.2.2.2 32 (.invokevirtual 242, 3, 7, 14, 4) rfl).resolve_left (fun h => by cases h)) rfl (by decide) (by decide +kernel) ⟨rfl, rfl⟩ ri_f0_ok (by decide +kernel) (by decide +kernel) (fun yy cc' nL' ret' ws1 sz1 top hmm hg hrel => co_met_X l sz1 hg hrel h1 h2 hmm) ?_
  exact AB_r hm0 B (ok_cER h1 h2) (ri_zz (by decide +kernel)) kr_X_3
theorem ke_X_4 : ri_k1 (ri_fl cLg) ((32, [some (.inr (.inl (some 0))), some (.inl (1, 0, 0)), some (.inl (2, 0, 0)), some (.inl (0, 3, 2147483647))], [.inl (2, 0, 0), .inl (1, 0, 0), .inr (.inl (some 8)), .inr (.inl (some 68))], hXg, 0, 0) : ri_S) (ri_run cEc rD mt (57, 32) 100 20 57 (0, [some (.inr (.inl (some 0))), some (.inl (1, 0, 0)), some (.inl (2, 0, 0)), some (.inl (0, 3, 2147483647))], [], hX, 0, 0)) = true := by decide +kernel
theorem kr_X_4 : ri_chkR (0, (-2), (-2)) (ri_run cER rD mt (999, 0) 60 20 57 (35, [some (.inr (.inl (some 0))), none, none, some (.inl (0, 3, 2147483647))], [], hXr, 0, 0)) = true := by decide +kernel
theorem co_X_4 {a1 a2 a3 : Int32}  (h1 : 0 ≤ a1.toInt ∧ a1.toInt ≤ 59) (h2 : -60 ≤ a2.toInt ∧ a2.toInt ≤ 60) (h3 : 3 ≤ a3.toInt ∧ a3.toInt ≤ 2147483647) : ri_con 57 hX [a1, a2, a3] (-2) := by
  intro l κ D ws sz q0 y cc nL ret hm hH hq0
  have hm0 := hm
  rw [mT_57] at hm
  cases hm
  refine ri_body_met (d := 20) hm0 l sz (τ := co_S a1.toInt a2.toInt) (A0 := [some (.inr (.inl (some 0))), some (.inl (1, 0, 0)), some (.inl (2, 0, 0)), some (.inl (0, 3, 2147483647))]) (Qc := fun sz => ri_Qz ws sz (-2)) (hH _) (fun v hv => by
    rcases List.mem_cons.mp hv with rfl | hv
    · rfl
    · obtain ⟨w, -, rfl⟩ := List.mem_map.mp hv
      rfl) (Nat.le_of_ble_eq_true rfl) (fun i x hx => by
    rcases i with _ | _ | _ | _ | i
    · cases hx
      exact ⟨.ref q0, rfl, q0, hq0, rfl⟩
    · cases hx
      exact ⟨.int a1, rfl, a1, rfl, (by show a1.toInt + 0 ≤ a1.toInt ∧ a1.toInt ≤ a1.toInt + 0; omega)⟩
    · cases hx
      exact ⟨.int a2, rfl, a2, rfl, (by show a2.toInt + 0 ≤ a2.toInt ∧ a2.toInt ≤ a2.toInt + 0; omega)⟩
    · cases hx
      exact ⟨.int a3, rfl, a3, rfl, (ri_gI_0.mpr (by omega))⟩
    · simp at hx) (fun p e s m below meth c B => ?_)
  refine AB_k1 hm0 B (ok_cEc h1 h2) (ri_fl_ok ok_cLg) ⟨rfl, rfl⟩ ke_X_4 ?_
  refine ri_At_call hm0 B (d1 := 18) (j := 242) (ci := 3) (mj := 14) (np := 3) (a := ([some (.inr (.inl (some 68))), some (.inr (.inl (some 8))), some (.inl (1, 0, 0)), some (.inl (2, 0, 0))], [])) (h' := hXr) (st' := []) (lo' := [some (.inr (.inl (some 0))), none, none, some (.inl (0, 3, 2147483647))]) (o := none) (f := ri_f0) (τ' := co_R (co_G a1.toInt a2.toInt)) (by decide) (((tab_all 57 _ _ _ _ mT_57).2.2.2.2.2 32 (.invokevirtual 242, 3, 7, 14, 4) rfl).resolve_left (fun h => by cases h)) rfl (by decide) (by decide +kernel) ⟨rfl, rfl⟩ ri_f0_ok (by decide +kernel) (by decide +kernel) (fun yy cc' nL' ret' ws1 sz1 top hmm hg hrel => co_met_X l sz1 hg hrel h1 h2 hmm) ?_
  exact AB_r hm0 B (ok_cER h1 h2) (ri_zz (by decide +kernel)) kr_X_4
theorem ke_M_0 : ri_k1 (ri_fl cLg) ((33, [some (.inr (.inl (some 0))), some (.inl (1, 0, 0)), some (.inl (2, 0, 0)), some (.inl (0, 0, 0))], [.inl (2, 0, 0), .inl (1, 0, 0), .inr (.inl (some 0))], hMg, 0, 0) : ri_S) (ri_run cEc rD mt (104, 33) 100 20 104 (0, [some (.inr (.inl (some 0))), some (.inl (1, 0, 0)), some (.inl (2, 0, 0)), some (.inl (0, 0, 0))], [], hM, 0, 0)) = true := by decide +kernel
theorem kr_M_0 : ri_chkR (1, 0, 0) (ri_run cER rD mt (999, 0) 60 20 104 (36, [some (.inr (.inl (some 0))), none, none, some (.inl (0, 0, 0))], [], hMr, 0, 0)) = true := by decide +kernel
theorem co_M_0 {a1 a2 a3 : Int32} {z : Int32} (hz : z.toInt = (co_G a1.toInt a2.toInt).1) (h1 : 0 ≤ a1.toInt ∧ a1.toInt ≤ 59) (h2 : -60 ≤ a2.toInt ∧ a2.toInt ≤ 60) (h3 : 0 ≤ a3.toInt ∧ a3.toInt ≤ 0) : ri_con 104 hM [a1, a2, a3] z := by
  intro l κ D ws sz q0 y cc nL ret hm hH hq0
  have hm0 := hm
  rw [mT_104] at hm
  cases hm
  refine ri_body_met (d := 20) hm0 l sz (τ := co_S a1.toInt a2.toInt) (A0 := [some (.inr (.inl (some 0))), some (.inl (1, 0, 0)), some (.inl (2, 0, 0)), some (.inl (0, 0, 0))]) (Qc := fun sz => ri_Qz ws sz z) (hH _) (fun v hv => by
    rcases List.mem_cons.mp hv with rfl | hv
    · rfl
    · obtain ⟨w, -, rfl⟩ := List.mem_map.mp hv
      rfl) (Nat.le_of_ble_eq_true rfl) (fun i x hx => by
    rcases i with _ | _ | _ | _ | i
    · cases hx
      exact ⟨.ref q0, rfl, q0, hq0, rfl⟩
    · cases hx
      exact ⟨.int a1, rfl, a1, rfl, (by show a1.toInt + 0 ≤ a1.toInt ∧ a1.toInt ≤ a1.toInt + 0; omega)⟩
    · cases hx
      exact ⟨.int a2, rfl, a2, rfl, (by show a2.toInt + 0 ≤ a2.toInt ∧ a2.toInt ≤ a2.toInt + 0; omega)⟩
    · cases hx
      exact ⟨.int a3, rfl, a3, rfl, (ri_gI_0.mpr (by omega))⟩
    · simp at hx) (fun p e s m below meth c B => ?_)
  refine AB_k1 hm0 B (ok_cEc h1 h2) (ri_fl_ok ok_cLg) ⟨rfl, rfl⟩ ke_M_0 ?_
  refine ri_At_call hm0 B (d1 := 18) (j := 666) (ci := 12) (mj := 102) (np := 2) (a := ([some (.inr (.inl (some 0))), some (.inl (1, 0, 0)), some (.inl (2, 0, 0))], [])) (h' := hMr) (st' := []) (lo' := [some (.inr (.inl (some 0))), none, none, some (.inl (0, 0, 0))]) (o := none) (f := ri_f0) (τ' := co_R (co_G a1.toInt a2.toInt)) (by decide) (((tab_all 104 _ _ _ _ mT_104).2.2.2.2.2 33 (.invokevirtual 666, 3, 16, 102, 3) rfl).resolve_left (fun h => by cases h)) rfl (by decide) (by decide +kernel) ⟨rfl, rfl⟩ ri_f0_ok (by decide +kernel) (by decide +kernel) (fun yy cc' nL' ret' ws1 sz1 top hmm hg hrel => co_met_M l sz1 hg hrel h1 h2 hmm) ?_
  exact AB_r hm0 B (ok_cER h1 h2) (fun u hu => by
    have hu : (co_G a1.toInt a2.toInt).1 + 0 ≤ u.toInt ∧ u.toInt ≤ (co_G a1.toInt a2.toInt).1 + 0 := hu
    exact Int32.toInt_inj.mp (by omega)) kr_M_0
theorem ke_M_1 : ri_k1 (ri_fl cLg) ((33, [some (.inr (.inl (some 0))), some (.inl (1, 0, 0)), some (.inl (2, 0, 0)), some (.inl (0, 1, 1))], [.inl (2, 0, 0), .inl (1, 0, 0), .inr (.inl (some 0))], hMg, 0, 0) : ri_S) (ri_run cEc rD mt (104, 33) 100 20 104 (0, [some (.inr (.inl (some 0))), some (.inl (1, 0, 0)), some (.inl (2, 0, 0)), some (.inl (0, 1, 1))], [], hM, 0, 0)) = true := by decide +kernel
theorem kr_M_1 : ri_chkR (0, 0, 0) (ri_run cER rD mt (999, 0) 60 20 104 (36, [some (.inr (.inl (some 0))), none, none, some (.inl (0, 1, 1))], [], hMr, 0, 0)) = true := by decide +kernel
theorem co_M_1 {a1 a2 a3 : Int32}  (h1 : 0 ≤ a1.toInt ∧ a1.toInt ≤ 59) (h2 : -60 ≤ a2.toInt ∧ a2.toInt ≤ 60) (h3 : 1 ≤ a3.toInt ∧ a3.toInt ≤ 1) : ri_con 104 hM [a1, a2, a3] 0 := by
  intro l κ D ws sz q0 y cc nL ret hm hH hq0
  have hm0 := hm
  rw [mT_104] at hm
  cases hm
  refine ri_body_met (d := 20) hm0 l sz (τ := co_S a1.toInt a2.toInt) (A0 := [some (.inr (.inl (some 0))), some (.inl (1, 0, 0)), some (.inl (2, 0, 0)), some (.inl (0, 1, 1))]) (Qc := fun sz => ri_Qz ws sz 0) (hH _) (fun v hv => by
    rcases List.mem_cons.mp hv with rfl | hv
    · rfl
    · obtain ⟨w, -, rfl⟩ := List.mem_map.mp hv
      rfl) (Nat.le_of_ble_eq_true rfl) (fun i x hx => by
    rcases i with _ | _ | _ | _ | i
    · cases hx
      exact ⟨.ref q0, rfl, q0, hq0, rfl⟩
    · cases hx
      exact ⟨.int a1, rfl, a1, rfl, (by show a1.toInt + 0 ≤ a1.toInt ∧ a1.toInt ≤ a1.toInt + 0; omega)⟩
    · cases hx
      exact ⟨.int a2, rfl, a2, rfl, (by show a2.toInt + 0 ≤ a2.toInt ∧ a2.toInt ≤ a2.toInt + 0; omega)⟩
    · cases hx
      exact ⟨.int a3, rfl, a3, rfl, (ri_gI_0.mpr (by omega))⟩
    · simp at hx) (fun p e s m below meth c B => ?_)
  refine AB_k1 hm0 B (ok_cEc h1 h2) (ri_fl_ok ok_cLg) ⟨rfl, rfl⟩ ke_M_1 ?_
  refine ri_At_call hm0 B (d1 := 18) (j := 666) (ci := 12) (mj := 102) (np := 2) (a := ([some (.inr (.inl (some 0))), some (.inl (1, 0, 0)), some (.inl (2, 0, 0))], [])) (h' := hMr) (st' := []) (lo' := [some (.inr (.inl (some 0))), none, none, some (.inl (0, 1, 1))]) (o := none) (f := ri_f0) (τ' := co_R (co_G a1.toInt a2.toInt)) (by decide) (((tab_all 104 _ _ _ _ mT_104).2.2.2.2.2 33 (.invokevirtual 666, 3, 16, 102, 3) rfl).resolve_left (fun h => by cases h)) rfl (by decide) (by decide +kernel) ⟨rfl, rfl⟩ ri_f0_ok (by decide +kernel) (by decide +kernel) (fun yy cc' nL' ret' ws1 sz1 top hmm hg hrel => co_met_M l sz1 hg hrel h1 h2 hmm) ?_
  exact AB_r hm0 B (ok_cER h1 h2) (ri_zz (by decide +kernel)) kr_M_1
theorem ke_M_2 : ri_k1 (ri_fl cLg) ((33, [some (.inr (.inl (some 0))), some (.inl (1, 0, 0)), some (.inl (2, 0, 0)), some (.inl (0, 2, 2))], [.inl (2, 0, 0), .inl (1, 0, 0), .inr (.inl (some 0))], hMg, 0, 0) : ri_S) (ri_run cEc rD mt (104, 33) 100 20 104 (0, [some (.inr (.inl (some 0))), some (.inl (1, 0, 0)), some (.inl (2, 0, 0)), some (.inl (0, 2, 2))], [], hM, 0, 0)) = true := by decide +kernel
theorem kr_M_2 : ri_chkR (2, 0, 0) (ri_run cER rD mt (999, 0) 60 20 104 (36, [some (.inr (.inl (some 0))), none, none, some (.inl (0, 2, 2))], [], hMr, 0, 0)) = true := by decide +kernel
theorem co_M_2 {a1 a2 a3 : Int32} {z : Int32} (hz : z.toInt = (co_G a1.toInt a2.toInt).2) (h1 : 0 ≤ a1.toInt ∧ a1.toInt ≤ 59) (h2 : -60 ≤ a2.toInt ∧ a2.toInt ≤ 60) (h3 : 2 ≤ a3.toInt ∧ a3.toInt ≤ 2) : ri_con 104 hM [a1, a2, a3] z := by
  intro l κ D ws sz q0 y cc nL ret hm hH hq0
  have hm0 := hm
  rw [mT_104] at hm
  cases hm
  refine ri_body_met (d := 20) hm0 l sz (τ := co_S a1.toInt a2.toInt) (A0 := [some (.inr (.inl (some 0))), some (.inl (1, 0, 0)), some (.inl (2, 0, 0)), some (.inl (0, 2, 2))]) (Qc := fun sz => ri_Qz ws sz z) (hH _) (fun v hv => by
    rcases List.mem_cons.mp hv with rfl | hv
    · rfl
    · obtain ⟨w, -, rfl⟩ := List.mem_map.mp hv
      rfl) (Nat.le_of_ble_eq_true rfl) (fun i x hx => by
    rcases i with _ | _ | _ | _ | i
    · cases hx
      exact ⟨.ref q0, rfl, q0, hq0, rfl⟩
    · cases hx
      exact ⟨.int a1, rfl, a1, rfl, (by show a1.toInt + 0 ≤ a1.toInt ∧ a1.toInt ≤ a1.toInt + 0; omega)⟩
    · cases hx
      exact ⟨.int a2, rfl, a2, rfl, (by show a2.toInt + 0 ≤ a2.toInt ∧ a2.toInt ≤ a2.toInt + 0; omega)⟩
    · cases hx
      exact ⟨.int a3, rfl, a3, rfl, (ri_gI_0.mpr (by omega))⟩
    · simp at hx) (fun p e s m below meth c B => ?_)
  refine AB_k1 hm0 B (ok_cEc h1 h2) (ri_fl_ok ok_cLg) ⟨rfl, rfl⟩ ke_M_2 ?_
  refine ri_At_call hm0 B (d1 := 18) (j := 666) (ci := 12) (mj := 102) (np := 2) (a := ([some (.inr (.inl (some 0))), some (.inl (1, 0, 0)), some (.inl (2, 0, 0))], [])) (h' := hMr) (st' := []) (lo' := [some (.inr (.inl (some 0))), none, none, some (.inl (0, 2, 2))]) (o := none) (f := ri_f0) (τ' := co_R (co_G a1.toInt a2.toInt)) (by decide) (((tab_all 104 _ _ _ _ mT_104).2.2.2.2.2 33 (.invokevirtual 666, 3, 16, 102, 3) rfl).resolve_left (fun h => by cases h)) rfl (by decide) (by decide +kernel) ⟨rfl, rfl⟩ ri_f0_ok (by decide +kernel) (by decide +kernel) (fun yy cc' nL' ret' ws1 sz1 top hmm hg hrel => co_met_M l sz1 hg hrel h1 h2 hmm) ?_
  exact AB_r hm0 B (ok_cER h1 h2) (fun u hu => by
    have hu : (co_G a1.toInt a2.toInt).2 + 0 ≤ u.toInt ∧ u.toInt ≤ (co_G a1.toInt a2.toInt).2 + 0 := hu
    exact Int32.toInt_inj.mp (by omega)) kr_M_2
