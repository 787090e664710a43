/-! new int[n][k] (vr_outer is the printed names' own row) -/
theorem vr_outer (c : ClassId) (N h0 : Nat) : ∀ i : Nat, Jvm.Free.Multi.outerC c N h0 i = arrV c N (fun j => va_rf (if j < i then some (h0 + 1 + j) else none))
  | 0 => by
    show ({ cls := c, slots := Array.replicate N .null, vm := .none } : Cell) = _
    rw [arrV_new]
    refine congrArg (arrV c N) (funext fun j => ?_)
    simp [va_rf]
  | i + 1 => by
    show (Jvm.Free.Multi.outerC c N h0 i).setSlot i (.ref (h0 + 1 + i)) = _
    rw [vr_outer c N h0 i, arrV_store]
    refine congrArg (arrV c N) (funext fun j => ?_)
    by_cases e : j = i
    · subst e
      simp [updV, va_rf]
    · by_cases h : j < i
      · simp [updV, e, h, Nat.lt_succ_of_lt h]
      · simp [updV, e, h, show ¬ j < i + 1 by omega]
section RI12
variable {p : Program} {l : Launch} {e : Env} {R : Room} {s : State} {m : MethodId} {args : Array Value} {below : List Frame} {meth : Method} {c : Code} {cc : ByteArray} {nL n0 z0 : Nat} {τ : Nat → Int} {κ : Nat → ClassId} {D : va_G} {A : Nat → Prop} {H0 : Heap} {ad0 : List Nat} {Q : State → Prop} {own : String} {E : ri_E} {r : ri_R} {S : ri_S} {L : List ri_S}
/-- the cells of new int[n][k] that stands at b -/
def ri_grid (κ : Nat → ClassId) (b n k : Nat) : va_W := (b, .inl (κ 7, n, .inr (.inr (.inr (.inr (fun i => if i < n then some (b + 1 + i) else none)))))) :: (List.range n).map (fun i => (b + 1 + i, .inl (κ 0, k, .inl (fun _ => 0))))
theorem ri_grid_at {κ : Nat → ClassId} {b n k j : Nat} {q : Nat × va_E} (h : (ri_grid κ b n k)[j]? = some q) : q.1 = b + j ∧ j < n + 1 := by
  cases j with
  | zero =>
    cases h
    exact ⟨rfl, by omega⟩
  | succ j =>
    have h : ((List.range n).map (fun i => ((b + 1 + i, .inl (κ 0, k, .inl (fun _ => 0))) : Nat × va_E)))[j]? = some q := h
    rw [List.getElem?_map] at h
    by_cases hj : j < n
    · rw [List.getElem?_range hj] at h
      cases h
      exact ⟨by show b + 1 + j = _; omega, by omega⟩
    · rw [List.getElem?_eq_none (by rw [List.length_range]; omega)] at h
      cases h
theorem ri_mna {cc : ByteArray} (hexec : p.tables.exec = Jvm.exec) (hb : c.code = cc) {index pc : Nat} {ls : Array Slot} {rest : List Value} {ws : va_W} {H : Heap} {locs : List Loc} {cells slots : Nat} (hown : s.vm.findClass own = some m.cls) (hclink : (Cond.classLink own index "[[I").before args s = true) (hover : (Cond.arrayOver (.array .int)).before args s = true) (harr : (Cond.arrayClass .int).before args s = true)
    (hK : va_K D vwCl (ri_tys κ) s) (hP : va_P D vwCl ws H) (hD : va_D A ws) (hS : va_S A H0 H locs) (hA : ∀ q, H0.size ≤ q → A q) {n k : Int32} {N' K' : Nat} (hn : ¬ n < 0) (hk : ¬ k < 0) (hN : n.toNatClampNeg = N') (hM : k.toNatClampNeg = K') (hN5 : N' < 100000) (hK5 : K' < 100000)
    (hcells : cells + (1 + N') ≤ R.cells) (hslots : slots + (N' + N' * K') ≤ R.slots) (hdg : decode cc pc = .ok (.multianewarray index 2, 4))
    (kk : ∀ (b : Nat) (H1 : Heap), va_P D vwCl (ws ++ ri_grid κ b N' K') H1 → va_D A (ws ++ ri_grid κ b N' K') → va_S A H0 H1 locs → W p l e R s m args below meth c H1 locs (cells + (1 + N')) (slots + (N' + N' * K')) Q (F0 m (pc + 4) ls (.ref b :: rest))) : W p l e R s m args below meth c H locs cells slots Q (F0 m pc ls (.int k :: .int n :: rest)) := by
  subst hN
  subst hM
  intro T hT Xs
  obtain ⟨vm₁, cA, comp, -, fA, fC, -, -, X', step⟩ := Xs.multianewarray2F (ty := .int) hexec hown hclink hover harr (g := F0 m pc ls (.int k :: .int n :: rest)) rfl (by rw [hb]; exact hdg) rfl hn hk (by omega) (by show _ * 4 ≤ _; omega) (by omega) rfl rfl hcells hslots
  have e7 : cA = κ 7 := Option.some.inj (fA.symm.trans (hK.2 7 _ rfl).2)
  have e0 : comp = κ 0 := Option.some.inj (fC.symm.trans (hK.2 0 _ rfl).2)
  subst e7
  subst e0
  generalize hF : Jvm.Free.Multi.fill (T.setVm vm₁) (κ 7) (κ 0) n.toNatClampNeg k.toNatClampNeg (defaultValue .int) n.toNatClampNeg = F at X' step
  have hTh : (T.setVm vm₁).heap = H := hT
  obtain ⟨f1, f2, -, -⟩ := Jvm.Free.Multi.fill_facts (T.setVm vm₁) (κ 7) (κ 0) n.toNatClampNeg k.toNatClampNeg (defaultValue .int) n.toNatClampNeg
  rw [hF, hTh] at f1 f2
  have hold : ∀ x : Nat, x < H.size → F.heap[x]? = H[x]? := fun x hx => by
    have := Jvm.Free.Multi.fill_old (T.setVm vm₁) (κ 7) (κ 0) n.toNatClampNeg k.toNatClampNeg (defaultValue .int) (a := x) (by rw [hTh]; exact hx) n.toNatClampNeg
    rw [hF, hTh] at this
    exact this
  have hrow : ∀ j : Nat, j < n.toNatClampNeg → F.heap[H.size + 1 + j]? = some (vp_cell (κ 0) (k.toNatClampNeg, .inl (fun _ => 0))) := fun j hj => by
    have := Jvm.Free.Multi.fill_inner (T.setVm vm₁) (κ 7) (κ 0) n.toNatClampNeg k.toNatClampNeg (defaultValue .int) n.toNatClampNeg j hj
    rw [hF, hTh] at this
    rw [this, vp_cell_i, ← arrV_new]
    rfl
  have hout : Jvm.Free.Multi.outerC (κ 7) n.toNatClampNeg H.size n.toNatClampNeg = vp_cell (κ 7) (n.toNatClampNeg, .inr (.inr (.inr (.inr (fun i => if i < n.toNatClampNeg then some (H.size + 1 + i) else none))))) := by
    rw [vp_cell_q]
    exact vr_outer (κ 7) n.toNatClampNeg H.size n.toNatClampNeg
  rw [hout] at f2
  have hPg : va_P D vwCl (ri_grid κ H.size n.toNatClampNeg k.toNatClampNeg) F.heap := fun j q hq => by
    cases j with
    | zero =>
      cases hq
      exact f2
    | succ j =>
      have hj := (ri_grid_at hq).2
      have hq : ((List.range n.toNatClampNeg).map (fun i => ((H.size + 1 + i, .inl (κ 0, k.toNatClampNeg, .inl (fun _ => 0))) : Nat × va_E)))[j]? = some q := hq
      rw [List.getElem?_map, List.getElem?_range (by omega)] at hq
      cases hq
      exact hrow j (by omega)
  have hP1 : va_P D vwCl (ws ++ ri_grid κ H.size n.toNatClampNeg k.toNatClampNeg) F.heap := (hP.kept (fun k9 x hx => hold x.1 ((hP k9 x hx).lt))).app hPg
  have hDg : va_D A (ri_grid κ H.size n.toNatClampNeg k.toNatClampNeg) := ⟨fun i j x y hi hj hxy => by
    have := (ri_grid_at hi).1
    have := (ri_grid_at hj).1
    omega, fun j q hq => hA _ (by have := (ri_grid_at hq).1; have := hS.1; omega)⟩
  have hD1 : va_D A (ws ++ ri_grid κ H.size n.toNatClampNeg k.toNatClampNeg) := va_D.app hD hDg (fun i j x y hi hj hxy => by
    have := (hP i x hi).lt
    have := (ri_grid_at hj).1
    omega)
  obtain ⟨t, a1, b1⟩ := kk H.size F.heap hP1 hD1 ⟨by rw [f1]; have := hS.1; omega, fun x h1 h2 => (hold x (Nat.lt_of_lt_of_le h1 hS.1)).trans (hS.2.1 x h1 h2), hS.2.2⟩ F rfl (by rw [← Nat.add_assoc, ← Nat.add_assoc]; exact X')
  refine ⟨t, step t ?_, b1⟩
  have e : T.heap.size = H.size := by rw [hT]
  rw [e]
  exact a1
theorem ri_refs_at : ∀ (n b j : Nat), (ri_refs n b)[j]? = if j < n then some (.inr (.inl (some (b + j)))) else none
  | 0, b, j => by
    show ([] : List ri_V)[j]? = _
    simp
  | n + 1, b, j => by
    have e : ri_refs (n + 1) b = .inr (.inl (some b)) :: ri_refs n (b + 1) := rfl
    rw [e]
    cases j with
    | zero => simp
    | succ j =>
      rw [List.getElem?_cons_succ, ri_refs_at n (b + 1) j, show b + 1 + j = b + (j + 1) by omega]
      simp
theorem ri_refs_len : ∀ (n b : Nat), (ri_refs n b).length = n
  | 0, b => rfl
  | n + 1, b => by
    have e : ri_refs (n + 1) b = .inr (.inl (some b)) :: ri_refs n (b + 1) := rfl
    rw [e, List.length_cons, ri_refs_len n (b + 1)]
theorem ri_reps_eq (n : Nat) (v : ri_C) : ri_reps n v = List.replicate n v := by
  induction n with
  | zero => rfl
  | succ n ih => exact congrArg (v :: ·) ih
theorem rs_multi (hx : p.tables.exec = Jvm.exec) (hb : c.code = cc) (hown : s.vm.findClass own = some m.cls) (hts : ∀ w ∈ gU, w.before args s = true) (hK : va_K D vwCl (ri_tys κ) s) (hN : ri_N s) (hE : ri_okE E τ) (hA : ∀ q, H0.size ≤ q → A q) {idx : Nat} (hl : r.2.1 = 4) (hcl : Cond.classLink own idx "[[I" ∈ gU) (harr : Cond.arrayClass .int ∈ gU) (hd : decode cc S.1 = .ok (.multianewarray idx 2, 4)) (h : ri_multi E r S = some L) (hroom : ∀ S' ∈ L, S'.2.2.2.2.1 ≤ n0 + R.cells ∧ S'.2.2.2.2.2 ≤ z0 + R.slots) (k : ∀ S' ∈ L, ri_At p l e R s m args below meth c nL n0 z0 τ κ D A H0 ad0 Q S') : ri_At p l e R s m args below meth c nL n0 z0 τ κ D A H0 ad0 Q S := by
  unfold ri_multi at h
  obtain ⟨pc, lo, st0, hp, N', Z'⟩ := S
  rcases st0 with _ | ⟨y | y, _ | ⟨x | x, st0⟩⟩
  all_goals first | (cases h; done) | skip
  have h : (match ri_idx E x 100000 with
    | some n => (match ri_idx E y 100000 with
      | some k => some [((Nat.add pc r.2.1, lo, .inr (.inl (some (ri_len hp))) :: st0, List.append hp (.inr (7, ri_refs n (Nat.succ (ri_len hp))) :: ri_reps n (.inr (0, ri_rep k (.inl (0, 0, 0))))), Nat.add N' (Nat.add 1 n), Nat.add Z' (Nat.add n (Nat.mul n k))) : ri_S)]
      | none => none)
    | none => none) = some L := h
  cases hx0 : ri_idx E x 100000 with
  | none => rw [hx0] at h; cases h
  | some n =>
    cases hy0 : ri_idx E y 100000 with
    | none => rw [hx0, hy0] at h; cases h
    | some k' =>
      rw [hx0, hy0] at h
      cases h
      have hr := hroom _ (List.mem_singleton.mpr rfl)
      have hr1 : N' + (1 + n) ≤ n0 + R.cells := hr.1
      have hr2 : Z' + (n + n * k') ≤ z0 + R.slots := hr.2
      intro ws H locs ls st cells slots hH hP hD hS hL hst had hc hz
      have hc : cells + n0 = N' := hc
      have hz : slots + z0 = Z' := hz
      have hqs := hst
      clear hst
      obtain ⟨_, st, rfl, ⟨v, rfl, gv⟩, hst⟩ := ri_gS_cons hqs
      have hqs := hst
      clear hst
      obtain ⟨_, st, rfl, ⟨u, rfl, gu⟩, hst⟩ := ri_gS_cons hqs
      obtain ⟨i1, i2, i3, i4⟩ := ri_idx_ok hE hx0 gu
      obtain ⟨j1, j2, j3, j4⟩ := ri_idx_ok hE hy0 gv
      refine ri_mna hx hb hown (hts _ hcl) (over_moved (Vm.Alike.refl s.vm) hN.2.2.2.2) (hts _ harr) hK hP hD hS hA i4 j4 i2 j2 i3 j3 (by omega) (by omega) hd (fun b H1 hP1 hD1 hS1 => ?_)
      have ead : ri_ad (ws ++ ri_grid κ b n k') = ri_ad ws ++ (b :: (List.range n).map (fun i => b + 1 + i)) := by
        simp [ri_ad, ri_grid]
      have hpre : ri_ad ws <+: ri_ad (ws ++ ri_grid κ b n k') := ⟨_, ead.symm⟩
      have hwl : (ri_ad ws).length = ri_len hp := by rw [ri_len_eq, ← hH.1]; simp [ri_ad]
      have hlast : ∀ j, j < n + 1 → (ri_ad (ws ++ ri_grid κ b n k'))[ri_len hp + j]? = some (b + j) := fun j hj => by
        rw [ead, ← hwl, List.getElem?_append_right (by omega), show (ri_ad ws).length + j - (ri_ad ws).length = j by omega]
        cases j with
        | zero => rfl
        | succ j =>
          rw [List.getElem?_cons_succ, List.getElem?_map, List.getElem?_range (by omega)]
          show some (b + 1 + j) = _
          rw [show b + 1 + j = b + (j + 1) by omega]
      have hgl : (ri_grid κ b n k').length = ((.inr (7, ri_refs n (Nat.succ (ri_len hp))) :: ri_reps n (.inr (0, ri_rep k' (.inl (0, 0, 0))))) : List ri_C).length := by
        rw [ri_reps_eq]
        simp [ri_grid]
      have := k _ (List.mem_singleton.mpr rfl) _ H1 locs ls (.ref b :: st) (cells + (1 + n)) (slots + (n + n * k')) (ri_gH_app hH hgl (fun j c hj => by
        cases j with
        | zero =>
          cases hj
          refine ⟨b, _, rfl, (by show 7 ≤ 7; omega), ?_⟩
          show ri_gA τ _ κ 7 (ri_refs n _) _
          rw [ri_gA_r (by decide)]
          refine ⟨fun i => if i < n then some (b + 1 + i) else none, by rw [ri_refs_len], fun i a ha => ?_⟩
          rw [ri_refs_at] at ha
          by_cases hi : i < n
          · rw [if_pos hi] at ha
            cases ha
            refine ⟨b + 1 + i, ?_, by simp [hi, va_rf]⟩
            have := hlast (i + 1) (by omega)
            rw [show ri_len hp + (i + 1) = Nat.succ (ri_len hp) + i by omega, show b + (i + 1) = b + 1 + i by omega] at this
            exact this
          · rw [if_neg hi] at ha
            cases ha
        | succ j =>
          have hj : (ri_reps n (.inr (0, ri_rep k' (.inl (0, 0, 0)))))[j]? = some c := hj
          rw [ri_reps_eq, List.getElem?_replicate] at hj
          by_cases hi : j < n
          · rw [if_pos hi] at hj
            cases hj
            refine ⟨b + 1 + j, .inl (κ 0, k', .inl (fun _ => 0)), ?_, (by show 0 ≤ 7; omega), ?_⟩
            · show ((List.range n).map (fun i => ((b + 1 + i, .inl (κ 0, k', .inl (fun _ => 0))) : Nat × va_E)))[j]? = _
              rw [List.getElem?_map, List.getElem?_range hi]
              rfl
            · show ri_gA τ _ κ 0 (ri_rep k' _) _
              rw [ri_gA_i (by decide)]
              refine ⟨_, by rw [ri_rep_len], fun i a ha => ?_⟩
              rw [ri_rep_at ha]
              exact ri_gV_0 τ _
          · rw [if_neg hi] at hj
            cases hj)) hP1 hD1 hS1 (ri_gL_mono hL hpre) ⟨⟨b, hlast 0 (by omega), rfl⟩, ri_gS_mono hpre hst⟩ (List.IsPrefix.trans had hpre) (by show cells + (1 + n) + n0 = N' + (1 + n); omega) (by show slots + (n + n * k') + z0 = Z' + (n + n * k'); omega)
      rw [hl] at this
      exact this
end RI12
