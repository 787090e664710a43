/-! A body with cuts: any ends -/
section RT68
variable {l : Launch} {D : va_G} {KK : List (List rt_K)} {κ : Nat → ClassId} {K ad : List Nat} {Φ : Nat → Int → va_W → Prop} {MX : rt_X} {SW : rt_W} {CS : List rt_Co} {SP : rt_SP}
set_option maxHeartbeats 1000000 in
theorem rt_loop (hcx : rt_ctx KK K ad Φ) (hMC : rt_MCok l D κ SP.2) (hMX : rt_MXok KK κ K ad Φ MX) (hSW : rt_SWok KK κ K ad Φ SW) (hCS : ∀ C ∈ CS, rt_Con l D KK κ K ad Φ C) {n d mi : Nat} {cuts : List rt_Cu} {sgs : List Bool} {kr : Option rt_V → rt_S → Bool} {S0 : rt_S} (hC : rt_cuts sgs (rt_run KK MX CS SP n d mi (rt_pcs cuts) true (rt_arr SW sgs true cuts) kr) cuts = true) (hE : rt_run KK MX CS SP n d mi (rt_pcs cuts) false (rt_arr SW sgs false cuts) kr S0 = true) (hd : 1 ≤ d) {y : MethodName} {cc : ByteArray} {nL : Nat} {ret : Option FieldType} (hm : mT[mi]? = some (y, cc, nL, ret)) (hn20 : nL ≤ 20) {p : Program} {e : Env} {s : State} {m : MethodId} {args : Array Value} {below : List Frame} {meth : Method} {c : Code} {ws ws0 : va_W} (B : rc_Bd p s m args meth c y cc nL ret κ D ws) {Qv : Option Value → va_W → Prop} (had : ri_ad ws = ad) {t0 : Int} {a0 : rc_C} (hrl0 : rt_rl KK κ K ad ws0 Φ t0 S0 a0) (hkr : ∀ (v : Option rt_V) (S' : rt_S) (b : rc_C) (ov : Option Value), kr v S' = true → rt_st S' = v.toList → b.2.2.1 = ov.toList → rt_rl KK κ K ad ws0 Φ t0 S' b → (∀ (i : Nat) (w : Value), 20 + sgs.length ≤ i → b.2.1[i]? = some (some w) → a0.2.1[i]? = some (some w)) → Qv ov b.2.2.2) : rc_AB p l e s m args below meth c nL D ws (MQ below (rc_Q D ws s.heap.size Qv) args s 0 0 (va_A ws s.heap.size)) d a0 := by
  have hC := rt_cuts_ok hC
  have hrun := rt_run_ok (SP := SP) hcx hMC hMX hCS n
  have main : ∀ (N : Nat), ∀ q ∈ cuts, ∀ (zs : List Int32) (b : rc_C), rt_enc sgs zs < N → zs.length = sgs.length → rt_rl KK κ K ad ws0 Φ t0 (rt_start q) b → (∀ (j : Nat) (z : Int32), zs[j]? = some z → b.2.1[20 + j]? = some (some (.int z))) → (∀ (i : Nat) (w : Value), 20 + sgs.length ≤ i → b.2.1[i]? = some (some w) → a0.2.1[i]? = some (some w)) → rc_AB p l e s m args below meth c nL D ws (MQ below (rc_Q D ws s.heap.size Qv) args s 0 0 (va_A ws s.heap.size)) d b := by
    intro N
    induction N with
    | zero => intro q _ zs b h0; omega
    | succ N ih =>
      intro q hq zs b hz hzl hrl hzs hgh
      obtain ⟨-, -, hr1⟩ := hC q hq
      refine hrun d mi _ _ _ _ _ hr1 hd y cc nL ret hm hn20 p e s m _ below meth c ws B _ had ws0 t0 b hrl (fun S' b' k1 k2 k3 => ?_) (fun v S' b' ov k1 k2 k3 k4 k5 => hkr v S' b' ov k1 k2 k3 k4 (fun i w hi hj => hgh i w hi (k5 _ w (by omega) hj)))
      obtain ⟨q', hq', ha⟩ := rt_arr_ok k1
      obtain ⟨m1, m2, -⟩ := hC q' hq'
      obtain ⟨zs', V, a1, a2, a3, a4, a5⟩ := rt_arr1_ok hSW ha m1 m2 k2
      have hlt := a5 rfl zs (fun j v hj hv => by
        have hv2 := k3 _ v (by omega) hv
        obtain ⟨z, hz'⟩ : ∃ z, zs[j]? = some z := ⟨zs[j]'(by omega), List.getElem?_eq_getElem (by omega)⟩
        have := hzs j z hz'
        rw [hv2] at this
        cases this
        exact ⟨z, hz', rfl⟩)
      exact rc_At_loc (fun i v hi hv => a4 i v (Or.inl hi) hv) (ih q' hq' zs' (b'.1, V, b'.2.2.1, b'.2.2.2) (by omega) a2 a1 a3 (fun i w hi hj => hgh i w hi (k3 _ w (by omega) (a4 _ w (Or.inr (by omega)) hj))))
  refine hrun d mi _ _ _ _ _ hE hd y cc nL ret hm hn20 p e s m _ below meth c ws B _ had ws0 t0 _ hrl0 (fun S' b' k1 k2 k3 => ?_) (fun v S' b' ov k1 k2 k3 k4 k5 => hkr v S' b' ov k1 k2 k3 k4 (fun i w hi hj => k5 _ w (by omega) hj))
  obtain ⟨q', hq', ha⟩ := rt_arr_ok k1
  obtain ⟨m1, m2, -⟩ := hC q' hq'
  obtain ⟨zs', V, a1, a2, a3, a4, -⟩ := rt_arr1_ok hSW ha m1 m2 k2
  exact rc_At_loc (fun i v hi hv => a4 i v (Or.inl hi) hv) (main _ q' hq' zs' (b'.1, V, b'.2.2.1, b'.2.2.2) (Nat.lt_succ_self _) a2 a1 a3 (fun i w hi hj => k3 _ w (by omega) (a4 _ w (Or.inr (by omega)) hj)))
end RT68
