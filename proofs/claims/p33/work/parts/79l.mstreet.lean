/-! street: its runs -/
/-- from the beginning to clearBank -/
def mt_ck : List Nat := [20, 67, 70, 74, 95, 109, 138]
noncomputable def ms_S0 : rt_S := mS 0 38 0 [] [79] [some mM] [] [] []
/-- the loop: the place, the size -/
noncomputable def ms_S1 : rt_S := mS 20 38 0 [eB 0 1600, eR 0 1600 1 0] [79] [some mM, some (tgI 1 0)] [some (tgI 1 0), some (tgI 2 0)] [] [(1, (0, 3), tgI 2 0)]
noncomputable def ms_T1a : rt_Tg := mT8 20 38 0 [eB 0 1600] [79] [] [some mM, some (cI 0 0)] [] [(1, (0, 3), tgI 1 0)]
noncomputable def ms_T1 : rt_Tg := mT8 20 38 0 [eB 1 1600, eR 1 1600 1 0] [79] [] [some mM, some (tgI 1 0)] [some (tgI 1 (-1)), some (tgI 2 0)] [(1, (0, 3), tgI 2 0)]
/-- at clearBank -/
noncomputable def ms_T2 : rt_Tg := mT8 67 30 0 [] [79] [some mM] [some mM] [] []
noncomputable def ms_S2 : rt_S := mS 67 30 0 [] [79, 26, 27] [some mM] [] [mM] [(1, (0, 35), .inr (.inl (26, 2))), (1, (0, 36), .inr (.inl (27, 3)))]
noncomputable def ms_T3 (r : Nat) : rt_Tg := mT8 70 30 0 [] [79, 26, 27] [] [some mM] [] [(1, (0, 35), .inr (.inl (26, 2))), (1, (0, 36), .inr (.inl (27, 3))), (2, (0, (r : Int)), cI 0 0), (3, (0, (r : Int)), cI 0 0), (1, (0, 51), cI (400 * r) (400 * r))]
/-- the lines -/
noncomputable def ms_S3 (pc : Nat) : rt_S := mS pc 23 0 [] [79] [some mM] [] [] []
noncomputable def ms_T4 (pc g s : Nat) (ov : List rt_O) : rt_Tg := mT8 pc g s [] [79] [] [some mM] [] ov
noncomputable def ms_R5 : rt_Tg := mT8 0 23 0 [] [] [some (cI mcB mcT)] [] [] []
noncomputable def ms_T5 (r : Nat) : rt_Tg := mT8 109 23 0 [] [79] [some (cI r r), some mM] [some mM] [] []
noncomputable def ms_k4 (SW : rt_W) (S : rt_S) : Bool := rt_tgl 0 SW [ms_T4 74 23 1 [], ms_T4 74 34 1 [], ms_T4 74 23 0 [(1, (0, 4), cI 1 6)], ms_T4 74 34 0 [(1, (0, 4), cI 1 6)], ms_T4 95 23 0 []] S
noncomputable def ms_L0 (KK : List (List rt_K)) (MX : rt_X) (SW : rt_W) (CS : List rt_Co) (SP : rt_SP) (n d r : Nat) : List Bool := [
  rt_run KK MX CS SP n d 283 mt_ck false (rt_tgl 0 SW [ms_T1a]) rt_kf2 ms_S0,
  rt_run KK MX CS SP n d 283 mt_ck true (fun S => cond (rt_tgl 0 SW [ms_T1] S) true (rt_tgl 1 SW [ms_T2] S)) rt_kf2 ms_S1,
  rt_run KK MX CS SP n d 283 mt_ck true (rt_tgl 0 SW [ms_T3 r]) rt_kf2 ms_S2,
  rt_run KK MX CS SP n d 283 mt_ck true (rt_tgl 0 SW [ms_T4 74 23 0 []]) rt_kf2 (ms_S3 70),
  rt_run KK MX CS SP n d 283 mt_ck true (ms_k4 SW) rt_kf2 (ms_S3 74),
  rt_run KK MX CS SP n d 283 mt_ck true (rt_tgl 2 SW [ms_T5 r]) (rt_tgi SW [ms_R5]) (ms_S3 95)]
/-- a fault is known: the loop ends -/
noncomputable def ms_S6 : rt_S := mS 74 23 0 [] [79] [some mM] [] [] [(1, (0, 4), cI 1 6)]
/-- in the other bank -/
noncomputable def ms_S7 : rt_S := mS 112 39 0 [] [79] [some mM] [] [] []
noncomputable def ms_T7 : rt_Tg := mT8 138 39 0 [] [79, 64] [some mM] [some mM] [] [(1, (0, 98), .inr (.inl (64, 2))), (2, (0, 0), cI (-1) (-1)), (2, (0, 1), cI (-1) (-1)), (2, (0, 2), cI (-1) (-1))]
noncomputable def ms_S8 : rt_S := mS 138 31 0 [] [79] [some mM] [] [mM] []
noncomputable def ms_R8 : rt_Tg := mT8 0 0 0 [] [] [some (cI mcB mcT)] [] [] []
noncomputable def ms_L1 (KK : List (List rt_K)) (MX : rt_X) (SW : rt_W) (CS : List rt_Co) (SP : rt_SP) (n d : Nat) : List Bool := [
  rt_run KK MX CS SP n d 283 mt_ck true (rt_tgl 0 SW [ms_T4 95 23 0 []]) rt_kf2 ms_S6,
  rt_run KK MX CS SP n d 283 mt_ck true (rt_tgl 1 SW [ms_T7]) rt_kf2 ms_S7,
  rt_run KK MX CS SP n d 283 mt_ck true rt_kf (rt_tgi SW [ms_R8]) ms_S8]
