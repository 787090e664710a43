/-! The parser's runs: starts, ends -/
def eB (lo hi : Int) : rt_B := ((lo, hi), (0, 0), none, none)
def eR (lo hi : Int) (k : Nat) (o : Int) : rt_B := ((lo, hi), (k, o), none, none)
def tgI (k : Nat) (o : Int) : rt_V := .inl (k, o, o)
def cI (lo hi : Int) : rt_V := .inl (0, lo, hi)
def mM : rt_V := .inr (.inl (79, 1))
/-- piled, within, units -/
def mOB (r : Nat) (p w u : rt_V) : List rt_O := [(1, (0, 53), p), (1, (0, 52), w), (1, (0, 36), .inr (.inl (27, 2))), (2, (0, (r : Int)), u)]
def mg3 : List (Option rt_V) := [some (tgI 1 0), some (tgI 2 0), some (tgI 3 0)]
-- unit
noncomputable def mu_S (r pc : Nat) : rt_S := mS pc 32 0 [eB 1 89, eB 0 7, eB 0 40] [79, 27] [some mM] mg3 [] (mOB r (tgI 1 0) (tgI 2 0) (tgI 3 0))
noncomputable def mu_TA (r : Nat) : rt_Tg := mT8 196 32 1 [eB 1 89, eB 0 6, eB 0 40] [79, 27] [some (cI 126 126), some (cI 3 3), some mM] [some mM] mg3 (mOB r (tgI 1 0) (tgI 2 0) (tgI 3 0))
noncomputable def mu_TB (r : Nat) : rt_Tg := mT8 196 32 1 [eB 1 89, eB 0 6, eB 0 39] [79, 27] [some (cI 126 126), some (cI 7 7), some mM] [some mM] mg3 (mOB r (tgI 1 0) (tgI 2 0) (tgI 3 1))
noncomputable def mu_TC (r : Nat) : rt_Tg := mT8 251 32 1 [eB 1 89, eB 0 7, eB 0 39] [79, 27] [some (cI mcB mcT), some (cI 97 122), some mM] [some mM] mg3 (mOB r (tgI 1 0) (tgI 2 0) (tgI 3 1))
noncomputable def mu_TR (r : Nat) : rt_Tg := mT8 0 32 0 [eB 1 89, eB 0 7, eB 0 40] [79, 27] [some (cI 1 1)] [some mM] mg3 (mOB r (tgI 1 0) (tgI 2 0) (tgI 3 0) ++ [(1, (0, 4), cI 1 6)])
noncomputable def mu_T2 (r : Nat) : rt_Tg := mT8 0 32 0 [eB 1 89, eB 0 7, eB 0 40] [79, 27] [some (cI 1 1)] [some mM] mg3 (mOB r (tgI 1 0) (tgI 2 1) (tgI 3 0))
noncomputable def mu_T3 (r : Nat) : rt_Tg := mT8 0 32 0 [eB 1 89, eB 0 7, eB 0 40] [79, 27] [some (cI 0 0)] [some mM] mg3 (mOB r (tgI 1 0) (tgI 2 0) (tgI 3 0))
noncomputable def mu_chk (KK : List (List rt_K)) (MX : rt_X) (SW : rt_W) (CS : List rt_Co) (SP : rt_SP) (n d r : Nat) : Bool := cond (rt_run KK MX CS SP n d 289 [196, 251] false (rt_tgl 3 SW [mu_TA r, mu_TB r, mu_TC r]) (rt_tgi SW [mu_TR r]) (mu_S r 0)) (cond (rt_run KK MX CS SP n d 289 [196, 251] true rt_kf (rt_tgi SW [mu_T2 r]) (mu_S r 199)) (rt_run KK MX CS SP n d 289 [196, 251] true rt_kf (rt_tgi SW [mu_T3 r]) (mu_S r 254)) false) false
-- isCompared
noncomputable def mi_S0 : rt_S := mS 0 25 0 [eB 1 89] [79] [some mM] [] [] [(1, (0, 53), tgI 1 0)]
noncomputable def mi_T0 : rt_Tg := mT8 7 25 0 [eB 0 88] [79] [] [some mM, some (tgI 1 0)] [] [(1, (0, 53), tgI 1 1)]
noncomputable def mi_S (lo hi x y : Int) : rt_S := mS 7 25 0 [eB lo hi, eB x y] [79, 37] [some mM, some (tgI 1 0)] [some (tgI 1 0)] [] [(1, (0, 48), .inr (.inl (37, 2))), (2, (1, 0), tgI 2 0)]
noncomputable def mi_T : rt_Tg := mT8 7 25 0 [eB 0 89] [79] [] [some mM, some (tgI 1 0)] [some (tgI 1 1)] []
noncomputable def mi_R : rt_Tg := mT8 0 25 0 [] [] [some (cI 0 1)] [] [] []
noncomputable def mi_chk (KK : List (List rt_K)) (MX : rt_X) (SW : rt_W) (SP : rt_SP) (n d : Nat) : Bool := cond (rt_run KK MX [] SP n d 223 [7] false (rt_tgl 0 SW [mi_T0]) rt_kf2 mi_S0) (cond (rt_run KK MX [] SP n d 223 [7] true (rt_tgl 0 SW [mi_T]) rt_kf2 (mi_S 1 88 5 6)) (cond (rt_run KK MX [] SP n d 223 [7] true rt_kf (rt_tgi SW [mi_R]) (mi_S 0 88 mcB 4)) (rt_run KK MX [] SP n d 223 [7] true rt_kf (rt_tgi SW [mi_R]) (mi_S 0 88 7 mcT)) false) false) false
-- behindUnit: the rank
def mb_V : List (Option rt_V) := [some (tgI 1 0), some (tgI 2 0), some (tgI 3 0), some (tgI 4 0), some (tgI 5 0)]
/-- tags: piled, within, units, at, the sign, size, text -/
noncomputable def mb_S (r : Nat) : rt_S := mS 0 32 0 [eB 1 89, eB 0 7, eB 0 40, eB 0 1599, ((0, 255), (0, 0), none, some (true, 7, 255)), eR 1 1600 4 1, eB mcB mcT] [79, 27, 1] [some mM] mb_V [] (mOB r (tgI 1 0) (tgI 2 0) (tgI 3 0) ++ [(1, (0, 6), tgI 4 0), (1, (0, 3), tgI 6 0), (1, (0, 1), .inr (.inl (1, 3))), (3, (4, 0), tgI 7 0)])
/-- no sign is there -/
noncomputable def mb_Sn (r : Nat) : rt_S := mS 0 32 0 [eB 1 89, eB 0 7, eB 0 40, eB 0 1600, eR 0 1600 4 0] [79, 27] [some mM] [some (tgI 1 0), some (tgI 2 0), some (tgI 3 0), some (tgI 5 0)] [] (mOB r (tgI 1 0) (tgI 2 0) (tgI 3 0) ++ [(1, (0, 6), tgI 5 0), (1, (0, 3), tgI 4 0)])
noncomputable def mb_T0 (r : Nat) : rt_Tg := mT8 23 32 0 [eB 1 89, eB 0 7, eB 0 40] [79, 27] [] [some mM, some (cI 0 0)] mg3 (mOB r (tgI 1 0) (tgI 2 0) (tgI 3 0))
noncomputable def mb_T1 (r : Nat) : rt_Tg := mT8 23 32 0 [eB 1 89, eB 0 7, eB 0 40] [79, 27] [] [some mM, some (cI 1 2)] mg3 (mOB r (tgI 1 0) (tgI 2 0) (tgI 3 0) ++ [(1, (0, 8), cI 1 5)])
noncomputable def mb_T4 (r pc : Nat) (sk : List (Option rt_V)) (k1 k2 : Int) : rt_Tg := mT8 pc 32 0 [eB 1 89, eB 0 7, eB 0 40, eB 0 1599, eB 42 62] [79, 27] sk [some mM, some (cI k1 k2)] mb_V (mOB r (tgI 1 0) (tgI 2 0) (tgI 3 0) ++ [(1, (0, 8), cI 1 5), (1, (0, 6), tgI 4 0)])
noncomputable def mb_k (SW : rt_W) (r : Nat) (S : rt_S) : Bool := cond (rt_tgl 0 SW [mb_T0 r, mb_T1 r, mb_T4 r 23 [] 5 6] S) true (rt_tgl 1 SW [mb_T4 r 11 [some mM] 4 4] S)
/-- behind isCompared -/
noncomputable def mb_Sz (r : Nat) : rt_S := mS 14 32 0 [eB 1 89, eB 0 7, eB 0 40, eB 0 1600, eB 1 5] [79, 27] [some mM, some (cI 4 4)] mb_V [cI 0 1] (mOB r (tgI 1 0) (tgI 2 0) (tgI 3 0) ++ [(1, (0, 6), tgI 4 0), (1, (0, 8), tgI 5 0)])
noncomputable def mb_Tz (r : Nat) : rt_Tg := mT8 23 32 0 [eB 1 89, eB 0 7, eB 0 40, eB 0 1600, eB 1 5] [79, 27] [] [some mM, some (cI 4 4)] mb_V (mOB r (tgI 1 0) (tgI 2 0) (tgI 3 0) ++ [(1, (0, 6), tgI 4 0), (1, (0, 8), tgI 5 0)])
noncomputable def mb_Rz (r : Nat) : rt_Tg := mT8 0 32 0 [eB 1 89, eB 0 7, eB 0 40] [79, 27] [some (cI 1 1)] [some mM] mg3 (mOB r (tgI 1 0) (tgI 2 0) (tgI 3 0) ++ [(1, (0, 4), cI 1 6)])
-- the loop: tags piled, within, units, at, token, rank, what lies on top, its sign
def mb_Vl : List (Option rt_V) := [some (tgI 1 0), some (tgI 2 0), some (tgI 3 0), some (tgI 4 0), some (tgI 5 0), some (tgI 6 0), some (tgI 7 0)]
def mb_ol : List rt_O := [(1, (0, 6), tgI 4 0), (1, (0, 8), tgI 5 0)]
def mb_ow : List rt_O := [(1, (0, 48), .inr (.inl (37, 3))), (1, (0, 49), .inr (.inl (38, 4))), (3, (1, -1), tgI 8 0), (4, (1, -1), tgI 7 0)]
noncomputable def mb_L (r : Nat) (rk x : rt_B) : rt_S := mS 23 32 0 [eB 2 89, eB 0 7, eB 0 40, eB 0 1600, eB mcB mcT, rk, eB mcB mcT, x] [79, 27, 37, 38] [some mM, some (tgI 6 0)] mb_Vl [] (mOB r (tgI 1 0) (tgI 2 0) (tgI 3 0) ++ mb_ol ++ mb_ow)
/-- with one more in the pile at least at the end -/
noncomputable def mb_LE (r : Nat) (rk x : rt_B) : rt_S := mS 23 32 0 [eB 1 89, eB 0 7, eB 0 40, eB 0 1600, eB mcB mcT, rk, eB mcB mcT, x] [79, 27, 37, 38] [some mM, some (tgI 6 0)] mb_Vl [] (mOB r (tgI 1 0) (tgI 2 0) (tgI 3 0) ++ mb_ol ++ mb_ow)
noncomputable def mb_TP (r : Nat) (dw : Int) : rt_Tg := mT8 98 32 0 [eB mcB mcT, eB 0 6, eB 2 89, eB 0 7, eB 0 40, eB 0 1600, eB mcB mcT] [79, 27] [some (cI 0 0), some (tgI 1 0), some mM] [some mM, some (tgI 2 0)] [some (tgI 3 0), some (tgI 4 0), some (tgI 5 0), some (tgI 6 0), some (tgI 7 0), some (tgI 2 0), some (tgI 1 0)] (mOB r (tgI 3 (-1)) (tgI 4 dw) (tgI 5 0) ++ [(1, (0, 6), tgI 6 0), (1, (0, 8), tgI 7 0)])
noncomputable def mb_TX (r : Nat) : rt_Tg := mT8 104 32 0 [eB 0 6, eB 1 89, eB 0 7, eB 0 40, eB 0 1600, eB mcB mcT] [79, 27] [] [some mM, some (tgI 1 0)] [some (tgI 2 0), some (tgI 3 0), some (tgI 4 0), some (tgI 5 0), some (tgI 6 0), some (tgI 1 0)] (mOB r (tgI 2 0) (tgI 3 0) (tgI 4 0) ++ [(1, (0, 6), tgI 5 0), (1, (0, 8), tgI 6 0)])
-- behind the loop
noncomputable def mb_Q0 (r : Nat) (lo x : Int) : rt_S := mS 104 32 0 [eB 1 89, eB lo 7, eB 0 40] [79, 27, 37] [some mM, some (cI 0 0)] mg3 [] (mOB r (tgI 1 0) (tgI 2 0) (tgI 3 0) ++ [(1, (0, 48), .inr (.inl (37, 3))), (3, (1, -1), cI x x)])
noncomputable def mb_R0 (r : Nat) (lo dw : Int) : rt_Tg := mT8 0 32 0 [eB 1 89, eB lo 7, eB 0 40] [79, 27] [some (cI 0 0)] [some mM] mg3 (mOB r (tgI 1 (-1)) (tgI 2 dw) (tgI 3 0))
noncomputable def mb_Q1 (r : Nat) (k : Int) : rt_S := mS 104 32 0 [eB 1 89, eB 0 7, eB 0 40, eB 1 5] [79, 27] [some mM, some (cI k k)] [some (tgI 1 0), some (tgI 2 0), some (tgI 3 0), some (tgI 4 0)] [] (mOB r (tgI 1 0) (tgI 2 0) (tgI 3 0) ++ [(1, (0, 8), tgI 4 0)])
noncomputable def mb_R1 (r : Nat) (k s : Int) : rt_Tg := mT8 138 32 0 [eB 1 89, eB 0 7, eB 0 40, eB 1 5] [79, 27] [some (cI s s), some (cI k k), some mM] [some mM] [some (tgI 1 0), some (tgI 2 0), some (tgI 3 0), some (tgI 4 0)] (mOB r (tgI 1 0) (tgI 2 0) (tgI 3 0) ++ [(1, (0, 8), tgI 4 0)])
/-- tags: piled, within, units, at, the sign, size, text, token -/
noncomputable def mb_Q4 (r : Nat) (k : Int) : rt_S := mS 104 32 0 [eB 1 89, eB 0 7, eB 0 40, eB 0 1599, ((42, 62), (0, 0), none, some (true, 7, 255)), eR 1 1600 4 1, eB mcB mcT, eB 1 5] [79, 27, 1] [some mM, some (cI k k)] [some (tgI 1 0), some (tgI 2 0), some (tgI 3 0), some (tgI 8 0)] [] (mOB r (tgI 1 0) (tgI 2 0) (tgI 3 0) ++ [(1, (0, 6), tgI 4 0), (1, (0, 3), tgI 6 0), (1, (0, 1), .inr (.inl (1, 3))), (3, (4, 0), tgI 7 0), (1, (0, 8), tgI 8 0)])
noncomputable def mb_R4 (r : Nat) (k : Int) : rt_Tg := mT8 138 32 0 [eB 1 89, eB 0 7, eB 0 40, eB 1 5] [79, 27] [some (cI 42 62), some (cI k k), some mM] [some mM] [some (tgI 1 0), some (tgI 2 0), some (tgI 3 0), some (tgI 4 0)] (mOB r (tgI 1 0) (tgI 2 0) (tgI 3 0) ++ [(1, (0, 8), tgI 4 0)])
noncomputable def mb_S9 (r : Nat) : rt_S := mS 141 32 0 [eB 1 89, eB 0 7, eB 0 40, eB 1 5] [79, 27] [some mM] mg3 [] (mOB r (tgI 1 0) (tgI 2 0) (tgI 3 0) ++ [(1, (0, 8), tgI 4 0)])
noncomputable def mb_R9 (r : Nat) : rt_Tg := mT8 0 32 1 [eB 1 89, eB 0 7, eB 0 40] [79, 27] [some (cI 1 1)] [some mM] mg3 (mOB r (tgI 1 0) (tgI 2 0) (tgI 3 0))
noncomputable def mb_run (KK : List (List rt_K)) (MX : rt_X) (CS : List rt_Co) (SP : rt_SP) (n d : Nat) (f : Bool) (kc : rt_S → Bool) (kr : Option rt_V → rt_S → Bool) (S : rt_S) : Bool := rt_run KK MX CS SP n d 181 [11, 23, 98, 104, 138] f kc kr S
noncomputable def mb_L0 (KK : List (List rt_K)) (MX : rt_X) (SW : rt_W) (CS : List rt_Co) (SP : rt_SP) (n d r : Nat) : List Bool := [
  mb_run KK MX CS SP n d false (mb_k SW r) rt_kf2 (mb_S r),
  mb_run KK MX CS SP n d false (rt_tgl 0 SW [mb_T0 r, mb_T1 r]) rt_kf2 (mb_Sn r),
  mb_run KK MX CS SP n d false (rt_tgl 0 SW [mb_Tz r]) (rt_tgi SW [mb_Rz r]) (mb_Sz r),
  mb_run KK MX CS SP n d true (rt_tgl 3 SW [mb_TP r 0]) rt_kf2 (mb_L r (eB 0 6) (eR 1 2 6 0)),
  mb_run KK MX CS SP n d true (rt_tgl 3 SW [mb_TP r 0]) rt_kf2 (mb_L r (eB 0 6) (eR 4 6 6 0)),
  mb_run KK MX CS SP n d true (rt_tgl 3 SW [mb_TP r (-1)]) rt_kf2 (mb_L r (eB 0 6) (eR 3 3 6 0)),
  mb_run KK MX CS SP n d true (rt_tgl 0 SW [mb_TX r]) rt_kf2 (mb_LE r (eB 0 6) (eB 7 8)),
  mb_run KK MX CS SP n d true (rt_tgl 0 SW [mb_TX r]) rt_kf2 (mb_LE r (eB 1 1) (eB mcB 0)),
  mb_run KK MX CS SP n d true (rt_tgl 0 SW [mb_TX r]) rt_kf2 (mb_LE r (eB 2 2) (eB mcB 1)),
  mb_run KK MX CS SP n d true (rt_tgl 0 SW [mb_TX r]) rt_kf2 (mb_LE r (eB 4 4) (eB mcB 3)),
  mb_run KK MX CS SP n d true (rt_tgl 0 SW [mb_TX r]) rt_kf2 (mb_LE r (eB 5 5) (eB mcB 4)),
  mb_run KK MX CS SP n d true (rt_tgl 0 SW [mb_TX r]) rt_kf2 (mb_LE r (eB 6 6) (eB mcB 5)),
  mb_run KK MX CS SP n d true rt_kf (rt_tgi SW [mb_R0 r 1 (-1)]) (mb_Q0 r 1 7),
  mb_run KK MX CS SP n d true rt_kf (rt_tgi SW [mb_R0 r 0 0]) (mb_Q0 r 0 8),
  mb_run KK MX CS SP n d true (rt_tgl 3 SW [mb_R1 r 1 124]) rt_kf2 (mb_Q1 r 1),
  mb_run KK MX CS SP n d true (rt_tgl 3 SW [mb_R1 r 2 38]) rt_kf2 (mb_Q1 r 2),
  mb_run KK MX CS SP n d true (rt_tgl 3 SW [mb_R4 r 4]) rt_kf2 (mb_Q4 r 4),
  mb_run KK MX CS SP n d true (rt_tgl 3 SW [mb_R4 r 5]) rt_kf2 (mb_Q4 r 5),
  mb_run KK MX CS SP n d true (rt_tgl 3 SW [mb_R4 r 6]) rt_kf2 (mb_Q4 r 6),
  mb_run KK MX CS SP n d true rt_kf (rt_tgi SW [mb_R9 r]) (mb_S9 r)]
-- e
noncomputable def me_S0 (r : Nat) : rt_S := mS 0 32 0 [eB 0 40] [79, 27] [some mM] [some (tgI 1 0)] [] [(1, (0, 36), .inr (.inl (27, 2))), (2, (0, (r : Int)), tgI 1 0)]
noncomputable def me_T0 (r : Nat) : rt_Tg := mT8 14 32 0 [eB 0 40] [79, 27] [some (cI 0 0), some (cI 8 8), some mM] [some mM] [some (tgI 1 0)] (mOB r (cI 0 0) (cI 0 0) (tgI 1 0))
def me_E4 : List rt_B := [eB mcB mcT, eB mcB mcT, eB mcB mcT, eB mcB mcT]
def me_ov (r : Nat) : List rt_O := mOB r (tgI 1 0) (tgI 2 0) (tgI 3 0) ++ [(1, (0, 4), tgI 4 0)]
def me_g4 : List (Option rt_V) := [some (tgI 1 0), some (tgI 2 0), some (tgI 3 0), some (tgI 4 0)]
noncomputable def me_S1 (r pc : Nat) (st : List rt_V) : rt_S := mS pc 32 0 me_E4 [79, 27] [some mM] me_g4 st (me_ov r)
noncomputable def me_T1 (r : Nat) (k : Int) : rt_Tg := mT8 19 32 0 me_E4 [79, 27] [] [some mM, some (cI k k)] me_g4 (me_ov r)
noncomputable def me_S2 (r : Nat) (k : Int) : rt_S := mS 19 32 0 me_E4 [79, 27] [some mM, some (cI k k)] me_g4 [] (me_ov r)
noncomputable def me_T2 (r pc : Nat) : rt_Tg := mT8 pc 32 0 [eB 1 mcT, eB mcB mcT, eB mcB mcT, eB 0 0] [79, 27] [some mM] [some mM] me_g4 (me_ov r)
noncomputable def me_R (r : Nat) : rt_Tg := mT8 0 32 0 me_E4 [79, 27] [] [some mM] me_g4 (me_ov r)
noncomputable def me_run (KK : List (List rt_K)) (MX : rt_X) (CS : List rt_Co) (SP : rt_SP) (n d : Nat) (f : Bool) (kc : rt_S → Bool) (kr : Option rt_V → rt_S → Bool) (S : rt_S) : Bool := rt_run KK MX CS SP n d 198 [14, 19, 38, 45] f kc kr S
noncomputable def me_L0 (KK : List (List rt_K)) (MX : rt_X) (SW : rt_W) (CS : List rt_Co) (SP : rt_SP) (n d r : Nat) : List Bool := [
  me_run KK MX CS SP n d false (rt_tgl 3 SW [me_T0 r]) rt_kf2 (me_S0 r),
  me_run KK MX CS SP n d false (rt_tgl 0 SW [me_T1 r 1]) rt_kf2 (me_S1 r 17 []),
  me_run KK MX CS SP n d true (rt_tgl 1 SW [me_T2 r 38]) (rt_tgv SW [me_R r]) (me_S2 r 1),
  me_run KK MX CS SP n d true (rt_tgl 1 SW [me_T2 r 45]) (rt_tgv SW [me_R r]) (me_S2 r 0),
  me_run KK MX CS SP n d false (rt_tgl 0 SW [me_T1 r 0]) rt_kf2 (me_S1 r 41 [cI 0 0]),
  me_run KK MX CS SP n d false (rt_tgl 0 SW [me_T1 r 1]) rt_kf2 (me_S1 r 41 [cI 1 1]),
  me_run KK MX CS SP n d false (rt_tgl 0 SW [me_T1 r 0]) rt_kf2 (me_S1 r 48 [cI 0 0]),
  me_run KK MX CS SP n d false (rt_tgl 0 SW [me_T1 r 1]) rt_kf2 (me_S1 r 48 [cI 1 1])]
-- readCross: c crosses are told; tags: codes, where they begin, where they end
noncomputable def mr_ov (r : Nat) (cr : rt_V) : List rt_O := [(1, (0, 51), tgI 1 0), (1, (0, 35), .inr (.inl (26, 2))), (1, (0, 41), .inr (.inl (32, 3))), (1, (0, 42), .inr (.inl (33, 4))), (2, (0, (r : Int)), cr)]
def mr_os (r : Nat) (nm : Nat) : Nat → Nat → List rt_O
  | 0, _ => []
  | c + 1, t => mr_os r nm c t ++ [(nm, (0, ((4 * r + c : Nat) : Int)), tgI (t + c + 1) 0)]
def mr_gh (n : Nat) : List (Option rt_V) := (List.range n).map (fun i => some (tgI (i + 1) 0))
def mr_E (n : Nat) : List rt_B := List.replicate n (eB 0 800)
noncomputable def mr_S0 (r c : Nat) : rt_S := mS 0 33 0 (mr_E (1 + 2 * c)) [79, 26, 32, 33] [some mM] (mr_gh (1 + 2 * c)) [] (mr_ov r (cI c c) ++ mr_os r 3 c 1 ++ mr_os r 4 c (1 + c))
noncomputable def mr_T (r c pc : Nat) (sk : List (Option rt_V)) : rt_Tg := mT8 pc 33 0 (mr_E (1 + 2 * c)) [79, 26, 32, 33] sk [some mM, some (cI ((4 * r + c : Nat) : Int) ((4 * r + c : Nat) : Int))] (mr_gh (1 + 2 * c)) (mr_ov r (cI c c) ++ mr_os r 3 c 1 ++ mr_os r 4 c (1 + c) ++ [(3, (0, ((4 * r + c : Nat) : Int)), tgI 1 0)])
noncomputable def mr_k (SW : rt_W) (r c : Nat) (S : rt_S) : Bool := cond (rt_tgl 1 SW [mr_T r c 107 [some mM]] S) true (rt_tgl 0 SW [mr_T r c 110 []] S)
/-- behind e: tags: codes, where they begin (the new one too), where they end -/
noncomputable def mr_S1 (r c : Nat) : rt_S := mS 110 33 0 (mr_E (2 + 2 * c)) [79, 26, 32, 33] [some mM, some (cI ((4 * r + c : Nat) : Int) ((4 * r + c : Nat) : Int))] (mr_gh (2 + 2 * c)) [] (mr_ov r (cI c c) ++ mr_os r 3 (c + 1) 1 ++ mr_os r 4 c (2 + c))
noncomputable def mr_R (r c : Nat) : rt_Tg := mT8 0 33 0 (mr_E (2 + 2 * c)) [79, 26, 32, 33] [] [some mM] (mr_gh (2 + 2 * c)) (mr_ov r (cI ((c + 1 : Nat) : Int) ((c + 1 : Nat) : Int)) ++ mr_os r 3 (c + 1) 1 ++ mr_os r 4 c (2 + c) ++ [(4, (0, ((4 * r + c : Nat) : Int)), tgI 1 0)])
noncomputable def mr_chk (KK : List (List rt_K)) (MX : rt_X) (SW : rt_W) (CS : List rt_Co) (SP : rt_SP) (n d r c : Nat) : Bool := cond (rt_run KK MX CS SP n d 258 [107, 110] false (mr_k SW r c) rt_kf2 (mr_S0 r c)) (rt_run KK MX CS SP n d 258 [107] true rt_kf (rt_tgv SW [mr_R r c]) (mr_S1 r c)) false
