/-! The contexts together -/
noncomputable def mAll4 (f : Nat → Bool) : Bool := rt_allK (fun j (_ : Unit) => f j) (List.replicate 4 ()) 0
theorem mAll4_ok {f : Nat → Bool} (h : mAll4 f = true) {n : Nat} (hn : n < 4) : f n = true := by
  have := rt_allK_ok h n () (by rw [List.getElem?_replicate, if_pos hn])
  rw [Nat.zero_add] at this
  exact this
def wK0 (n : Nat) : List (List rt_K) := match n with
  | 0 => w00_K
  | 1 => w01_K
  | 2 => w02_K
  | _ => w03_K
def wX0 (n : Nat) : rt_X := match n with
  | 0 => w00_X
  | 1 => w01_X
  | 2 => w02_X
  | _ => w03_X
def wW0 (n : Nat) : rt_W := match n with
  | 0 => w00_W
  | 1 => w01_W
  | 2 => w02_W
  | _ => w03_W
def w00_CT : List rt_Co := [w00_t95, w00_t96, w00_t126, w00_t124, w00_t125]
def w01_CT : List rt_Co := [w01_t97, w01_t98, w01_t130, w01_t128, w01_t129]
def w02_CT : List rt_Co := [w02_t97, w02_t98, w02_t130, w02_t128, w02_t129]
def w03_CT : List rt_Co := [w03_t97, w03_t98, w03_t130, w03_t128, w03_t129]
def wC0 (n : Nat) : List rt_Co := match n with
  | 0 => w00_CT
  | 1 => w01_CT
  | 2 => w02_CT
  | _ => w03_CT
def wS0 (n : Nat) : rt_SP := match n with
  | 0 => w00_S
  | 1 => w01_S
  | 2 => w02_S
  | _ => w03_S
def wK1 (n : Nat) : List (List rt_K) := match n with
  | 0 => w10_K
  | 1 => w11_K
  | 2 => w12_K
  | _ => w13_K
def wX1 (n : Nat) : rt_X := match n with
  | 0 => w10_X
  | 1 => w11_X
  | 2 => w12_X
  | _ => w13_X
def wW1 (n : Nat) : rt_W := match n with
  | 0 => w10_W
  | 1 => w11_W
  | 2 => w12_W
  | _ => w13_W
def w10_CT : List rt_Co := [w10_t95, w10_t96, w10_t126, w10_t124, w10_t125]
def w11_CT : List rt_Co := [w11_t97, w11_t98, w11_t130, w11_t128, w11_t129]
def w12_CT : List rt_Co := [w12_t97, w12_t98, w12_t130, w12_t128, w12_t129]
def w13_CT : List rt_Co := [w13_t97, w13_t98, w13_t130, w13_t128, w13_t129]
def wC1 (n : Nat) : List rt_Co := match n with
  | 0 => w10_CT
  | 1 => w11_CT
  | 2 => w12_CT
  | _ => w13_CT
def wS1 (n : Nat) : rt_SP := match n with
  | 0 => w10_S
  | 1 => w11_S
  | 2 => w12_S
  | _ => w13_S
theorem w00_sa : rt_all1 (fun b => b) (ms_L0 w00_K w00_X w00_W w00_CT w00_S 3000 16 (1 - 0)) = true := by decide +kernel
theorem w00_sb : rt_all1 (fun b => b) (ms_L1 w00_K w00_X w00_W w00_CT w00_S 3000 16) = true := by decide +kernel
theorem w00_sc : rt_all1 (fun b => b) (mt_L w00_K 0) = true := by decide +kernel
theorem w01_sa : rt_all1 (fun b => b) (ms_L0 w01_K w01_X w01_W w01_CT w01_S 3000 16 (1 - 0)) = true := by decide +kernel
theorem w01_sb : rt_all1 (fun b => b) (ms_L1 w01_K w01_X w01_W w01_CT w01_S 3000 16) = true := by decide +kernel
theorem w01_sc : rt_all1 (fun b => b) (mt_L w01_K 0) = true := by decide +kernel
theorem w02_sa : rt_all1 (fun b => b) (ms_L0 w02_K w02_X w02_W w02_CT w02_S 3000 16 (1 - 0)) = true := by decide +kernel
theorem w02_sb : rt_all1 (fun b => b) (ms_L1 w02_K w02_X w02_W w02_CT w02_S 3000 16) = true := by decide +kernel
theorem w02_sc : rt_all1 (fun b => b) (mt_L w02_K 0) = true := by decide +kernel
theorem w03_sa : rt_all1 (fun b => b) (ms_L0 w03_K w03_X w03_W w03_CT w03_S 3000 16 (1 - 0)) = true := by decide +kernel
theorem w03_sb : rt_all1 (fun b => b) (ms_L1 w03_K w03_X w03_W w03_CT w03_S 3000 16) = true := by decide +kernel
theorem w03_sc : rt_all1 (fun b => b) (mt_L w03_K 0) = true := by decide +kernel
theorem w10_sa : rt_all1 (fun b => b) (ms_L0 w10_K w10_X w10_W w10_CT w10_S 3000 16 (1 - 1)) = true := by decide +kernel
theorem w10_sb : rt_all1 (fun b => b) (ms_L1 w10_K w10_X w10_W w10_CT w10_S 3000 16) = true := by decide +kernel
theorem w10_sc : rt_all1 (fun b => b) (mt_L w10_K 1) = true := by decide +kernel
theorem w11_sa : rt_all1 (fun b => b) (ms_L0 w11_K w11_X w11_W w11_CT w11_S 3000 16 (1 - 1)) = true := by decide +kernel
theorem w11_sb : rt_all1 (fun b => b) (ms_L1 w11_K w11_X w11_W w11_CT w11_S 3000 16) = true := by decide +kernel
theorem w11_sc : rt_all1 (fun b => b) (mt_L w11_K 1) = true := by decide +kernel
theorem w12_sa : rt_all1 (fun b => b) (ms_L0 w12_K w12_X w12_W w12_CT w12_S 3000 16 (1 - 1)) = true := by decide +kernel
theorem w12_sb : rt_all1 (fun b => b) (ms_L1 w12_K w12_X w12_W w12_CT w12_S 3000 16) = true := by decide +kernel
theorem w12_sc : rt_all1 (fun b => b) (mt_L w12_K 1) = true := by decide +kernel
theorem w13_sa : rt_all1 (fun b => b) (ms_L0 w13_K w13_X w13_W w13_CT w13_S 3000 16 (1 - 1)) = true := by decide +kernel
theorem w13_sb : rt_all1 (fun b => b) (ms_L1 w13_K w13_X w13_W w13_CT w13_S 3000 16) = true := by decide +kernel
theorem w13_sc : rt_all1 (fun b => b) (mt_L w13_K 1) = true := by decide +kernel
theorem wv0_a : mAll4 (fun nb => mAll4 (fun n => mG3 (wK0 nb) 0 (wK0 n) 30 (wK0 nb) 0)) = true := by decide +kernel
theorem wv0_b : mAll4 (fun nb => mAll4 (fun n => mG3 (wK0 nb) 0 (wK0 n) 23 (wK0 nb) 0)) = true := by decide +kernel
theorem wv0_c : mAll4 (fun nb => mAll4 (fun n => mG3 (wK0 nb) 0 (wK0 n) 34 (wK0 nb) 0)) = true := by decide +kernel
theorem wv0_d0 : mG3 (wK0 0) 34 (wK0 0) 34 (wK0 (min (0 + 1) 3)) 23 = true := by decide +kernel
theorem wv0_d1 : mG3 (wK0 1) 34 (wK0 1) 34 (wK0 (min (1 + 1) 3)) 23 = true := by decide +kernel
theorem wv0_d2 : mG3 (wK0 2) 34 (wK0 2) 34 (wK0 (min (2 + 1) 3)) 23 = true := by decide +kernel
theorem wv0_d3 : mG3 (wK0 3) 34 (wK0 3) 34 (wK0 (min (3 + 1) 3)) 23 = true := by decide +kernel
theorem wv0_e : mAll4 (fun n => mG3 (wK0 n) 0 (wK0 n) 0 (wK1 n) 37) = true := by decide +kernel
theorem wv0_f : mAll4 (fun n => mSx (wK0 n) 37 (wK1 n) 39 44 1) = true := by decide +kernel
theorem wv0_g : mAll4 (fun nb => mAll4 (fun n => mG3 (wK0 nb) 37 (wK0 n) 39 (wK0 nb) 37)) = true := by decide +kernel
theorem wv0_h : mAll4 (fun n => mIn (wK0 n) 23 0 4 0 6) = true := by decide +kernel
theorem wv0_r0 : mAll4 (fun nb => mAll4 (fun nr => mG3 (wK0 nr) 37 (wK0 nb) 0 (wK0 nr) 37)) = true := by decide +kernel
theorem wv0_s0 : mAll4 (fun nb => mG3 (wK0 nb) 0 (wK0 nb) 0 (wK0 nb) 0) = true := by decide +kernel
theorem wv0_t0 : mAll4 (fun nb => mFzX (wK0 nb) 0) = true := by decide +kernel
theorem wv0_u0 : mAll4 (fun nb => mEn (wK0 nb) 0 0) = true := by decide +kernel
theorem wv0_r2 : mAll4 (fun nb => mAll4 (fun nr => mG3 (wK0 nr) 37 (wK0 nb) 2 (wK0 nr) 37)) = true := by decide +kernel
theorem wv0_s2 : mAll4 (fun nb => mG3 (wK0 nb) 0 (wK0 nb) 2 (wK0 nb) 0) = true := by decide +kernel
theorem wv0_t2 : mAll4 (fun nb => mFzX (wK0 nb) 2) = true := by decide +kernel
theorem wv0_u2 : mAll4 (fun nb => mEn (wK0 nb) 0 2) = true := by decide +kernel
theorem wv0_r4 : mAll4 (fun nb => mAll4 (fun nr => mG3 (wK0 nr) 37 (wK0 nb) 4 (wK0 nr) 37)) = true := by decide +kernel
theorem wv0_s4 : mAll4 (fun nb => mG3 (wK0 nb) 0 (wK0 nb) 4 (wK0 nb) 0) = true := by decide +kernel
theorem wv0_t4 : mAll4 (fun nb => mFzX (wK0 nb) 4) = true := by decide +kernel
theorem wv0_u4 : mAll4 (fun nb => mEn (wK0 nb) 0 4) = true := by decide +kernel
theorem wv0_r22 : mAll4 (fun nb => mAll4 (fun nr => mG3 (wK0 nr) 37 (wK0 nb) 22 (wK0 nr) 37)) = true := by decide +kernel
theorem wv0_s22 : mAll4 (fun nb => mG3 (wK0 nb) 0 (wK0 nb) 22 (wK0 nb) 0) = true := by decide +kernel
theorem wv0_t22 : mAll4 (fun nb => mFzX (wK0 nb) 22) = true := by decide +kernel
theorem wv0_u22 : mAll4 (fun nb => mEn (wK0 nb) 0 22) = true := by decide +kernel
theorem wv0_r35 : mAll4 (fun nb => mAll4 (fun nr => mG3 (wK0 nr) 37 (wK0 nb) 35 (wK0 nr) 37)) = true := by decide +kernel
theorem wv0_s35 : mAll4 (fun nb => mG3 (wK0 nb) 0 (wK0 nb) 35 (wK0 nb) 0) = true := by decide +kernel
theorem wv0_u35 : mAll4 (fun nb => mEn (wK0 nb) 0 35) = true := by decide +kernel
theorem wv0_r11 : mAll4 (fun nb => mAll4 (fun nr => mG3 (wK0 nr) 37 (wK0 nb) 11 (wK0 nr) 37)) = true := by decide +kernel
theorem wv0_s11 : mAll4 (fun nb => mG3 (wK0 nb) 0 (wK0 nb) 11 (wK0 nb) 0) = true := by decide +kernel
theorem wv0_t11 : mAll4 (fun nb => mFzX (wK0 nb) 11) = true := by decide +kernel
theorem wv0_r12 : mAll4 (fun nb => mAll4 (fun nr => mG3 (wK0 nr) 37 (wK0 nb) 12 (wK0 nr) 37)) = true := by decide +kernel
theorem wv0_s12 : mAll4 (fun nb => mG3 (wK0 nb) 0 (wK0 nb) 12 (wK0 nb) 0) = true := by decide +kernel
theorem wv0_t12 : mAll4 (fun nb => mFzX (wK0 nb) 12) = true := by decide +kernel
theorem wv0_r13 : mAll4 (fun nb => mAll4 (fun nr => mG3 (wK0 nr) 37 (wK0 nb) 13 (wK0 nr) 37)) = true := by decide +kernel
theorem wv0_s13 : mAll4 (fun nb => mG3 (wK0 nb) 0 (wK0 nb) 13 (wK0 nb) 0) = true := by decide +kernel
theorem wv0_t13 : mAll4 (fun nb => mFzX (wK0 nb) 13) = true := by decide +kernel
theorem wv0_r14 : mAll4 (fun nb => mAll4 (fun nr => mG3 (wK0 nr) 37 (wK0 nb) 14 (wK0 nr) 37)) = true := by decide +kernel
theorem wv0_s14 : mAll4 (fun nb => mG3 (wK0 nb) 0 (wK0 nb) 14 (wK0 nb) 0) = true := by decide +kernel
theorem wv0_t14 : mAll4 (fun nb => mFzX (wK0 nb) 14) = true := by decide +kernel
theorem wv0_r15 : mAll4 (fun nb => mAll4 (fun nr => mG3 (wK0 nr) 37 (wK0 nb) 15 (wK0 nr) 37)) = true := by decide +kernel
theorem wv0_s15 : mAll4 (fun nb => mG3 (wK0 nb) 0 (wK0 nb) 15 (wK0 nb) 0) = true := by decide +kernel
theorem wv0_t15 : mAll4 (fun nb => mFzX (wK0 nb) 15) = true := by decide +kernel
theorem wv0_r16 : mAll4 (fun nb => mAll4 (fun nr => mG3 (wK0 nr) 37 (wK0 nb) 16 (wK0 nr) 37)) = true := by decide +kernel
theorem wv0_s16 : mAll4 (fun nb => mG3 (wK0 nb) 0 (wK0 nb) 16 (wK0 nb) 0) = true := by decide +kernel
theorem wv0_t16 : mAll4 (fun nb => mFzX (wK0 nb) 16) = true := by decide +kernel
theorem wv1_a : mAll4 (fun nb => mAll4 (fun n => mG3 (wK1 nb) 0 (wK1 n) 30 (wK1 nb) 0)) = true := by decide +kernel
theorem wv1_b : mAll4 (fun nb => mAll4 (fun n => mG3 (wK1 nb) 0 (wK1 n) 23 (wK1 nb) 0)) = true := by decide +kernel
theorem wv1_c : mAll4 (fun nb => mAll4 (fun n => mG3 (wK1 nb) 0 (wK1 n) 34 (wK1 nb) 0)) = true := by decide +kernel
theorem wv1_d0 : mG3 (wK1 0) 34 (wK1 0) 34 (wK1 (min (0 + 1) 3)) 23 = true := by decide +kernel
theorem wv1_d1 : mG3 (wK1 1) 34 (wK1 1) 34 (wK1 (min (1 + 1) 3)) 23 = true := by decide +kernel
theorem wv1_d2 : mG3 (wK1 2) 34 (wK1 2) 34 (wK1 (min (2 + 1) 3)) 23 = true := by decide +kernel
theorem wv1_d3 : mG3 (wK1 3) 34 (wK1 3) 34 (wK1 (min (3 + 1) 3)) 23 = true := by decide +kernel
theorem wv1_e : mAll4 (fun n => mG3 (wK1 n) 0 (wK1 n) 0 (wK0 n) 37) = true := by decide +kernel
theorem wv1_f : mAll4 (fun n => mSx (wK1 n) 37 (wK0 n) 39 44 0) = true := by decide +kernel
theorem wv1_g : mAll4 (fun nb => mAll4 (fun n => mG3 (wK1 nb) 37 (wK1 n) 39 (wK1 nb) 37)) = true := by decide +kernel
theorem wv1_h : mAll4 (fun n => mIn (wK1 n) 23 0 4 0 6) = true := by decide +kernel
theorem wv1_r0 : mAll4 (fun nb => mAll4 (fun nr => mG3 (wK1 nr) 37 (wK1 nb) 0 (wK1 nr) 37)) = true := by decide +kernel
theorem wv1_s0 : mAll4 (fun nb => mG3 (wK1 nb) 0 (wK1 nb) 0 (wK1 nb) 0) = true := by decide +kernel
theorem wv1_t0 : mAll4 (fun nb => mFzX (wK1 nb) 0) = true := by decide +kernel
theorem wv1_u0 : mAll4 (fun nb => mEn (wK1 nb) 0 0) = true := by decide +kernel
theorem wv1_r2 : mAll4 (fun nb => mAll4 (fun nr => mG3 (wK1 nr) 37 (wK1 nb) 2 (wK1 nr) 37)) = true := by decide +kernel
theorem wv1_s2 : mAll4 (fun nb => mG3 (wK1 nb) 0 (wK1 nb) 2 (wK1 nb) 0) = true := by decide +kernel
theorem wv1_t2 : mAll4 (fun nb => mFzX (wK1 nb) 2) = true := by decide +kernel
theorem wv1_u2 : mAll4 (fun nb => mEn (wK1 nb) 0 2) = true := by decide +kernel
theorem wv1_r4 : mAll4 (fun nb => mAll4 (fun nr => mG3 (wK1 nr) 37 (wK1 nb) 4 (wK1 nr) 37)) = true := by decide +kernel
theorem wv1_s4 : mAll4 (fun nb => mG3 (wK1 nb) 0 (wK1 nb) 4 (wK1 nb) 0) = true := by decide +kernel
theorem wv1_t4 : mAll4 (fun nb => mFzX (wK1 nb) 4) = true := by decide +kernel
theorem wv1_u4 : mAll4 (fun nb => mEn (wK1 nb) 0 4) = true := by decide +kernel
theorem wv1_r22 : mAll4 (fun nb => mAll4 (fun nr => mG3 (wK1 nr) 37 (wK1 nb) 22 (wK1 nr) 37)) = true := by decide +kernel
theorem wv1_s22 : mAll4 (fun nb => mG3 (wK1 nb) 0 (wK1 nb) 22 (wK1 nb) 0) = true := by decide +kernel
theorem wv1_t22 : mAll4 (fun nb => mFzX (wK1 nb) 22) = true := by decide +kernel
theorem wv1_u22 : mAll4 (fun nb => mEn (wK1 nb) 0 22) = true := by decide +kernel
theorem wv1_r35 : mAll4 (fun nb => mAll4 (fun nr => mG3 (wK1 nr) 37 (wK1 nb) 35 (wK1 nr) 37)) = true := by decide +kernel
theorem wv1_s35 : mAll4 (fun nb => mG3 (wK1 nb) 0 (wK1 nb) 35 (wK1 nb) 0) = true := by decide +kernel
theorem wv1_u35 : mAll4 (fun nb => mEn (wK1 nb) 0 35) = true := by decide +kernel
theorem wv1_r11 : mAll4 (fun nb => mAll4 (fun nr => mG3 (wK1 nr) 37 (wK1 nb) 11 (wK1 nr) 37)) = true := by decide +kernel
theorem wv1_s11 : mAll4 (fun nb => mG3 (wK1 nb) 0 (wK1 nb) 11 (wK1 nb) 0) = true := by decide +kernel
theorem wv1_t11 : mAll4 (fun nb => mFzX (wK1 nb) 11) = true := by decide +kernel
theorem wv1_r12 : mAll4 (fun nb => mAll4 (fun nr => mG3 (wK1 nr) 37 (wK1 nb) 12 (wK1 nr) 37)) = true := by decide +kernel
theorem wv1_s12 : mAll4 (fun nb => mG3 (wK1 nb) 0 (wK1 nb) 12 (wK1 nb) 0) = true := by decide +kernel
theorem wv1_t12 : mAll4 (fun nb => mFzX (wK1 nb) 12) = true := by decide +kernel
theorem wv1_r13 : mAll4 (fun nb => mAll4 (fun nr => mG3 (wK1 nr) 37 (wK1 nb) 13 (wK1 nr) 37)) = true := by decide +kernel
theorem wv1_s13 : mAll4 (fun nb => mG3 (wK1 nb) 0 (wK1 nb) 13 (wK1 nb) 0) = true := by decide +kernel
theorem wv1_t13 : mAll4 (fun nb => mFzX (wK1 nb) 13) = true := by decide +kernel
theorem wv1_r14 : mAll4 (fun nb => mAll4 (fun nr => mG3 (wK1 nr) 37 (wK1 nb) 14 (wK1 nr) 37)) = true := by decide +kernel
theorem wv1_s14 : mAll4 (fun nb => mG3 (wK1 nb) 0 (wK1 nb) 14 (wK1 nb) 0) = true := by decide +kernel
theorem wv1_t14 : mAll4 (fun nb => mFzX (wK1 nb) 14) = true := by decide +kernel
theorem wv1_r15 : mAll4 (fun nb => mAll4 (fun nr => mG3 (wK1 nr) 37 (wK1 nb) 15 (wK1 nr) 37)) = true := by decide +kernel
theorem wv1_s15 : mAll4 (fun nb => mG3 (wK1 nb) 0 (wK1 nb) 15 (wK1 nb) 0) = true := by decide +kernel
theorem wv1_t15 : mAll4 (fun nb => mFzX (wK1 nb) 15) = true := by decide +kernel
theorem wv1_r16 : mAll4 (fun nb => mAll4 (fun nr => mG3 (wK1 nr) 37 (wK1 nb) 16 (wK1 nr) 37)) = true := by decide +kernel
theorem wv1_s16 : mAll4 (fun nb => mG3 (wK1 nb) 0 (wK1 nb) 16 (wK1 nb) 0) = true := by decide +kernel
theorem wv1_t16 : mAll4 (fun nb => mFzX (wK1 nb) 16) = true := by decide +kernel
