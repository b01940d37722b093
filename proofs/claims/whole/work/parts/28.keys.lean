noncomputable def k1_0 (w : (Nat → Int32) × Nat) (d : Nat) (r1 : Nat) (r2 : Nat) (D : dy_) : rd_ := qv_ sh_ w.1 w.2 d 1 0 [(0, .ref 41), (1, .ref r1), (2, .ref r2)] [] D
noncomputable def k1_12 (w : (Nat → Int32) × Nat) (d : Nat) (r1 : Nat) (r2 : Nat) (i3 : Int32) (D : dy_) : rd_ := qv_ sh_ w.1 w.2 d 1 12 [(0, .ref 41), (1, .ref r1), (2, .ref r2), (3, .int i3)] [] D
noncomputable def k1_63 (w : (Nat → Int32) × Nat) (d : Nat) (r1 : Nat) (r2 : Nat) (i3 : Int32) (i4 : Int32) (D : dy_) : rd_ := qv_ sh_ w.1 w.2 d 1 63 [(0, .ref 41), (1, .ref r1), (2, .ref r2), (3, .int i3), (4, .int i4)] [] D
noncomputable def k1_94 (w : (Nat → Int32) × Nat) (d : Nat) (r1 : Nat) (r2 : Nat) (i3 : Int32) (D : dy_) : rd_ := qv_ sh_ w.1 w.2 d 1 94 [(0, .ref 41), (1, .ref r1), (2, .ref r2), (3, .int i3)] [] D
noncomputable def k1_107 (w : (Nat → Int32) × Nat) (d : Nat) (r1 : Nat) (r2 : Nat) (D : dy_) : rd_ := qv_ sh_ w.1 w.2 d 1 107 [(0, .ref 41), (1, .ref r1), (2, .ref r2)] [] D
noncomputable def k2_0 (w : (Nat → Int32) × Nat) (d : Nat) (r1 : Nat) (D : dy_) : rd_ := qv_ sh_ w.1 w.2 d 2 0 [(0, .ref 41), (1, .ref r1)] [] D
noncomputable def k2_7 (w : (Nat → Int32) × Nat) (d : Nat) (r1 : Nat) (i2 : Int32) (D : dy_) : rd_ := qv_ sh_ w.1 w.2 d 2 7 [(0, .ref 41), (1, .ref r1), (2, .int i2)] [] D
noncomputable def k2_40 (w : (Nat → Int32) × Nat) (d : Nat) (r1 : Nat) (i2 : Int32) (sr0 : Nat) (si1 : Int32) (si2 : Int32) (D : dy_) : rd_ := qv_ sh_ w.1 w.2 d 2 40 [(0, .ref 41), (1, .ref r1), (2, .int i2)] [.int si2, .int si1, .ref sr0] D
noncomputable def k2_59 (w : (Nat → Int32) × Nat) (d : Nat) (r1 : Nat) (i2 : Int32) (D : dy_) : rd_ := qv_ sh_ w.1 w.2 d 2 59 [(0, .ref 41), (1, .ref r1), (2, .int i2)] [] D
noncomputable def k3_0 (w : (Nat → Int32) × Nat) (d : Nat) (r1 : Nat) (i2 : Int32) (D : dy_) : rd_ := qv_ sh_ w.1 w.2 d 3 0 [(0, .ref 41), (1, .ref r1), (2, .int i2)] [] D
noncomputable def k3_15 (w : (Nat → Int32) × Nat) (d : Nat) (r1 : Nat) (i2 : Int32) (i3 : Int32) (i4 : Int32) (D : dy_) : rd_ := qv_ sh_ w.1 w.2 d 3 15 [(0, .ref 41), (1, .ref r1), (2, .int i2), (3, .int i3), (4, .int i4)] [] D
noncomputable def k3_98 (w : (Nat → Int32) × Nat) (d : Nat) (r1 : Nat) (i2 : Int32) (i3 : Int32) (i4 : Int32) (i5 : Int32) (D : dy_) : rd_ := qv_ sh_ w.1 w.2 d 3 98 [(0, .ref 41), (1, .ref r1), (2, .int i2), (3, .int i3), (4, .int i4), (5, .int i5)] [] D
noncomputable def k4_0 (w : (Nat → Int32) × Nat) (d : Nat) (r1 : Nat) (r2 : Nat) (D : dy_) : rd_ := qv_ sh_ w.1 w.2 d 4 0 [(0, .ref 41), (1, .ref r1), (2, .ref r2)] [] D
noncomputable def k4_26 (w : (Nat → Int32) × Nat) (d : Nat) (r1 : Nat) (r2 : Nat) (i3 : Int32) (i4 : Int32) (D : dy_) : rd_ := qv_ sh_ w.1 w.2 d 4 26 [(0, .ref 41), (1, .ref r1), (2, .ref r2), (3, .int i3), (4, .int i4)] [] D
noncomputable def k4_70 (w : (Nat → Int32) × Nat) (d : Nat) (r1 : Nat) (r2 : Nat) (i3 : Int32) (i4 : Int32) (i5 : Int32) (D : dy_) : rd_ := qv_ sh_ w.1 w.2 d 4 70 [(0, .ref 41), (1, .ref r1), (2, .ref r2), (3, .int i3), (4, .int i4), (5, .int i5)] [] D
noncomputable def k4_108 (w : (Nat → Int32) × Nat) (d : Nat) (r1 : Nat) (r2 : Nat) (i3 : Int32) (i4 : Int32) (D : dy_) : rd_ := qv_ sh_ w.1 w.2 d 4 108 [(0, .ref 41), (1, .ref r1), (2, .ref r2), (3, .int i3), (4, .int i4)] [] D
noncomputable def k6_0 (w : (Nat → Int32) × Nat) (d : Nat) (r0 : Nat) (i1 : Int32) (i2 : Int32) (D : dy_) : rd_ := qv_ sh_ w.1 w.2 d 6 0 [(0, .ref r0), (1, .int i1), (2, .int i2)] [] D
noncomputable def k6_17 (w : (Nat → Int32) × Nat) (d : Nat) (r0 : Nat) (i2 : Int32) (i3 : Int32) (D : dy_) : rd_ := qv_ sh_ w.1 w.2 d 6 17 [(0, .ref r0), (2, .int i2), (3, .int i3)] [] D
noncomputable def k7_0 (w : (Nat → Int32) × Nat) (d : Nat) (r0 : Nat) (i1 : Int32) (D : dy_) : rd_ := qv_ sh_ w.1 w.2 d 7 0 [(0, .ref r0), (1, .int i1)] [] D
noncomputable def k8_0 (w : (Nat → Int32) × Nat) (d : Nat) (r0 : Nat) (i1 : Int32) (D : dy_) : rd_ := qv_ sh_ w.1 w.2 d 8 0 [(0, .ref r0), (1, .int i1)] [] D
noncomputable def k9_0 (w : (Nat → Int32) × Nat) (d : Nat) (r0 : Nat) (i1 : Int32) (i2 : Int32) (D : dy_) : rd_ := qv_ sh_ w.1 w.2 d 9 0 [(0, .ref r0), (1, .int i1), (2, .int i2)] [] D
noncomputable def k10_0 (w : (Nat → Int32) × Nat) (d : Nat) (r0 : Nat) (i1 : Int32) (i2 : Int32) (i3 : Int32) (D : dy_) : rd_ := qv_ sh_ w.1 w.2 d 10 0 [(0, .ref r0), (1, .int i1), (2, .int i2), (3, .int i3)] [] D
noncomputable def k11_0 (w : (Nat → Int32) × Nat) (d : Nat) (r0 : Nat) (i1 : Int32) (i2 : Int32) (D : dy_) : rd_ := qv_ sh_ w.1 w.2 d 11 0 [(0, .ref r0), (1, .int i1), (2, .int i2)] [] D
noncomputable def k11_2 (w : (Nat → Int32) × Nat) (d : Nat) (r0 : Nat) (i1 : Int32) (i2 : Int32) (i3 : Int32) (D : dy_) : rd_ := qv_ sh_ w.1 w.2 d 11 2 [(0, .ref r0), (1, .int i1), (2, .int i2), (3, .int i3)] [] D
noncomputable def k12_0 (w : (Nat → Int32) × Nat) (d : Nat) (r0 : Nat) (D : dy_) : rd_ := qv_ sh_ w.1 w.2 d 12 0 [(0, .ref r0)] [] D
noncomputable def k12_4 (w : (Nat → Int32) × Nat) (d : Nat) (r0 : Nat) (i1 : Int32) (i2 : Int32) (D : dy_) : rd_ := qv_ sh_ w.1 w.2 d 12 4 [(0, .ref r0), (1, .int i1), (2, .int i2)] [] D
noncomputable def k12_24 (w : (Nat → Int32) × Nat) (d : Nat) (r0 : Nat) (i1 : Int32) (i2 : Int32) (D : dy_) : rd_ := qv_ sh_ w.1 w.2 d 12 24 [(0, .ref r0), (1, .int i1), (2, .int i2)] [] D
noncomputable def k13_0 (w : (Nat → Int32) × Nat) (d : Nat) (r0 : Nat) (D : dy_) : rd_ := qv_ sh_ w.1 w.2 d 13 0 [(0, .ref r0)] [] D
noncomputable def k13_4 (w : (Nat → Int32) × Nat) (d : Nat) (r0 : Nat) (j1 : Int64) (i3 : Int32) (D : dy_) : rd_ := qv_ sh_ w.1 w.2 d 13 4 [(0, .ref r0), (1, .long j1), (3, .int i3)] [] D
noncomputable def k13_27 (w : (Nat → Int32) × Nat) (d : Nat) (r0 : Nat) (j1 : Int64) (i3 : Int32) (D : dy_) : rd_ := qv_ sh_ w.1 w.2 d 13 27 [(0, .ref r0), (1, .long j1), (3, .int i3)] [] D
noncomputable def k14_0 (w : (Nat → Int32) × Nat) (d : Nat) (r0 : Nat) (r1 : Nat) (D : dy_) : rd_ := qv_ sh_ w.1 w.2 d 14 0 [(0, .ref r0), (1, .ref r1)] [] D
noncomputable def k14_61 (w : (Nat → Int32) × Nat) (d : Nat) (r0 : Nat) (r1 : Nat) (i2 : Int32) (D : dy_) : rd_ := qv_ sh_ w.1 w.2 d 14 61 [(0, .ref r0), (1, .ref r1), (2, .int i2)] [] D
noncomputable def k16_0 (w : (Nat → Int32) × Nat) (d : Nat)  (D : dy_) : rd_ := qv_ sh_ w.1 w.2 d 16 0 [(0, .ref 342)] [] D
noncomputable def k16_15 (w : (Nat → Int32) × Nat) (d : Nat) (i1 : Int32) (D : dy_) : rd_ := qv_ sh_ w.1 w.2 d 16 15 [(0, .ref 342), (1, .int i1)] [] D
noncomputable def k16_46 (w : (Nat → Int32) × Nat) (d : Nat) (i1 : Int32) (D : dy_) : rd_ := qv_ sh_ w.1 w.2 d 16 46 [(0, .ref 342), (1, .int i1)] [] D
noncomputable def k16_63 (w : (Nat → Int32) × Nat) (d : Nat) (i1 : Int32) (i2 : Int32) (D : dy_) : rd_ := qv_ sh_ w.1 w.2 d 16 63 [(0, .ref 342), (1, .int i1), (2, .int i2)] [] D
noncomputable def k16_76 (w : (Nat → Int32) × Nat) (d : Nat) (i1 : Int32) (i2 : Int32) (i3 : Int32) (D : dy_) : rd_ := qv_ sh_ w.1 w.2 d 16 76 [(0, .ref 342), (1, .int i1), (2, .int i2), (3, .int i3)] [] D
noncomputable def k17_0 (w : (Nat → Int32) × Nat) (d : Nat) (i1 : Int32) (i2 : Int32) (D : dy_) : rd_ := qv_ sh_ w.1 w.2 d 17 0 [(0, .ref 342), (1, .int i1), (2, .int i2)] [] D
noncomputable def k18_0 (w : (Nat → Int32) × Nat) (d : Nat)  (D : dy_) : rd_ := qv_ sh_ w.1 w.2 d 18 0 [(0, .ref 342)] [] D
noncomputable def k18_17 (w : (Nat → Int32) × Nat) (d : Nat) (i1 : Int32) (i2 : Int32) (i3 : Int32) (D : dy_) : rd_ := qv_ sh_ w.1 w.2 d 18 17 [(0, .ref 342), (1, .int i1), (2, .int i2), (3, .int i3)] [] D
noncomputable def k18_48 (w : (Nat → Int32) × Nat) (d : Nat) (i1 : Int32) (D : dy_) : rd_ := qv_ sh_ w.1 w.2 d 18 48 [(0, .ref 342), (1, .int i1)] [] D
noncomputable def k19_0 (w : (Nat → Int32) × Nat) (d : Nat)  (D : dy_) : rd_ := qv_ sh_ w.1 w.2 d 19 0 [(0, .ref 342)] [] D
noncomputable def k19_4 (w : (Nat → Int32) × Nat) (d : Nat) (i1 : Int32) (i2 : Int32) (D : dy_) : rd_ := qv_ sh_ w.1 w.2 d 19 4 [(0, .ref 342), (1, .int i1), (2, .int i2)] [] D
noncomputable def k20_0 (w : (Nat → Int32) × Nat) (d : Nat) (i1 : Int32) (D : dy_) : rd_ := qv_ sh_ w.1 w.2 d 20 0 [(0, .ref 342), (1, .int i1)] [] D
noncomputable def k20_2 (w : (Nat → Int32) × Nat) (d : Nat) (i1 : Int32) (i2 : Int32) (D : dy_) : rd_ := qv_ sh_ w.1 w.2 d 20 2 [(0, .ref 342), (1, .int i1), (2, .int i2)] [] D
noncomputable def k21_0 (w : (Nat → Int32) × Nat) (d : Nat)  (D : dy_) : rd_ := qv_ sh_ w.1 w.2 d 21 0 [(0, .ref 342)] [] D
noncomputable def k21_4 (w : (Nat → Int32) × Nat) (d : Nat) (i1 : Int32) (i2 : Int32) (D : dy_) : rd_ := qv_ sh_ w.1 w.2 d 21 4 [(0, .ref 342), (1, .int i1), (2, .int i2)] [] D
noncomputable def k21_17 (w : (Nat → Int32) × Nat) (d : Nat) (i1 : Int32) (i2 : Int32) (i3 : Int32) (i4 : Int32) (D : dy_) : rd_ := qv_ sh_ w.1 w.2 d 21 17 [(0, .ref 342), (1, .int i1), (2, .int i2), (3, .int i3), (4, .int i4)] [] D
noncomputable def k21_54 (w : (Nat → Int32) × Nat) (d : Nat) (i1 : Int32) (i2 : Int32) (i3 : Int32) (i4 : Int32) (D : dy_) : rd_ := qv_ sh_ w.1 w.2 d 21 54 [(0, .ref 342), (1, .int i1), (2, .int i2), (3, .int i3), (4, .int i4)] [] D
noncomputable def k21_74 (w : (Nat → Int32) × Nat) (d : Nat) (i1 : Int32) (i2 : Int32) (D : dy_) : rd_ := qv_ sh_ w.1 w.2 d 21 74 [(0, .ref 342), (1, .int i1), (2, .int i2)] [] D
noncomputable def k22_0 (w : (Nat → Int32) × Nat) (d : Nat) (i1 : Int32) (D : dy_) : rd_ := qv_ sh_ w.1 w.2 d 22 0 [(0, .ref 342), (1, .int i1)] [] D
noncomputable def k22_4 (w : (Nat → Int32) × Nat) (d : Nat) (i1 : Int32) (i2 : Int32) (i3 : Int32) (D : dy_) : rd_ := qv_ sh_ w.1 w.2 d 22 4 [(0, .ref 342), (1, .int i1), (2, .int i2), (3, .int i3)] [] D
noncomputable def k22_18 (w : (Nat → Int32) × Nat) (d : Nat) (i1 : Int32) (i2 : Int32) (i3 : Int32) (j4 : Int64) (i6 : Int32) (D : dy_) : rd_ := qv_ sh_ w.1 w.2 d 22 18 [(0, .ref 342), (1, .int i1), (2, .int i2), (3, .int i3), (4, .long j4), (6, .int i6)] [] D
noncomputable def k22_62 (w : (Nat → Int32) × Nat) (d : Nat) (i1 : Int32) (i2 : Int32) (i3 : Int32) (D : dy_) : rd_ := qv_ sh_ w.1 w.2 d 22 62 [(0, .ref 342), (1, .int i1), (2, .int i2), (3, .int i3)] [] D
noncomputable def k23_0 (w : (Nat → Int32) × Nat) (d : Nat)  (D : dy_) : rd_ := qv_ sh_ w.1 w.2 d 23 0 [(0, .ref 342)] [] D
noncomputable def k23_2 (w : (Nat → Int32) × Nat) (d : Nat) (i1 : Int32) (D : dy_) : rd_ := qv_ sh_ w.1 w.2 d 23 2 [(0, .ref 342), (1, .int i1)] [] D
noncomputable def k23_17 (w : (Nat → Int32) × Nat) (d : Nat) (i1 : Int32) (i2 : Int32) (D : dy_) : rd_ := qv_ sh_ w.1 w.2 d 23 17 [(0, .ref 342), (1, .int i1), (2, .int i2)] [] D
noncomputable def k23_30 (w : (Nat → Int32) × Nat) (d : Nat) (i1 : Int32) (i2 : Int32) (i3 : Int32) (D : dy_) : rd_ := qv_ sh_ w.1 w.2 d 23 30 [(0, .ref 342), (1, .int i1), (2, .int i2), (3, .int i3)] [] D
noncomputable def k24_0 (w : (Nat → Int32) × Nat) (d : Nat)  (D : dy_) : rd_ := qv_ sh_ w.1 w.2 d 24 0 [(0, .ref 342)] [] D
noncomputable def k24_2 (w : (Nat → Int32) × Nat) (d : Nat) (i1 : Int32) (D : dy_) : rd_ := qv_ sh_ w.1 w.2 d 24 2 [(0, .ref 342), (1, .int i1)] [] D
noncomputable def k25_0 (w : (Nat → Int32) × Nat) (d : Nat) (i1 : Int32) (D : dy_) : rd_ := qv_ sh_ w.1 w.2 d 25 0 [(0, .ref 342), (1, .int i1)] [] D
noncomputable def k25_2 (w : (Nat → Int32) × Nat) (d : Nat) (i1 : Int32) (i2 : Int32) (D : dy_) : rd_ := qv_ sh_ w.1 w.2 d 25 2 [(0, .ref 342), (1, .int i1), (2, .int i2)] [] D
noncomputable def k25_33 (w : (Nat → Int32) × Nat) (d : Nat) (i1 : Int32) (i2 : Int32) (D : dy_) : rd_ := qv_ sh_ w.1 w.2 d 25 33 [(0, .ref 342), (1, .int i1), (2, .int i2)] [] D
noncomputable def k25_51 (w : (Nat → Int32) × Nat) (d : Nat) (i1 : Int32) (i2 : Int32) (D : dy_) : rd_ := qv_ sh_ w.1 w.2 d 25 51 [(0, .ref 342), (1, .int i1), (2, .int i2)] [] D
noncomputable def k26_0 (w : (Nat → Int32) × Nat) (d : Nat)  (D : dy_) : rd_ := qv_ sh_ w.1 w.2 d 26 0 [(0, .ref 342)] [] D
noncomputable def k26_2 (w : (Nat → Int32) × Nat) (d : Nat) (i1 : Int32) (D : dy_) : rd_ := qv_ sh_ w.1 w.2 d 26 2 [(0, .ref 342), (1, .int i1)] [] D
noncomputable def k28_0 (w : (Nat → Int32) × Nat) (d : Nat)  (D : dy_) : rd_ := qv_ sh_ w.1 w.2 d 28 0 [(0, .ref 50)] [] D
noncomputable def k29_0 (w : (Nat → Int32) × Nat) (d : Nat) (i1 : Int32) (D : dy_) : rd_ := qv_ sh_ w.1 w.2 d 29 0 [(0, .ref 50), (1, .int i1)] [] D
noncomputable def k29_60 (w : (Nat → Int32) × Nat) (d : Nat)  (D : dy_) : rd_ := qv_ sh_ w.1 w.2 d 29 60 [(0, .ref 50)] [] D
noncomputable def k30_0 (w : (Nat → Int32) × Nat) (d : Nat) (i1 : Int32) (D : dy_) : rd_ := qv_ sh_ w.1 w.2 d 30 0 [(0, .ref 50), (1, .int i1)] [] D
noncomputable def k30_13 (w : (Nat → Int32) × Nat) (d : Nat) (i1 : Int32) (i2 : Int32) (D : dy_) : rd_ := qv_ sh_ w.1 w.2 d 30 13 [(0, .ref 50), (1, .int i1), (2, .int i2)] [] D
noncomputable def k31_0 (w : (Nat → Int32) × Nat) (d : Nat) (i1 : Int32) (D : dy_) : rd_ := qv_ sh_ w.1 w.2 d 31 0 [(0, .ref 50), (1, .int i1)] [] D
noncomputable def k31_13 (w : (Nat → Int32) × Nat) (d : Nat) (i1 : Int32) (i2 : Int32) (D : dy_) : rd_ := qv_ sh_ w.1 w.2 d 31 13 [(0, .ref 50), (1, .int i1), (2, .int i2)] [] D
noncomputable def k32_0 (w : (Nat → Int32) × Nat) (d : Nat) (i1 : Int32) (D : dy_) : rd_ := qv_ sh_ w.1 w.2 d 32 0 [(0, .ref 50), (1, .int i1)] [] D
noncomputable def k32_25 (w : (Nat → Int32) × Nat) (d : Nat) (i1 : Int32) (i2 : Int32) (D : dy_) : rd_ := qv_ sh_ w.1 w.2 d 32 25 [(0, .ref 50), (1, .int i1), (2, .int i2)] [] D
noncomputable def k33_0 (w : (Nat → Int32) × Nat) (d : Nat) (i1 : Int32) (D : dy_) : rd_ := qv_ sh_ w.1 w.2 d 33 0 [(0, .ref 50), (1, .int i1)] [] D
noncomputable def k33_13 (w : (Nat → Int32) × Nat) (d : Nat) (i2 : Int32) (D : dy_) : rd_ := qv_ sh_ w.1 w.2 d 33 13 [(0, .ref 50), (2, .int i2)] [] D
noncomputable def k33_82 (w : (Nat → Int32) × Nat) (d : Nat) (i2 : Int32) (D : dy_) : rd_ := qv_ sh_ w.1 w.2 d 33 82 [(0, .ref 50), (2, .int i2)] [] D
noncomputable def k34_0 (w : (Nat → Int32) × Nat) (d : Nat) (i1 : Int32) (D : dy_) : rd_ := qv_ sh_ w.1 w.2 d 34 0 [(0, .ref 50), (1, .int i1)] [] D
noncomputable def k34_18 (w : (Nat → Int32) × Nat) (d : Nat) (i1 : Int32) (D : dy_) : rd_ := qv_ sh_ w.1 w.2 d 34 18 [(0, .ref 50), (1, .int i1)] [] D
noncomputable def k34_23 (w : (Nat → Int32) × Nat) (d : Nat) (i1 : Int32) (si0 : Int32) (D : dy_) : rd_ := qv_ sh_ w.1 w.2 d 34 23 [(0, .ref 50), (1, .int i1)] [.int si0] D
noncomputable def k34_41 (w : (Nat → Int32) × Nat) (d : Nat)  (D : dy_) : rd_ := qv_ sh_ w.1 w.2 d 34 41 [(0, .ref 50)] [] D
noncomputable def k34_53 (w : (Nat → Int32) × Nat) (d : Nat) (i1 : Int32) (D : dy_) : rd_ := qv_ sh_ w.1 w.2 d 34 53 [(0, .ref 50), (1, .int i1)] [] D
noncomputable def k34_92 (w : (Nat → Int32) × Nat) (d : Nat)  (D : dy_) : rd_ := qv_ sh_ w.1 w.2 d 34 92 [(0, .ref 50)] [] D
noncomputable def k35_0 (w : (Nat → Int32) × Nat) (d : Nat) (i1 : Int32) (D : dy_) : rd_ := qv_ sh_ w.1 w.2 d 35 0 [(0, .ref 50), (1, .int i1)] [] D
noncomputable def k36_0 (w : (Nat → Int32) × Nat) (d : Nat)  (D : dy_) : rd_ := qv_ sh_ w.1 w.2 d 36 0 [(0, .ref 50)] [] D
noncomputable def k37_0 (w : (Nat → Int32) × Nat) (d : Nat)  (D : dy_) : rd_ := qv_ sh_ w.1 w.2 d 37 0 [(0, .ref 50)] [] D
noncomputable def k38_0 (w : (Nat → Int32) × Nat) (d : Nat)  (D : dy_) : rd_ := qv_ sh_ w.1 w.2 d 38 0 [(0, .ref 50)] [] D
noncomputable def k39_0 (w : (Nat → Int32) × Nat) (d : Nat)  (D : dy_) : rd_ := qv_ sh_ w.1 w.2 d 39 0 [(0, .ref 50)] [] D
noncomputable def k39_19 (w : (Nat → Int32) × Nat) (d : Nat)  (D : dy_) : rd_ := qv_ sh_ w.1 w.2 d 39 19 [(0, .ref 50)] [] D
noncomputable def k40_0 (w : (Nat → Int32) × Nat) (d : Nat)  (D : dy_) : rd_ := qv_ sh_ w.1 w.2 d 40 0 [(0, .ref 50)] [] D
noncomputable def k41_0 (w : (Nat → Int32) × Nat) (d : Nat)  (D : dy_) : rd_ := qv_ sh_ w.1 w.2 d 41 0 [(0, .ref 50)] [] D
noncomputable def k42_0 (w : (Nat → Int32) × Nat) (d : Nat)  (D : dy_) : rd_ := qv_ sh_ w.1 w.2 d 42 0 [(0, .ref 50)] [] D
noncomputable def k42_42 (w : (Nat → Int32) × Nat) (d : Nat) (r1 : Nat) (D : dy_) : rd_ := qv_ sh_ w.1 w.2 d 42 42 [(0, .ref 50), (1, .ref r1)] [] D
noncomputable def k42_47 (w : (Nat → Int32) × Nat) (d : Nat) (r1 : Nat) (si0 : Int32) (D : dy_) : rd_ := qv_ sh_ w.1 w.2 d 42 47 [(0, .ref 50), (1, .ref r1)] [.int si0] D
noncomputable def k42_84 (w : (Nat → Int32) × Nat) (d : Nat) (r1 : Nat) (i2 : Int32) (i3 : Int32) (sr0 : Nat) (si1 : Int32) (si2 : Int32) (D : dy_) : rd_ := qv_ sh_ w.1 w.2 d 42 84 [(0, .ref 50), (1, .ref r1), (2, .int i2), (3, .int i3)] [.int si2, .int si1, .ref sr0] D
noncomputable def k43_0 (w : (Nat → Int32) × Nat) (d : Nat) (i1 : Int32) (D : dy_) : rd_ := qv_ sh_ w.1 w.2 d 43 0 [(0, .ref 50), (1, .int i1)] [] D
noncomputable def k44_0 (w : (Nat → Int32) × Nat) (d : Nat) (i1 : Int32) (D : dy_) : rd_ := qv_ sh_ w.1 w.2 d 44 0 [(0, .ref 50), (1, .int i1)] [] D
noncomputable def k45_0 (w : (Nat → Int32) × Nat) (d : Nat)  (D : dy_) : rd_ := qv_ sh_ w.1 w.2 d 45 0 [(0, .ref 50)] [] D
noncomputable def k47_0 (w : (Nat → Int32) × Nat) (d : Nat)  (D : dy_) : rd_ := qv_ sh_ w.1 w.2 d 47 0 [(0, .ref 36)] [] D
noncomputable def k48_0 (w : (Nat → Int32) × Nat) (d : Nat) (i1 : Int32) (j2 : Int64) (D : dy_) : rd_ := qv_ sh_ w.1 w.2 d 48 0 [(0, .ref 36), (1, .int i1), (2, .long j2)] [] D
noncomputable def k48_29 (w : (Nat → Int32) × Nat) (d : Nat) (i1 : Int32) (j2 : Int64) (i4 : Int32) (i5 : Int32) (i6 : Int32) (D : dy_) : rd_ := qv_ sh_ w.1 w.2 d 48 29 [(0, .ref 36), (1, .int i1), (2, .long j2), (4, .int i4), (5, .int i5), (6, .int i6)] [] D
noncomputable def k48_65 (w : (Nat → Int32) × Nat) (d : Nat) (i1 : Int32) (j2 : Int64) (i4 : Int32) (i5 : Int32) (i6 : Int32) (D : dy_) : rd_ := qv_ sh_ w.1 w.2 d 48 65 [(0, .ref 36), (1, .int i1), (2, .long j2), (4, .int i4), (5, .int i5), (6, .int i6)] [] D
noncomputable def k48_80 (w : (Nat → Int32) × Nat) (d : Nat) (i1 : Int32) (j2 : Int64) (i4 : Int32) (D : dy_) : rd_ := qv_ sh_ w.1 w.2 d 48 80 [(0, .ref 36), (1, .int i1), (2, .long j2), (4, .int i4)] [] D
noncomputable def k50_0 (w : (Nat → Int32) × Nat) (d : Nat) (i1 : Int32) (D : dy_) : rd_ := qv_ sh_ w.1 w.2 d 50 0 [(0, .ref 21), (1, .int i1)] [] D
noncomputable def k50_3 (w : (Nat → Int32) × Nat) (d : Nat) (i1 : Int32) (i2 : Int32) (D : dy_) : rd_ := qv_ sh_ w.1 w.2 d 50 3 [(0, .ref 21), (1, .int i1), (2, .int i2)] [] D
noncomputable def k51_0 (w : (Nat → Int32) × Nat) (d : Nat) (i1 : Int32) (i2 : Int32) (D : dy_) : rd_ := qv_ sh_ w.1 w.2 d 51 0 [(0, .ref 21), (1, .int i1), (2, .int i2)] [] D
noncomputable def k52_0 (w : (Nat → Int32) × Nat) (d : Nat) (i1 : Int32) (D : dy_) : rd_ := qv_ sh_ w.1 w.2 d 52 0 [(0, .ref 21), (1, .int i1)] [] D
noncomputable def k53_0 (w : (Nat → Int32) × Nat) (d : Nat) (r1 : Nat) (D : dy_) : rd_ := qv_ sh_ w.1 w.2 d 53 0 [(0, .ref 21), (1, .ref r1)] [] D
noncomputable def k53_2 (w : (Nat → Int32) × Nat) (d : Nat) (r1 : Nat) (i2 : Int32) (D : dy_) : rd_ := qv_ sh_ w.1 w.2 d 53 2 [(0, .ref 21), (1, .ref r1), (2, .int i2)] [] D
noncomputable def k54_0 (w : (Nat → Int32) × Nat) (d : Nat) (r1 : Nat) (D : dy_) : rd_ := qv_ sh_ w.1 w.2 d 54 0 [(0, .ref 21), (1, .ref r1)] [] D
noncomputable def k54_7 (w : (Nat → Int32) × Nat) (d : Nat) (r1 : Nat) (i2 : Int32) (i3 : Int32) (D : dy_) : rd_ := qv_ sh_ w.1 w.2 d 54 7 [(0, .ref 21), (1, .ref r1), (2, .int i2), (3, .int i3)] [] D
noncomputable def k56_0 (w : (Nat → Int32) × Nat) (d : Nat) (r1 : Nat) (i2 : Int32) (D : dy_) : rd_ := qv_ sh_ w.1 w.2 d 56 0 [(0, .ref 340), (1, .ref r1), (2, .int i2)] [] D
noncomputable def k56_2 (w : (Nat → Int32) × Nat) (d : Nat) (r1 : Nat) (i2 : Int32) (i3 : Int32) (D : dy_) : rd_ := qv_ sh_ w.1 w.2 d 56 2 [(0, .ref 340), (1, .ref r1), (2, .int i2), (3, .int i3)] [] D
noncomputable def k57_0 (w : (Nat → Int32) × Nat) (d : Nat) (r1 : Nat) (j2 : Int64) (D : dy_) : rd_ := qv_ sh_ w.1 w.2 d 57 0 [(0, .ref 340), (1, .ref r1), (2, .long j2), (4, .ref 21)] [] D
noncomputable def k57_6 (w : (Nat → Int32) × Nat) (d : Nat) (r1 : Nat) (j5 : Int64) (i7 : Int32) (D : dy_) : rd_ := qv_ sh_ w.1 w.2 d 57 6 [(0, .ref 340), (1, .ref r1), (4, .ref 21), (5, .long j5), (7, .int i7)] [] D
noncomputable def k58_0 (w : (Nat → Int32) × Nat) (d : Nat) (r1 : Nat) (D : dy_) : rd_ := qv_ sh_ w.1 w.2 d 58 0 [(0, .ref 340), (1, .ref r1), (2, .ref 21)] [] D
noncomputable def k58_5 (w : (Nat → Int32) × Nat) (d : Nat) (r1 : Nat) (j3 : Int64) (i5 : Int32) (D : dy_) : rd_ := qv_ sh_ w.1 w.2 d 58 5 [(0, .ref 340), (1, .ref r1), (2, .ref 21), (3, .long j3), (5, .int i5)] [] D
noncomputable def k58_43 (w : (Nat → Int32) × Nat) (d : Nat) (r1 : Nat) (j3 : Int64) (i5 : Int32) (D : dy_) : rd_ := qv_ sh_ w.1 w.2 d 58 43 [(0, .ref 340), (1, .ref r1), (2, .ref 21), (3, .long j3), (5, .int i5)] [] D
noncomputable def k58_58 (w : (Nat → Int32) × Nat) (d : Nat) (r1 : Nat) (j3 : Int64) (i5 : Int32) (i6 : Int32) (D : dy_) : rd_ := qv_ sh_ w.1 w.2 d 58 58 [(0, .ref 340), (1, .ref r1), (2, .ref 21), (3, .long j3), (5, .int i5), (6, .int i6)] [] D
noncomputable def k58_78 (w : (Nat → Int32) × Nat) (d : Nat) (r1 : Nat) (j3 : Int64) (i5 : Int32) (i6 : Int32) (i7 : Int32) (i8 : Int32) (D : dy_) : rd_ := qv_ sh_ w.1 w.2 d 58 78 [(0, .ref 340), (1, .ref r1), (2, .ref 21), (3, .long j3), (5, .int i5), (6, .int i6), (7, .int i7), (8, .int i8)] [] D
noncomputable def k59_0 (w : (Nat → Int32) × Nat) (d : Nat) (r1 : Nat) (i2 : Int32) (j3 : Int64) (D : dy_) : rd_ := qv_ sh_ w.1 w.2 d 59 0 [(0, .ref 340), (1, .ref r1), (2, .int i2), (3, .long j3), (5, .ref 21)] [] D
noncomputable def k59_18 (w : (Nat → Int32) × Nat) (d : Nat) (r1 : Nat) (i2 : Int32) (j6 : Int64) (i8 : Int32) (i9 : Int32) (D : dy_) : rd_ := qv_ sh_ w.1 w.2 d 59 18 [(0, .ref 340), (1, .ref r1), (2, .int i2), (5, .ref 21), (6, .long j6), (8, .int i8), (9, .int i9)] [] D
noncomputable def k59_46 (w : (Nat → Int32) × Nat) (d : Nat) (r1 : Nat) (i2 : Int32) (j6 : Int64) (i8 : Int32) (i9 : Int32) (i10 : Int32) (j11 : Int64) (D : dy_) : rd_ := qv_ sh_ w.1 w.2 d 59 46 [(0, .ref 340), (1, .ref r1), (2, .int i2), (5, .ref 21), (6, .long j6), (8, .int i8), (9, .int i9), (10, .int i10), (11, .long j11)] [] D
noncomputable def k59_98 (w : (Nat → Int32) × Nat) (d : Nat) (r1 : Nat) (i2 : Int32) (j6 : Int64) (i8 : Int32) (i9 : Int32) (i10 : Int32) (D : dy_) : rd_ := qv_ sh_ w.1 w.2 d 59 98 [(0, .ref 340), (1, .ref r1), (2, .int i2), (5, .ref 21), (6, .long j6), (8, .int i8), (9, .int i9), (10, .int i10)] [] D
noncomputable def k60_0 (w : (Nat → Int32) × Nat) (d : Nat) (i1 : Int32) (i2 : Int32) (D : dy_) : rd_ := qv_ sh_ w.1 w.2 d 60 0 [(0, .ref 340), (1, .int i1), (2, .int i2)] [] D
noncomputable def k61_0 (w : (Nat → Int32) × Nat) (d : Nat) (r1 : Nat) (i2 : Int32) (D : dy_) : rd_ := qv_ sh_ w.1 w.2 d 61 0 [(0, .ref 340), (1, .ref r1), (2, .int i2)] [] D
noncomputable def k61_2 (w : (Nat → Int32) × Nat) (d : Nat) (r1 : Nat) (i2 : Int32) (i3 : Int32) (D : dy_) : rd_ := qv_ sh_ w.1 w.2 d 61 2 [(0, .ref 340), (1, .ref r1), (2, .int i2), (3, .int i3)] [] D
noncomputable def k61_44 (w : (Nat → Int32) × Nat) (d : Nat) (r1 : Nat) (i2 : Int32) (i3 : Int32) (sr0 : Nat) (si1 : Int32) (sj2 : Int64) (D : dy_) : rd_ := qv_ sh_ w.1 w.2 d 61 44 [(0, .ref 340), (1, .ref r1), (2, .int i2), (3, .int i3)] [.long sj2, .int si1, .ref sr0] D
noncomputable def k62_0 (w : (Nat → Int32) × Nat) (d : Nat) (r1 : Nat) (i2 : Int32) (i3 : Int32) (D : dy_) : rd_ := qv_ sh_ w.1 w.2 d 62 0 [(0, .ref 340), (1, .ref r1), (2, .int i2), (3, .int i3)] [] D
noncomputable def k62_6 (w : (Nat → Int32) × Nat) (d : Nat) (r1 : Nat) (i2 : Int32) (i3 : Int32) (j4 : Int64) (i6 : Int32) (D : dy_) : rd_ := qv_ sh_ w.1 w.2 d 62 6 [(0, .ref 340), (1, .ref r1), (2, .int i2), (3, .int i3), (4, .long j4), (6, .int i6)] [] D
noncomputable def k64_0 (w : (Nat → Int32) × Nat) (d : Nat) (r1 : Nat) (D : dy_) : rd_ := qv_ sh_ w.1 w.2 d 64 0 [(0, .ref 23), (1, .ref r1)] [] D
noncomputable def k65_0 (w : (Nat → Int32) × Nat) (d : Nat) (r1 : Nat) (r2 : Nat) (D : dy_) : rd_ := qv_ sh_ w.1 w.2 d 65 0 [(0, .ref 23), (1, .ref r1), (2, .ref r2)] [] D
noncomputable def k66_0 (w : (Nat → Int32) × Nat) (d : Nat) (r1 : Nat) (i2 : Int32) (D : dy_) : rd_ := qv_ sh_ w.1 w.2 d 66 0 [(0, .ref 23), (1, .ref r1), (2, .int i2)] [] D
noncomputable def k66_14 (w : (Nat → Int32) × Nat) (d : Nat) (r1 : Nat) (i2 : Int32) (si0 : Int32) (D : dy_) : rd_ := qv_ sh_ w.1 w.2 d 66 14 [(0, .ref 23), (1, .ref r1), (2, .int i2)] [.int si0] D
noncomputable def k67_0 (w : (Nat → Int32) × Nat) (d : Nat) (r0 : Nat) (D : dy_) : rd_ := qv_ sh_ w.1 w.2 d 67 0 [(0, .ref r0)] [] D
noncomputable def k68_0 (w : (Nat → Int32) × Nat) (d : Nat) (r1 : Nat) (D : dy_) : rd_ := qv_ sh_ w.1 w.2 d 68 0 [(0, .ref 23), (1, .ref r1)] [] D
noncomputable def k69_0 (w : (Nat → Int32) × Nat) (d : Nat) (r1 : Nat) (i2 : Int32) (r3 : Nat) (r4 : Nat) (D : dy_) : rd_ := qv_ sh_ w.1 w.2 d 69 0 [(0, .ref 23), (1, .ref r1), (2, .int i2), (3, .ref r3), (4, .ref r4)] [] D
noncomputable def k69_63 (w : (Nat → Int32) × Nat) (d : Nat) (r1 : Nat) (D : dy_) : rd_ := qv_ sh_ w.1 w.2 d 69 63 [(0, .ref 23), (1, .ref r1)] [] D
noncomputable def k70_0 (w : (Nat → Int32) × Nat) (d : Nat) (r1 : Nat) (i2 : Int32) (r3 : Nat) (i4 : Int32) (D : dy_) : rd_ := qv_ sh_ w.1 w.2 d 70 0 [(0, .ref 23), (1, .ref r1), (2, .int i2), (3, .ref r3), (4, .int i4), (5, .ref 21)] [] D
noncomputable def k70_13 (w : (Nat → Int32) × Nat) (d : Nat) (i6 : Int32) (D : dy_) : rd_ := qv_ sh_ w.1 w.2 d 70 13 [(0, .ref 23), (5, .ref 21), (6, .int i6)] [] D
noncomputable def k71_0 (w : (Nat → Int32) × Nat) (d : Nat) (i1 : Int32) (D : dy_) : rd_ := qv_ sh_ w.1 w.2 d 71 0 [(0, .ref 23), (1, .int i1), (2, .ref 21)] [] D
noncomputable def k71_5 (w : (Nat → Int32) × Nat) (d : Nat) (i1 : Int32) (i3 : Int32) (i4 : Int32) (D : dy_) : rd_ := qv_ sh_ w.1 w.2 d 71 5 [(0, .ref 23), (1, .int i1), (2, .ref 21), (3, .int i3), (4, .int i4)] [] D
noncomputable def k71_34 (w : (Nat → Int32) × Nat) (d : Nat) (i1 : Int32) (i3 : Int32) (D : dy_) : rd_ := qv_ sh_ w.1 w.2 d 71 34 [(0, .ref 23), (1, .int i1), (2, .ref 21), (3, .int i3)] [] D
noncomputable def k71_47 (w : (Nat → Int32) × Nat) (d : Nat) (i4 : Int32) (i5 : Int32) (D : dy_) : rd_ := qv_ sh_ w.1 w.2 d 71 47 [(0, .ref 23), (2, .ref 21), (4, .int i4), (5, .int i5)] [] D
noncomputable def k72_0 (w : (Nat → Int32) × Nat) (d : Nat) (i1 : Int32) (r2 : Nat) (i3 : Int32) (r4 : Nat) (i5 : Int32) (D : dy_) : rd_ := qv_ sh_ w.1 w.2 d 72 0 [(0, .ref 23), (1, .int i1), (2, .ref r2), (3, .int i3), (4, .ref r4), (5, .int i5)] [] D
noncomputable def k72_56 (w : (Nat → Int32) × Nat) (d : Nat) (i1 : Int32) (r2 : Nat) (r4 : Nat) (i6 : Int32) (D : dy_) : rd_ := qv_ sh_ w.1 w.2 d 72 56 [(0, .ref 23), (1, .int i1), (2, .ref r2), (4, .ref r4), (6, .int i6)] [] D
noncomputable def k72_132 (w : (Nat → Int32) × Nat) (d : Nat) (i1 : Int32) (r2 : Nat) (r4 : Nat) (i6 : Int32) (i7 : Int32) (i8 : Int32) (i9 : Int32) (D : dy_) : rd_ := qv_ sh_ w.1 w.2 d 72 132 [(0, .ref 23), (1, .int i1), (2, .ref r2), (4, .ref r4), (6, .int i6), (7, .int i7), (8, .int i8), (9, .int i9)] [] D
noncomputable def k73_0 (w : (Nat → Int32) × Nat) (d : Nat) (i1 : Int32) (i2 : Int32) (D : dy_) : rd_ := qv_ sh_ w.1 w.2 d 73 0 [(0, .ref 23), (1, .int i1), (2, .int i2)] [] D
noncomputable def k73_2 (w : (Nat → Int32) × Nat) (d : Nat) (i1 : Int32) (i2 : Int32) (i3 : Int32) (D : dy_) : rd_ := qv_ sh_ w.1 w.2 d 73 2 [(0, .ref 23), (1, .int i1), (2, .int i2), (3, .int i3)] [] D
noncomputable def k73_10 (w : (Nat → Int32) × Nat) (d : Nat) (i1 : Int32) (i2 : Int32) (i3 : Int32) (i4 : Int32) (D : dy_) : rd_ := qv_ sh_ w.1 w.2 d 73 10 [(0, .ref 23), (1, .int i1), (2, .int i2), (3, .int i3), (4, .int i4)] [] D
noncomputable def k74_0 (w : (Nat → Int32) × Nat) (d : Nat) (i1 : Int32) (i2 : Int32) (D : dy_) : rd_ := qv_ sh_ w.1 w.2 d 74 0 [(0, .ref 23), (1, .int i1), (2, .int i2)] [] D
noncomputable def k75_0 (w : (Nat → Int32) × Nat) (d : Nat) (i0 : Int32) (i1 : Int32) (i2 : Int32) (D : dy_) : rd_ := qv_ sh_ w.1 w.2 d 75 0 [(0, .int i0), (1, .int i1), (2, .int i2)] [] D
noncomputable def k76_0 (w : (Nat → Int32) × Nat) (d : Nat) (i1 : Int32) (r2 : Nat) (r3 : Nat) (D : dy_) : rd_ := qv_ sh_ w.1 w.2 d 76 0 [(0, .ref 23), (1, .int i1), (2, .ref r2), (3, .ref r3)] [] D
noncomputable def k76_50 (w : (Nat → Int32) × Nat) (d : Nat) (i1 : Int32) (r2 : Nat) (r3 : Nat) (sr0 : Nat) (D : dy_) : rd_ := qv_ sh_ w.1 w.2 d 76 50 [(0, .ref 23), (1, .int i1), (2, .ref r2), (3, .ref r3)] [.ref sr0] D
noncomputable def k76_53 (w : (Nat → Int32) × Nat) (d : Nat) (i1 : Int32) (r2 : Nat) (r3 : Nat) (sj0 : Int64) (D : dy_) : rd_ := qv_ sh_ w.1 w.2 d 76 53 [(0, .ref 23), (1, .int i1), (2, .ref r2), (3, .ref r3)] [.long sj0] D
noncomputable def k76_58 (w : (Nat → Int32) × Nat) (d : Nat) (i1 : Int32) (r2 : Nat) (r3 : Nat) (j4 : Int64) (i6 : Int32) (D : dy_) : rd_ := qv_ sh_ w.1 w.2 d 76 58 [(0, .ref 23), (1, .int i1), (2, .ref r2), (3, .ref r3), (4, .long j4), (6, .int i6)] [] D
noncomputable def k76_115 (w : (Nat → Int32) × Nat) (d : Nat) (i1 : Int32) (r2 : Nat) (r3 : Nat) (j4 : Int64) (i6 : Int32) (sr0 : Nat) (si1 : Int32) (D : dy_) : rd_ := qv_ sh_ w.1 w.2 d 76 115 [(0, .ref 23), (1, .int i1), (2, .ref r2), (3, .ref r3), (4, .long j4), (6, .int i6)] [.int si1, .ref sr0] D
noncomputable def k76_119 (w : (Nat → Int32) × Nat) (d : Nat) (i1 : Int32) (r2 : Nat) (r3 : Nat) (j4 : Int64) (i6 : Int32) (sr0 : Nat) (si1 : Int32) (D : dy_) : rd_ := qv_ sh_ w.1 w.2 d 76 119 [(0, .ref 23), (1, .int i1), (2, .ref r2), (3, .ref r3), (4, .long j4), (6, .int i6)] [.int si1, .ref sr0] D
noncomputable def k76_120 (w : (Nat → Int32) × Nat) (d : Nat) (i1 : Int32) (r2 : Nat) (r3 : Nat) (j4 : Int64) (i6 : Int32) (sr0 : Nat) (si1 : Int32) (si2 : Int32) (D : dy_) : rd_ := qv_ sh_ w.1 w.2 d 76 120 [(0, .ref 23), (1, .int i1), (2, .ref r2), (3, .ref r3), (4, .long j4), (6, .int i6)] [.int si2, .int si1, .ref sr0] D
noncomputable def k76_141 (w : (Nat → Int32) × Nat) (d : Nat) (i1 : Int32) (r2 : Nat) (r3 : Nat) (j4 : Int64) (i6 : Int32) (i7 : Int32) (D : dy_) : rd_ := qv_ sh_ w.1 w.2 d 76 141 [(0, .ref 23), (1, .int i1), (2, .ref r2), (3, .ref r3), (4, .long j4), (6, .int i6), (7, .int i7)] [] D
noncomputable def k76_175 (w : (Nat → Int32) × Nat) (d : Nat) (i1 : Int32) (r2 : Nat) (r3 : Nat) (j4 : Int64) (i6 : Int32) (i7 : Int32) (si0 : Int32) (D : dy_) : rd_ := qv_ sh_ w.1 w.2 d 76 175 [(0, .ref 23), (1, .int i1), (2, .ref r2), (3, .ref r3), (4, .long j4), (6, .int i6), (7, .int i7)] [.int si0] D
noncomputable def k76_228 (w : (Nat → Int32) × Nat) (d : Nat)  (D : dy_) : rd_ := qv_ sh_ w.1 w.2 d 76 228 [(0, .ref 23)] [] D
noncomputable def k77_0 (w : (Nat → Int32) × Nat) (d : Nat) (i1 : Int32) (r2 : Nat) (r3 : Nat) (D : dy_) : rd_ := qv_ sh_ w.1 w.2 d 77 0 [(0, .ref 23), (1, .int i1), (2, .ref r2), (3, .ref r3)] [] D
noncomputable def k77_57 (w : (Nat → Int32) × Nat) (d : Nat) (si1 : Int32) (sj2 : Int64) (D : dy_) : rd_ := qv_ sh_ w.1 w.2 d 77 57 [] [.long sj2, .int si1, .ref 36] D
noncomputable def k78_0 (w : (Nat → Int32) × Nat) (d : Nat) (i1 : Int32) (i2 : Int32) (r3 : Nat) (r4 : Nat) (D : dy_) : rd_ := qv_ sh_ w.1 w.2 d 78 0 [(0, .ref 23), (1, .int i1), (2, .int i2), (3, .ref r3), (4, .ref r4)] [] D
noncomputable def k78_46 (w : (Nat → Int32) × Nat) (d : Nat) (i2 : Int32) (r3 : Nat) (r4 : Nat) (i5 : Int32) (D : dy_) : rd_ := qv_ sh_ w.1 w.2 d 78 46 [(0, .ref 23), (2, .int i2), (3, .ref r3), (4, .ref r4), (5, .int i5)] [] D
noncomputable def k78_95 (w : (Nat → Int32) × Nat) (d : Nat) (i2 : Int32) (r3 : Nat) (r4 : Nat) (i5 : Int32) (D : dy_) : rd_ := qv_ sh_ w.1 w.2 d 78 95 [(0, .ref 23), (2, .int i2), (3, .ref r3), (4, .ref r4), (5, .int i5)] [] D
noncomputable def k78_127 (w : (Nat → Int32) × Nat) (d : Nat) (r3 : Nat) (sj1 : Int64) (D : dy_) : rd_ := qv_ sh_ w.1 w.2 d 78 127 [(0, .ref 23), (3, .ref r3)] [.long sj1, .ref 23] D
noncomputable def k78_140 (w : (Nat → Int32) × Nat) (d : Nat) (r3 : Nat) (j5 : Int64) (i7 : Int32) (D : dy_) : rd_ := qv_ sh_ w.1 w.2 d 78 140 [(0, .ref 23), (3, .ref r3), (5, .long j5), (7, .int i7)] [] D
noncomputable def k78_180 (w : (Nat → Int32) × Nat) (d : Nat) (r3 : Nat) (j5 : Int64) (i7 : Int32) (D : dy_) : rd_ := qv_ sh_ w.1 w.2 d 78 180 [(0, .ref 23), (3, .ref r3), (5, .long j5), (7, .int i7)] [] D
noncomputable def k79_0 (w : (Nat → Int32) × Nat) (d : Nat) (j1 : Int64) (r3 : Nat) (D : dy_) : rd_ := qv_ sh_ w.1 w.2 d 79 0 [(0, .ref 23), (1, .long j1), (3, .ref r3)] [] D
noncomputable def k79_3 (w : (Nat → Int32) × Nat) (d : Nat) (j1 : Int64) (r3 : Nat) (i4 : Int32) (D : dy_) : rd_ := qv_ sh_ w.1 w.2 d 79 3 [(0, .ref 23), (1, .long j1), (3, .ref r3), (4, .int i4)] [] D
noncomputable def k79_26 (w : (Nat → Int32) × Nat) (d : Nat) (j1 : Int64) (r3 : Nat) (i4 : Int32) (i5 : Int32) (D : dy_) : rd_ := qv_ sh_ w.1 w.2 d 79 26 [(0, .ref 23), (1, .long j1), (3, .ref r3), (4, .int i4), (5, .int i5)] [] D
noncomputable def k79_68 (w : (Nat → Int32) × Nat) (d : Nat) (j1 : Int64) (r3 : Nat) (i4 : Int32) (D : dy_) : rd_ := qv_ sh_ w.1 w.2 d 79 68 [(0, .ref 23), (1, .long j1), (3, .ref r3), (4, .int i4)] [] D
noncomputable def k80_0 (w : (Nat → Int32) × Nat) (d : Nat) (j1 : Int64) (r3 : Nat) (D : dy_) : rd_ := qv_ sh_ w.1 w.2 d 80 0 [(0, .ref 23), (1, .long j1), (3, .ref r3)] [] D
noncomputable def k80_3 (w : (Nat → Int32) × Nat) (d : Nat) (j1 : Int64) (r3 : Nat) (i4 : Int32) (D : dy_) : rd_ := qv_ sh_ w.1 w.2 d 80 3 [(0, .ref 23), (1, .long j1), (3, .ref r3), (4, .int i4)] [] D
noncomputable def k80_15 (w : (Nat → Int32) × Nat) (d : Nat) (j1 : Int64) (r3 : Nat) (i4 : Int32) (i5 : Int32) (D : dy_) : rd_ := qv_ sh_ w.1 w.2 d 80 15 [(0, .ref 23), (1, .long j1), (3, .ref r3), (4, .int i4), (5, .int i5)] [] D
noncomputable def k80_62 (w : (Nat → Int32) × Nat) (d : Nat) (j1 : Int64) (r3 : Nat) (i4 : Int32) (i5 : Int32) (D : dy_) : rd_ := qv_ sh_ w.1 w.2 d 80 62 [(0, .ref 23), (1, .long j1), (3, .ref r3), (4, .int i4), (5, .int i5)] [] D
noncomputable def k82_0 (w : (Nat → Int32) × Nat) (d : Nat) (i1 : Int32) (i2 : Int32) (i3 : Int32) (D : dy_) : rd_ := qv_ sh_ w.1 w.2 d 82 0 [(0, .ref 1), (1, .int i1), (2, .int i2), (3, .int i3)] [] D
noncomputable def k83_0 (w : (Nat → Int32) × Nat) (d : Nat) (i1 : Int32) (i2 : Int32) (i3 : Int32) (i4 : Int32) (D : dy_) : rd_ := qv_ sh_ w.1 w.2 d 83 0 [(0, .ref 1), (1, .int i1), (2, .int i2), (3, .int i3), (4, .int i4)] [] D
noncomputable def k84_0 (w : (Nat → Int32) × Nat) (d : Nat) (i1 : Int32) (i2 : Int32) (i3 : Int32) (D : dy_) : rd_ := qv_ sh_ w.1 w.2 d 84 0 [(0, .ref 1), (1, .int i1), (2, .int i2), (3, .int i3)] [] D
noncomputable def k85_0 (w : (Nat → Int32) × Nat) (d : Nat) (i1 : Int32) (i2 : Int32) (D : dy_) : rd_ := qv_ sh_ w.1 w.2 d 85 0 [(0, .ref 1), (1, .int i1), (2, .int i2)] [] D
noncomputable def k86_0 (w : (Nat → Int32) × Nat) (d : Nat) (i1 : Int32) (i2 : Int32) (D : dy_) : rd_ := qv_ sh_ w.1 w.2 d 86 0 [(0, .ref 1), (1, .int i1), (2, .int i2)] [] D
noncomputable def k87_0 (w : (Nat → Int32) × Nat) (d : Nat) (i1 : Int32) (i2 : Int32) (i3 : Int32) (D : dy_) : rd_ := qv_ sh_ w.1 w.2 d 87 0 [(0, .ref 1), (1, .int i1), (2, .int i2), (3, .int i3)] [] D
noncomputable def k88_0 (w : (Nat → Int32) × Nat) (d : Nat) (i1 : Int32) (D : dy_) : rd_ := qv_ sh_ w.1 w.2 d 88 0 [(0, .ref 1), (1, .int i1)] [] D
noncomputable def k89_0 (w : (Nat → Int32) × Nat) (d : Nat) (i1 : Int32) (i2 : Int32) (D : dy_) : rd_ := qv_ sh_ w.1 w.2 d 89 0 [(0, .ref 1), (1, .int i1), (2, .int i2)] [] D
noncomputable def k90_0 (w : (Nat → Int32) × Nat) (d : Nat) (i1 : Int32) (i2 : Int32) (i3 : Int32) (i4 : Int32) (D : dy_) : rd_ := qv_ sh_ w.1 w.2 d 90 0 [(0, .ref 1), (1, .int i1), (2, .int i2), (3, .int i3), (4, .int i4)] [] D
noncomputable def k91_0 (w : (Nat → Int32) × Nat) (d : Nat) (i1 : Int32) (i2 : Int32) (i3 : Int32) (i4 : Int32) (i5 : Int32) (D : dy_) : rd_ := qv_ sh_ w.1 w.2 d 91 0 [(0, .ref 1), (1, .int i1), (2, .int i2), (3, .int i3), (4, .int i4), (5, .int i5)] [] D
noncomputable def k92_0 (w : (Nat → Int32) × Nat) (d : Nat) (i1 : Int32) (D : dy_) : rd_ := qv_ sh_ w.1 w.2 d 92 0 [(0, .ref 1), (1, .int i1)] [] D
noncomputable def k93_0 (w : (Nat → Int32) × Nat) (d : Nat) (i1 : Int32) (i2 : Int32) (D : dy_) : rd_ := qv_ sh_ w.1 w.2 d 93 0 [(0, .ref 1), (1, .int i1), (2, .int i2)] [] D
noncomputable def k94_0 (w : (Nat → Int32) × Nat) (d : Nat) (i1 : Int32) (D : dy_) : rd_ := qv_ sh_ w.1 w.2 d 94 0 [(0, .ref 1), (1, .int i1)] [] D
noncomputable def k95_0 (w : (Nat → Int32) × Nat) (d : Nat) (i1 : Int32) (i2 : Int32) (D : dy_) : rd_ := qv_ sh_ w.1 w.2 d 95 0 [(0, .ref 1), (1, .int i1), (2, .int i2)] [] D
noncomputable def k96_0 (w : (Nat → Int32) × Nat) (d : Nat) (i1 : Int32) (i2 : Int32) (i3 : Int32) (D : dy_) : rd_ := qv_ sh_ w.1 w.2 d 96 0 [(0, .ref 1), (1, .int i1), (2, .int i2), (3, .int i3)] [] D
noncomputable def k97_0 (w : (Nat → Int32) × Nat) (d : Nat) (i1 : Int32) (i2 : Int32) (D : dy_) : rd_ := qv_ sh_ w.1 w.2 d 97 0 [(0, .ref 1), (1, .int i1), (2, .int i2)] [] D
noncomputable def k98_0 (w : (Nat → Int32) × Nat) (d : Nat) (i1 : Int32) (j2 : Int64) (D : dy_) : rd_ := qv_ sh_ w.1 w.2 d 98 0 [(0, .ref 1), (1, .int i1), (2, .long j2)] [] D
noncomputable def k99_0 (w : (Nat → Int32) × Nat) (d : Nat) (i1 : Int32) (D : dy_) : rd_ := qv_ sh_ w.1 w.2 d 99 0 [(0, .ref 1), (1, .int i1)] [] D
noncomputable def k100_0 (w : (Nat → Int32) × Nat) (d : Nat) (i1 : Int32) (D : dy_) : rd_ := qv_ sh_ w.1 w.2 d 100 0 [(0, .ref 1), (1, .int i1)] [] D
noncomputable def k101_0 (w : (Nat → Int32) × Nat) (d : Nat)  (D : dy_) : rd_ := qv_ sh_ w.1 w.2 d 101 0 [(0, .ref 1)] [] D
noncomputable def k102_0 (w : (Nat → Int32) × Nat) (d : Nat) (i1 : Int32) (D : dy_) : rd_ := qv_ sh_ w.1 w.2 d 102 0 [(0, .ref 1), (1, .int i1)] [] D
noncomputable def k103_0 (w : (Nat → Int32) × Nat) (d : Nat) (i1 : Int32) (i2 : Int32) (D : dy_) : rd_ := qv_ sh_ w.1 w.2 d 103 0 [(0, .ref 1), (1, .int i1), (2, .int i2)] [] D
noncomputable def k104_0 (w : (Nat → Int32) × Nat) (d : Nat) (i1 : Int32) (D : dy_) : rd_ := qv_ sh_ w.1 w.2 d 104 0 [(0, .ref 1), (1, .int i1)] [] D
noncomputable def k105_0 (w : (Nat → Int32) × Nat) (d : Nat) (i0 : Int32) (D : dy_) : rd_ := qv_ sh_ w.1 w.2 d 105 0 [(0, .int i0)] [] D
noncomputable def k106_0 (w : (Nat → Int32) × Nat) (d : Nat) (i0 : Int32) (D : dy_) : rd_ := qv_ sh_ w.1 w.2 d 106 0 [(0, .int i0)] [] D
noncomputable def k107_0 (w : (Nat → Int32) × Nat) (d : Nat) (i0 : Int32) (D : dy_) : rd_ := qv_ sh_ w.1 w.2 d 107 0 [(0, .int i0)] [] D
noncomputable def k108_0 (w : (Nat → Int32) × Nat) (d : Nat) (i1 : Int32) (i2 : Int32) (D : dy_) : rd_ := qv_ sh_ w.1 w.2 d 108 0 [(0, .ref 1), (1, .int i1), (2, .int i2)] [] D
noncomputable def k109_0 (w : (Nat → Int32) × Nat) (d : Nat) (i1 : Int32) (i2 : Int32) (D : dy_) : rd_ := qv_ sh_ w.1 w.2 d 109 0 [(0, .ref 1), (1, .int i1), (2, .int i2)] [] D
noncomputable def k111_0 (w : (Nat → Int32) × Nat) (d : Nat) (j0 : Int64) (j2 : Int64) (j4 : Int64) (D : dy_) : rd_ := qv_ sh_ w.1 w.2 d 111 0 [(0, .long j0), (2, .long j2), (4, .long j4)] [] D
noncomputable def k112_0 (w : (Nat → Int32) × Nat) (d : Nat) (i1 : Int32) (i2 : Int32) (i3 : Int32) (D : dy_) : rd_ := qv_ sh_ w.1 w.2 d 112 0 [(0, .ref 351), (1, .int i1), (2, .int i2), (3, .int i3)] [] D
noncomputable def k113_0 (w : (Nat → Int32) × Nat) (d : Nat) (i1 : Int32) (i2 : Int32) (D : dy_) : rd_ := qv_ sh_ w.1 w.2 d 113 0 [(0, .ref 351), (1, .int i1), (2, .int i2)] [] D
noncomputable def k114_0 (w : (Nat → Int32) × Nat) (d : Nat) (i0 : Int32) (D : dy_) : rd_ := qv_ sh_ w.1 w.2 d 114 0 [(0, .int i0)] [] D
noncomputable def k115_0 (w : (Nat → Int32) × Nat) (d : Nat) (i1 : Int32) (i2 : Int32) (i3 : Int32) (D : dy_) : rd_ := qv_ sh_ w.1 w.2 d 115 0 [(0, .ref 351), (1, .int i1), (2, .int i2), (3, .int i3)] [] D
noncomputable def k115_63 (w : (Nat → Int32) × Nat) (d : Nat) (i1 : Int32) (i2 : Int32) (i3 : Int32) (i4 : Int32) (D : dy_) : rd_ := qv_ sh_ w.1 w.2 d 115 63 [(0, .ref 351), (1, .int i1), (2, .int i2), (3, .int i3), (4, .int i4)] [] D
noncomputable def k115_85 (w : (Nat → Int32) × Nat) (d : Nat) (i1 : Int32) (i2 : Int32) (i3 : Int32) (i4 : Int32) (i5 : Int32) (D : dy_) : rd_ := qv_ sh_ w.1 w.2 d 115 85 [(0, .ref 351), (1, .int i1), (2, .int i2), (3, .int i3), (4, .int i4), (5, .int i5)] [] D
noncomputable def k116_0 (w : (Nat → Int32) × Nat) (d : Nat) (i1 : Int32) (i2 : Int32) (D : dy_) : rd_ := qv_ sh_ w.1 w.2 d 116 0 [(0, .ref 351), (1, .int i1), (2, .int i2)] [] D
noncomputable def k117_0 (w : (Nat → Int32) × Nat) (d : Nat) (i1 : Int32) (i2 : Int32) (i3 : Int32) (i4 : Int32) (D : dy_) : rd_ := qv_ sh_ w.1 w.2 d 117 0 [(0, .ref 351), (1, .int i1), (2, .int i2), (3, .int i3), (4, .int i4)] [] D
noncomputable def k118_0 (w : (Nat → Int32) × Nat) (d : Nat) (i1 : Int32) (i2 : Int32) (i3 : Int32) (D : dy_) : rd_ := qv_ sh_ w.1 w.2 d 118 0 [(0, .ref 351), (1, .int i1), (2, .int i2), (3, .int i3)] [] D
noncomputable def k118_31 (w : (Nat → Int32) × Nat) (d : Nat) (i1 : Int32) (i2 : Int32) (i3 : Int32) (si0 : Int32) (D : dy_) : rd_ := qv_ sh_ w.1 w.2 d 118 31 [(0, .ref 351), (1, .int i1), (2, .int i2), (3, .int i3)] [.int si0] D
noncomputable def k119_0 (w : (Nat → Int32) × Nat) (d : Nat) (i1 : Int32) (i2 : Int32) (D : dy_) : rd_ := qv_ sh_ w.1 w.2 d 119 0 [(0, .ref 351), (1, .int i1), (2, .int i2)] [] D
noncomputable def k120_0 (w : (Nat → Int32) × Nat) (d : Nat) (i1 : Int32) (i2 : Int32) (D : dy_) : rd_ := qv_ sh_ w.1 w.2 d 120 0 [(0, .ref 351), (1, .int i1), (2, .int i2)] [] D
noncomputable def k120_32 (w : (Nat → Int32) × Nat) (d : Nat) (i1 : Int32) (i2 : Int32) (i3 : Int32) (i4 : Int32) (D : dy_) : rd_ := qv_ sh_ w.1 w.2 d 120 32 [(0, .ref 351), (1, .int i1), (2, .int i2), (3, .int i3), (4, .int i4)] [] D
noncomputable def k120_60 (w : (Nat → Int32) × Nat) (d : Nat) (i1 : Int32) (i2 : Int32) (i4 : Int32) (si0 : Int32) (D : dy_) : rd_ := qv_ sh_ w.1 w.2 d 120 60 [(0, .ref 351), (1, .int i1), (2, .int i2), (4, .int i4)] [.int si0] D
noncomputable def k121_0 (w : (Nat → Int32) × Nat) (d : Nat) (i1 : Int32) (i2 : Int32) (i3 : Int32) (D : dy_) : rd_ := qv_ sh_ w.1 w.2 d 121 0 [(0, .ref 351), (1, .int i1), (2, .int i2), (3, .int i3)] [] D
noncomputable def k122_0 (w : (Nat → Int32) × Nat) (d : Nat) (i1 : Int32) (D : dy_) : rd_ := qv_ sh_ w.1 w.2 d 122 0 [(0, .ref 351), (1, .int i1)] [] D
noncomputable def k122_2 (w : (Nat → Int32) × Nat) (d : Nat) (i1 : Int32) (i2 : Int32) (D : dy_) : rd_ := qv_ sh_ w.1 w.2 d 122 2 [(0, .ref 351), (1, .int i1), (2, .int i2)] [] D
noncomputable def k122_66 (w : (Nat → Int32) × Nat) (d : Nat) (i1 : Int32) (i2 : Int32) (D : dy_) : rd_ := qv_ sh_ w.1 w.2 d 122 66 [(0, .ref 351), (1, .int i1), (2, .int i2)] [] D
noncomputable def k122_93 (w : (Nat → Int32) × Nat) (d : Nat) (i1 : Int32) (i2 : Int32) (i3 : Int32) (D : dy_) : rd_ := qv_ sh_ w.1 w.2 d 122 93 [(0, .ref 351), (1, .int i1), (2, .int i2), (3, .int i3)] [] D
noncomputable def k122_158 (w : (Nat → Int32) × Nat) (d : Nat) (i1 : Int32) (i2 : Int32) (i3 : Int32) (i4 : Int32) (D : dy_) : rd_ := qv_ sh_ w.1 w.2 d 122 158 [(0, .ref 351), (1, .int i1), (2, .int i2), (3, .int i3), (4, .int i4)] [] D
noncomputable def k123_0 (w : (Nat → Int32) × Nat) (d : Nat) (i1 : Int32) (D : dy_) : rd_ := qv_ sh_ w.1 w.2 d 123 0 [(0, .ref 351), (1, .int i1)] [] D
noncomputable def k123_40 (w : (Nat → Int32) × Nat) (d : Nat) (i1 : Int32) (i2 : Int32) (D : dy_) : rd_ := qv_ sh_ w.1 w.2 d 123 40 [(0, .ref 351), (1, .int i1), (2, .int i2)] [] D
noncomputable def k123_67 (w : (Nat → Int32) × Nat) (d : Nat) (i1 : Int32) (i2 : Int32) (i3 : Int32) (D : dy_) : rd_ := qv_ sh_ w.1 w.2 d 123 67 [(0, .ref 351), (1, .int i1), (2, .int i2), (3, .int i3)] [] D
noncomputable def k124_0 (w : (Nat → Int32) × Nat) (d : Nat) (i1 : Int32) (i2 : Int32) (D : dy_) : rd_ := qv_ sh_ w.1 w.2 d 124 0 [(0, .ref 351), (1, .int i1), (2, .int i2)] [] D
noncomputable def k124_21 (w : (Nat → Int32) × Nat) (d : Nat) (i3 : Int32) (i4 : Int32) (D : dy_) : rd_ := qv_ sh_ w.1 w.2 d 124 21 [(0, .ref 351), (3, .int i3), (4, .int i4)] [] D
noncomputable def k124_56 (w : (Nat → Int32) × Nat) (d : Nat) (i3 : Int32) (i4 : Int32) (D : dy_) : rd_ := qv_ sh_ w.1 w.2 d 124 56 [(0, .ref 351), (3, .int i3), (4, .int i4)] [] D
noncomputable def k125_0 (w : (Nat → Int32) × Nat) (d : Nat)  (D : dy_) : rd_ := qv_ sh_ w.1 w.2 d 125 0 [(0, .ref 351)] [] D
noncomputable def k125_7 (w : (Nat → Int32) × Nat) (d : Nat) (i1 : Int32) (D : dy_) : rd_ := qv_ sh_ w.1 w.2 d 125 7 [(0, .ref 351), (1, .int i1)] [] D
noncomputable def k126_0 (w : (Nat → Int32) × Nat) (d : Nat)  (D : dy_) : rd_ := qv_ sh_ w.1 w.2 d 126 0 [(0, .ref 351)] [] D
noncomputable def k126_2 (w : (Nat → Int32) × Nat) (d : Nat) (i1 : Int32) (D : dy_) : rd_ := qv_ sh_ w.1 w.2 d 126 2 [(0, .ref 351), (1, .int i1)] [] D
noncomputable def k126_29 (w : (Nat → Int32) × Nat) (d : Nat) (i1 : Int32) (sr0 : Nat) (si1 : Int32) (si2 : Int32) (D : dy_) : rd_ := qv_ sh_ w.1 w.2 d 126 29 [(0, .ref 351), (1, .int i1)] [.int si2, .int si1, .ref sr0] D
noncomputable def k126_40 (w : (Nat → Int32) × Nat) (d : Nat) (i1 : Int32) (i2 : Int32) (D : dy_) : rd_ := qv_ sh_ w.1 w.2 d 126 40 [(0, .ref 351), (1, .int i1), (2, .int i2)] [] D
noncomputable def k126_49 (w : (Nat → Int32) × Nat) (d : Nat) (i1 : Int32) (i3 : Int32) (D : dy_) : rd_ := qv_ sh_ w.1 w.2 d 126 49 [(0, .ref 351), (1, .int i1), (3, .int i3)] [] D
noncomputable def k126_77 (w : (Nat → Int32) × Nat) (d : Nat) (i1 : Int32) (i3 : Int32) (D : dy_) : rd_ := qv_ sh_ w.1 w.2 d 126 77 [(0, .ref 351), (1, .int i1), (3, .int i3)] [] D
noncomputable def k126_92 (w : (Nat → Int32) × Nat) (d : Nat) (i1 : Int32) (i3 : Int32) (i4 : Int32) (D : dy_) : rd_ := qv_ sh_ w.1 w.2 d 126 92 [(0, .ref 351), (1, .int i1), (3, .int i3), (4, .int i4)] [] D
noncomputable def k126_154 (w : (Nat → Int32) × Nat) (d : Nat) (i1 : Int32) (i2 : Int32) (i3 : Int32) (D : dy_) : rd_ := qv_ sh_ w.1 w.2 d 126 154 [(0, .ref 351), (1, .int i1), (2, .int i2), (3, .int i3)] [] D
noncomputable def k127_0 (w : (Nat → Int32) × Nat) (d : Nat)  (D : dy_) : rd_ := qv_ sh_ w.1 w.2 d 127 0 [(0, .ref 351)] [] D
noncomputable def k127_6 (w : (Nat → Int32) × Nat) (d : Nat) (i1 : Int32) (D : dy_) : rd_ := qv_ sh_ w.1 w.2 d 127 6 [(0, .ref 351), (1, .int i1)] [] D
noncomputable def k127_50 (w : (Nat → Int32) × Nat) (d : Nat) (i1 : Int32) (i2 : Int32) (D : dy_) : rd_ := qv_ sh_ w.1 w.2 d 127 50 [(0, .ref 351), (1, .int i1), (2, .int i2)] [] D
noncomputable def k127_74 (w : (Nat → Int32) × Nat) (d : Nat) (i1 : Int32) (i2 : Int32) (i3 : Int32) (D : dy_) : rd_ := qv_ sh_ w.1 w.2 d 127 74 [(0, .ref 351), (1, .int i1), (2, .int i2), (3, .int i3)] [] D
noncomputable def k127_139 (w : (Nat → Int32) × Nat) (d : Nat) (i1 : Int32) (i2 : Int32) (i3 : Int32) (i4 : Int32) (D : dy_) : rd_ := qv_ sh_ w.1 w.2 d 127 139 [(0, .ref 351), (1, .int i1), (2, .int i2), (3, .int i3), (4, .int i4)] [] D
noncomputable def k127_180 (w : (Nat → Int32) × Nat) (d : Nat) (i1 : Int32) (i2 : Int32) (D : dy_) : rd_ := qv_ sh_ w.1 w.2 d 127 180 [(0, .ref 351), (1, .int i1), (2, .int i2)] [] D
noncomputable def k127_199 (w : (Nat → Int32) × Nat) (d : Nat) (i1 : Int32) (i2 : Int32) (i3 : Int32) (D : dy_) : rd_ := qv_ sh_ w.1 w.2 d 127 199 [(0, .ref 351), (1, .int i1), (2, .int i2), (3, .int i3)] [] D
noncomputable def k128_0 (w : (Nat → Int32) × Nat) (d : Nat) (i1 : Int32) (D : dy_) : rd_ := qv_ sh_ w.1 w.2 d 128 0 [(0, .ref 351), (1, .int i1)] [] D
noncomputable def k129_0 (w : (Nat → Int32) × Nat) (d : Nat) (i1 : Int32) (i2 : Int32) (D : dy_) : rd_ := qv_ sh_ w.1 w.2 d 129 0 [(0, .ref 351), (1, .int i1), (2, .int i2)] [] D
noncomputable def k129_20 (w : (Nat → Int32) × Nat) (d : Nat) (i1 : Int32) (i2 : Int32) (si0 : Int32) (D : dy_) : rd_ := qv_ sh_ w.1 w.2 d 129 20 [(0, .ref 351), (1, .int i1), (2, .int i2)] [.int si0] D
noncomputable def k129_24 (w : (Nat → Int32) × Nat) (d : Nat) (i1 : Int32) (i2 : Int32) (i3 : Int32) (i4 : Int32) (D : dy_) : rd_ := qv_ sh_ w.1 w.2 d 129 24 [(0, .ref 351), (1, .int i1), (2, .int i2), (3, .int i3), (4, .int i4)] [] D
noncomputable def k129_76 (w : (Nat → Int32) × Nat) (d : Nat) (i1 : Int32) (i2 : Int32) (i4 : Int32) (D : dy_) : rd_ := qv_ sh_ w.1 w.2 d 129 76 [(0, .ref 351), (1, .int i1), (2, .int i2), (4, .int i4)] [] D
noncomputable def k129_77 (w : (Nat → Int32) × Nat) (d : Nat) (i1 : Int32) (i2 : Int32) (i4 : Int32) (si0 : Int32) (D : dy_) : rd_ := qv_ sh_ w.1 w.2 d 129 77 [(0, .ref 351), (1, .int i1), (2, .int i2), (4, .int i4)] [.int si0] D
noncomputable def k130_0 (w : (Nat → Int32) × Nat) (d : Nat)  (D : dy_) : rd_ := qv_ sh_ w.1 w.2 d 130 0 [(0, .ref 351)] [] D
noncomputable def k130_9 (w : (Nat → Int32) × Nat) (d : Nat) (i2 : Int32) (i3 : Int32) (i4 : Int32) (D : dy_) : rd_ := qv_ sh_ w.1 w.2 d 130 9 [(0, .ref 351), (2, .int i2), (3, .int i3), (4, .int i4)] [] D
noncomputable def k130_39 (w : (Nat → Int32) × Nat) (d : Nat) (i2 : Int32) (i3 : Int32) (i4 : Int32) (sr0 : Nat) (si1 : Int32) (si2 : Int32) (D : dy_) : rd_ := qv_ sh_ w.1 w.2 d 130 39 [(0, .ref 351), (2, .int i2), (3, .int i3), (4, .int i4)] [.int si2, .int si1, .ref sr0] D
noncomputable def k130_54 (w : (Nat → Int32) × Nat) (d : Nat) (i3 : Int32) (i4 : Int32) (D : dy_) : rd_ := qv_ sh_ w.1 w.2 d 130 54 [(0, .ref 351), (3, .int i3), (4, .int i4)] [] D
noncomputable def k130_59 (w : (Nat → Int32) × Nat) (d : Nat) (i3 : Int32) (i4 : Int32) (si0 : Int32) (D : dy_) : rd_ := qv_ sh_ w.1 w.2 d 130 59 [(0, .ref 351), (3, .int i3), (4, .int i4)] [.int si0] D
noncomputable def k130_74 (w : (Nat → Int32) × Nat) (d : Nat) (i2 : Int32) (i4 : Int32) (D : dy_) : rd_ := qv_ sh_ w.1 w.2 d 130 74 [(0, .ref 351), (2, .int i2), (4, .int i4)] [] D
noncomputable def k130_79 (w : (Nat → Int32) × Nat) (d : Nat) (i2 : Int32) (i4 : Int32) (si0 : Int32) (D : dy_) : rd_ := qv_ sh_ w.1 w.2 d 130 79 [(0, .ref 351), (2, .int i2), (4, .int i4)] [.int si0] D
noncomputable def k130_98 (w : (Nat → Int32) × Nat) (d : Nat)  (D : dy_) : rd_ := qv_ sh_ w.1 w.2 d 130 98 [(0, .ref 351)] [] D
noncomputable def k130_99 (w : (Nat → Int32) × Nat) (d : Nat) (si0 : Int32) (D : dy_) : rd_ := qv_ sh_ w.1 w.2 d 130 99 [(0, .ref 351)] [.int si0] D
noncomputable def k130_106 (w : (Nat → Int32) × Nat) (d : Nat) (i1 : Int32) (i4 : Int32) (i5 : Int32) (D : dy_) : rd_ := qv_ sh_ w.1 w.2 d 130 106 [(0, .ref 351), (1, .int i1), (4, .int i4), (5, .int i5)] [] D
noncomputable def k130_123 (w : (Nat → Int32) × Nat) (d : Nat) (i1 : Int32) (i4 : Int32) (i5 : Int32) (i6 : Int32) (D : dy_) : rd_ := qv_ sh_ w.1 w.2 d 130 123 [(0, .ref 351), (1, .int i1), (4, .int i4), (5, .int i5), (6, .int i6)] [] D
noncomputable def k130_143 (w : (Nat → Int32) × Nat) (d : Nat) (i1 : Int32) (i4 : Int32) (i5 : Int32) (i6 : Int32) (i7 : Int32) (D : dy_) : rd_ := qv_ sh_ w.1 w.2 d 130 143 [(0, .ref 351), (1, .int i1), (4, .int i4), (5, .int i5), (6, .int i6), (7, .int i7)] [] D
noncomputable def k130_189 (w : (Nat → Int32) × Nat) (d : Nat) (i1 : Int32) (i4 : Int32) (i5 : Int32) (i6 : Int32) (i7 : Int32) (sr0 : Nat) (si1 : Int32) (si2 : Int32) (D : dy_) : rd_ := qv_ sh_ w.1 w.2 d 130 189 [(0, .ref 351), (1, .int i1), (4, .int i4), (5, .int i5), (6, .int i6), (7, .int i7)] [.int si2, .int si1, .ref sr0] D
noncomputable def k130_196 (w : (Nat → Int32) × Nat) (d : Nat) (i1 : Int32) (i4 : Int32) (i5 : Int32) (i6 : Int32) (D : dy_) : rd_ := qv_ sh_ w.1 w.2 d 130 196 [(0, .ref 351), (1, .int i1), (4, .int i4), (5, .int i5), (6, .int i6)] [] D
noncomputable def k130_218 (w : (Nat → Int32) × Nat) (d : Nat) (i1 : Int32) (i4 : Int32) (i5 : Int32) (i6 : Int32) (D : dy_) : rd_ := qv_ sh_ w.1 w.2 d 130 218 [(0, .ref 351), (1, .int i1), (4, .int i4), (5, .int i5), (6, .int i6)] [] D
noncomputable def k130_227 (w : (Nat → Int32) × Nat) (d : Nat) (i1 : Int32) (i4 : Int32) (i5 : Int32) (i6 : Int32) (D : dy_) : rd_ := qv_ sh_ w.1 w.2 d 130 227 [(0, .ref 351), (1, .int i1), (4, .int i4), (5, .int i5), (6, .int i6)] [] D
noncomputable def k131_0 (w : (Nat → Int32) × Nat) (d : Nat) (i1 : Int32) (i2 : Int32) (D : dy_) : rd_ := qv_ sh_ w.1 w.2 d 131 0 [(0, .ref 351), (1, .int i1), (2, .int i2)] [] D
noncomputable def k132_0 (w : (Nat → Int32) × Nat) (d : Nat) (i1 : Int32) (i2 : Int32) (D : dy_) : rd_ := qv_ sh_ w.1 w.2 d 132 0 [(0, .ref 351), (1, .int i1), (2, .int i2)] [] D
noncomputable def k132_8 (w : (Nat → Int32) × Nat) (d : Nat) (i1 : Int32) (i2 : Int32) (i3 : Int32) (i4 : Int32) (D : dy_) : rd_ := qv_ sh_ w.1 w.2 d 132 8 [(0, .ref 351), (1, .int i1), (2, .int i2), (3, .int i3), (4, .int i4)] [] D
noncomputable def k132_43 (w : (Nat → Int32) × Nat) (d : Nat) (i1 : Int32) (i2 : Int32) (i4 : Int32) (D : dy_) : rd_ := qv_ sh_ w.1 w.2 d 132 43 [(0, .ref 351), (1, .int i1), (2, .int i2), (4, .int i4)] [] D
noncomputable def k132_47 (w : (Nat → Int32) × Nat) (d : Nat) (i1 : Int32) (i2 : Int32) (i4 : Int32) (D : dy_) : rd_ := qv_ sh_ w.1 w.2 d 132 47 [(0, .ref 351), (1, .int i1), (2, .int i2), (4, .int i4)] [] D
noncomputable def k132_48 (w : (Nat → Int32) × Nat) (d : Nat) (i1 : Int32) (i2 : Int32) (i4 : Int32) (si0 : Int32) (D : dy_) : rd_ := qv_ sh_ w.1 w.2 d 132 48 [(0, .ref 351), (1, .int i1), (2, .int i2), (4, .int i4)] [.int si0] D
noncomputable def k133_0 (w : (Nat → Int32) × Nat) (d : Nat)  (D : dy_) : rd_ := qv_ sh_ w.1 w.2 d 133 0 [(0, .ref 351)] [] D
noncomputable def k133_31 (w : (Nat → Int32) × Nat) (d : Nat) (i1 : Int32) (D : dy_) : rd_ := qv_ sh_ w.1 w.2 d 133 31 [(0, .ref 351), (1, .int i1)] [] D
noncomputable def k133_64 (w : (Nat → Int32) × Nat) (d : Nat) (i1 : Int32) (sr0 : Nat) (si1 : Int32) (si2 : Int32) (D : dy_) : rd_ := qv_ sh_ w.1 w.2 d 133 64 [(0, .ref 351), (1, .int i1)] [.int si2, .int si1, .ref sr0] D
noncomputable def k133_84 (w : (Nat → Int32) × Nat) (d : Nat) (i1 : Int32) (si1 : Int32) (D : dy_) : rd_ := qv_ sh_ w.1 w.2 d 133 84 [(0, .ref 351), (1, .int i1)] [.int si1, .ref 351] D
noncomputable def k133_110 (w : (Nat → Int32) × Nat) (d : Nat) (i1 : Int32) (D : dy_) : rd_ := qv_ sh_ w.1 w.2 d 133 110 [(0, .ref 351), (1, .int i1)] [] D
noncomputable def k133_147 (w : (Nat → Int32) × Nat) (d : Nat) (i1 : Int32) (si1 : Int32) (D : dy_) : rd_ := qv_ sh_ w.1 w.2 d 133 147 [(0, .ref 351), (1, .int i1)] [.int si1, .ref 351] D
noncomputable def k133_157 (w : (Nat → Int32) × Nat) (d : Nat)  (D : dy_) : rd_ := qv_ sh_ w.1 w.2 d 133 157 [(0, .ref 351)] [] D
noncomputable def k133_200 (w : (Nat → Int32) × Nat) (d : Nat) (i1 : Int32) (i2 : Int32) (i3 : Int32) (D : dy_) : rd_ := qv_ sh_ w.1 w.2 d 133 200 [(0, .ref 351), (1, .int i1), (2, .int i2), (3, .int i3)] [] D
noncomputable def k133_237 (w : (Nat → Int32) × Nat) (d : Nat) (i1 : Int32) (i2 : Int32) (i3 : Int32) (sr0 : Nat) (si1 : Int32) (si2 : Int32) (D : dy_) : rd_ := qv_ sh_ w.1 w.2 d 133 237 [(0, .ref 351), (1, .int i1), (2, .int i2), (3, .int i3)] [.int si2, .int si1, .ref sr0] D
noncomputable def k133_252 (w : (Nat → Int32) × Nat) (d : Nat) (i3 : Int32) (i4 : Int32) (D : dy_) : rd_ := qv_ sh_ w.1 w.2 d 133 252 [(0, .ref 351), (3, .int i3), (4, .int i4)] [] D
noncomputable def k134_0 (w : (Nat → Int32) × Nat) (d : Nat) (i1 : Int32) (D : dy_) : rd_ := qv_ sh_ w.1 w.2 d 134 0 [(0, .ref 351), (1, .int i1)] [] D
noncomputable def k134_12 (w : (Nat → Int32) × Nat) (d : Nat) (i1 : Int32) (i2 : Int32) (i3 : Int32) (i4 : Int32) (D : dy_) : rd_ := qv_ sh_ w.1 w.2 d 134 12 [(0, .ref 351), (1, .int i1), (2, .int i2), (3, .int i3), (4, .int i4)] [] D
noncomputable def k134_34 (w : (Nat → Int32) × Nat) (d : Nat) (i1 : Int32) (i3 : Int32) (i4 : Int32) (si0 : Int32) (D : dy_) : rd_ := qv_ sh_ w.1 w.2 d 134 34 [(0, .ref 351), (1, .int i1), (3, .int i3), (4, .int i4)] [.int si0] D
noncomputable def k134_62 (w : (Nat → Int32) × Nat) (d : Nat) (i1 : Int32) (i2 : Int32) (i3 : Int32) (i4 : Int32) (D : dy_) : rd_ := qv_ sh_ w.1 w.2 d 134 62 [(0, .ref 351), (1, .int i1), (2, .int i2), (3, .int i3), (4, .int i4)] [] D
noncomputable def k134_63 (w : (Nat → Int32) × Nat) (d : Nat) (i1 : Int32) (i2 : Int32) (i4 : Int32) (si0 : Int32) (D : dy_) : rd_ := qv_ sh_ w.1 w.2 d 134 63 [(0, .ref 351), (1, .int i1), (2, .int i2), (4, .int i4)] [.int si0] D
noncomputable def k134_112 (w : (Nat → Int32) × Nat) (d : Nat) (i1 : Int32) (i2 : Int32) (i4 : Int32) (i5 : Int32) (D : dy_) : rd_ := qv_ sh_ w.1 w.2 d 134 112 [(0, .ref 351), (1, .int i1), (2, .int i2), (4, .int i4), (5, .int i5)] [] D
noncomputable def k134_178 (w : (Nat → Int32) × Nat) (d : Nat) (i1 : Int32) (i2 : Int32) (i4 : Int32) (i5 : Int32) (D : dy_) : rd_ := qv_ sh_ w.1 w.2 d 134 178 [(0, .ref 351), (1, .int i1), (2, .int i2), (4, .int i4), (5, .int i5)] [] D
noncomputable def k134_187 (w : (Nat → Int32) × Nat) (d : Nat) (i1 : Int32) (i4 : Int32) (i5 : Int32) (D : dy_) : rd_ := qv_ sh_ w.1 w.2 d 134 187 [(0, .ref 351), (1, .int i1), (4, .int i4), (5, .int i5)] [] D
noncomputable def k134_240 (w : (Nat → Int32) × Nat) (d : Nat) (i1 : Int32) (i4 : Int32) (i5 : Int32) (si1 : Int32) (D : dy_) : rd_ := qv_ sh_ w.1 w.2 d 134 240 [(0, .ref 351), (1, .int i1), (4, .int i4), (5, .int i5)] [.int si1, .ref 351] D
noncomputable def k134_245 (w : (Nat → Int32) × Nat) (d : Nat) (i1 : Int32) (i4 : Int32) (i5 : Int32) (D : dy_) : rd_ := qv_ sh_ w.1 w.2 d 134 245 [(0, .ref 351), (1, .int i1), (4, .int i4), (5, .int i5)] [] D
noncomputable def k135_0 (w : (Nat → Int32) × Nat) (d : Nat) (i1 : Int32) (j2 : Int64) (D : dy_) : rd_ := qv_ sh_ w.1 w.2 d 135 0 [(0, .ref 351), (1, .int i1), (2, .long j2)] [] D
noncomputable def k135_3 (w : (Nat → Int32) × Nat) (d : Nat) (i1 : Int32) (j2 : Int64) (i4 : Int32) (D : dy_) : rd_ := qv_ sh_ w.1 w.2 d 135 3 [(0, .ref 351), (1, .int i1), (2, .long j2), (4, .int i4)] [] D
noncomputable def k135_38 (w : (Nat → Int32) × Nat) (d : Nat) (i1 : Int32) (j2 : Int64) (i4 : Int32) (D : dy_) : rd_ := qv_ sh_ w.1 w.2 d 135 38 [(0, .ref 351), (1, .int i1), (2, .long j2), (4, .int i4)] [] D
noncomputable def k136_0 (w : (Nat → Int32) × Nat) (d : Nat) (i1 : Int32) (D : dy_) : rd_ := qv_ sh_ w.1 w.2 d 136 0 [(0, .ref 351), (1, .int i1)] [] D
noncomputable def k136_10 (w : (Nat → Int32) × Nat) (d : Nat) (i1 : Int32) (j2 : Int64) (i4 : Int32) (D : dy_) : rd_ := qv_ sh_ w.1 w.2 d 136 10 [(0, .ref 351), (1, .int i1), (2, .long j2), (4, .int i4)] [] D
noncomputable def k136_41 (w : (Nat → Int32) × Nat) (d : Nat) (i1 : Int32) (i4 : Int32) (sj0 : Int64) (D : dy_) : rd_ := qv_ sh_ w.1 w.2 d 136 41 [(0, .ref 351), (1, .int i1), (4, .int i4)] [.long sj0] D
noncomputable def k136_58 (w : (Nat → Int32) × Nat) (d : Nat) (i1 : Int32) (i4 : Int32) (D : dy_) : rd_ := qv_ sh_ w.1 w.2 d 136 58 [(0, .ref 351), (1, .int i1), (4, .int i4)] [] D
noncomputable def k136_99 (w : (Nat → Int32) × Nat) (d : Nat) (i1 : Int32) (i4 : Int32) (sr0 : Nat) (si1 : Int32) (si2 : Int32) (D : dy_) : rd_ := qv_ sh_ w.1 w.2 d 136 99 [(0, .ref 351), (1, .int i1), (4, .int i4)] [.int si2, .int si1, .ref sr0] D
noncomputable def k136_103 (w : (Nat → Int32) × Nat) (d : Nat) (i1 : Int32) (i4 : Int32) (i5 : Int32) (D : dy_) : rd_ := qv_ sh_ w.1 w.2 d 136 103 [(0, .ref 351), (1, .int i1), (4, .int i4), (5, .int i5)] [] D
noncomputable def k136_120 (w : (Nat → Int32) × Nat) (d : Nat) (i1 : Int32) (i4 : Int32) (i5 : Int32) (j6 : Int64) (i8 : Int32) (D : dy_) : rd_ := qv_ sh_ w.1 w.2 d 136 120 [(0, .ref 351), (1, .int i1), (4, .int i4), (5, .int i5), (6, .long j6), (8, .int i8)] [] D
noncomputable def k136_167 (w : (Nat → Int32) × Nat) (d : Nat) (i1 : Int32) (i4 : Int32) (i5 : Int32) (i8 : Int32) (sj0 : Int64) (D : dy_) : rd_ := qv_ sh_ w.1 w.2 d 136 167 [(0, .ref 351), (1, .int i1), (4, .int i4), (5, .int i5), (8, .int i8)] [.long sj0] D
noncomputable def k137_0 (w : (Nat → Int32) × Nat) (d : Nat) (i1 : Int32) (i2 : Int32) (D : dy_) : rd_ := qv_ sh_ w.1 w.2 d 137 0 [(0, .ref 351), (1, .int i1), (2, .int i2)] [] D
noncomputable def k137_88 (w : (Nat → Int32) × Nat) (d : Nat) (i1 : Int32) (i3 : Int32) (D : dy_) : rd_ := qv_ sh_ w.1 w.2 d 137 88 [(0, .ref 351), (1, .int i1), (3, .int i3)] [] D
noncomputable def k138_0 (w : (Nat → Int32) × Nat) (d : Nat) (i0 : Int32) (i1 : Int32) (i2 : Int32) (D : dy_) : rd_ := qv_ sh_ w.1 w.2 d 138 0 [(0, .int i0), (1, .int i1), (2, .int i2)] [] D
noncomputable def k139_0 (w : (Nat → Int32) × Nat) (d : Nat) (i1 : Int32) (i2 : Int32) (i3 : Int32) (D : dy_) : rd_ := qv_ sh_ w.1 w.2 d 139 0 [(0, .ref 351), (1, .int i1), (2, .int i2), (3, .int i3)] [] D
noncomputable def k139_3 (w : (Nat → Int32) × Nat) (d : Nat) (i1 : Int32) (i2 : Int32) (i3 : Int32) (i4 : Int32) (D : dy_) : rd_ := qv_ sh_ w.1 w.2 d 139 3 [(0, .ref 351), (1, .int i1), (2, .int i2), (3, .int i3), (4, .int i4)] [] D
noncomputable def k139_77 (w : (Nat → Int32) × Nat) (d : Nat) (i1 : Int32) (i2 : Int32) (i3 : Int32) (i4 : Int32) (D : dy_) : rd_ := qv_ sh_ w.1 w.2 d 139 77 [(0, .ref 351), (1, .int i1), (2, .int i2), (3, .int i3), (4, .int i4)] [] D
noncomputable def k139_138 (w : (Nat → Int32) × Nat) (d : Nat) (i1 : Int32) (i2 : Int32) (i3 : Int32) (i4 : Int32) (i5 : Int32) (i6 : Int32) (i7 : Int32) (D : dy_) : rd_ := qv_ sh_ w.1 w.2 d 139 138 [(0, .ref 351), (1, .int i1), (2, .int i2), (3, .int i3), (4, .int i4), (5, .int i5), (6, .int i6), (7, .int i7)] [] D
noncomputable def k139_214 (w : (Nat → Int32) × Nat) (d : Nat) (i1 : Int32) (i2 : Int32) (i3 : Int32) (i4 : Int32) (i5 : Int32) (i6 : Int32) (i7 : Int32) (i8 : Int32) (D : dy_) : rd_ := qv_ sh_ w.1 w.2 d 139 214 [(0, .ref 351), (1, .int i1), (2, .int i2), (3, .int i3), (4, .int i4), (5, .int i5), (6, .int i6), (7, .int i7), (8, .int i8)] [] D
noncomputable def k140_0 (w : (Nat → Int32) × Nat) (d : Nat) (i1 : Int32) (j2 : Int64) (i4 : Int32) (D : dy_) : rd_ := qv_ sh_ w.1 w.2 d 140 0 [(0, .ref 351), (1, .int i1), (2, .long j2), (4, .int i4)] [] D
noncomputable def k140_6 (w : (Nat → Int32) × Nat) (d : Nat) (i1 : Int32) (j2 : Int64) (i4 : Int32) (j5 : Int64) (i7 : Int32) (D : dy_) : rd_ := qv_ sh_ w.1 w.2 d 140 6 [(0, .ref 351), (1, .int i1), (2, .long j2), (4, .int i4), (5, .long j5), (7, .int i7)] [] D
noncomputable def k140_47 (w : (Nat → Int32) × Nat) (d : Nat) (i1 : Int32) (j2 : Int64) (i4 : Int32) (i7 : Int32) (sj0 : Int64) (D : dy_) : rd_ := qv_ sh_ w.1 w.2 d 140 47 [(0, .ref 351), (1, .int i1), (2, .long j2), (4, .int i4), (7, .int i7)] [.long sj0] D
noncomputable def k141_0 (w : (Nat → Int32) × Nat) (d : Nat) (i1 : Int32) (j2 : Int64) (D : dy_) : rd_ := qv_ sh_ w.1 w.2 d 141 0 [(0, .ref 351), (1, .int i1), (2, .long j2)] [] D
noncomputable def k141_6 (w : (Nat → Int32) × Nat) (d : Nat) (i1 : Int32) (j2 : Int64) (i4 : Int32) (i5 : Int32) (D : dy_) : rd_ := qv_ sh_ w.1 w.2 d 141 6 [(0, .ref 351), (1, .int i1), (2, .long j2), (4, .int i4), (5, .int i5)] [] D
noncomputable def k141_43 (w : (Nat → Int32) × Nat) (d : Nat) (i1 : Int32) (j2 : Int64) (i5 : Int32) (D : dy_) : rd_ := qv_ sh_ w.1 w.2 d 141 43 [(0, .ref 351), (1, .int i1), (2, .long j2), (5, .int i5)] [] D
noncomputable def k141_47 (w : (Nat → Int32) × Nat) (d : Nat) (i1 : Int32) (j2 : Int64) (i5 : Int32) (D : dy_) : rd_ := qv_ sh_ w.1 w.2 d 141 47 [(0, .ref 351), (1, .int i1), (2, .long j2), (5, .int i5)] [] D
noncomputable def k141_48 (w : (Nat → Int32) × Nat) (d : Nat) (i1 : Int32) (j2 : Int64) (i5 : Int32) (si0 : Int32) (D : dy_) : rd_ := qv_ sh_ w.1 w.2 d 141 48 [(0, .ref 351), (1, .int i1), (2, .long j2), (5, .int i5)] [.int si0] D
noncomputable def k142_0 (w : (Nat → Int32) × Nat) (d : Nat) (i1 : Int32) (i2 : Int32) (D : dy_) : rd_ := qv_ sh_ w.1 w.2 d 142 0 [(0, .ref 351), (1, .int i1), (2, .int i2)] [] D
noncomputable def k142_38 (w : (Nat → Int32) × Nat) (d : Nat) (i1 : Int32) (i2 : Int32) (si1 : Int32) (sj2 : Int64) (D : dy_) : rd_ := qv_ sh_ w.1 w.2 d 142 38 [(0, .ref 351), (1, .int i1), (2, .int i2)] [.long sj2, .int si1, .ref 351] D
noncomputable def k142_44 (w : (Nat → Int32) × Nat) (d : Nat) (i1 : Int32) (i2 : Int32) (i3 : Int32) (D : dy_) : rd_ := qv_ sh_ w.1 w.2 d 142 44 [(0, .ref 351), (1, .int i1), (2, .int i2), (3, .int i3)] [] D
noncomputable def k142_72 (w : (Nat → Int32) × Nat) (d : Nat) (i1 : Int32) (i2 : Int32) (i3 : Int32) (i4 : Int32) (D : dy_) : rd_ := qv_ sh_ w.1 w.2 d 142 72 [(0, .ref 351), (1, .int i1), (2, .int i2), (3, .int i3), (4, .int i4)] [] D
noncomputable def k142_142 (w : (Nat → Int32) × Nat) (d : Nat) (i1 : Int32) (i2 : Int32) (i3 : Int32) (i4 : Int32) (si1 : Int32) (sj2 : Int64) (D : dy_) : rd_ := qv_ sh_ w.1 w.2 d 142 142 [(0, .ref 351), (1, .int i1), (2, .int i2), (3, .int i3), (4, .int i4)] [.long sj2, .int si1, .ref 351] D
noncomputable def k143_0 (w : (Nat → Int32) × Nat) (d : Nat) (i1 : Int32) (D : dy_) : rd_ := qv_ sh_ w.1 w.2 d 143 0 [(0, .ref 351), (1, .int i1)] [] D
noncomputable def k143_14 (w : (Nat → Int32) × Nat) (d : Nat) (i1 : Int32) (i2 : Int32) (D : dy_) : rd_ := qv_ sh_ w.1 w.2 d 143 14 [(0, .ref 351), (1, .int i1), (2, .int i2)] [] D
noncomputable def k143_45 (w : (Nat → Int32) × Nat) (d : Nat) (i1 : Int32) (i2 : Int32) (sr0 : Nat) (si1 : Int32) (D : dy_) : rd_ := qv_ sh_ w.1 w.2 d 143 45 [(0, .ref 351), (1, .int i1), (2, .int i2)] [.int si1, .ref sr0] D
noncomputable def k143_50 (w : (Nat → Int32) × Nat) (d : Nat) (i1 : Int32) (i2 : Int32) (sr0 : Nat) (si1 : Int32) (si2 : Int32) (D : dy_) : rd_ := qv_ sh_ w.1 w.2 d 143 50 [(0, .ref 351), (1, .int i1), (2, .int i2)] [.int si2, .int si1, .ref sr0] D
noncomputable def k143_53 (w : (Nat → Int32) × Nat) (d : Nat) (i1 : Int32) (i2 : Int32) (i3 : Int32) (D : dy_) : rd_ := qv_ sh_ w.1 w.2 d 143 53 [(0, .ref 351), (1, .int i1), (2, .int i2), (3, .int i3)] [] D
noncomputable def k143_96 (w : (Nat → Int32) × Nat) (d : Nat) (i1 : Int32) (i2 : Int32) (i3 : Int32) (sj0 : Int64) (D : dy_) : rd_ := qv_ sh_ w.1 w.2 d 143 96 [(0, .ref 351), (1, .int i1), (2, .int i2), (3, .int i3)] [.long sj0] D
noncomputable def k143_126 (w : (Nat → Int32) × Nat) (d : Nat) (i1 : Int32) (i2 : Int32) (i3 : Int32) (si1 : Int32) (sj2 : Int64) (D : dy_) : rd_ := qv_ sh_ w.1 w.2 d 143 126 [(0, .ref 351), (1, .int i1), (2, .int i2), (3, .int i3)] [.long sj2, .int si1, .ref 351] D
noncomputable def k144_0 (w : (Nat → Int32) × Nat) (d : Nat) (i1 : Int32) (i2 : Int32) (i3 : Int32) (i4 : Int32) (D : dy_) : rd_ := qv_ sh_ w.1 w.2 d 144 0 [(0, .ref 351), (1, .int i1), (2, .int i2), (3, .int i3), (4, .int i4)] [] D
noncomputable def k144_75 (w : (Nat → Int32) × Nat) (d : Nat) (i1 : Int32) (i5 : Int32) (i6 : Int32) (D : dy_) : rd_ := qv_ sh_ w.1 w.2 d 144 75 [(0, .ref 351), (1, .int i1), (5, .int i5), (6, .int i6)] [] D
noncomputable def k144_105 (w : (Nat → Int32) × Nat) (d : Nat) (i1 : Int32) (i5 : Int32) (i6 : Int32) (sr0 : Nat) (si1 : Int32) (si2 : Int32) (D : dy_) : rd_ := qv_ sh_ w.1 w.2 d 144 105 [(0, .ref 351), (1, .int i1), (5, .int i5), (6, .int i6)] [.int si2, .int si1, .ref sr0] D
noncomputable def k144_112 (w : (Nat → Int32) × Nat) (d : Nat) (i1 : Int32) (i5 : Int32) (D : dy_) : rd_ := qv_ sh_ w.1 w.2 d 144 112 [(0, .ref 351), (1, .int i1), (5, .int i5)] [] D
noncomputable def k145_0 (w : (Nat → Int32) × Nat) (d : Nat) (i1 : Int32) (i2 : Int32) (i3 : Int32) (i4 : Int32) (D : dy_) : rd_ := qv_ sh_ w.1 w.2 d 145 0 [(0, .ref 351), (1, .int i1), (2, .int i2), (3, .int i3), (4, .int i4)] [] D
noncomputable def k145_47 (w : (Nat → Int32) × Nat) (d : Nat) (i1 : Int32) (i2 : Int32) (i3 : Int32) (i4 : Int32) (D : dy_) : rd_ := qv_ sh_ w.1 w.2 d 145 47 [(0, .ref 351), (1, .int i1), (2, .int i2), (3, .int i3), (4, .int i4)] [] D
noncomputable def k145_71 (w : (Nat → Int32) × Nat) (d : Nat) (i1 : Int32) (i2 : Int32) (i3 : Int32) (i4 : Int32) (D : dy_) : rd_ := qv_ sh_ w.1 w.2 d 145 71 [(0, .ref 351), (1, .int i1), (2, .int i2), (3, .int i3), (4, .int i4)] [] D
noncomputable def k146_0 (w : (Nat → Int32) × Nat) (d : Nat) (i1 : Int32) (i2 : Int32) (i3 : Int32) (i4 : Int32) (i5 : Int32) (D : dy_) : rd_ := qv_ sh_ w.1 w.2 d 146 0 [(0, .ref 351), (1, .int i1), (2, .int i2), (3, .int i3), (4, .int i4), (5, .int i5)] [] D
noncomputable def k146_24 (w : (Nat → Int32) × Nat) (d : Nat) (i1 : Int32) (i2 : Int32) (i3 : Int32) (i4 : Int32) (i5 : Int32) (i6 : Int32) (D : dy_) : rd_ := qv_ sh_ w.1 w.2 d 146 24 [(0, .ref 351), (1, .int i1), (2, .int i2), (3, .int i3), (4, .int i4), (5, .int i5), (6, .int i6)] [] D
noncomputable def k146_77 (w : (Nat → Int32) × Nat) (d : Nat) (i1 : Int32) (i2 : Int32) (i3 : Int32) (i4 : Int32) (i5 : Int32) (i6 : Int32) (si0 : Int32) (D : dy_) : rd_ := qv_ sh_ w.1 w.2 d 146 77 [(0, .ref 351), (1, .int i1), (2, .int i2), (3, .int i3), (4, .int i4), (5, .int i5), (6, .int i6)] [.int si0] D
noncomputable def k147_0 (w : (Nat → Int32) × Nat) (d : Nat) (i1 : Int32) (D : dy_) : rd_ := qv_ sh_ w.1 w.2 d 147 0 [(0, .ref 351), (1, .int i1)] [] D
noncomputable def k148_0 (w : (Nat → Int32) × Nat) (d : Nat) (i1 : Int32) (D : dy_) : rd_ := qv_ sh_ w.1 w.2 d 148 0 [(0, .ref 351), (1, .int i1)] [] D
noncomputable def k149_0 (w : (Nat → Int32) × Nat) (d : Nat) (i0 : Int32) (D : dy_) : rd_ := qv_ sh_ w.1 w.2 d 149 0 [(0, .int i0)] [] D
noncomputable def k150_0 (w : (Nat → Int32) × Nat) (d : Nat) (i0 : Int32) (i1 : Int32) (D : dy_) : rd_ := qv_ sh_ w.1 w.2 d 150 0 [(0, .int i0), (1, .int i1)] [] D
noncomputable def k151_0 (w : (Nat → Int32) × Nat) (d : Nat) (i1 : Int32) (D : dy_) : rd_ := qv_ sh_ w.1 w.2 d 151 0 [(0, .ref 351), (1, .int i1)] [] D
noncomputable def k151_7 (w : (Nat → Int32) × Nat) (d : Nat) (i1 : Int32) (i2 : Int32) (i3 : Int32) (i4 : Int32) (D : dy_) : rd_ := qv_ sh_ w.1 w.2 d 151 7 [(0, .ref 351), (1, .int i1), (2, .int i2), (3, .int i3), (4, .int i4)] [] D
noncomputable def k151_43 (w : (Nat → Int32) × Nat) (d : Nat) (i1 : Int32) (i2 : Int32) (i3 : Int32) (i4 : Int32) (i5 : Int32) (D : dy_) : rd_ := qv_ sh_ w.1 w.2 d 151 43 [(0, .ref 351), (1, .int i1), (2, .int i2), (3, .int i3), (4, .int i4), (5, .int i5)] [] D
noncomputable def k151_44 (w : (Nat → Int32) × Nat) (d : Nat) (i1 : Int32) (i2 : Int32) (i3 : Int32) (i4 : Int32) (i5 : Int32) (si0 : Int32) (D : dy_) : rd_ := qv_ sh_ w.1 w.2 d 151 44 [(0, .ref 351), (1, .int i1), (2, .int i2), (3, .int i3), (4, .int i4), (5, .int i5)] [.int si0] D
noncomputable def k151_80 (w : (Nat → Int32) × Nat) (d : Nat) (i1 : Int32) (i2 : Int32) (i4 : Int32) (i5 : Int32) (D : dy_) : rd_ := qv_ sh_ w.1 w.2 d 151 80 [(0, .ref 351), (1, .int i1), (2, .int i2), (4, .int i4), (5, .int i5)] [] D
noncomputable def k151_106 (w : (Nat → Int32) × Nat) (d : Nat) (i1 : Int32) (i2 : Int32) (i4 : Int32) (sr0 : Nat) (si1 : Int32) (si2 : Int32) (D : dy_) : rd_ := qv_ sh_ w.1 w.2 d 151 106 [(0, .ref 351), (1, .int i1), (2, .int i2), (4, .int i4)] [.int si2, .int si1, .ref sr0] D
noncomputable def k151_164 (w : (Nat → Int32) × Nat) (d : Nat) (i1 : Int32) (i2 : Int32) (i4 : Int32) (D : dy_) : rd_ := qv_ sh_ w.1 w.2 d 151 164 [(0, .ref 351), (1, .int i1), (2, .int i2), (4, .int i4)] [] D
noncomputable def k151_184 (w : (Nat → Int32) × Nat) (d : Nat) (i1 : Int32) (i2 : Int32) (i3 : Int32) (i4 : Int32) (D : dy_) : rd_ := qv_ sh_ w.1 w.2 d 151 184 [(0, .ref 351), (1, .int i1), (2, .int i2), (3, .int i3), (4, .int i4)] [] D
noncomputable def k152_0 (w : (Nat → Int32) × Nat) (d : Nat) (i1 : Int32) (D : dy_) : rd_ := qv_ sh_ w.1 w.2 d 152 0 [(0, .ref 351), (1, .int i1)] [] D
noncomputable def k152_2 (w : (Nat → Int32) × Nat) (d : Nat) (i2 : Int32) (D : dy_) : rd_ := qv_ sh_ w.1 w.2 d 152 2 [(0, .ref 351), (2, .int i2)] [] D
noncomputable def k153_0 (w : (Nat → Int32) × Nat) (d : Nat) (i0 : Int32) (D : dy_) : rd_ := qv_ sh_ w.1 w.2 d 153 0 [(0, .int i0)] [] D
noncomputable def k154_0 (w : (Nat → Int32) × Nat) (d : Nat) (i1 : Int32) (i2 : Int32) (D : dy_) : rd_ := qv_ sh_ w.1 w.2 d 154 0 [(0, .ref 351), (1, .int i1), (2, .int i2)] [] D
noncomputable def k154_38 (w : (Nat → Int32) × Nat) (d : Nat) (i1 : Int32) (i2 : Int32) (i3 : Int32) (D : dy_) : rd_ := qv_ sh_ w.1 w.2 d 154 38 [(0, .ref 351), (1, .int i1), (2, .int i2), (3, .int i3)] [] D
noncomputable def k154_77 (w : (Nat → Int32) × Nat) (d : Nat) (i1 : Int32) (i2 : Int32) (i3 : Int32) (D : dy_) : rd_ := qv_ sh_ w.1 w.2 d 154 77 [(0, .ref 351), (1, .int i1), (2, .int i2), (3, .int i3)] [] D
noncomputable def k155_0 (w : (Nat → Int32) × Nat) (d : Nat) (i1 : Int32) (i2 : Int32) (i3 : Int32) (i4 : Int32) (D : dy_) : rd_ := qv_ sh_ w.1 w.2 d 155 0 [(0, .ref 351), (1, .int i1), (2, .int i2), (3, .int i3), (4, .int i4)] [] D
noncomputable def k156_0 (w : (Nat → Int32) × Nat) (d : Nat) (i1 : Int32) (i2 : Int32) (D : dy_) : rd_ := qv_ sh_ w.1 w.2 d 156 0 [(0, .ref 351), (1, .int i1), (2, .int i2)] [] D
noncomputable def k156_15 (w : (Nat → Int32) × Nat) (d : Nat) (i1 : Int32) (i2 : Int32) (i3 : Int32) (D : dy_) : rd_ := qv_ sh_ w.1 w.2 d 156 15 [(0, .ref 351), (1, .int i1), (2, .int i2), (3, .int i3)] [] D
noncomputable def k156_57 (w : (Nat → Int32) × Nat) (d : Nat) (i1 : Int32) (i2 : Int32) (i3 : Int32) (sr0 : Nat) (si1 : Int32) (D : dy_) : rd_ := qv_ sh_ w.1 w.2 d 156 57 [(0, .ref 351), (1, .int i1), (2, .int i2), (3, .int i3)] [.int si1, .ref sr0] D
noncomputable def k156_58 (w : (Nat → Int32) × Nat) (d : Nat) (i1 : Int32) (i2 : Int32) (i3 : Int32) (sr0 : Nat) (si1 : Int32) (si2 : Int32) (D : dy_) : rd_ := qv_ sh_ w.1 w.2 d 156 58 [(0, .ref 351), (1, .int i1), (2, .int i2), (3, .int i3)] [.int si2, .int si1, .ref sr0] D
noncomputable def k156_62 (w : (Nat → Int32) × Nat) (d : Nat) (i1 : Int32) (i2 : Int32) (i3 : Int32) (i4 : Int32) (D : dy_) : rd_ := qv_ sh_ w.1 w.2 d 156 62 [(0, .ref 351), (1, .int i1), (2, .int i2), (3, .int i3), (4, .int i4)] [] D
noncomputable def k156_111 (w : (Nat → Int32) × Nat) (d : Nat) (i1 : Int32) (i2 : Int32) (i3 : Int32) (i4 : Int32) (sr0 : Nat) (si1 : Int32) (D : dy_) : rd_ := qv_ sh_ w.1 w.2 d 156 111 [(0, .ref 351), (1, .int i1), (2, .int i2), (3, .int i3), (4, .int i4)] [.int si1, .ref sr0] D
noncomputable def k156_115 (w : (Nat → Int32) × Nat) (d : Nat) (i1 : Int32) (i2 : Int32) (i3 : Int32) (i4 : Int32) (sr0 : Nat) (si1 : Int32) (D : dy_) : rd_ := qv_ sh_ w.1 w.2 d 156 115 [(0, .ref 351), (1, .int i1), (2, .int i2), (3, .int i3), (4, .int i4)] [.int si1, .ref sr0] D
noncomputable def k156_116 (w : (Nat → Int32) × Nat) (d : Nat) (i1 : Int32) (i2 : Int32) (i3 : Int32) (i4 : Int32) (sr0 : Nat) (si1 : Int32) (si2 : Int32) (D : dy_) : rd_ := qv_ sh_ w.1 w.2 d 156 116 [(0, .ref 351), (1, .int i1), (2, .int i2), (3, .int i3), (4, .int i4)] [.int si2, .int si1, .ref sr0] D
noncomputable def k157_0 (w : (Nat → Int32) × Nat) (d : Nat)  (D : dy_) : rd_ := qv_ sh_ w.1 w.2 d 157 0 [(0, .ref 351)] [] D
noncomputable def k158_0 (w : (Nat → Int32) × Nat) (d : Nat)  (D : dy_) : rd_ := qv_ sh_ w.1 w.2 d 158 0 [(0, .ref 351)] [] D
noncomputable def k158_45 (w : (Nat → Int32) × Nat) (d : Nat) (i1 : Int32) (D : dy_) : rd_ := qv_ sh_ w.1 w.2 d 158 45 [(0, .ref 351), (1, .int i1)] [] D
noncomputable def k158_59 (w : (Nat → Int32) × Nat) (d : Nat)  (D : dy_) : rd_ := qv_ sh_ w.1 w.2 d 158 59 [(0, .ref 351)] [] D
noncomputable def k158_90 (w : (Nat → Int32) × Nat) (d : Nat) (sr0 : Nat) (si1 : Int32) (D : dy_) : rd_ := qv_ sh_ w.1 w.2 d 158 90 [(0, .ref 351)] [.int si1, .ref sr0] D
noncomputable def k159_0 (w : (Nat → Int32) × Nat) (d : Nat)  (D : dy_) : rd_ := qv_ sh_ w.1 w.2 d 159 0 [(0, .ref 351)] [] D
noncomputable def k159_33 (w : (Nat → Int32) × Nat) (d : Nat) (i1 : Int32) (i2 : Int32) (si0 : Int32) (D : dy_) : rd_ := qv_ sh_ w.1 w.2 d 159 33 [(0, .ref 351), (1, .int i1), (2, .int i2)] [.int si0] D
noncomputable def k159_66 (w : (Nat → Int32) × Nat) (d : Nat) (i1 : Int32) (D : dy_) : rd_ := qv_ sh_ w.1 w.2 d 159 66 [(0, .ref 351), (1, .int i1)] [] D
noncomputable def k160_0 (w : (Nat → Int32) × Nat) (d : Nat)  (D : dy_) : rd_ := qv_ sh_ w.1 w.2 d 160 0 [(0, .ref 351)] [] D
noncomputable def k160_46 (w : (Nat → Int32) × Nat) (d : Nat) (i1 : Int32) (D : dy_) : rd_ := qv_ sh_ w.1 w.2 d 160 46 [(0, .ref 351), (1, .int i1)] [] D
noncomputable def k161_0 (w : (Nat → Int32) × Nat) (d : Nat)  (D : dy_) : rd_ := qv_ sh_ w.1 w.2 d 161 0 [(0, .ref 351)] [] D
noncomputable def k162_0 (w : (Nat → Int32) × Nat) (d : Nat) (i1 : Int32) (D : dy_) : rd_ := qv_ sh_ w.1 w.2 d 162 0 [(0, .ref 351), (1, .int i1)] [] D
noncomputable def k162_22 (w : (Nat → Int32) × Nat) (d : Nat) (i1 : Int32) (D : dy_) : rd_ := qv_ sh_ w.1 w.2 d 162 22 [(0, .ref 351), (1, .int i1)] [] D
noncomputable def k162_48 (w : (Nat → Int32) × Nat) (d : Nat) (i1 : Int32) (D : dy_) : rd_ := qv_ sh_ w.1 w.2 d 162 48 [(0, .ref 351), (1, .int i1)] [] D
noncomputable def k162_59 (w : (Nat → Int32) × Nat) (d : Nat) (i1 : Int32) (D : dy_) : rd_ := qv_ sh_ w.1 w.2 d 162 59 [(0, .ref 351), (1, .int i1)] [] D
noncomputable def k163_0 (w : (Nat → Int32) × Nat) (d : Nat) (i1 : Int32) (i2 : Int32) (D : dy_) : rd_ := qv_ sh_ w.1 w.2 d 163 0 [(0, .ref 351), (1, .int i1), (2, .int i2)] [] D
noncomputable def k163_89 (w : (Nat → Int32) × Nat) (d : Nat) (i1 : Int32) (i4 : Int32) (i5 : Int32) (D : dy_) : rd_ := qv_ sh_ w.1 w.2 d 163 89 [(0, .ref 351), (1, .int i1), (4, .int i4), (5, .int i5)] [] D
noncomputable def k163_124 (w : (Nat → Int32) × Nat) (d : Nat) (i1 : Int32) (D : dy_) : rd_ := qv_ sh_ w.1 w.2 d 163 124 [(0, .ref 351), (1, .int i1)] [] D
noncomputable def k163_135 (w : (Nat → Int32) × Nat) (d : Nat) (i1 : Int32) (D : dy_) : rd_ := qv_ sh_ w.1 w.2 d 163 135 [(0, .ref 351), (1, .int i1)] [] D
noncomputable def k164_0 (w : (Nat → Int32) × Nat) (d : Nat) (i1 : Int32) (D : dy_) : rd_ := qv_ sh_ w.1 w.2 d 164 0 [(0, .ref 351), (1, .int i1)] [] D
noncomputable def k164_9 (w : (Nat → Int32) × Nat) (d : Nat) (i1 : Int32) (i2 : Int32) (i3 : Int32) (D : dy_) : rd_ := qv_ sh_ w.1 w.2 d 164 9 [(0, .ref 351), (1, .int i1), (2, .int i2), (3, .int i3)] [] D
noncomputable def k164_63 (w : (Nat → Int32) × Nat) (d : Nat) (i1 : Int32) (i3 : Int32) (si0 : Int32) (D : dy_) : rd_ := qv_ sh_ w.1 w.2 d 164 63 [(0, .ref 351), (1, .int i1), (3, .int i3)] [.int si0] D
noncomputable def k165_0 (w : (Nat → Int32) × Nat) (d : Nat) (i1 : Int32) (D : dy_) : rd_ := qv_ sh_ w.1 w.2 d 165 0 [(0, .ref 351), (1, .int i1)] [] D
noncomputable def k165_21 (w : (Nat → Int32) × Nat) (d : Nat) (i1 : Int32) (si0 : Int32) (D : dy_) : rd_ := qv_ sh_ w.1 w.2 d 165 21 [(0, .ref 351), (1, .int i1)] [.int si0] D
noncomputable def k166_0 (w : (Nat → Int32) × Nat) (d : Nat) (i1 : Int32) (i2 : Int32) (i3 : Int32) (i4 : Int32) (D : dy_) : rd_ := qv_ sh_ w.1 w.2 d 166 0 [(0, .ref 351), (1, .int i1), (2, .int i2), (3, .int i3), (4, .int i4)] [] D
noncomputable def k166_3 (w : (Nat → Int32) × Nat) (d : Nat) (i1 : Int32) (i2 : Int32) (i3 : Int32) (i4 : Int32) (i5 : Int32) (D : dy_) : rd_ := qv_ sh_ w.1 w.2 d 166 3 [(0, .ref 351), (1, .int i1), (2, .int i2), (3, .int i3), (4, .int i4), (5, .int i5)] [] D
noncomputable def k166_63 (w : (Nat → Int32) × Nat) (d : Nat) (i1 : Int32) (i3 : Int32) (i5 : Int32) (i6 : Int32) (D : dy_) : rd_ := qv_ sh_ w.1 w.2 d 166 63 [(0, .ref 351), (1, .int i1), (3, .int i3), (5, .int i5), (6, .int i6)] [] D
noncomputable def k166_121 (w : (Nat → Int32) × Nat) (d : Nat) (i1 : Int32) (i3 : Int32) (i5 : Int32) (i6 : Int32) (i7 : Int32) (i8 : Int32) (i9 : Int32) (D : dy_) : rd_ := qv_ sh_ w.1 w.2 d 166 121 [(0, .ref 351), (1, .int i1), (3, .int i3), (5, .int i5), (6, .int i6), (7, .int i7), (8, .int i8), (9, .int i9)] [] D
noncomputable def k166_206 (w : (Nat → Int32) × Nat) (d : Nat) (i1 : Int32) (i3 : Int32) (i5 : Int32) (i6 : Int32) (i7 : Int32) (i8 : Int32) (i9 : Int32) (D : dy_) : rd_ := qv_ sh_ w.1 w.2 d 166 206 [(0, .ref 351), (1, .int i1), (3, .int i3), (5, .int i5), (6, .int i6), (7, .int i7), (8, .int i8), (9, .int i9)] [] D
noncomputable def k167_0 (w : (Nat → Int32) × Nat) (d : Nat) (i1 : Int32) (D : dy_) : rd_ := qv_ sh_ w.1 w.2 d 167 0 [(0, .ref 351), (1, .int i1)] [] D
noncomputable def k167_4 (w : (Nat → Int32) × Nat) (d : Nat) (i1 : Int32) (i2 : Int32) (i3 : Int32) (D : dy_) : rd_ := qv_ sh_ w.1 w.2 d 167 4 [(0, .ref 351), (1, .int i1), (2, .int i2), (3, .int i3)] [] D
noncomputable def k167_39 (w : (Nat → Int32) × Nat) (d : Nat) (i2 : Int32) (i3 : Int32) (i4 : Int32) (D : dy_) : rd_ := qv_ sh_ w.1 w.2 d 167 39 [(0, .ref 351), (2, .int i2), (3, .int i3), (4, .int i4)] [] D
noncomputable def k168_0 (w : (Nat → Int32) × Nat) (d : Nat) (i1 : Int32) (i2 : Int32) (D : dy_) : rd_ := qv_ sh_ w.1 w.2 d 168 0 [(0, .ref 351), (1, .int i1), (2, .int i2)] [] D
noncomputable def k169_0 (w : (Nat → Int32) × Nat) (d : Nat) (i1 : Int32) (i2 : Int32) (i3 : Int32) (D : dy_) : rd_ := qv_ sh_ w.1 w.2 d 169 0 [(0, .ref 351), (1, .int i1), (2, .int i2), (3, .int i3)] [] D
noncomputable def k170_0 (w : (Nat → Int32) × Nat) (d : Nat) (i1 : Int32) (D : dy_) : rd_ := qv_ sh_ w.1 w.2 d 170 0 [(0, .ref 351), (1, .int i1)] [] D
noncomputable def k170_2 (w : (Nat → Int32) × Nat) (d : Nat) (i1 : Int32) (i2 : Int32) (D : dy_) : rd_ := qv_ sh_ w.1 w.2 d 170 2 [(0, .ref 351), (1, .int i1), (2, .int i2)] [] D
noncomputable def k170_10 (w : (Nat → Int32) × Nat) (d : Nat) (i1 : Int32) (i2 : Int32) (i3 : Int32) (D : dy_) : rd_ := qv_ sh_ w.1 w.2 d 170 10 [(0, .ref 351), (1, .int i1), (2, .int i2), (3, .int i3)] [] D
noncomputable def k170_26 (w : (Nat → Int32) × Nat) (d : Nat) (i1 : Int32) (i2 : Int32) (i3 : Int32) (j4 : Int64) (i6 : Int32) (D : dy_) : rd_ := qv_ sh_ w.1 w.2 d 170 26 [(0, .ref 351), (1, .int i1), (2, .int i2), (3, .int i3), (4, .long j4), (6, .int i6)] [] D
noncomputable def k170_72 (w : (Nat → Int32) × Nat) (d : Nat) (i1 : Int32) (i2 : Int32) (i3 : Int32) (j4 : Int64) (D : dy_) : rd_ := qv_ sh_ w.1 w.2 d 170 72 [(0, .ref 351), (1, .int i1), (2, .int i2), (3, .int i3), (4, .long j4)] [] D
noncomputable def k170_105 (w : (Nat → Int32) × Nat) (d : Nat) (i1 : Int32) (i2 : Int32) (i3 : Int32) (sr0 : Nat) (si1 : Int32) (sj2 : Int64) (D : dy_) : rd_ := qv_ sh_ w.1 w.2 d 170 105 [(0, .ref 351), (1, .int i1), (2, .int i2), (3, .int i3)] [.long sj2, .int si1, .ref sr0] D
noncomputable def k171_0 (w : (Nat → Int32) × Nat) (d : Nat) (i1 : Int32) (i2 : Int32) (D : dy_) : rd_ := qv_ sh_ w.1 w.2 d 171 0 [(0, .ref 351), (1, .int i1), (2, .int i2)] [] D
noncomputable def k172_0 (w : (Nat → Int32) × Nat) (d : Nat) (i1 : Int32) (j2 : Int64) (D : dy_) : rd_ := qv_ sh_ w.1 w.2 d 172 0 [(0, .ref 351), (1, .int i1), (2, .long j2)] [] D
noncomputable def k172_32 (w : (Nat → Int32) × Nat) (d : Nat) (i1 : Int32) (j4 : Int64) (i6 : Int32) (D : dy_) : rd_ := qv_ sh_ w.1 w.2 d 172 32 [(0, .ref 351), (1, .int i1), (4, .long j4), (6, .int i6)] [] D
noncomputable def k172_90 (w : (Nat → Int32) × Nat) (d : Nat) (i1 : Int32) (j4 : Int64) (i6 : Int32) (D : dy_) : rd_ := qv_ sh_ w.1 w.2 d 172 90 [(0, .ref 351), (1, .int i1), (4, .long j4), (6, .int i6)] [] D
noncomputable def k172_116 (w : (Nat → Int32) × Nat) (d : Nat) (i1 : Int32) (j4 : Int64) (i6 : Int32) (i7 : Int32) (i8 : Int32) (D : dy_) : rd_ := qv_ sh_ w.1 w.2 d 172 116 [(0, .ref 351), (1, .int i1), (4, .long j4), (6, .int i6), (7, .int i7), (8, .int i8)] [] D
noncomputable def k172_126 (w : (Nat → Int32) × Nat) (d : Nat) (i1 : Int32) (j4 : Int64) (i6 : Int32) (i7 : Int32) (i8 : Int32) (i9 : Int32) (D : dy_) : rd_ := qv_ sh_ w.1 w.2 d 172 126 [(0, .ref 351), (1, .int i1), (4, .long j4), (6, .int i6), (7, .int i7), (8, .int i8), (9, .int i9)] [] D
noncomputable def k173_0 (w : (Nat → Int32) × Nat) (d : Nat) (i1 : Int32) (D : dy_) : rd_ := qv_ sh_ w.1 w.2 d 173 0 [(0, .ref 351), (1, .int i1)] [] D
noncomputable def k173_21 (w : (Nat → Int32) × Nat) (d : Nat) (i1 : Int32) (si0 : Int32) (D : dy_) : rd_ := qv_ sh_ w.1 w.2 d 173 21 [(0, .ref 351), (1, .int i1)] [.int si0] D
noncomputable def k173_59 (w : (Nat → Int32) × Nat) (d : Nat) (i1 : Int32) (j3 : Int64) (i5 : Int32) (D : dy_) : rd_ := qv_ sh_ w.1 w.2 d 173 59 [(0, .ref 351), (1, .int i1), (3, .long j3), (5, .int i5)] [] D
noncomputable def k173_105 (w : (Nat → Int32) × Nat) (d : Nat) (i1 : Int32) (j3 : Int64) (i5 : Int32) (i6 : Int32) (D : dy_) : rd_ := qv_ sh_ w.1 w.2 d 173 105 [(0, .ref 351), (1, .int i1), (3, .long j3), (5, .int i5), (6, .int i6)] [] D
noncomputable def k173_128 (w : (Nat → Int32) × Nat) (d : Nat) (i1 : Int32) (j3 : Int64) (i5 : Int32) (i6 : Int32) (i7 : Int32) (i8 : Int32) (D : dy_) : rd_ := qv_ sh_ w.1 w.2 d 173 128 [(0, .ref 351), (1, .int i1), (3, .long j3), (5, .int i5), (6, .int i6), (7, .int i7), (8, .int i8)] [] D
noncomputable def k174_0 (w : (Nat → Int32) × Nat) (d : Nat) (i1 : Int32) (D : dy_) : rd_ := qv_ sh_ w.1 w.2 d 174 0 [(0, .ref 351), (1, .int i1)] [] D
noncomputable def k175_0 (w : (Nat → Int32) × Nat) (d : Nat)  (D : dy_) : rd_ := qv_ sh_ w.1 w.2 d 175 0 [(0, .ref 351)] [] D
noncomputable def k176_0 (w : (Nat → Int32) × Nat) (d : Nat) (i1 : Int32) (i2 : Int32) (D : dy_) : rd_ := qv_ sh_ w.1 w.2 d 176 0 [(0, .ref 351), (1, .int i1), (2, .int i2)] [] D
noncomputable def k176_5 (w : (Nat → Int32) × Nat) (d : Nat) (i1 : Int32) (i2 : Int32) (i3 : Int32) (i4 : Int32) (D : dy_) : rd_ := qv_ sh_ w.1 w.2 d 176 5 [(0, .ref 351), (1, .int i1), (2, .int i2), (3, .int i3), (4, .int i4)] [] D
noncomputable def k176_49 (w : (Nat → Int32) × Nat) (d : Nat) (i1 : Int32) (i2 : Int32) (i4 : Int32) (D : dy_) : rd_ := qv_ sh_ w.1 w.2 d 176 49 [(0, .ref 351), (1, .int i1), (2, .int i2), (4, .int i4)] [] D
noncomputable def k176_50 (w : (Nat → Int32) × Nat) (d : Nat) (i1 : Int32) (i2 : Int32) (i4 : Int32) (si0 : Int32) (D : dy_) : rd_ := qv_ sh_ w.1 w.2 d 176 50 [(0, .ref 351), (1, .int i1), (2, .int i2), (4, .int i4)] [.int si0] D
noncomputable def k177_0 (w : (Nat → Int32) × Nat) (d : Nat) (i1 : Int32) (D : dy_) : rd_ := qv_ sh_ w.1 w.2 d 177 0 [(0, .ref 351), (1, .int i1)] [] D
noncomputable def k177_42 (w : (Nat → Int32) × Nat) (d : Nat) (i2 : Int32) (D : dy_) : rd_ := qv_ sh_ w.1 w.2 d 177 42 [(0, .ref 351), (2, .int i2)] [] D
noncomputable def k177_52 (w : (Nat → Int32) × Nat) (d : Nat) (i2 : Int32) (i3 : Int32) (D : dy_) : rd_ := qv_ sh_ w.1 w.2 d 177 52 [(0, .ref 351), (2, .int i2), (3, .int i3)] [] D
noncomputable def k177_100 (w : (Nat → Int32) × Nat) (d : Nat) (i2 : Int32) (D : dy_) : rd_ := qv_ sh_ w.1 w.2 d 177 100 [(0, .ref 351), (2, .int i2)] [] D
noncomputable def k177_123 (w : (Nat → Int32) × Nat) (d : Nat) (i2 : Int32) (D : dy_) : rd_ := qv_ sh_ w.1 w.2 d 177 123 [(0, .ref 351), (2, .int i2)] [] D
noncomputable def k177_133 (w : (Nat → Int32) × Nat) (d : Nat) (i2 : Int32) (i3 : Int32) (D : dy_) : rd_ := qv_ sh_ w.1 w.2 d 177 133 [(0, .ref 351), (2, .int i2), (3, .int i3)] [] D
noncomputable def k177_144 (w : (Nat → Int32) × Nat) (d : Nat) (i2 : Int32) (i3 : Int32) (i4 : Int32) (D : dy_) : rd_ := qv_ sh_ w.1 w.2 d 177 144 [(0, .ref 351), (2, .int i2), (3, .int i3), (4, .int i4)] [] D
noncomputable def k177_202 (w : (Nat → Int32) × Nat) (d : Nat) (i2 : Int32) (i3 : Int32) (i4 : Int32) (i5 : Int32) (D : dy_) : rd_ := qv_ sh_ w.1 w.2 d 177 202 [(0, .ref 351), (2, .int i2), (3, .int i3), (4, .int i4), (5, .int i5)] [] D
noncomputable def k177_234 (w : (Nat → Int32) × Nat) (d : Nat) (i2 : Int32) (i3 : Int32) (i5 : Int32) (si0 : Int32) (D : dy_) : rd_ := qv_ sh_ w.1 w.2 d 177 234 [(0, .ref 351), (2, .int i2), (3, .int i3), (5, .int i5)] [.int si0] D
noncomputable def k177_242 (w : (Nat → Int32) × Nat) (d : Nat) (i2 : Int32) (i3 : Int32) (i4 : Int32) (D : dy_) : rd_ := qv_ sh_ w.1 w.2 d 177 242 [(0, .ref 351), (2, .int i2), (3, .int i3), (4, .int i4)] [] D
noncomputable def k177_265 (w : (Nat → Int32) × Nat) (d : Nat) (i2 : Int32) (i3 : Int32) (i4 : Int32) (D : dy_) : rd_ := qv_ sh_ w.1 w.2 d 177 265 [(0, .ref 351), (2, .int i2), (3, .int i3), (4, .int i4)] [] D
noncomputable def k177_284 (w : (Nat → Int32) × Nat) (d : Nat) (i2 : Int32) (i3 : Int32) (si1 : Int32) (D : dy_) : rd_ := qv_ sh_ w.1 w.2 d 177 284 [(0, .ref 351), (2, .int i2), (3, .int i3)] [.int si1, .ref 351] D
noncomputable def k178_0 (w : (Nat → Int32) × Nat) (d : Nat) (i1 : Int32) (i2 : Int32) (D : dy_) : rd_ := qv_ sh_ w.1 w.2 d 178 0 [(0, .ref 351), (1, .int i1), (2, .int i2)] [] D
noncomputable def k179_0 (w : (Nat → Int32) × Nat) (d : Nat) (i1 : Int32) (D : dy_) : rd_ := qv_ sh_ w.1 w.2 d 179 0 [(0, .ref 351), (1, .int i1)] [] D
noncomputable def k179_4 (w : (Nat → Int32) × Nat) (d : Nat) (i1 : Int32) (i2 : Int32) (i3 : Int32) (D : dy_) : rd_ := qv_ sh_ w.1 w.2 d 179 4 [(0, .ref 351), (1, .int i1), (2, .int i2), (3, .int i3)] [] D
noncomputable def k179_50 (w : (Nat → Int32) × Nat) (d : Nat) (i1 : Int32) (i3 : Int32) (D : dy_) : rd_ := qv_ sh_ w.1 w.2 d 179 50 [(0, .ref 351), (1, .int i1), (3, .int i3)] [] D
noncomputable def k179_51 (w : (Nat → Int32) × Nat) (d : Nat) (i1 : Int32) (i3 : Int32) (si0 : Int32) (D : dy_) : rd_ := qv_ sh_ w.1 w.2 d 179 51 [(0, .ref 351), (1, .int i1), (3, .int i3)] [.int si0] D
noncomputable def k180_0 (w : (Nat → Int32) × Nat) (d : Nat) (i1 : Int32) (D : dy_) : rd_ := qv_ sh_ w.1 w.2 d 180 0 [(0, .ref 351), (1, .int i1)] [] D
noncomputable def k180_4 (w : (Nat → Int32) × Nat) (d : Nat) (i1 : Int32) (i2 : Int32) (i3 : Int32) (D : dy_) : rd_ := qv_ sh_ w.1 w.2 d 180 4 [(0, .ref 351), (1, .int i1), (2, .int i2), (3, .int i3)] [] D
noncomputable def k180_18 (w : (Nat → Int32) × Nat) (d : Nat) (i1 : Int32) (i2 : Int32) (i3 : Int32) (i4 : Int32) (i5 : Int32) (D : dy_) : rd_ := qv_ sh_ w.1 w.2 d 180 18 [(0, .ref 351), (1, .int i1), (2, .int i2), (3, .int i3), (4, .int i4), (5, .int i5)] [] D
noncomputable def k180_70 (w : (Nat → Int32) × Nat) (d : Nat) (i1 : Int32) (i3 : Int32) (D : dy_) : rd_ := qv_ sh_ w.1 w.2 d 180 70 [(0, .ref 351), (1, .int i1), (3, .int i3)] [] D
noncomputable def k180_71 (w : (Nat → Int32) × Nat) (d : Nat) (i1 : Int32) (i3 : Int32) (si0 : Int32) (D : dy_) : rd_ := qv_ sh_ w.1 w.2 d 180 71 [(0, .ref 351), (1, .int i1), (3, .int i3)] [.int si0] D
noncomputable def k181_0 (w : (Nat → Int32) × Nat) (d : Nat)  (D : dy_) : rd_ := qv_ sh_ w.1 w.2 d 181 0 [(0, .ref 351)] [] D
noncomputable def k181_4 (w : (Nat → Int32) × Nat) (d : Nat) (i1 : Int32) (i2 : Int32) (D : dy_) : rd_ := qv_ sh_ w.1 w.2 d 181 4 [(0, .ref 351), (1, .int i1), (2, .int i2)] [] D
noncomputable def k181_14 (w : (Nat → Int32) × Nat) (d : Nat) (i1 : Int32) (i2 : Int32) (i3 : Int32) (D : dy_) : rd_ := qv_ sh_ w.1 w.2 d 181 14 [(0, .ref 351), (1, .int i1), (2, .int i2), (3, .int i3)] [] D
noncomputable def k181_25 (w : (Nat → Int32) × Nat) (d : Nat) (i1 : Int32) (i2 : Int32) (i3 : Int32) (i4 : Int32) (D : dy_) : rd_ := qv_ sh_ w.1 w.2 d 181 25 [(0, .ref 351), (1, .int i1), (2, .int i2), (3, .int i3), (4, .int i4)] [] D
noncomputable def k181_89 (w : (Nat → Int32) × Nat) (d : Nat) (i2 : Int32) (i3 : Int32) (i4 : Int32) (D : dy_) : rd_ := qv_ sh_ w.1 w.2 d 181 89 [(0, .ref 351), (2, .int i2), (3, .int i3), (4, .int i4)] [] D
noncomputable def k181_90 (w : (Nat → Int32) × Nat) (d : Nat) (i2 : Int32) (i3 : Int32) (i4 : Int32) (si0 : Int32) (D : dy_) : rd_ := qv_ sh_ w.1 w.2 d 181 90 [(0, .ref 351), (2, .int i2), (3, .int i3), (4, .int i4)] [.int si0] D
noncomputable def k182_0 (w : (Nat → Int32) × Nat) (d : Nat) (i1 : Int32) (D : dy_) : rd_ := qv_ sh_ w.1 w.2 d 182 0 [(0, .ref 351), (1, .int i1)] [] D
noncomputable def k182_7 (w : (Nat → Int32) × Nat) (d : Nat) (i1 : Int32) (i2 : Int32) (j3 : Int64) (i5 : Int32) (D : dy_) : rd_ := qv_ sh_ w.1 w.2 d 182 7 [(0, .ref 351), (1, .int i1), (2, .int i2), (3, .long j3), (5, .int i5)] [] D
noncomputable def k182_48 (w : (Nat → Int32) × Nat) (d : Nat) (i1 : Int32) (j3 : Int64) (i5 : Int32) (j6 : Int64) (si0 : Int32) (D : dy_) : rd_ := qv_ sh_ w.1 w.2 d 182 48 [(0, .ref 351), (1, .int i1), (3, .long j3), (5, .int i5), (6, .long j6)] [.int si0] D
noncomputable def k183_0 (w : (Nat → Int32) × Nat) (d : Nat) (i1 : Int32) (D : dy_) : rd_ := qv_ sh_ w.1 w.2 d 183 0 [(0, .ref 351), (1, .int i1)] [] D
noncomputable def k183_54 (w : (Nat → Int32) × Nat) (d : Nat) (i1 : Int32) (i2 : Int32) (i3 : Int32) (i4 : Int32) (D : dy_) : rd_ := qv_ sh_ w.1 w.2 d 183 54 [(0, .ref 351), (1, .int i1), (2, .int i2), (3, .int i3), (4, .int i4)] [] D
noncomputable def k183_121 (w : (Nat → Int32) × Nat) (d : Nat) (i1 : Int32) (i2 : Int32) (i3 : Int32) (i4 : Int32) (D : dy_) : rd_ := qv_ sh_ w.1 w.2 d 183 121 [(0, .ref 351), (1, .int i1), (2, .int i2), (3, .int i3), (4, .int i4)] [] D
noncomputable def k183_122 (w : (Nat → Int32) × Nat) (d : Nat) (i1 : Int32) (i2 : Int32) (i3 : Int32) (i4 : Int32) (si0 : Int32) (D : dy_) : rd_ := qv_ sh_ w.1 w.2 d 183 122 [(0, .ref 351), (1, .int i1), (2, .int i2), (3, .int i3), (4, .int i4)] [.int si0] D
noncomputable def k183_136 (w : (Nat → Int32) × Nat) (d : Nat) (i1 : Int32) (i3 : Int32) (i4 : Int32) (si0 : Int32) (D : dy_) : rd_ := qv_ sh_ w.1 w.2 d 183 136 [(0, .ref 351), (1, .int i1), (3, .int i3), (4, .int i4)] [.int si0] D
noncomputable def k183_155 (w : (Nat → Int32) × Nat) (d : Nat) (i1 : Int32) (i2 : Int32) (i4 : Int32) (D : dy_) : rd_ := qv_ sh_ w.1 w.2 d 183 155 [(0, .ref 351), (1, .int i1), (2, .int i2), (4, .int i4)] [] D
noncomputable def k183_159 (w : (Nat → Int32) × Nat) (d : Nat) (i1 : Int32) (i2 : Int32) (i4 : Int32) (D : dy_) : rd_ := qv_ sh_ w.1 w.2 d 183 159 [(0, .ref 351), (1, .int i1), (2, .int i2), (4, .int i4)] [] D
noncomputable def k183_160 (w : (Nat → Int32) × Nat) (d : Nat) (i1 : Int32) (i2 : Int32) (i4 : Int32) (si0 : Int32) (D : dy_) : rd_ := qv_ sh_ w.1 w.2 d 183 160 [(0, .ref 351), (1, .int i1), (2, .int i2), (4, .int i4)] [.int si0] D
noncomputable def k184_0 (w : (Nat → Int32) × Nat) (d : Nat) (j0 : Int64) (D : dy_) : rd_ := qv_ sh_ w.1 w.2 d 184 0 [(0, .long j0)] [] D
noncomputable def k185_0 (w : (Nat → Int32) × Nat) (d : Nat) (r0 : Nat) (j1 : Int64) (D : dy_) : rd_ := qv_ sh_ w.1 w.2 d 185 0 [(0, .ref r0), (1, .long j1)] [] D
noncomputable def k185_6 (w : (Nat → Int32) × Nat) (d : Nat) (r0 : Nat) (j1 : Int64) (i3 : Int32) (i4 : Int32) (D : dy_) : rd_ := qv_ sh_ w.1 w.2 d 185 6 [(0, .ref r0), (1, .long j1), (3, .int i3), (4, .int i4)] [] D
noncomputable def k186_0 (w : (Nat → Int32) × Nat) (d : Nat) (r0 : Nat) (i1 : Int32) (D : dy_) : rd_ := qv_ sh_ w.1 w.2 d 186 0 [(0, .ref r0), (1, .int i1)] [] D
noncomputable def k186_5 (w : (Nat → Int32) × Nat) (d : Nat) (r0 : Nat) (i1 : Int32) (i2 : Int32) (i3 : Int32) (D : dy_) : rd_ := qv_ sh_ w.1 w.2 d 186 5 [(0, .ref r0), (1, .int i1), (2, .int i2), (3, .int i3)] [] D
set_option maxRecDepth 100000 in
set_option maxHeartbeats 4000000 in
theorem e1_0 {w : (Nat → Int32) × Nat} {d : Nat} {r1 : Nat} {r2 : Nat} {D : dy_} (h_r1 : r1 ∈ ml_) (h_r2 : r2 ∈ ml_) : k1_0 w (d + 1) r1 r2 D = op_o (k2_0 w d r1 D) none (fun p1 => op_vN p1.1 none (k1_12 w (d + 1) r1 r2 (nI 0) (dI_ p1.2 41 6 (nI 0)))) := by
  obtain ⟨m1_r1, m2_r1, m3_r1, m4_r1, m5_r1, m6_r1⟩ := mM_ h_r1
  obtain ⟨m1_r2, m2_r2, m3_r2, m4_r2, m5_r2, m6_r2⟩ := mM_ h_r2
  refine (q_1_0 sh_ w.1 w.2 d r1 r2 D).trans ?_
  (try simp only [sf_41, m1_r1, m2_r1, m3_r1, m4_r1, m5_r1, m1_r2, m2_r2, m3_r2, m4_r2, m5_r2, reduceIte, Nat.reduceEqDiff, Nat.add_one_ne_zero, Nat.succ_ne_zero, Nat.add_eq_zero_iff, and_false]) <;> rfl
set_option maxRecDepth 100000 in
set_option maxHeartbeats 4000000 in
theorem e1_12 {w : (Nat → Int32) × Nat} {d : Nat} {r1 : Nat} {r2 : Nat} {i3 : Int32} {D : dy_} (h_r1 : r1 ∈ ml_) (h_r2 : r2 ∈ ml_) : k1_12 w (d + 1) r1 r2 i3 D = if (D.1 41 5) ≤ i3 then (k1_107 w (d + 1) r1 r2 D) else (if (nI 60) < (D.1 41 5) then (k1_107 w (d + 1) r1 r2 D) else (if (nI 60) ≤ (D.1 41 6) then (k1_107 w (d + 1) r1 r2 D) else (if (¬ (nI 0) < 0 ∧ ¬ (nI 0) < 0 ∧ ¬ (D.1 r1 3) < 0) ∧ ((nI 0).toNatClampNeg + (D.1 r1 3).toNatClampNeg ≤ 3600 ∧ (nI 0).toNatClampNeg + (D.1 r1 3).toNatClampNeg ≤ 3600) ∧ mk_ca [] ≤ 8 then (k1_63 w (d + 1) r1 r2 (D.1 41 5) (nI 0) (dC_ D 42 (nI 0).toNatClampNeg 43 (nI 0).toNatClampNeg (D.1 r1 3).toNatClampNeg)) else none))) := by
  obtain ⟨m1_r1, m2_r1, m3_r1, m4_r1, m5_r1, m6_r1⟩ := mM_ h_r1
  obtain ⟨m1_r2, m2_r2, m3_r2, m4_r2, m5_r2, m6_r2⟩ := mM_ h_r2
  refine (q_1_12 sh_ w.1 w.2 d r1 r2 i3 D).trans ?_
  (try simp only [and_self, rf_41_0, rf_41_1, sf_41, sf_42, sf_43, true_and, m1_r1, m2_r1, m3_r1, m4_r1, m5_r1, m1_r2, m2_r2, m3_r2, m4_r2, m5_r2, reduceIte, Nat.reduceEqDiff, Nat.add_one_ne_zero, Nat.succ_ne_zero, Nat.add_eq_zero_iff, and_false]) <;> rfl
set_option maxRecDepth 100000 in
set_option maxHeartbeats 4000000 in
theorem e1_63 {w : (Nat → Int32) × Nat} {d : Nat} {r1 : Nat} {r2 : Nat} {i3 : Int32} {i4 : Int32} {D : dy_} (h_r1 : r1 ∈ ml_) (h_r2 : r2 ∈ ml_) : k1_63 w (d + 1) r1 r2 i3 i4 D = if (D.1 r1 2) ≤ i4 then (k1_94 w (d + 1) r1 r2 i3 D) else (if (nI 60) < (D.1 41 5) then (k1_94 w (d + 1) r1 r2 i3 D) else (op_o (k3_0 w d r1 i4 D) none (fun p1 => op_vN p1.1 none (k1_63 w (d + 1) r1 r2 i3 (i4 + (nI 1)) p1.2)))) := by
  obtain ⟨m1_r1, m2_r1, m3_r1, m4_r1, m5_r1, m6_r1⟩ := mM_ h_r1
  obtain ⟨m1_r2, m2_r2, m3_r2, m4_r2, m5_r2, m6_r2⟩ := mM_ h_r2
  refine (q_1_63 sh_ w.1 w.2 d r1 r2 i3 i4 D).trans ?_
  (try simp only [sf_41, m1_r1, m2_r1, m3_r1, m4_r1, m5_r1, m1_r2, m2_r2, m3_r2, m4_r2, m5_r2, reduceIte, Nat.reduceEqDiff, Nat.add_one_ne_zero, Nat.succ_ne_zero, Nat.add_eq_zero_iff, and_false]) <;> rfl
set_option maxRecDepth 100000 in
set_option maxHeartbeats 4000000 in
theorem e1_94 {w : (Nat → Int32) × Nat} {d : Nat} {r1 : Nat} {r2 : Nat} {i3 : Int32} {D : dy_} (h_r1 : r1 ∈ ml_) (h_r2 : r2 ∈ ml_) : k1_94 w (d + 1) r1 r2 i3 D = k1_12 w (d + 1) r1 r2 i3 (dI_ D 41 6 ((D.1 41 6) + (nI 1))) := by
  obtain ⟨m1_r1, m2_r1, m3_r1, m4_r1, m5_r1, m6_r1⟩ := mM_ h_r1
  obtain ⟨m1_r2, m2_r2, m3_r2, m4_r2, m5_r2, m6_r2⟩ := mM_ h_r2
  refine (q_1_94 sh_ w.1 w.2 d r1 r2 i3 D).trans ?_
  (try simp only [sf_41, m1_r1, m2_r1, m3_r1, m4_r1, m5_r1, m1_r2, m2_r2, m3_r2, m4_r2, m5_r2, reduceIte, Nat.reduceEqDiff, Nat.add_one_ne_zero, Nat.succ_ne_zero, Nat.add_eq_zero_iff, and_false]) <;> rfl
set_option maxRecDepth 100000 in
set_option maxHeartbeats 4000000 in
theorem e1_107 {w : (Nat → Int32) × Nat} {d : Nat} {r1 : Nat} {r2 : Nat} {D : dy_} (h_r1 : r1 ∈ ml_) (h_r2 : r2 ∈ ml_) : k1_107 w (d + 1) r1 r2 D = if (D.1 41 5) ≤ (nI 60) then (op_o (k4_0 w d r1 r2 D) none (fun p1 => op_vN p1.1 none (some (some (.int (p1.2.1 41 5)), p1.2)))) else (some (some (.int (-104)), D)) := by
  obtain ⟨m1_r1, m2_r1, m3_r1, m4_r1, m5_r1, m6_r1⟩ := mM_ h_r1
  obtain ⟨m1_r2, m2_r2, m3_r2, m4_r2, m5_r2, m6_r2⟩ := mM_ h_r2
  refine (q_1_107 sh_ w.1 w.2 d r1 r2 D).trans ?_
  (try simp only [sf_41, m1_r1, m2_r1, m3_r1, m4_r1, m5_r1, m1_r2, m2_r2, m3_r2, m4_r2, m5_r2, reduceIte, Nat.reduceEqDiff, Nat.add_one_ne_zero, Nat.succ_ne_zero, Nat.add_eq_zero_iff, and_false]) <;> rfl
set_option maxRecDepth 100000 in
set_option maxHeartbeats 4000000 in
theorem e2_0 {w : (Nat → Int32) × Nat} {d : Nat} {r1 : Nat} {D : dy_} (h_r1 : r1 ∈ ml_) : k2_0 w (d + 1) r1 D = k2_7 w (d + 1) r1 (nI 0) (dI_ D 41 5 (nI 1)) := by
  obtain ⟨m1_r1, m2_r1, m3_r1, m4_r1, m5_r1, m6_r1⟩ := mM_ h_r1
  refine (q_2_0 sh_ w.1 w.2 d r1 D).trans ?_
  (try simp only [sf_41, m1_r1, m2_r1, m3_r1, m4_r1, m5_r1, reduceIte, Nat.reduceEqDiff, Nat.add_one_ne_zero, Nat.succ_ne_zero, Nat.add_eq_zero_iff, and_false]) <;> rfl
set_option maxRecDepth 100000 in
set_option maxHeartbeats 4000000 in
theorem e2_7 {w : (Nat → Int32) × Nat} {d : Nat} {r1 : Nat} {i2 : Int32} {D : dy_} (h_r1 : r1 ∈ ml_) : k2_7 w (d + 1) r1 i2 D = if (D.1 r1 3) ≤ i2 then (some (none, D)) else (mk_inb i2 (cap_ r1) none (mk_inb (nI 0) (cap_ r1) none (if (D.1 (r1 + 2) i2.toNatClampNeg) = (D.1 (r1 + 2) (nI 0).toNatClampNeg) then (k2_40 w (d + 1) r1 i2 42 i2 (nI 0) D) else (k2_40 w (d + 1) r1 i2 42 i2 (nI 1) D)))) := by
  obtain ⟨m1_r1, m2_r1, m3_r1, m4_r1, m5_r1, m6_r1⟩ := mM_ h_r1
  refine (q_2_7 sh_ w.1 w.2 d r1 i2 D).trans ?_
  (try simp only [rf_41_0, sf_41, m1_r1, m2_r1, m3_r1, m4_r1, m5_r1, reduceIte, Nat.reduceEqDiff, Nat.add_one_ne_zero, Nat.succ_ne_zero, Nat.add_eq_zero_iff, and_false]) <;> rfl
set_option maxRecDepth 100000 in
set_option maxHeartbeats 4000000 in
theorem e2_40 {w : (Nat → Int32) × Nat} {d : Nat} {r1 : Nat} {i2 : Int32} {sr0 : Nat} {si1 : Int32} {si2 : Int32} {D : dy_} (h_r1 : r1 ∈ ml_) : k2_40 w (d + 1) r1 i2 sr0 si1 si2 D = op_o (k105_0 w d si2 D) none (fun p1 => op_vI p1.1 none (fun n1 => if (sh_.1 sr0).1 = 1 then (mk_inb si1 (sh_.1 sr0).2 none (mk_inb i2 3600 none (if ((dI_ p1.2 sr0 si1.toNatClampNeg n1).1 42 i2.toNatClampNeg) ≠ (nI 1) then (k2_59 w (d + 1) r1 i2 (dI_ p1.2 sr0 si1.toNatClampNeg n1)) else (k2_59 w (d + 1) r1 i2 (dI_ (dI_ p1.2 sr0 si1.toNatClampNeg n1) 41 5 (nI 2)))))) else none)) := by
  obtain ⟨m1_r1, m2_r1, m3_r1, m4_r1, m5_r1, m6_r1⟩ := mM_ h_r1
  refine (q_2_40 sh_ w.1 w.2 d r1 i2 sr0 si1 si2 D).trans ?_
  (try simp only [rf_41_0, sf_41, sf_42, m1_r1, m2_r1, m3_r1, m4_r1, m5_r1, reduceIte, Nat.reduceEqDiff, Nat.add_one_ne_zero, Nat.succ_ne_zero, Nat.add_eq_zero_iff, and_false]) <;> rfl
set_option maxRecDepth 100000 in
set_option maxHeartbeats 4000000 in
theorem e2_59 {w : (Nat → Int32) × Nat} {d : Nat} {r1 : Nat} {i2 : Int32} {D : dy_} (h_r1 : r1 ∈ ml_) : k2_59 w (d + 1) r1 i2 D = k2_7 w (d + 1) r1 (i2 + (nI 1)) D := by
  obtain ⟨m1_r1, m2_r1, m3_r1, m4_r1, m5_r1, m6_r1⟩ := mM_ h_r1
  refine (q_2_59 sh_ w.1 w.2 d r1 i2 D).trans ?_
  (try simp only [m1_r1, m2_r1, m3_r1, m4_r1, m5_r1, reduceIte, Nat.reduceEqDiff, Nat.add_one_ne_zero, Nat.succ_ne_zero, Nat.add_eq_zero_iff, and_false]) <;> rfl
set_option maxRecDepth 100000 in
set_option maxHeartbeats 4000000 in
theorem e3_0 {w : (Nat → Int32) × Nat} {d : Nat} {r1 : Nat} {i2 : Int32} {D : dy_} (h_r1 : r1 ∈ ml_) : k3_0 w (d + 1) r1 i2 D = k3_15 w (d + 1) r1 i2 (nI 0) (nI 0) (dI_ D 41 4 ((D.1 41 4) + (nI 1))) := by
  obtain ⟨m1_r1, m2_r1, m3_r1, m4_r1, m5_r1, m6_r1⟩ := mM_ h_r1
  refine (q_3_0 sh_ w.1 w.2 d r1 i2 D).trans ?_
  (try simp only [sf_41, m1_r1, m2_r1, m3_r1, m4_r1, m5_r1, reduceIte, Nat.reduceEqDiff, Nat.add_one_ne_zero, Nat.succ_ne_zero, Nat.add_eq_zero_iff, and_false]) <;> rfl
set_option maxRecDepth 100000 in
set_option maxHeartbeats 4000000 in
theorem e3_15 {w : (Nat → Int32) × Nat} {d : Nat} {r1 : Nat} {i2 : Int32} {i3 : Int32} {i4 : Int32} {D : dy_} (h_r1 : r1 ∈ ml_) : k3_15 w (d + 1) r1 i2 i3 i4 D = if (D.1 r1 3) ≤ i4 then (some (none, (dI_ D 41 5 i3))) else (if (nI 60) < i3 then (some (none, (dI_ D 41 5 i3))) else (mk_inb i4 3600 none (mk_inb ((i4 * (D.1 r1 2)) + i2) (4 * cap_ r1) none (mk_inb (D.1 (r1 + 1) ((i4 * (D.1 r1 2)) + i2).toNatClampNeg) 3600 none (mk_inb (((D.1 42 i4.toNatClampNeg) <<< ((nI 6) &&& 31)) ||| (D.1 43 (D.1 (r1 + 1) ((i4 * (D.1 r1 2)) + i2).toNatClampNeg).toNatClampNeg)) 3840 none (if (D.1 44 (((D.1 42 i4.toNatClampNeg) <<< ((nI 6) &&& 31)) ||| (D.1 43 (D.1 (r1 + 1) ((i4 * (D.1 r1 2)) + i2).toNatClampNeg).toNatClampNeg)).toNatClampNeg) = (D.1 41 4) then (k3_98 w (d + 1) r1 i2 i3 i4 (((D.1 42 i4.toNatClampNeg) <<< ((nI 6) &&& 31)) ||| (D.1 43 (D.1 (r1 + 1) ((i4 * (D.1 r1 2)) + i2).toNatClampNeg).toNatClampNeg)) D) else (mk_inb (((D.1 42 i4.toNatClampNeg) <<< ((nI 6) &&& 31)) ||| (D.1 43 (D.1 (r1 + 1) ((i4 * (D.1 r1 2)) + i2).toNatClampNeg).toNatClampNeg)) 3840 none (mk_inb (((D.1 42 i4.toNatClampNeg) <<< ((nI 6) &&& 31)) ||| (D.1 43 (D.1 (r1 + 1) ((i4 * (D.1 r1 2)) + i2).toNatClampNeg).toNatClampNeg)) 3840 none (k3_98 w (d + 1) r1 i2 (i3 + (nI 1)) i4 (((D.1 42 i4.toNatClampNeg) <<< ((nI 6) &&& 31)) ||| (D.1 43 (D.1 (r1 + 1) ((i4 * (D.1 r1 2)) + i2).toNatClampNeg).toNatClampNeg)) (dI_ (dI_ D 44 (((D.1 42 i4.toNatClampNeg) <<< ((nI 6) &&& 31)) ||| (D.1 43 (D.1 (r1 + 1) ((i4 * (D.1 r1 2)) + i2).toNatClampNeg).toNatClampNeg)).toNatClampNeg (D.1 41 4)) 45 (((D.1 42 i4.toNatClampNeg) <<< ((nI 6) &&& 31)) ||| (D.1 43 (D.1 (r1 + 1) ((i4 * (D.1 r1 2)) + i2).toNatClampNeg).toNatClampNeg)).toNatClampNeg i3)))))))))) := by
  obtain ⟨m1_r1, m2_r1, m3_r1, m4_r1, m5_r1, m6_r1⟩ := mM_ h_r1
  refine (q_3_15 sh_ w.1 w.2 d r1 i2 i3 i4 D).trans ?_
  (try simp only [rf_41_0, rf_41_1, rf_41_2, rf_41_3, sf_41, sf_42, sf_43, sf_44, sf_45, m1_r1, m2_r1, m3_r1, m4_r1, m5_r1, reduceIte, Nat.reduceEqDiff, Nat.add_one_ne_zero, Nat.succ_ne_zero, Nat.add_eq_zero_iff, and_false]) <;> rfl
set_option maxRecDepth 100000 in
set_option maxHeartbeats 4000000 in
theorem e3_98 {w : (Nat → Int32) × Nat} {d : Nat} {r1 : Nat} {i2 : Int32} {i3 : Int32} {i4 : Int32} {i5 : Int32} {D : dy_} (h_r1 : r1 ∈ ml_) : k3_98 w (d + 1) r1 i2 i3 i4 i5 D = mk_inb i5 3840 none (mk_inb i4 3600 none (k3_15 w (d + 1) r1 i2 i3 (i4 + (nI 1)) (dI_ D 42 i4.toNatClampNeg (D.1 45 i5.toNatClampNeg)))) := by
  obtain ⟨m1_r1, m2_r1, m3_r1, m4_r1, m5_r1, m6_r1⟩ := mM_ h_r1
  refine (q_3_98 sh_ w.1 w.2 d r1 i2 i3 i4 i5 D).trans ?_
  (try simp only [rf_41_0, rf_41_3, sf_41, sf_42, sf_45, m1_r1, m2_r1, m3_r1, m4_r1, m5_r1, reduceIte, Nat.reduceEqDiff, Nat.add_one_ne_zero, Nat.succ_ne_zero, Nat.add_eq_zero_iff, and_false]) <;> rfl
set_option maxRecDepth 100000 in
set_option maxHeartbeats 4000000 in
theorem e4_0 {w : (Nat → Int32) × Nat} {d : Nat} {r1 : Nat} {r2 : Nat} {D : dy_} (h_r1 : r1 ∈ ml_) (h_r2 : r2 ∈ ml_) : k4_0 w (d + 1) r1 r2 D = k4_26 w (d + 1) r1 r2 (nI 0) (nI 0) (dI_ (dI_ (dI_ D r2 2 (D.1 r1 2)) r2 3 ((dI_ D r2 2 (D.1 r1 2)).1 41 5)) r2 4 (nI 0)) := by
  obtain ⟨m1_r1, m2_r1, m3_r1, m4_r1, m5_r1, m6_r1⟩ := mM_ h_r1
  obtain ⟨m1_r2, m2_r2, m3_r2, m4_r2, m5_r2, m6_r2⟩ := mM_ h_r2
  refine (q_4_0 sh_ w.1 w.2 d r1 r2 D).trans ?_
  (try simp only [sf_41, m1_r1, m2_r1, m3_r1, m4_r1, m5_r1, m1_r2, m2_r2, m3_r2, m4_r2, m5_r2, reduceIte, Nat.reduceEqDiff, Nat.add_one_ne_zero, Nat.succ_ne_zero, Nat.add_eq_zero_iff, and_false]) <;> rfl
set_option maxRecDepth 100000 in
set_option maxHeartbeats 4000000 in
theorem e4_26 {w : (Nat → Int32) × Nat} {d : Nat} {r1 : Nat} {r2 : Nat} {i3 : Int32} {i4 : Int32} {D : dy_} (h_r1 : r1 ∈ ml_) (h_r2 : r2 ∈ ml_) : k4_26 w (d + 1) r1 r2 i3 i4 D = if (D.1 r1 3) ≤ i4 then (some (none, D)) else (if (D.1 41 5) ≤ i3 then (some (none, D)) else (mk_inb i4 3600 none (if (D.1 42 i4.toNatClampNeg) ≠ i3 then (k4_108 w (d + 1) r1 r2 i3 i4 D) else (mk_inb i4 (cap_ r1) none (mk_inb i3 (cap_ r2) none (k4_70 w (d + 1) r1 r2 i3 i4 (nI 0) (dI_ D (r2 + 2) i3.toNatClampNeg (vp_nar .boolean (D.1 (r1 + 2) i4.toNatClampNeg))))))))) := by
  obtain ⟨m1_r1, m2_r1, m3_r1, m4_r1, m5_r1, m6_r1⟩ := mM_ h_r1
  obtain ⟨m1_r2, m2_r2, m3_r2, m4_r2, m5_r2, m6_r2⟩ := mM_ h_r2
  refine (q_4_26 sh_ w.1 w.2 d r1 r2 i3 i4 D).trans ?_
  (try simp only [rf_41_0, sf_41, sf_42, m1_r1, m2_r1, m3_r1, m4_r1, m5_r1, m1_r2, m2_r2, m3_r2, m4_r2, m5_r2, reduceIte, Nat.reduceEqDiff, Nat.add_one_ne_zero, Nat.succ_ne_zero, Nat.add_eq_zero_iff, and_false]) <;> rfl
set_option maxRecDepth 100000 in
set_option maxHeartbeats 4000000 in
theorem e4_70 {w : (Nat → Int32) × Nat} {d : Nat} {r1 : Nat} {r2 : Nat} {i3 : Int32} {i4 : Int32} {i5 : Int32} {D : dy_} (h_r1 : r1 ∈ ml_) (h_r2 : r2 ∈ ml_) : k4_70 w (d + 1) r1 r2 i3 i4 i5 D = if (D.1 r1 2) ≤ i5 then (k4_108 w (d + 1) r1 r2 (i3 + (nI 1)) i4 D) else (op_o (k9_0 w d r1 i4 i5 D) none (fun p1 => op_vI p1.1 none (fun n1 => mk_inb n1 3600 none (op_o (k10_0 w d r2 i3 i5 (p1.2.1 42 n1.toNatClampNeg) p1.2) none (fun p2 => op_vN p2.1 none (k4_70 w (d + 1) r1 r2 i3 i4 (i5 + (nI 1)) p2.2)))))) := by
  obtain ⟨m1_r1, m2_r1, m3_r1, m4_r1, m5_r1, m6_r1⟩ := mM_ h_r1
  obtain ⟨m1_r2, m2_r2, m3_r2, m4_r2, m5_r2, m6_r2⟩ := mM_ h_r2
  refine (q_4_70 sh_ w.1 w.2 d r1 r2 i3 i4 i5 D).trans ?_
  (try simp only [rf_41_0, sf_41, sf_42, m1_r1, m2_r1, m3_r1, m4_r1, m5_r1, m1_r2, m2_r2, m3_r2, m4_r2, m5_r2, reduceIte, Nat.reduceEqDiff, Nat.add_one_ne_zero, Nat.succ_ne_zero, Nat.add_eq_zero_iff, and_false]) <;> rfl
set_option maxRecDepth 100000 in
set_option maxHeartbeats 4000000 in
theorem e4_108 {w : (Nat → Int32) × Nat} {d : Nat} {r1 : Nat} {r2 : Nat} {i3 : Int32} {i4 : Int32} {D : dy_} (h_r1 : r1 ∈ ml_) (h_r2 : r2 ∈ ml_) : k4_108 w (d + 1) r1 r2 i3 i4 D = k4_26 w (d + 1) r1 r2 i3 (i4 + (nI 1)) D := by
  obtain ⟨m1_r1, m2_r1, m3_r1, m4_r1, m5_r1, m6_r1⟩ := mM_ h_r1
  obtain ⟨m1_r2, m2_r2, m3_r2, m4_r2, m5_r2, m6_r2⟩ := mM_ h_r2
  refine (q_4_108 sh_ w.1 w.2 d r1 r2 i3 i4 D).trans ?_
  (try simp only [m1_r1, m2_r1, m3_r1, m4_r1, m5_r1, m1_r2, m2_r2, m3_r2, m4_r2, m5_r2, reduceIte, Nat.reduceEqDiff, Nat.add_one_ne_zero, Nat.succ_ne_zero, Nat.add_eq_zero_iff, and_false]) <;> rfl
set_option maxRecDepth 100000 in
set_option maxHeartbeats 4000000 in
theorem e6_0 {w : (Nat → Int32) × Nat} {d : Nat} {r0 : Nat} {i1 : Int32} {i2 : Int32} {D : dy_} (h_r0 : r0 ∈ ml_) : k6_0 w (d + 1) r0 i1 i2 D = k6_17 w (d + 1) r0 i2 (nI 0) (dI_ (dI_ (dI_ D r0 2 i1) r0 3 i2) r0 4 (nI 0)) := by
  obtain ⟨m1_r0, m2_r0, m3_r0, m4_r0, m5_r0, m6_r0⟩ := mM_ h_r0
  refine (q_6_0 sh_ w.1 w.2 d r0 i1 i2 D).trans ?_
  (try simp only [m1_r0, m2_r0, m3_r0, m4_r0, m5_r0, reduceIte, Nat.reduceEqDiff, Nat.add_one_ne_zero, Nat.succ_ne_zero, Nat.add_eq_zero_iff, and_false]) <;> rfl
set_option maxRecDepth 100000 in
set_option maxHeartbeats 4000000 in
theorem e6_17 {w : (Nat → Int32) × Nat} {d : Nat} {r0 : Nat} {i2 : Int32} {i3 : Int32} {D : dy_} (h_r0 : r0 ∈ ml_) : k6_17 w (d + 1) r0 i2 i3 D = if i2 ≤ i3 then (some (none, D)) else (mk_inb i3 (cap_ r0) none (op_o (k11_0 w d r0 i3 i3 (dI_ D (r0 + 2) i3.toNatClampNeg (vp_nar .boolean (nI 0)))) none (fun p1 => op_vN p1.1 none (k6_17 w (d + 1) r0 i2 (i3 + (nI 1)) p1.2)))) := by
  obtain ⟨m1_r0, m2_r0, m3_r0, m4_r0, m5_r0, m6_r0⟩ := mM_ h_r0
  refine (q_6_17 sh_ w.1 w.2 d r0 i2 i3 D).trans ?_
  (try simp only [m1_r0, m2_r0, m3_r0, m4_r0, m5_r0, reduceIte, Nat.reduceEqDiff, Nat.add_one_ne_zero, Nat.succ_ne_zero, Nat.add_eq_zero_iff, and_false]) <;> rfl
set_option maxRecDepth 100000 in
set_option maxHeartbeats 4000000 in
theorem e7_0 {w : (Nat → Int32) × Nat} {d : Nat} {r0 : Nat} {i1 : Int32} {D : dy_} (h_r0 : r0 ∈ ml_) : k7_0 w (d + 1) r0 i1 D = if i1 < (nI 0) then (some (some (.int (nI 0)), D)) else (if (D.1 r0 3) ≤ i1 then (some (some (.int (nI 0)), D)) else (some (some (.int (nI 1)), D))) := by
  obtain ⟨m1_r0, m2_r0, m3_r0, m4_r0, m5_r0, m6_r0⟩ := mM_ h_r0
  refine (q_7_0 sh_ w.1 w.2 d r0 i1 D).trans ?_
  (try simp only [m1_r0, m2_r0, m3_r0, m4_r0, m5_r0, reduceIte, Nat.reduceEqDiff, Nat.add_one_ne_zero, Nat.succ_ne_zero, Nat.add_eq_zero_iff, and_false]) <;> rfl
set_option maxRecDepth 100000 in
set_option maxHeartbeats 4000000 in
theorem e8_0 {w : (Nat → Int32) × Nat} {d : Nat} {r0 : Nat} {i1 : Int32} {D : dy_} (h_r0 : r0 ∈ ml_) : k8_0 w (d + 1) r0 i1 D = if i1 < (nI 0) then (some (some (.int (nI 0)), D)) else (if (D.1 r0 2) ≤ i1 then (some (some (.int (nI 0)), D)) else (some (some (.int (nI 1)), D))) := by
  obtain ⟨m1_r0, m2_r0, m3_r0, m4_r0, m5_r0, m6_r0⟩ := mM_ h_r0
  refine (q_8_0 sh_ w.1 w.2 d r0 i1 D).trans ?_
  (try simp only [m1_r0, m2_r0, m3_r0, m4_r0, m5_r0, reduceIte, Nat.reduceEqDiff, Nat.add_one_ne_zero, Nat.succ_ne_zero, Nat.add_eq_zero_iff, and_false]) <;> rfl
set_option maxRecDepth 100000 in
set_option maxHeartbeats 4000000 in
theorem e9_0 {w : (Nat → Int32) × Nat} {d : Nat} {r0 : Nat} {i1 : Int32} {i2 : Int32} {D : dy_} (h_r0 : r0 ∈ ml_) : k9_0 w (d + 1) r0 i1 i2 D = mk_inb ((i1 * (D.1 r0 2)) + i2) (4 * cap_ r0) none (some (some (.int (D.1 (r0 + 1) ((i1 * (D.1 r0 2)) + i2).toNatClampNeg)), D)) := by
  obtain ⟨m1_r0, m2_r0, m3_r0, m4_r0, m5_r0, m6_r0⟩ := mM_ h_r0
  refine (q_9_0 sh_ w.1 w.2 d r0 i1 i2 D).trans ?_
  (try simp only [m1_r0, m2_r0, m3_r0, m4_r0, m5_r0, reduceIte, Nat.reduceEqDiff, Nat.add_one_ne_zero, Nat.succ_ne_zero, Nat.add_eq_zero_iff, and_false]) <;> rfl
set_option maxRecDepth 100000 in
set_option maxHeartbeats 4000000 in
theorem e10_0 {w : (Nat → Int32) × Nat} {d : Nat} {r0 : Nat} {i1 : Int32} {i2 : Int32} {i3 : Int32} {D : dy_} (h_r0 : r0 ∈ ml_) : k10_0 w (d + 1) r0 i1 i2 i3 D = mk_inb ((i1 * (D.1 r0 2)) + i2) (4 * cap_ r0) none (some (none, (dI_ D (r0 + 1) ((i1 * (D.1 r0 2)) + i2).toNatClampNeg i3))) := by
  obtain ⟨m1_r0, m2_r0, m3_r0, m4_r0, m5_r0, m6_r0⟩ := mM_ h_r0
  refine (q_10_0 sh_ w.1 w.2 d r0 i1 i2 i3 D).trans ?_
  (try simp only [m1_r0, m2_r0, m3_r0, m4_r0, m5_r0, reduceIte, Nat.reduceEqDiff, Nat.add_one_ne_zero, Nat.succ_ne_zero, Nat.add_eq_zero_iff, and_false]) <;> rfl
set_option maxRecDepth 100000 in
set_option maxHeartbeats 4000000 in
theorem e11_0 {w : (Nat → Int32) × Nat} {d : Nat} {r0 : Nat} {i1 : Int32} {i2 : Int32} {D : dy_} (h_r0 : r0 ∈ ml_) : k11_0 w (d + 1) r0 i1 i2 D = k11_2 w (d + 1) r0 i1 i2 (nI 0) D := by
  obtain ⟨m1_r0, m2_r0, m3_r0, m4_r0, m5_r0, m6_r0⟩ := mM_ h_r0
  refine (q_11_0 sh_ w.1 w.2 d r0 i1 i2 D).trans ?_
  (try simp only [m1_r0, m2_r0, m3_r0, m4_r0, m5_r0, reduceIte, Nat.reduceEqDiff, Nat.add_one_ne_zero, Nat.succ_ne_zero, Nat.add_eq_zero_iff, and_false]) <;> rfl
set_option maxRecDepth 100000 in
set_option maxHeartbeats 4000000 in
theorem e11_2 {w : (Nat → Int32) × Nat} {d : Nat} {r0 : Nat} {i1 : Int32} {i2 : Int32} {i3 : Int32} {D : dy_} (h_r0 : r0 ∈ ml_) : k11_2 w (d + 1) r0 i1 i2 i3 D = if (D.1 r0 2) ≤ i3 then (some (none, D)) else (op_o (k10_0 w d r0 i1 i3 i2 D) none (fun p1 => op_vN p1.1 none (k11_2 w (d + 1) r0 i1 i2 (i3 + (nI 1)) p1.2))) := by
  obtain ⟨m1_r0, m2_r0, m3_r0, m4_r0, m5_r0, m6_r0⟩ := mM_ h_r0
  refine (q_11_2 sh_ w.1 w.2 d r0 i1 i2 i3 D).trans ?_
  (try simp only [m1_r0, m2_r0, m3_r0, m4_r0, m5_r0, reduceIte, Nat.reduceEqDiff, Nat.add_one_ne_zero, Nat.succ_ne_zero, Nat.add_eq_zero_iff, and_false]) <;> rfl
set_option maxRecDepth 100000 in
set_option maxHeartbeats 4000000 in
theorem e12_0 {w : (Nat → Int32) × Nat} {d : Nat} {r0 : Nat} {D : dy_} (h_r0 : r0 ∈ ml_) : k12_0 w (d + 1) r0 D = k12_4 w (d + 1) r0 (nI 0) (nI 0) D := by
  obtain ⟨m1_r0, m2_r0, m3_r0, m4_r0, m5_r0, m6_r0⟩ := mM_ h_r0
  refine (q_12_0 sh_ w.1 w.2 d r0 D).trans ?_
  (try simp only [m1_r0, m2_r0, m3_r0, m4_r0, m5_r0, reduceIte, Nat.reduceEqDiff, Nat.add_one_ne_zero, Nat.succ_ne_zero, Nat.add_eq_zero_iff, and_false]) <;> rfl
set_option maxRecDepth 100000 in
set_option maxHeartbeats 4000000 in
theorem e12_4 {w : (Nat → Int32) × Nat} {d : Nat} {r0 : Nat} {i1 : Int32} {i2 : Int32} {D : dy_} (h_r0 : r0 ∈ ml_) : k12_4 w (d + 1) r0 i1 i2 D = if (D.1 r0 3) ≤ i2 then (some (some (.int i1), D)) else (mk_inb i2 (cap_ r0) none (if (D.1 (r0 + 2) i2.toNatClampNeg) = (nI 0) then (k12_24 w (d + 1) r0 i1 i2 D) else (k12_24 w (d + 1) r0 (i1 + (nI 1)) i2 D))) := by
  obtain ⟨m1_r0, m2_r0, m3_r0, m4_r0, m5_r0, m6_r0⟩ := mM_ h_r0
  refine (q_12_4 sh_ w.1 w.2 d r0 i1 i2 D).trans ?_
  (try simp only [m1_r0, m2_r0, m3_r0, m4_r0, m5_r0, reduceIte, Nat.reduceEqDiff, Nat.add_one_ne_zero, Nat.succ_ne_zero, Nat.add_eq_zero_iff, and_false]) <;> rfl
set_option maxRecDepth 100000 in
set_option maxHeartbeats 4000000 in
theorem e12_24 {w : (Nat → Int32) × Nat} {d : Nat} {r0 : Nat} {i1 : Int32} {i2 : Int32} {D : dy_} (h_r0 : r0 ∈ ml_) : k12_24 w (d + 1) r0 i1 i2 D = k12_4 w (d + 1) r0 i1 (i2 + (nI 1)) D := by
  obtain ⟨m1_r0, m2_r0, m3_r0, m4_r0, m5_r0, m6_r0⟩ := mM_ h_r0
  refine (q_12_24 sh_ w.1 w.2 d r0 i1 i2 D).trans ?_
  (try simp only [m1_r0, m2_r0, m3_r0, m4_r0, m5_r0, reduceIte, Nat.reduceEqDiff, Nat.add_one_ne_zero, Nat.succ_ne_zero, Nat.add_eq_zero_iff, and_false]) <;> rfl
set_option maxRecDepth 100000 in
set_option maxHeartbeats 4000000 in
theorem e13_0 {w : (Nat → Int32) × Nat} {d : Nat} {r0 : Nat} {D : dy_} (h_r0 : r0 ∈ ml_) : k13_0 w (d + 1) r0 D = k13_4 w (d + 1) r0 (lN 0) (nI 0) D := by
  obtain ⟨m1_r0, m2_r0, m3_r0, m4_r0, m5_r0, m6_r0⟩ := mM_ h_r0
  refine (q_13_0 sh_ w.1 w.2 d r0 D).trans ?_
  (try simp only [m1_r0, m2_r0, m3_r0, m4_r0, m5_r0, reduceIte, Nat.reduceEqDiff, Nat.add_one_ne_zero, Nat.succ_ne_zero, Nat.add_eq_zero_iff, and_false]) <;> rfl
set_option maxRecDepth 100000 in
set_option maxHeartbeats 4000000 in
theorem e13_4 {w : (Nat → Int32) × Nat} {d : Nat} {r0 : Nat} {j1 : Int64} {i3 : Int32} {D : dy_} (h_r0 : r0 ∈ ml_) : k13_4 w (d + 1) r0 j1 i3 D = if (D.1 r0 3) ≤ i3 then (some (some (.long j1), D)) else (mk_inb i3 (cap_ r0) none (if (D.1 (r0 + 2) i3.toNatClampNeg) = (nI 0) then (k13_27 w (d + 1) r0 j1 i3 D) else (k13_27 w (d + 1) r0 (j1 ||| ((lN 1) <<< (i3.toInt64 &&& 63))) i3 D))) := by
  obtain ⟨m1_r0, m2_r0, m3_r0, m4_r0, m5_r0, m6_r0⟩ := mM_ h_r0
  refine (q_13_4 sh_ w.1 w.2 d r0 j1 i3 D).trans ?_
  (try simp only [m1_r0, m2_r0, m3_r0, m4_r0, m5_r0, reduceIte, Nat.reduceEqDiff, Nat.add_one_ne_zero, Nat.succ_ne_zero, Nat.add_eq_zero_iff, and_false]) <;> rfl
set_option maxRecDepth 100000 in
set_option maxHeartbeats 4000000 in
theorem e13_27 {w : (Nat → Int32) × Nat} {d : Nat} {r0 : Nat} {j1 : Int64} {i3 : Int32} {D : dy_} (h_r0 : r0 ∈ ml_) : k13_27 w (d + 1) r0 j1 i3 D = k13_4 w (d + 1) r0 j1 (i3 + (nI 1)) D := by
  obtain ⟨m1_r0, m2_r0, m3_r0, m4_r0, m5_r0, m6_r0⟩ := mM_ h_r0
  refine (q_13_27 sh_ w.1 w.2 d r0 j1 i3 D).trans ?_
  (try simp only [m1_r0, m2_r0, m3_r0, m4_r0, m5_r0, reduceIte, Nat.reduceEqDiff, Nat.add_one_ne_zero, Nat.succ_ne_zero, Nat.add_eq_zero_iff, and_false]) <;> rfl
set_option maxRecDepth 100000 in
set_option maxHeartbeats 4000000 in
theorem e14_0 {w : (Nat → Int32) × Nat} {d : Nat} {r0 : Nat} {r1 : Nat} {D : dy_} (h_r0 : r0 ∈ ml_) (h_r1 : r1 ∈ ml_) : k14_0 w (d + 1) r0 r1 D = if (D.1 r1 3) ≤ (nI (cap_ r0)) then (if (¬ (nI 0) < 0 ∧ ¬ (nI 0) < 0 ∧ ¬ (((dI_ (dI_ (dI_ D r0 2 (D.1 r1 2)) r0 3 ((dI_ D r0 2 (D.1 r1 2)).1 r1 3)) r0 4 ((dI_ (dI_ D r0 2 (D.1 r1 2)) r0 3 ((dI_ D r0 2 (D.1 r1 2)).1 r1 3)).1 r1 4)).1 r0 3) * ((dI_ (dI_ (dI_ D r0 2 (D.1 r1 2)) r0 3 ((dI_ D r0 2 (D.1 r1 2)).1 r1 3)) r0 4 ((dI_ (dI_ D r0 2 (D.1 r1 2)) r0 3 ((dI_ D r0 2 (D.1 r1 2)).1 r1 3)).1 r1 4)).1 r0 2)) < 0) ∧ ((nI 0).toNatClampNeg + (((dI_ (dI_ (dI_ D r0 2 (D.1 r1 2)) r0 3 ((dI_ D r0 2 (D.1 r1 2)).1 r1 3)) r0 4 ((dI_ (dI_ D r0 2 (D.1 r1 2)) r0 3 ((dI_ D r0 2 (D.1 r1 2)).1 r1 3)).1 r1 4)).1 r0 3) * ((dI_ (dI_ (dI_ D r0 2 (D.1 r1 2)) r0 3 ((dI_ D r0 2 (D.1 r1 2)).1 r1 3)) r0 4 ((dI_ (dI_ D r0 2 (D.1 r1 2)) r0 3 ((dI_ D r0 2 (D.1 r1 2)).1 r1 3)).1 r1 4)).1 r0 2)).toNatClampNeg ≤ (4 * cap_ r1) ∧ (nI 0).toNatClampNeg + (((dI_ (dI_ (dI_ D r0 2 (D.1 r1 2)) r0 3 ((dI_ D r0 2 (D.1 r1 2)).1 r1 3)) r0 4 ((dI_ (dI_ D r0 2 (D.1 r1 2)) r0 3 ((dI_ D r0 2 (D.1 r1 2)).1 r1 3)).1 r1 4)).1 r0 3) * ((dI_ (dI_ (dI_ D r0 2 (D.1 r1 2)) r0 3 ((dI_ D r0 2 (D.1 r1 2)).1 r1 3)) r0 4 ((dI_ (dI_ D r0 2 (D.1 r1 2)) r0 3 ((dI_ D r0 2 (D.1 r1 2)).1 r1 3)).1 r1 4)).1 r0 2)).toNatClampNeg ≤ (4 * cap_ r0)) ∧ mk_ca [] ≤ 8 then (k14_61 w (d + 1) r0 r1 (nI 0) (dC_ (dI_ (dI_ (dI_ D r0 2 (D.1 r1 2)) r0 3 ((dI_ D r0 2 (D.1 r1 2)).1 r1 3)) r0 4 ((dI_ (dI_ D r0 2 (D.1 r1 2)) r0 3 ((dI_ D r0 2 (D.1 r1 2)).1 r1 3)).1 r1 4)) (r1 + 1) (nI 0).toNatClampNeg (r0 + 1) (nI 0).toNatClampNeg (((dI_ (dI_ (dI_ D r0 2 (D.1 r1 2)) r0 3 ((dI_ D r0 2 (D.1 r1 2)).1 r1 3)) r0 4 ((dI_ (dI_ D r0 2 (D.1 r1 2)) r0 3 ((dI_ D r0 2 (D.1 r1 2)).1 r1 3)).1 r1 4)).1 r0 3) * ((dI_ (dI_ (dI_ D r0 2 (D.1 r1 2)) r0 3 ((dI_ D r0 2 (D.1 r1 2)).1 r1 3)) r0 4 ((dI_ (dI_ D r0 2 (D.1 r1 2)) r0 3 ((dI_ D r0 2 (D.1 r1 2)).1 r1 3)).1 r1 4)).1 r0 2)).toNatClampNeg)) else none) else (some (none, D)) := by
  obtain ⟨m1_r0, m2_r0, m3_r0, m4_r0, m5_r0, m6_r0⟩ := mM_ h_r0
  obtain ⟨m1_r1, m2_r1, m3_r1, m4_r1, m5_r1, m6_r1⟩ := mM_ h_r1
  refine (q_14_0 sh_ w.1 w.2 d r0 r1 D).trans ?_
  (try simp only [and_self, true_and, m1_r0, m2_r0, m3_r0, m4_r0, m5_r0, m1_r1, m2_r1, m3_r1, m4_r1, m5_r1, reduceIte, Nat.reduceEqDiff, Nat.add_one_ne_zero, Nat.succ_ne_zero, Nat.add_eq_zero_iff, and_false]) <;> rfl
set_option maxRecDepth 100000 in
set_option maxHeartbeats 4000000 in
theorem e14_61 {w : (Nat → Int32) × Nat} {d : Nat} {r0 : Nat} {r1 : Nat} {i2 : Int32} {D : dy_} (h_r0 : r0 ∈ ml_) (h_r1 : r1 ∈ ml_) : k14_61 w (d + 1) r0 r1 i2 D = if (D.1 r0 3) ≤ i2 then (some (none, D)) else (mk_inb i2 (cap_ r1) none (mk_inb i2 (cap_ r0) none (k14_61 w (d + 1) r0 r1 (i2 + (nI 1)) (dI_ D (r0 + 2) i2.toNatClampNeg (vp_nar .boolean (D.1 (r1 + 2) i2.toNatClampNeg)))))) := by
  obtain ⟨m1_r0, m2_r0, m3_r0, m4_r0, m5_r0, m6_r0⟩ := mM_ h_r0
  obtain ⟨m1_r1, m2_r1, m3_r1, m4_r1, m5_r1, m6_r1⟩ := mM_ h_r1
  refine (q_14_61 sh_ w.1 w.2 d r0 r1 i2 D).trans ?_
  (try simp only [m1_r0, m2_r0, m3_r0, m4_r0, m5_r0, m1_r1, m2_r1, m3_r1, m4_r1, m5_r1, reduceIte, Nat.reduceEqDiff, Nat.add_one_ne_zero, Nat.succ_ne_zero, Nat.add_eq_zero_iff, and_false]) <;> rfl
set_option maxRecDepth 100000 in
set_option maxHeartbeats 4000000 in
theorem e16_0 {w : (Nat → Int32) × Nat} {d : Nat}  {D : dy_} : k16_0 w (d + 1) D = op_o (k186_0 w d 348 (-1) D) none (fun p1 => op_vN p1.1 none (k16_15 w (d + 1) (nI 0) (dI_ p1.2 342 6 (nI 0)))) := by
  refine (q_16_0 sh_ w.1 w.2 d  D).trans ?_
  (try simp only [rf_342_3, sf_342, reduceIte, Nat.reduceEqDiff, Nat.add_one_ne_zero, Nat.succ_ne_zero, Nat.add_eq_zero_iff, and_false]) <;> rfl
set_option maxRecDepth 100000 in
set_option maxHeartbeats 4000000 in
theorem e16_15 {w : (Nat → Int32) × Nat} {d : Nat} {i1 : Int32} {D : dy_} : k16_15 w (d + 1) i1 D = if (D.1 343 3) ≤ i1 then (op_o (k18_0 w d D) none (fun p1 => op_vI p1.1 none (fun n1 => k16_46 w (d + 1) (nI 0) p1.2))) else (mk_inb i1 60 none (k16_15 w (d + 1) (i1 + (nI 1)) (dI_ D 349 i1.toNatClampNeg i1))) := by
  refine (q_16_15 sh_ w.1 w.2 d i1 D).trans ?_
  (try simp only [rf_342_0, rf_342_4, sf_342, sf_343, sf_349, reduceIte, Nat.reduceEqDiff, Nat.add_one_ne_zero, Nat.succ_ne_zero, Nat.add_eq_zero_iff, and_false]) <;> rfl
set_option maxRecDepth 100000 in
set_option maxHeartbeats 4000000 in
theorem e16_46 {w : (Nat → Int32) × Nat} {d : Nat} {i1 : Int32} {D : dy_} : k16_46 w (d + 1) i1 D = if (D.1 342 6) ≤ i1 then (some (some (.int (D.1 342 6)), D)) else (if (nI 400) ≤ i1 then (some (some (.int (D.1 342 6)), D)) else (k16_63 w (d + 1) i1 (nI 0) D)) := by
  refine (q_16_46 sh_ w.1 w.2 d i1 D).trans ?_
  (try simp only [sf_342, reduceIte, Nat.reduceEqDiff, Nat.add_one_ne_zero, Nat.succ_ne_zero, Nat.add_eq_zero_iff, and_false]) <;> rfl
set_option maxRecDepth 100000 in
set_option maxHeartbeats 4000000 in
theorem e16_63 {w : (Nat → Int32) × Nat} {d : Nat} {i1 : Int32} {i2 : Int32} {D : dy_} : k16_63 w (d + 1) i1 i2 D = if (D.1 343 2) ≤ i2 then (k16_46 w (d + 1) (i1 + (nI 1)) D) else (k16_76 w (d + 1) i1 i2 (nI 0) D) := by
  refine (q_16_63 sh_ w.1 w.2 d i1 i2 D).trans ?_
  (try simp only [rf_342_0, sf_342, sf_343, reduceIte, Nat.reduceEqDiff, Nat.add_one_ne_zero, Nat.succ_ne_zero, Nat.add_eq_zero_iff, and_false]) <;> rfl
set_option maxRecDepth 100000 in
set_option maxHeartbeats 4000000 in
theorem e16_76 {w : (Nat → Int32) × Nat} {d : Nat} {i1 : Int32} {i2 : Int32} {i3 : Int32} {D : dy_} : k16_76 w (d + 1) i1 i2 i3 D = if (D.1 343 3) ≤ i3 then (op_o (k18_0 w d D) none (fun p1 => op_vI p1.1 none (fun n1 => if n1 ≠ (nI 0) then (k16_63 w (d + 1) i1 (i2 + (nI 1)) p1.2) else (some (some (.int (-104)), (dI_ p1.2 342 6 (nI 0))))))) else (op_o (k17_0 w d i1 i3 D) none (fun p2 => op_vI p2.1 none (fun n2 => op_o (k9_0 w d 343 n2 i2 p2.2) none (fun p3 => op_vI p3.1 none (fun n3 => mk_inb i3 60 none (k16_76 w (d + 1) i1 i2 (i3 + (nI 1)) (dI_ p3.2 349 i3.toNatClampNeg n3))))))) := by
  refine (q_16_76 sh_ w.1 w.2 d i1 i2 i3 D).trans ?_
  (try simp only [rf_342_0, rf_342_4, sf_342, sf_343, sf_349, reduceIte, Nat.reduceEqDiff, Nat.add_one_ne_zero, Nat.succ_ne_zero, Nat.add_eq_zero_iff, and_false]) <;> rfl
set_option maxRecDepth 100000 in
set_option maxHeartbeats 4000000 in
theorem e17_0 {w : (Nat → Int32) × Nat} {d : Nat} {i1 : Int32} {i2 : Int32} {D : dy_} : k17_0 w (d + 1) i1 i2 D = mk_inb ((i1 * (nI 60)) + i2) 24000 none (some (some (.int (D.1 346 ((i1 * (nI 60)) + i2).toNatClampNeg)), D)) := by
  refine (q_17_0 sh_ w.1 w.2 d i1 i2 D).trans ?_
  (try simp only [rf_342_1, sf_342, sf_346, reduceIte, Nat.reduceEqDiff, Nat.add_one_ne_zero, Nat.succ_ne_zero, Nat.add_eq_zero_iff, and_false]) <;> rfl
set_option maxRecDepth 100000 in
set_option maxHeartbeats 4000000 in
theorem e18_0 {w : (Nat → Int32) × Nat} {d : Nat}  {D : dy_} : k18_0 w (d + 1) D = op_o (k19_0 w d D) none (fun p1 => op_vI p1.1 none (fun n1 => mk_inb n1 512 none (k18_17 w (d + 1) n1 (p1.2.1 348 n1.toNatClampNeg) (p1.2.1 342 6) p1.2))) := by
  refine (q_18_0 sh_ w.1 w.2 d  D).trans ?_
  (try simp only [rf_342_3, sf_342, sf_348, reduceIte, Nat.reduceEqDiff, Nat.add_one_ne_zero, Nat.succ_ne_zero, Nat.add_eq_zero_iff, and_false]) <;> rfl
set_option maxRecDepth 100000 in
set_option maxHeartbeats 4000000 in
theorem e18_17 {w : (Nat → Int32) × Nat} {d : Nat} {i1 : Int32} {i2 : Int32} {i3 : Int32} {D : dy_} : k18_17 w (d + 1) i1 i2 i3 D = if i3 ≤ (nI 0) then (k18_48 w (d + 1) i1 D) else (if i2 < (nI 0) then (k18_48 w (d + 1) i1 D) else (op_o (k20_0 w d i2 D) none (fun p1 => op_vI p1.1 none (fun n1 => if n1 = (nI 0) then (mk_inb i2 400 none (k18_17 w (d + 1) i1 (p1.2.1 347 i2.toNatClampNeg) (i3 + (-1)) p1.2)) else (some (some (.int (nI 1)), p1.2)))))) := by
  refine (q_18_17 sh_ w.1 w.2 d i1 i2 i3 D).trans ?_
  (try simp only [rf_342_2, sf_342, sf_347, reduceIte, Nat.reduceEqDiff, Nat.add_one_ne_zero, Nat.succ_ne_zero, Nat.add_eq_zero_iff, and_false]) <;> rfl
set_option maxRecDepth 100000 in
set_option maxHeartbeats 4000000 in
theorem e18_48 {w : (Nat → Int32) × Nat} {d : Nat} {i1 : Int32} {D : dy_} : k18_48 w (d + 1) i1 D = if (D.1 342 6) < (nI 400) then (if (¬ (nI 0) < 0 ∧ ¬ ((D.1 342 6) * (nI 60)) < 0 ∧ ¬ (D.1 343 3) < 0) ∧ ((nI 0).toNatClampNeg + (D.1 343 3).toNatClampNeg ≤ 60 ∧ ((D.1 342 6) * (nI 60)).toNatClampNeg + (D.1 343 3).toNatClampNeg ≤ 24000) ∧ mk_ca [] ≤ 8 then (mk_inb i1 512 none (mk_inb ((dC_ D 349 (nI 0).toNatClampNeg 346 ((D.1 342 6) * (nI 60)).toNatClampNeg (D.1 343 3).toNatClampNeg).1 342 6) 400 none (mk_inb i1 512 none (some (some (.int (nI 1)), (dI_ (dI_ (dI_ (dC_ D 349 (nI 0).toNatClampNeg 346 ((D.1 342 6) * (nI 60)).toNatClampNeg (D.1 343 3).toNatClampNeg) 347 ((dC_ D 349 (nI 0).toNatClampNeg 346 ((D.1 342 6) * (nI 60)).toNatClampNeg (D.1 343 3).toNatClampNeg).1 342 6).toNatClampNeg ((dC_ D 349 (nI 0).toNatClampNeg 346 ((D.1 342 6) * (nI 60)).toNatClampNeg (D.1 343 3).toNatClampNeg).1 348 i1.toNatClampNeg)) 348 i1.toNatClampNeg ((dI_ (dC_ D 349 (nI 0).toNatClampNeg 346 ((D.1 342 6) * (nI 60)).toNatClampNeg (D.1 343 3).toNatClampNeg) 347 ((dC_ D 349 (nI 0).toNatClampNeg 346 ((D.1 342 6) * (nI 60)).toNatClampNeg (D.1 343 3).toNatClampNeg).1 342 6).toNatClampNeg ((dC_ D 349 (nI 0).toNatClampNeg 346 ((D.1 342 6) * (nI 60)).toNatClampNeg (D.1 343 3).toNatClampNeg).1 348 i1.toNatClampNeg)).1 342 6)) 342 6 (((dI_ (dI_ (dC_ D 349 (nI 0).toNatClampNeg 346 ((D.1 342 6) * (nI 60)).toNatClampNeg (D.1 343 3).toNatClampNeg) 347 ((dC_ D 349 (nI 0).toNatClampNeg 346 ((D.1 342 6) * (nI 60)).toNatClampNeg (D.1 343 3).toNatClampNeg).1 342 6).toNatClampNeg ((dC_ D 349 (nI 0).toNatClampNeg 346 ((D.1 342 6) * (nI 60)).toNatClampNeg (D.1 343 3).toNatClampNeg).1 348 i1.toNatClampNeg)) 348 i1.toNatClampNeg ((dI_ (dC_ D 349 (nI 0).toNatClampNeg 346 ((D.1 342 6) * (nI 60)).toNatClampNeg (D.1 343 3).toNatClampNeg) 347 ((dC_ D 349 (nI 0).toNatClampNeg 346 ((D.1 342 6) * (nI 60)).toNatClampNeg (D.1 343 3).toNatClampNeg).1 342 6).toNatClampNeg ((dC_ D 349 (nI 0).toNatClampNeg 346 ((D.1 342 6) * (nI 60)).toNatClampNeg (D.1 343 3).toNatClampNeg).1 348 i1.toNatClampNeg)).1 342 6)).1 342 6) + (nI 1)))))))) else none) else (some (some (.int (nI 0)), D)) := by
  refine (q_18_48 sh_ w.1 w.2 d i1 D).trans ?_
  (try simp only [and_self, rf_342_0, rf_342_1, rf_342_2, rf_342_3, rf_342_4, sf_342, sf_343, sf_346, sf_347, sf_348, sf_349, true_and, reduceIte, Nat.reduceEqDiff, Nat.add_one_ne_zero, Nat.succ_ne_zero, Nat.add_eq_zero_iff, and_false]) <;> rfl
set_option maxRecDepth 100000 in
set_option maxHeartbeats 4000000 in
theorem e19_0 {w : (Nat → Int32) × Nat} {d : Nat}  {D : dy_} : k19_0 w (d + 1) D = k19_4 w (d + 1) (nI 0) (nI 0) D := by
  refine (q_19_0 sh_ w.1 w.2 d  D).trans ?_
  (try simp only [reduceIte, Nat.reduceEqDiff, Nat.add_one_ne_zero, Nat.succ_ne_zero, Nat.add_eq_zero_iff, and_false]) <;> rfl
set_option maxRecDepth 100000 in
set_option maxHeartbeats 4000000 in
theorem e19_4 {w : (Nat → Int32) × Nat} {d : Nat} {i1 : Int32} {i2 : Int32} {D : dy_} : k19_4 w (d + 1) i1 i2 D = if (D.1 343 3) ≤ i2 then (some (some (.int (((i1 * (-1640531527)).toUInt32 >>> ((nI 23).toUInt32 &&& Int32.toUInt32 31)).toInt32)), D)) else (mk_inb i2 60 none (k19_4 w (d + 1) ((i1 * (nI 31)) + (D.1 349 i2.toNatClampNeg)) (i2 + (nI 1)) D)) := by
  refine (q_19_4 sh_ w.1 w.2 d i1 i2 D).trans ?_
  (try simp only [rf_342_0, rf_342_4, sf_342, sf_343, sf_349, reduceIte, Nat.reduceEqDiff, Nat.add_one_ne_zero, Nat.succ_ne_zero, Nat.add_eq_zero_iff, and_false]) <;> rfl
set_option maxRecDepth 100000 in
set_option maxHeartbeats 4000000 in
theorem e20_0 {w : (Nat → Int32) × Nat} {d : Nat} {i1 : Int32} {D : dy_} : k20_0 w (d + 1) i1 D = k20_2 w (d + 1) i1 (nI 0) D := by
  refine (q_20_0 sh_ w.1 w.2 d i1 D).trans ?_
  (try simp only [reduceIte, Nat.reduceEqDiff, Nat.add_one_ne_zero, Nat.succ_ne_zero, Nat.add_eq_zero_iff, and_false]) <;> rfl
set_option maxRecDepth 100000 in
set_option maxHeartbeats 4000000 in
theorem e20_2 {w : (Nat → Int32) × Nat} {d : Nat} {i1 : Int32} {i2 : Int32} {D : dy_} : k20_2 w (d + 1) i1 i2 D = if (D.1 343 3) ≤ i2 then (some (some (.int (nI 1)), D)) else (op_o (k17_0 w d i1 i2 D) none (fun p1 => op_vI p1.1 none (fun n1 => mk_inb i2 60 none (if n1 = (p1.2.1 349 i2.toNatClampNeg) then (k20_2 w (d + 1) i1 (i2 + (nI 1)) p1.2) else (some (some (.int (nI 0)), p1.2)))))) := by
  refine (q_20_2 sh_ w.1 w.2 d i1 i2 D).trans ?_
  (try simp only [rf_342_0, rf_342_4, sf_342, sf_343, sf_349, reduceIte, Nat.reduceEqDiff, Nat.add_one_ne_zero, Nat.succ_ne_zero, Nat.add_eq_zero_iff, and_false]) <;> rfl
set_option maxRecDepth 100000 in
set_option maxHeartbeats 4000000 in
theorem e21_0 {w : (Nat → Int32) × Nat} {d : Nat}  {D : dy_} : k21_0 w (d + 1) D = k21_4 w (d + 1) (nI 0) (nI 0) D := by
  refine (q_21_0 sh_ w.1 w.2 d  D).trans ?_
  (try simp only [reduceIte, Nat.reduceEqDiff, Nat.add_one_ne_zero, Nat.succ_ne_zero, Nat.add_eq_zero_iff, and_false]) <;> rfl
set_option maxRecDepth 100000 in
set_option maxHeartbeats 4000000 in
theorem e21_4 {w : (Nat → Int32) × Nat} {d : Nat} {i1 : Int32} {i2 : Int32} {D : dy_} : k21_4 w (d + 1) i1 i2 D = if (D.1 342 6) ≤ i2 then (some (some (.int i1), D)) else (k21_17 w (d + 1) i1 i2 (nI 0) (nI 0) D) := by
  refine (q_21_4 sh_ w.1 w.2 d i1 i2 D).trans ?_
  (try simp only [sf_342, reduceIte, Nat.reduceEqDiff, Nat.add_one_ne_zero, Nat.succ_ne_zero, Nat.add_eq_zero_iff, and_false]) <;> rfl
set_option maxRecDepth 100000 in
set_option maxHeartbeats 4000000 in
theorem e21_17 {w : (Nat → Int32) × Nat} {d : Nat} {i1 : Int32} {i2 : Int32} {i3 : Int32} {i4 : Int32} {D : dy_} : k21_17 w (d + 1) i1 i2 i3 i4 D = if (D.1 343 3) ≤ i4 then (if i3 ≠ (D.1 343 3) then (k21_74 w (d + 1) i1 i2 D) else (k21_74 w (d + 1) (i1 + (nI 1)) i2 D)) else (op_o (k17_0 w d i2 i4 D) none (fun p1 => op_vI p1.1 none (fun n1 => op_o (k17_0 w d i2 n1 p1.2) none (fun p2 => op_vI p2.1 none (fun n2 => op_o (k17_0 w d i2 i4 p2.2) none (fun p3 => op_vI p3.1 none (fun n3 => if n2 ≠ n3 then (k21_54 w (d + 1) i1 i2 i3 i4 p3.2) else (k21_54 w (d + 1) i1 i2 (i3 + (nI 1)) i4 p3.2)))))))) := by
  refine (q_21_17 sh_ w.1 w.2 d i1 i2 i3 i4 D).trans ?_
  (try simp only [rf_342_0, sf_342, sf_343, reduceIte, Nat.reduceEqDiff, Nat.add_one_ne_zero, Nat.succ_ne_zero, Nat.add_eq_zero_iff, and_false]) <;> rfl
set_option maxRecDepth 100000 in
set_option maxHeartbeats 4000000 in
theorem e21_54 {w : (Nat → Int32) × Nat} {d : Nat} {i1 : Int32} {i2 : Int32} {i3 : Int32} {i4 : Int32} {D : dy_} : k21_54 w (d + 1) i1 i2 i3 i4 D = k21_17 w (d + 1) i1 i2 i3 (i4 + (nI 1)) D := by
  refine (q_21_54 sh_ w.1 w.2 d i1 i2 i3 i4 D).trans ?_
  (try simp only [reduceIte, Nat.reduceEqDiff, Nat.add_one_ne_zero, Nat.succ_ne_zero, Nat.add_eq_zero_iff, and_false]) <;> rfl
set_option maxRecDepth 100000 in
set_option maxHeartbeats 4000000 in
theorem e21_74 {w : (Nat → Int32) × Nat} {d : Nat} {i1 : Int32} {i2 : Int32} {D : dy_} : k21_74 w (d + 1) i1 i2 D = k21_4 w (d + 1) i1 (i2 + (nI 1)) D := by
  refine (q_21_74 sh_ w.1 w.2 d i1 i2 D).trans ?_
  (try simp only [reduceIte, Nat.reduceEqDiff, Nat.add_one_ne_zero, Nat.succ_ne_zero, Nat.add_eq_zero_iff, and_false]) <;> rfl
set_option maxRecDepth 100000 in
set_option maxHeartbeats 4000000 in
theorem e22_0 {w : (Nat → Int32) × Nat} {d : Nat} {i1 : Int32} {D : dy_} : k22_0 w (d + 1) i1 D = k22_4 w (d + 1) i1 (nI 0) (nI 0) D := by
  refine (q_22_0 sh_ w.1 w.2 d i1 D).trans ?_
  (try simp only [reduceIte, Nat.reduceEqDiff, Nat.add_one_ne_zero, Nat.succ_ne_zero, Nat.add_eq_zero_iff, and_false]) <;> rfl
set_option maxRecDepth 100000 in
set_option maxHeartbeats 4000000 in
theorem e22_4 {w : (Nat → Int32) × Nat} {d : Nat} {i1 : Int32} {i2 : Int32} {i3 : Int32} {D : dy_} : k22_4 w (d + 1) i1 i2 i3 D = if (D.1 342 6) ≤ i3 then (some (some (.int i2), D)) else (k22_18 w (d + 1) i1 i2 i3 (lN 0) (nI 0) D) := by
  refine (q_22_4 sh_ w.1 w.2 d i1 i2 i3 D).trans ?_
  (try simp only [sf_342, reduceIte, Nat.reduceEqDiff, Nat.add_one_ne_zero, Nat.succ_ne_zero, Nat.add_eq_zero_iff, and_false]) <;> rfl
set_option maxRecDepth 100000 in
set_option maxHeartbeats 4000000 in
theorem e22_18 {w : (Nat → Int32) × Nat} {d : Nat} {i1 : Int32} {i2 : Int32} {i3 : Int32} {j4 : Int64} {i6 : Int32} {D : dy_} : k22_18 w (d + 1) i1 i2 i3 j4 i6 D = if (D.1 343 3) ≤ i6 then (op_o (k184_0 w d j4 D) none (fun p1 => op_vI p1.1 none (fun n1 => if n1 ≠ i1 then (k22_62 w (d + 1) i1 i2 i3 p1.2) else (k22_62 w (d + 1) i1 (i2 + (nI 1)) i3 p1.2)))) else (op_o (k17_0 w d i3 i6 D) none (fun p2 => op_vI p2.1 none (fun n2 => k22_18 w (d + 1) i1 i2 i3 (j4 ||| ((lN 1) <<< (n2.toInt64 &&& 63))) (i6 + (nI 1)) p2.2))) := by
  refine (q_22_18 sh_ w.1 w.2 d i1 i2 i3 j4 i6 D).trans ?_
  (try simp only [rf_342_0, sf_342, sf_343, reduceIte, Nat.reduceEqDiff, Nat.add_one_ne_zero, Nat.succ_ne_zero, Nat.add_eq_zero_iff, and_false]) <;> rfl
set_option maxRecDepth 100000 in
set_option maxHeartbeats 4000000 in
theorem e22_62 {w : (Nat → Int32) × Nat} {d : Nat} {i1 : Int32} {i2 : Int32} {i3 : Int32} {D : dy_} : k22_62 w (d + 1) i1 i2 i3 D = k22_4 w (d + 1) i1 i2 (i3 + (nI 1)) D := by
  refine (q_22_62 sh_ w.1 w.2 d i1 i2 i3 D).trans ?_
  (try simp only [reduceIte, Nat.reduceEqDiff, Nat.add_one_ne_zero, Nat.succ_ne_zero, Nat.add_eq_zero_iff, and_false]) <;> rfl
set_option maxRecDepth 100000 in
set_option maxHeartbeats 4000000 in
theorem e23_0 {w : (Nat → Int32) × Nat} {d : Nat}  {D : dy_} : k23_0 w (d + 1) D = k23_2 w (d + 1) (nI 0) D := by
  refine (q_23_0 sh_ w.1 w.2 d  D).trans ?_
  (try simp only [reduceIte, Nat.reduceEqDiff, Nat.add_one_ne_zero, Nat.succ_ne_zero, Nat.add_eq_zero_iff, and_false]) <;> rfl
set_option maxRecDepth 100000 in
set_option maxHeartbeats 4000000 in
theorem e23_2 {w : (Nat → Int32) × Nat} {d : Nat} {i1 : Int32} {D : dy_} : k23_2 w (d + 1) i1 D = if (D.1 343 2) ≤ i1 then (some (some (.int (nI 1)), D)) else (k23_17 w (d + 1) i1 (i1 + (nI 1)) D) := by
  refine (q_23_2 sh_ w.1 w.2 d i1 D).trans ?_
  (try simp only [rf_342_0, sf_342, sf_343, reduceIte, Nat.reduceEqDiff, Nat.add_one_ne_zero, Nat.succ_ne_zero, Nat.add_eq_zero_iff, and_false]) <;> rfl
set_option maxRecDepth 100000 in
set_option maxHeartbeats 4000000 in
theorem e23_17 {w : (Nat → Int32) × Nat} {d : Nat} {i1 : Int32} {i2 : Int32} {D : dy_} : k23_17 w (d + 1) i1 i2 D = if (D.1 343 2) ≤ i2 then (k23_2 w (d + 1) (i1 + (nI 1)) D) else (k23_30 w (d + 1) i1 i2 (nI 0) D) := by
  refine (q_23_17 sh_ w.1 w.2 d i1 i2 D).trans ?_
  (try simp only [rf_342_0, sf_342, sf_343, reduceIte, Nat.reduceEqDiff, Nat.add_one_ne_zero, Nat.succ_ne_zero, Nat.add_eq_zero_iff, and_false]) <;> rfl
set_option maxRecDepth 100000 in
set_option maxHeartbeats 4000000 in
theorem e23_30 {w : (Nat → Int32) × Nat} {d : Nat} {i1 : Int32} {i2 : Int32} {i3 : Int32} {D : dy_} : k23_30 w (d + 1) i1 i2 i3 D = if (D.1 343 3) ≤ i3 then (k23_17 w (d + 1) i1 (i2 + (nI 1)) D) else (op_o (k9_0 w d 343 i3 i1 D) none (fun p1 => op_vI p1.1 none (fun n1 => op_o (k9_0 w d 343 n1 i2 p1.2) none (fun p2 => op_vI p2.1 none (fun n2 => op_o (k9_0 w d 343 i3 i2 p2.2) none (fun p3 => op_vI p3.1 none (fun n3 => op_o (k9_0 w d 343 n3 i1 p3.2) none (fun p4 => op_vI p4.1 none (fun n4 => if n2 = n4 then (k23_30 w (d + 1) i1 i2 (i3 + (nI 1)) p4.2) else (some (some (.int (nI 0)), p4.2))))))))))) := by
  refine (q_23_30 sh_ w.1 w.2 d i1 i2 i3 D).trans ?_
  (try simp only [rf_342_0, sf_342, sf_343, reduceIte, Nat.reduceEqDiff, Nat.add_one_ne_zero, Nat.succ_ne_zero, Nat.add_eq_zero_iff, and_false]) <;> rfl
set_option maxRecDepth 100000 in
set_option maxHeartbeats 4000000 in
theorem e24_0 {w : (Nat → Int32) × Nat} {d : Nat}  {D : dy_} : k24_0 w (d + 1) D = k24_2 w (d + 1) (nI 0) D := by
  refine (q_24_0 sh_ w.1 w.2 d  D).trans ?_
  (try simp only [reduceIte, Nat.reduceEqDiff, Nat.add_one_ne_zero, Nat.succ_ne_zero, Nat.add_eq_zero_iff, and_false]) <;> rfl
set_option maxRecDepth 100000 in
set_option maxHeartbeats 4000000 in
theorem e24_2 {w : (Nat → Int32) × Nat} {d : Nat} {i1 : Int32} {D : dy_} : k24_2 w (d + 1) i1 D = if (D.1 342 6) ≤ i1 then (some (some (.int (nI 1)), D)) else (op_o (k25_0 w d i1 D) none (fun p1 => op_vI p1.1 none (fun n1 => if n1 ≠ (nI 0) then (k24_2 w (d + 1) (i1 + (nI 1)) p1.2) else (some (some (.int (nI 0)), p1.2))))) := by
  refine (q_24_2 sh_ w.1 w.2 d i1 D).trans ?_
  (try simp only [sf_342, reduceIte, Nat.reduceEqDiff, Nat.add_one_ne_zero, Nat.succ_ne_zero, Nat.add_eq_zero_iff, and_false]) <;> rfl
set_option maxRecDepth 100000 in
set_option maxHeartbeats 4000000 in
theorem e25_0 {w : (Nat → Int32) × Nat} {d : Nat} {i1 : Int32} {D : dy_} : k25_0 w (d + 1) i1 D = k25_2 w (d + 1) i1 (nI 0) D := by
  refine (q_25_0 sh_ w.1 w.2 d i1 D).trans ?_
  (try simp only [reduceIte, Nat.reduceEqDiff, Nat.add_one_ne_zero, Nat.succ_ne_zero, Nat.add_eq_zero_iff, and_false]) <;> rfl
set_option maxRecDepth 100000 in
set_option maxHeartbeats 4000000 in
theorem e25_2 {w : (Nat → Int32) × Nat} {d : Nat} {i1 : Int32} {i2 : Int32} {D : dy_} : k25_2 w (d + 1) i1 i2 D = if (D.1 343 3) ≤ i2 then (k25_33 w (d + 1) i1 (nI 0) D) else (op_o (k17_0 w d i1 i2 D) none (fun p1 => op_vI p1.1 none (fun n1 => mk_inb i2 60 none (k25_2 w (d + 1) i1 (i2 + (nI 1)) (dI_ p1.2 349 i2.toNatClampNeg n1))))) := by
  refine (q_25_2 sh_ w.1 w.2 d i1 i2 D).trans ?_
  (try simp only [rf_342_0, rf_342_4, sf_342, sf_343, sf_349, reduceIte, Nat.reduceEqDiff, Nat.add_one_ne_zero, Nat.succ_ne_zero, Nat.add_eq_zero_iff, and_false]) <;> rfl
set_option maxRecDepth 100000 in
set_option maxHeartbeats 4000000 in
theorem e25_33 {w : (Nat → Int32) × Nat} {d : Nat} {i1 : Int32} {i2 : Int32} {D : dy_} : k25_33 w (d + 1) i1 i2 D = if (nI 6) ≤ i2 then (k25_51 w (d + 1) i1 (nI 0) D) else (op_o (k26_0 w d D) none (fun p1 => op_vN p1.1 none (k25_33 w (d + 1) i1 (i2 + (nI 1)) p1.2))) := by
  refine (q_25_33 sh_ w.1 w.2 d i1 i2 D).trans ?_
  (try simp only [sf_342, reduceIte, Nat.reduceEqDiff, Nat.add_one_ne_zero, Nat.succ_ne_zero, Nat.add_eq_zero_iff, and_false]) <;> rfl
set_option maxRecDepth 100000 in
set_option maxHeartbeats 4000000 in
theorem e25_51 {w : (Nat → Int32) × Nat} {d : Nat} {i1 : Int32} {i2 : Int32} {D : dy_} : k25_51 w (d + 1) i1 i2 D = if (D.1 343 3) ≤ i2 then (some (some (.int (nI 1)), D)) else (mk_inb i2 60 none (op_o (k17_0 w d i1 (D.1 349 i2.toNatClampNeg) D) none (fun p1 => op_vI p1.1 none (fun n1 => mk_inb i2 60 none (if n1 = (p1.2.1 349 i2.toNatClampNeg) then (k25_51 w (d + 1) i1 (i2 + (nI 1)) p1.2) else (some (some (.int (nI 0)), p1.2))))))) := by
  refine (q_25_51 sh_ w.1 w.2 d i1 i2 D).trans ?_
  (try simp only [rf_342_0, rf_342_4, sf_342, sf_343, sf_349, reduceIte, Nat.reduceEqDiff, Nat.add_one_ne_zero, Nat.succ_ne_zero, Nat.add_eq_zero_iff, and_false]) <;> rfl
set_option maxRecDepth 100000 in
set_option maxHeartbeats 4000000 in
theorem e26_0 {w : (Nat → Int32) × Nat} {d : Nat}  {D : dy_} : k26_0 w (d + 1) D = k26_2 w (d + 1) (nI 0) D := by
  refine (q_26_0 sh_ w.1 w.2 d  D).trans ?_
  (try simp only [reduceIte, Nat.reduceEqDiff, Nat.add_one_ne_zero, Nat.succ_ne_zero, Nat.add_eq_zero_iff, and_false]) <;> rfl
set_option maxRecDepth 100000 in
set_option maxHeartbeats 4000000 in
theorem e26_2 {w : (Nat → Int32) × Nat} {d : Nat} {i1 : Int32} {D : dy_} : k26_2 w (d + 1) i1 D = if (D.1 343 3) ≤ i1 then (if (¬ (nI 0) < 0 ∧ ¬ (nI 0) < 0 ∧ ¬ (D.1 343 3) < 0) ∧ ((nI 0).toNatClampNeg + (D.1 343 3).toNatClampNeg ≤ 60 ∧ (nI 0).toNatClampNeg + (D.1 343 3).toNatClampNeg ≤ 60) ∧ mk_ca [] ≤ 8 then (some (none, (dC_ D 350 (nI 0).toNatClampNeg 349 (nI 0).toNatClampNeg (D.1 343 3).toNatClampNeg))) else none) else (mk_inb i1 60 none (mk_inb (D.1 349 i1.toNatClampNeg) 60 none (mk_inb i1 60 none (k26_2 w (d + 1) (i1 + (nI 1)) (dI_ D 350 i1.toNatClampNeg (D.1 349 (D.1 349 i1.toNatClampNeg).toNatClampNeg)))))) := by
  refine (q_26_2 sh_ w.1 w.2 d i1 D).trans ?_
  (try simp only [and_self, rf_342_0, rf_342_4, rf_342_5, sf_342, sf_343, sf_349, sf_350, true_and, reduceIte, Nat.reduceEqDiff, Nat.add_one_ne_zero, Nat.succ_ne_zero, Nat.add_eq_zero_iff, and_false]) <;> rfl
set_option maxRecDepth 100000 in
set_option maxHeartbeats 4000000 in
theorem e28_0 {w : (Nat → Int32) × Nat} {d : Nat}  {D : dy_} : k28_0 w (d + 1) D = mk_inb (nI 0) 96 none (if sh_.2.1 51 (nI 0).toNatClampNeg = 0 then none else if (sh_.2.1 51 (nI 0).toNatClampNeg) = 0 then none else some (some (.ref (sh_.2.1 51 (nI 0).toNatClampNeg)), D)) := by
  refine (q_28_0 sh_ w.1 w.2 d  D).trans ?_
  (try simp only [rf_50_2, sf_50, sf_51, reduceIte, Nat.reduceEqDiff, Nat.add_one_ne_zero, Nat.succ_ne_zero, Nat.add_eq_zero_iff, and_false]) <;> rfl
set_option maxRecDepth 100000 in
set_option maxHeartbeats 4000000 in
theorem e29_0 {w : (Nat → Int32) × Nat} {d : Nat} {i1 : Int32} {D : dy_} : k29_0 w (d + 1) i1 D = op_o (k30_0 w d (nI 0) (dI_ (dI_ (dI_ (dI_ (dI_ D 50 4 i1) 50 3 (nI 0)) 50 5 (nI 0)) 50 6 (-1)) 50 7 (nI 0))) none (fun p1 => op_vN p1.1 none (if (p1.2.1 50 6) ≠ (-1) then (k29_60 w (d + 1) p1.2) else (if (p1.2.1 21 1) ≤ (p1.2.1 50 5) then (k29_60 w (d + 1) p1.2) else (k29_60 w (d + 1) (dI_ p1.2 50 6 (p1.2.1 50 5)))))) := by
  refine (q_29_0 sh_ w.1 w.2 d i1 D).trans ?_
  (try simp only [rf_50_1, sf_21, sf_50, reduceIte, Nat.reduceEqDiff, Nat.add_one_ne_zero, Nat.succ_ne_zero, Nat.add_eq_zero_iff, and_false]) <;> rfl
set_option maxRecDepth 100000 in
set_option maxHeartbeats 4000000 in
theorem e29_60 {w : (Nat → Int32) × Nat} {d : Nat}  {D : dy_} : k29_60 w (d + 1) D = if (D.1 50 6) = (-1) then (if (D.1 50 7) = (nI 0) then (mk_inb (nI 0) 96 none (if sh_.2.1 51 (nI 0).toNatClampNeg = 0 then none else if (sh_.1 (sh_.2.1 51 (nI 0).toNatClampNeg)).1 = 11 then (some (some (.int (D.1 (sh_.2.1 51 (nI 0).toNatClampNeg) 3)), D)) else none)) else (some (some (.int (-104)), D))) else (some (some (.int ((-1000) - (D.1 50 6))), D)) := by
  refine (q_29_60 sh_ w.1 w.2 d  D).trans ?_
  (try simp only [rf_50_2, sf_50, sf_51, reduceIte, Nat.reduceEqDiff, Nat.add_one_ne_zero, Nat.succ_ne_zero, Nat.add_eq_zero_iff, and_false]) <;> rfl
set_option maxRecDepth 100000 in
set_option maxHeartbeats 4000000 in
theorem e30_0 {w : (Nat → Int32) × Nat} {d : Nat} {i1 : Int32} {D : dy_} : k30_0 w (d + 1) i1 D = op_o (k31_0 w d i1 D) none (fun p1 => op_vN p1.1 none (k30_13 w (d + 1) i1 (p1.2.1 21 1) p1.2)) := by
  refine (q_30_0 sh_ w.1 w.2 d i1 D).trans ?_
  (try simp only [rf_50_1, sf_21, sf_50, reduceIte, Nat.reduceEqDiff, Nat.add_one_ne_zero, Nat.succ_ne_zero, Nat.add_eq_zero_iff, and_false]) <;> rfl
set_option maxRecDepth 100000 in
set_option maxHeartbeats 4000000 in
theorem e30_13 {w : (Nat → Int32) × Nat} {d : Nat} {i1 : Int32} {i2 : Int32} {D : dy_} : k30_13 w (d + 1) i1 i2 D = if i2 ≤ (nI 0) then (some (none, D)) else (op_o (k35_0 w d (nI 124) D) none (fun p1 => op_vI p1.1 none (fun n1 => if n1 = (nI 0) then (some (none, p1.2)) else (op_o (k31_0 w d i1 (dI_ p1.2 50 5 ((p1.2.1 50 5) + (nI 1)))) none (fun p2 => op_vN p2.1 none (op_o (k44_0 w d (nI 1) p2.2) none (fun p3 => op_vN p3.1 none (k30_13 w (d + 1) i1 (i2 + (-1)) p3.2)))))))) := by
  refine (q_30_13 sh_ w.1 w.2 d i1 i2 D).trans ?_
  (try simp only [sf_50, reduceIte, Nat.reduceEqDiff, Nat.add_one_ne_zero, Nat.succ_ne_zero, Nat.add_eq_zero_iff, and_false]) <;> rfl
set_option maxRecDepth 100000 in
set_option maxHeartbeats 4000000 in
theorem e31_0 {w : (Nat → Int32) × Nat} {d : Nat} {i1 : Int32} {D : dy_} : k31_0 w (d + 1) i1 D = op_o (k32_0 w d i1 D) none (fun p1 => op_vN p1.1 none (k31_13 w (d + 1) i1 (p1.2.1 21 1) p1.2)) := by
  refine (q_31_0 sh_ w.1 w.2 d i1 D).trans ?_
  (try simp only [rf_50_1, sf_21, sf_50, reduceIte, Nat.reduceEqDiff, Nat.add_one_ne_zero, Nat.succ_ne_zero, Nat.add_eq_zero_iff, and_false]) <;> rfl
set_option maxRecDepth 100000 in
set_option maxHeartbeats 4000000 in
theorem e31_13 {w : (Nat → Int32) × Nat} {d : Nat} {i1 : Int32} {i2 : Int32} {D : dy_} : k31_13 w (d + 1) i1 i2 D = if i2 ≤ (nI 0) then (some (none, D)) else (op_o (k35_0 w d (nI 38) D) none (fun p1 => op_vI p1.1 none (fun n1 => if n1 = (nI 0) then (some (none, p1.2)) else (op_o (k32_0 w d i1 (dI_ p1.2 50 5 ((p1.2.1 50 5) + (nI 1)))) none (fun p2 => op_vN p2.1 none (op_o (k44_0 w d (nI 0) p2.2) none (fun p3 => op_vN p3.1 none (k31_13 w (d + 1) i1 (i2 + (-1)) p3.2)))))))) := by
  refine (q_31_13 sh_ w.1 w.2 d i1 i2 D).trans ?_
  (try simp only [sf_50, reduceIte, Nat.reduceEqDiff, Nat.add_one_ne_zero, Nat.succ_ne_zero, Nat.add_eq_zero_iff, and_false]) <;> rfl
set_option maxRecDepth 100000 in
set_option maxHeartbeats 4000000 in
theorem e32_0 {w : (Nat → Int32) × Nat} {d : Nat} {i1 : Int32} {D : dy_} : k32_0 w (d + 1) i1 D = op_o (k36_0 w d D) none (fun p1 => op_vI p1.1 none (fun n1 => if n1 ≠ (nI 0) then (op_o (k33_0 w d i1 p1.2) none (fun p2 => op_vN p2.1 none (k32_25 w (d + 1) i1 (p2.2.1 21 1) p2.2))) else (op_o (k41_0 w d p1.2) none (fun p3 => op_vN p3.1 none (some (none, p3.2)))))) := by
  refine (q_32_0 sh_ w.1 w.2 d i1 D).trans ?_
  (try simp only [rf_50_1, sf_21, sf_50, reduceIte, Nat.reduceEqDiff, Nat.add_one_ne_zero, Nat.succ_ne_zero, Nat.add_eq_zero_iff, and_false]) <;> rfl
set_option maxRecDepth 100000 in
set_option maxHeartbeats 4000000 in
theorem e32_25 {w : (Nat → Int32) × Nat} {d : Nat} {i1 : Int32} {i2 : Int32} {D : dy_} : k32_25 w (d + 1) i1 i2 D = if i2 ≤ (nI 0) then (some (none, D)) else (op_o (k36_0 w d D) none (fun p1 => op_vI p1.1 none (fun n1 => if n1 = (nI 0) then (some (none, p1.2)) else (op_o (k33_0 w d i1 p1.2) none (fun p2 => op_vN p2.1 none (op_o (k44_0 w d (nI 4) p2.2) none (fun p3 => op_vN p3.1 none (k32_25 w (d + 1) i1 (i2 + (-1)) p3.2)))))))) := by
  refine (q_32_25 sh_ w.1 w.2 d i1 i2 D).trans ?_
  (try simp only [sf_50, reduceIte, Nat.reduceEqDiff, Nat.add_one_ne_zero, Nat.succ_ne_zero, Nat.add_eq_zero_iff, and_false]) <;> rfl
set_option maxRecDepth 100000 in
set_option maxHeartbeats 4000000 in
theorem e33_0 {w : (Nat → Int32) × Nat} {d : Nat} {i1 : Int32} {D : dy_} : k33_0 w (d + 1) i1 D = op_o (k34_0 w d i1 D) none (fun p1 => op_vN p1.1 none (k33_13 w (d + 1) (p1.2.1 21 1) p1.2)) := by
  refine (q_33_0 sh_ w.1 w.2 d i1 D).trans ?_
  (try simp only [rf_50_1, sf_21, sf_50, reduceIte, Nat.reduceEqDiff, Nat.add_one_ne_zero, Nat.succ_ne_zero, Nat.add_eq_zero_iff, and_false]) <;> rfl
set_option maxRecDepth 100000 in
set_option maxHeartbeats 4000000 in
theorem e33_13 {w : (Nat → Int32) × Nat} {d : Nat} {i2 : Int32} {D : dy_} : k33_13 w (d + 1) i2 D = if i2 ≤ (nI 0) then (some (none, D)) else (op_o (k35_0 w d (nI 42) D) none (fun p1 => op_vI p1.1 none (fun n1 => if n1 = (nI 0) then (op_o (k35_0 w d (nI 43) p1.2) none (fun p2 => op_vI p2.1 none (fun n2 => if n2 = (nI 0) then (op_o (k35_0 w d (nI 63) p2.2) none (fun p3 => op_vI p3.1 none (fun n3 => if n3 = (nI 0) then (some (none, p3.2)) else (op_o (k41_0 w d p3.2) none (fun p4 => op_vN p4.1 none (op_o (k44_0 w d (nI 1) p4.2) none (fun p5 => op_vN p5.1 none (k33_82 w (d + 1) i2 p5.2)))))))) else (op_o (k40_0 w d p2.2) none (fun p6 => op_vN p6.1 none (op_o (k43_0 w d (nI 5) p6.2) none (fun p7 => op_vN p7.1 none (op_o (k44_0 w d (nI 4) p7.2) none (fun p8 => op_vN p8.1 none (k33_82 w (d + 1) i2 p8.2)))))))))) else (op_o (k43_0 w d (nI 5) p1.2) none (fun p9 => op_vN p9.1 none (k33_82 w (d + 1) i2 p9.2)))))) := by
  refine (q_33_13 sh_ w.1 w.2 d i2 D).trans ?_
  (try simp only [sf_50, reduceIte, Nat.reduceEqDiff, Nat.add_one_ne_zero, Nat.succ_ne_zero, Nat.add_eq_zero_iff, and_false]) <;> rfl
set_option maxRecDepth 100000 in
set_option maxHeartbeats 4000000 in
theorem e33_82 {w : (Nat → Int32) × Nat} {d : Nat} {i2 : Int32} {D : dy_} : k33_82 w (d + 1) i2 D = k33_13 w (d + 1) (i2 + (-1)) (dI_ D 50 5 ((D.1 50 5) + (nI 1))) := by
  refine (q_33_82 sh_ w.1 w.2 d i2 D).trans ?_
  (try simp only [sf_50, reduceIte, Nat.reduceEqDiff, Nat.add_one_ne_zero, Nat.succ_ne_zero, Nat.add_eq_zero_iff, and_false]) <;> rfl
set_option maxRecDepth 100000 in
set_option maxHeartbeats 4000000 in
theorem e34_0 {w : (Nat → Int32) × Nat} {d : Nat} {i1 : Int32} {D : dy_} : k34_0 w (d + 1) i1 D = op_o (k35_0 w d (nI 40) D) none (fun p1 => op_vI p1.1 none (fun n1 => if n1 ≠ (nI 0) then (k34_18 w (d + 1) i1 p1.2) else (op_o (k35_0 w d (nI 33) p1.2) none (fun p2 => op_vI p2.1 none (fun n2 => if n2 = (nI 0) then (k34_23 w (d + 1) i1 (nI 0) p2.2) else (k34_18 w (d + 1) i1 p2.2)))))) := by
  refine (q_34_0 sh_ w.1 w.2 d i1 D).trans ?_
  (try simp only [sf_50, reduceIte, Nat.reduceEqDiff, Nat.add_one_ne_zero, Nat.succ_ne_zero, Nat.add_eq_zero_iff, and_false]) <;> rfl
set_option maxRecDepth 100000 in
set_option maxHeartbeats 4000000 in
theorem e34_18 {w : (Nat → Int32) × Nat} {d : Nat} {i1 : Int32} {D : dy_} : k34_18 w (d + 1) i1 D = k34_23 w (d + 1) i1 (nI 1) D := by
  refine (q_34_18 sh_ w.1 w.2 d i1 D).trans ?_
  (try simp only [reduceIte, Nat.reduceEqDiff, Nat.add_one_ne_zero, Nat.succ_ne_zero, Nat.add_eq_zero_iff, and_false]) <;> rfl
set_option maxRecDepth 100000 in
set_option maxHeartbeats 4000000 in
theorem e34_23 {w : (Nat → Int32) × Nat} {d : Nat} {i1 : Int32} {si0 : Int32} {D : dy_} : k34_23 w (d + 1) i1 si0 D = op_o (k36_0 w d D) none (fun p1 => op_vI p1.1 none (fun n1 => if n1 = (nI 0) then (k34_41 w (d + 1) p1.2) else (if si0 = (nI 0) then (k34_53 w (d + 1) i1 p1.2) else (if i1 < (nI 30) then (k34_53 w (d + 1) i1 p1.2) else (k34_41 w (d + 1) p1.2))))) := by
  refine (q_34_23 sh_ w.1 w.2 d i1 si0 D).trans ?_
  (try simp only [sf_50, reduceIte, Nat.reduceEqDiff, Nat.add_one_ne_zero, Nat.succ_ne_zero, Nat.add_eq_zero_iff, and_false]) <;> rfl
set_option maxRecDepth 100000 in
set_option maxHeartbeats 4000000 in
theorem e34_41 {w : (Nat → Int32) × Nat} {d : Nat}  {D : dy_} : k34_41 w (d + 1) D = op_o (k38_0 w d D) none (fun p1 => op_vN p1.1 none (op_o (k39_0 w d p1.2) none (fun p2 => op_vR p2.1 none (fun n2 => some (none, p2.2))))) := by
  refine (q_34_41 sh_ w.1 w.2 d  D).trans ?_
  (try simp only [sf_50, reduceIte, Nat.reduceEqDiff, Nat.add_one_ne_zero, Nat.succ_ne_zero, Nat.add_eq_zero_iff, and_false]) <;> rfl
set_option maxRecDepth 100000 in
set_option maxHeartbeats 4000000 in
theorem e34_53 {w : (Nat → Int32) × Nat} {d : Nat} {i1 : Int32} {D : dy_} : k34_53 w (d + 1) i1 D = op_o (k35_0 w d (nI 40) D) none (fun p1 => op_vI p1.1 none (fun n1 => if n1 = (nI 0) then (op_o (k35_0 w d (nI 33) p1.2) none (fun p2 => op_vI p2.1 none (fun n2 => if n2 = (nI 0) then (op_o (k42_0 w d p2.2) none (fun p3 => op_vN p3.1 none (some (none, (dI_ p3.2 50 5 ((p3.2.1 50 5) + (nI 1))))))) else (op_o (k34_0 w d (i1 + (nI 1)) (dI_ p2.2 50 5 ((p2.2.1 50 5) + (nI 1)))) none (fun p4 => op_vN p4.1 none (op_o (k43_0 w d (nI 7) p4.2) none (fun p5 => op_vN p5.1 none (some (none, p5.2))))))))) else (op_o (k30_0 w d (i1 + (nI 1)) (dI_ p1.2 50 5 ((p1.2.1 50 5) + (nI 1)))) none (fun p6 => op_vN p6.1 none (op_o (k35_0 w d (nI 41) p6.2) none (fun p7 => op_vI p7.1 none (fun n7 => if n7 ≠ (nI 0) then (k34_92 w (d + 1) p7.2) else (op_o (k38_0 w d p7.2) none (fun p8 => op_vN p8.1 none (k34_92 w (d + 1) p8.2)))))))))) := by
  refine (q_34_53 sh_ w.1 w.2 d i1 D).trans ?_
  (try simp only [sf_50, reduceIte, Nat.reduceEqDiff, Nat.add_one_ne_zero, Nat.succ_ne_zero, Nat.add_eq_zero_iff, and_false]) <;> rfl
set_option maxRecDepth 100000 in
set_option maxHeartbeats 4000000 in
theorem e34_92 {w : (Nat → Int32) × Nat} {d : Nat}  {D : dy_} : k34_92 w (d + 1) D = some (none, (dI_ D 50 5 ((D.1 50 5) + (nI 1)))) := by
  refine (q_34_92 sh_ w.1 w.2 d  D).trans ?_
  (try simp only [sf_50, reduceIte, Nat.reduceEqDiff, Nat.add_one_ne_zero, Nat.succ_ne_zero, Nat.add_eq_zero_iff, and_false]) <;> rfl
set_option maxRecDepth 100000 in
set_option maxHeartbeats 4000000 in
theorem e35_0 {w : (Nat → Int32) × Nat} {d : Nat} {i1 : Int32} {D : dy_} : k35_0 w (d + 1) i1 D = if (D.1 50 6) ≠ (-1) then (some (some (.int (nI 0)), D)) else (if (D.1 21 1) ≤ (D.1 50 5) then (some (some (.int (nI 0)), D)) else (mk_inb (D.1 50 5) 500 none (if (D.1 22 (D.1 50 5).toNatClampNeg) ≠ i1 then (some (some (.int (nI 0)), D)) else (some (some (.int (nI 1)), D))))) := by
  refine (q_35_0 sh_ w.1 w.2 d i1 D).trans ?_
  (try simp only [rf_21_0, rf_50_1, sf_21, sf_22, sf_50, reduceIte, Nat.reduceEqDiff, Nat.add_one_ne_zero, Nat.succ_ne_zero, Nat.add_eq_zero_iff, and_false]) <;> rfl
set_option maxRecDepth 100000 in
set_option maxHeartbeats 4000000 in
theorem e36_0 {w : (Nat → Int32) × Nat} {d : Nat}  {D : dy_} : k36_0 w (d + 1) D = op_o (k35_0 w d (nI 40) D) none (fun p1 => op_vI p1.1 none (fun n1 => if n1 ≠ (nI 0) then (some (some (.int (nI 1)), p1.2)) else (op_o (k35_0 w d (nI 33) p1.2) none (fun p2 => op_vI p2.1 none (fun n2 => if n2 ≠ (nI 0) then (some (some (.int (nI 1)), p2.2)) else (op_o (k35_0 w d (nI 46) p2.2) none (fun p3 => op_vI p3.1 none (fun n3 => if n3 ≠ (nI 0) then (some (some (.int (nI 1)), p3.2)) else (op_o (k35_0 w d (nI 48) p3.2) none (fun p4 => op_vI p4.1 none (fun n4 => if n4 ≠ (nI 0) then (some (some (.int (nI 1)), p4.2)) else (op_o (k37_0 w d p4.2) none (fun p5 => op_vI p5.1 none (fun n5 => if n5 = (nI 0) then (some (some (.int (nI 0)), p5.2)) else (some (some (.int (nI 1)), p5.2)))))))))))))))) := by
  refine (q_36_0 sh_ w.1 w.2 d  D).trans ?_
  (try simp only [sf_50, reduceIte, Nat.reduceEqDiff, Nat.add_one_ne_zero, Nat.succ_ne_zero, Nat.add_eq_zero_iff, and_false]) <;> rfl
set_option maxRecDepth 100000 in
set_option maxHeartbeats 4000000 in
theorem e37_0 {w : (Nat → Int32) × Nat} {d : Nat}  {D : dy_} : k37_0 w (d + 1) D = if (D.1 50 6) ≠ (-1) then (some (some (.int (nI 0)), D)) else (if (D.1 50 5) < (D.1 21 1) then (op_o (k52_0 w d (D.1 50 5) D) none (fun p1 => op_vI p1.1 none (fun n1 => if n1 < (nI 0) then (some (some (.int (nI 0)), p1.2)) else (if (p1.2.1 50 4) ≤ n1 then (some (some (.int (nI 0)), p1.2)) else (some (some (.int (nI 1)), p1.2)))))) else (some (some (.int (nI 0)), D))) := by
  refine (q_37_0 sh_ w.1 w.2 d  D).trans ?_
  (try simp only [rf_50_1, sf_21, sf_50, reduceIte, Nat.reduceEqDiff, Nat.add_one_ne_zero, Nat.succ_ne_zero, Nat.add_eq_zero_iff, and_false]) <;> rfl
set_option maxRecDepth 100000 in
set_option maxHeartbeats 4000000 in
theorem e38_0 {w : (Nat → Int32) × Nat} {d : Nat}  {D : dy_} : k38_0 w (d + 1) D = if (D.1 50 6) ≠ (-1) then (some (none, D)) else (some (none, (dI_ D 50 6 (D.1 50 5)))) := by
  refine (q_38_0 sh_ w.1 w.2 d  D).trans ?_
  (try simp only [sf_50, reduceIte, Nat.reduceEqDiff, Nat.add_one_ne_zero, Nat.succ_ne_zero, Nat.add_eq_zero_iff, and_false]) <;> rfl
set_option maxRecDepth 100000 in
set_option maxHeartbeats 4000000 in
theorem e39_0 {w : (Nat → Int32) × Nat} {d : Nat}  {D : dy_} : k39_0 w (d + 1) D = if (nI 96) ≤ (D.1 50 3) then (k39_19 w (d + 1) D) else (k39_19 w (d + 1) (dI_ D 50 3 ((D.1 50 3) + (nI 1)))) := by
  refine (q_39_0 sh_ w.1 w.2 d  D).trans ?_
  (try simp only [sf_50, reduceIte, Nat.reduceEqDiff, Nat.add_one_ne_zero, Nat.succ_ne_zero, Nat.add_eq_zero_iff, and_false]) <;> rfl
set_option maxRecDepth 100000 in
set_option maxHeartbeats 4000000 in
theorem e39_19 {w : (Nat → Int32) × Nat} {d : Nat}  {D : dy_} : k39_19 w (d + 1) D = mk_inb ((D.1 50 3) - (nI 1)) 96 none (if sh_.2.1 51 ((D.1 50 3) - (nI 1)).toNatClampNeg = 0 then none else if (sh_.2.1 51 ((D.1 50 3) - (nI 1)).toNatClampNeg) = 0 then none else some (some (.ref (sh_.2.1 51 ((D.1 50 3) - (nI 1)).toNatClampNeg)), D)) := by
  refine (q_39_19 sh_ w.1 w.2 d  D).trans ?_
  (try simp only [rf_50_2, sf_50, sf_51, reduceIte, Nat.reduceEqDiff, Nat.add_one_ne_zero, Nat.succ_ne_zero, Nat.add_eq_zero_iff, and_false]) <;> rfl
set_option maxRecDepth 100000 in
set_option maxHeartbeats 4000000 in
theorem e40_0 {w : (Nat → Int32) × Nat} {d : Nat}  {D : dy_} : k40_0 w (d + 1) D = if (D.1 50 3) < (nI 1) then (some (none, D)) else (mk_inb ((D.1 50 3) - (nI 1)) 96 none (if sh_.2.1 51 ((D.1 50 3) - (nI 1)).toNatClampNeg = 0 then none else op_o (k39_0 w d D) none (fun p1 => op_vR p1.1 none (fun n1 => if (sh_.1 n1).1 = 11 then (op_o (k14_0 w d n1 (sh_.2.1 51 ((D.1 50 3) - (nI 1)).toNatClampNeg) p1.2) none (fun p2 => op_vN p2.1 none (some (none, p2.2)))) else none)))) := by
  refine (q_40_0 sh_ w.1 w.2 d  D).trans ?_
  (try simp only [rf_50_2, sf_50, sf_51, reduceIte, Nat.reduceEqDiff, Nat.add_one_ne_zero, Nat.succ_ne_zero, Nat.add_eq_zero_iff, and_false]) <;> rfl
set_option maxRecDepth 100000 in
set_option maxHeartbeats 4000000 in
theorem e41_0 {w : (Nat → Int32) × Nat} {d : Nat}  {D : dy_} : k41_0 w (d + 1) D = op_o (k39_0 w d D) none (fun p1 => op_vR p1.1 none (fun n1 => if (sh_.1 n1).1 = 11 then (op_o (k6_0 w d n1 (p1.2.1 50 4) (nI 2) p1.2) none (fun p2 => op_vN p2.1 none (if (sh_.1 n1).1 = 11 then (if sh_.2.1 n1 1 = 0 then none else if (sh_.1 (sh_.2.1 n1 1)).1 = 2 then (mk_inb (nI 0) (sh_.1 (sh_.2.1 n1 1)).2 none (if (sh_.1 n1).1 = 11 then (op_o (k11_0 w d n1 (nI 0) (nI 1) (dI_ p2.2 (sh_.2.1 n1 1) (nI 0).toNatClampNeg (vp_nar .boolean (nI 1)))) none (fun p3 => op_vN p3.1 none (some (none, p3.2)))) else none)) else none) else none))) else none)) := by
  refine (q_41_0 sh_ w.1 w.2 d  D).trans ?_
  (try simp only [sf_50, reduceIte, Nat.reduceEqDiff, Nat.add_one_ne_zero, Nat.succ_ne_zero, Nat.add_eq_zero_iff, and_false]) <;> rfl
set_option maxRecDepth 100000 in
set_option maxHeartbeats 4000000 in
theorem e42_0 {w : (Nat → Int32) × Nat} {d : Nat}  {D : dy_} : k42_0 w (d + 1) D = op_o (k39_0 w d D) none (fun p1 => op_vR p1.1 none (fun n1 => op_o (k35_0 w d (nI 48) p1.2) none (fun p2 => op_vI p2.1 none (fun n2 => if n2 = (nI 0) then (op_o (k35_0 w d (nI 46) p2.2) none (fun p3 => op_vI p3.1 none (fun n3 => if n3 ≠ (nI 0) then (k42_42 w (d + 1) n1 p3.2) else (op_o (k35_0 w d (nI 97) p3.2) none (fun p4 => op_vI p4.1 none (fun n4 => if n4 = (nI 0) then (k42_47 w (d + 1) n1 (nI 2) p4.2) else (k42_42 w (d + 1) n1 p4.2))))))) else (if (sh_.1 n1).1 = 11 then (op_o (k6_0 w d n1 (p2.2.1 50 4) (nI 1) p2.2) none (fun p5 => op_vN p5.1 none (some (none, p5.2)))) else none))))) := by
  refine (q_42_0 sh_ w.1 w.2 d  D).trans ?_
  (try simp only [sf_50, reduceIte, Nat.reduceEqDiff, Nat.add_one_ne_zero, Nat.succ_ne_zero, Nat.add_eq_zero_iff, and_false]) <;> rfl
set_option maxRecDepth 100000 in
set_option maxHeartbeats 4000000 in
theorem e42_42 {w : (Nat → Int32) × Nat} {d : Nat} {r1 : Nat} {D : dy_} (h_r1 : r1 ∈ ml_) : k42_42 w (d + 1) r1 D = k42_47 w (d + 1) r1 (nI 1) D := by
  obtain ⟨m1_r1, m2_r1, m3_r1, m4_r1, m5_r1, m6_r1⟩ := mM_ h_r1
  refine (q_42_42 sh_ w.1 w.2 d r1 D).trans ?_
  (try simp only [m1_r1, m2_r1, m3_r1, m4_r1, m5_r1, reduceIte, Nat.reduceEqDiff, Nat.add_one_ne_zero, Nat.succ_ne_zero, Nat.add_eq_zero_iff, and_false]) <;> rfl
set_option maxRecDepth 100000 in
set_option maxHeartbeats 4000000 in
theorem e42_47 {w : (Nat → Int32) × Nat} {d : Nat} {r1 : Nat} {si0 : Int32} {D : dy_} (h_r1 : r1 ∈ ml_) : k42_47 w (d + 1) r1 si0 D = op_o (k6_0 w d r1 (D.1 50 4) (nI 3) D) none (fun p1 => op_vN p1.1 none (mk_inb si0 (cap_ r1) none (op_o (k35_0 w d (nI 46) (dI_ p1.2 (r1 + 2) si0.toNatClampNeg (vp_nar .boolean (nI 1)))) none (fun p2 => op_vI p2.1 none (fun n2 => if n2 = (nI 0) then (k42_84 w (d + 1) r1 si0 ((nI 3) - si0) r1 (nI 0) ((nI 3) - si0) p2.2) else (k42_84 w (d + 1) r1 si0 ((nI 3) - si0) r1 (nI 0) si0 p2.2)))))) := by
  obtain ⟨m1_r1, m2_r1, m3_r1, m4_r1, m5_r1, m6_r1⟩ := mM_ h_r1
  refine (q_42_47 sh_ w.1 w.2 d r1 si0 D).trans ?_
  (try simp only [sf_50, m1_r1, m2_r1, m3_r1, m4_r1, m5_r1, reduceIte, Nat.reduceEqDiff, Nat.add_one_ne_zero, Nat.succ_ne_zero, Nat.add_eq_zero_iff, and_false]) <;> rfl
set_option maxRecDepth 100000 in
set_option maxHeartbeats 4000000 in
theorem e42_84 {w : (Nat → Int32) × Nat} {d : Nat} {r1 : Nat} {i2 : Int32} {i3 : Int32} {sr0 : Nat} {si1 : Int32} {si2 : Int32} {D : dy_} (h_r1 : r1 ∈ ml_) (h_sr0 : sr0 ∈ ml_) : k42_84 w (d + 1) r1 i2 i3 sr0 si1 si2 D = op_o (k11_0 w d sr0 si1 si2 D) none (fun p1 => op_vN p1.1 none (op_o (k11_0 w d r1 i2 i3 p1.2) none (fun p2 => op_vN p2.1 none (op_o (k37_0 w d p2.2) none (fun p3 => op_vI p3.1 none (fun n3 => if n3 = (nI 0) then (some (none, p3.2)) else (op_o (k52_0 w d (p3.2.1 50 5) p3.2) none (fun p4 => op_vI p4.1 none (fun n4 => op_o (k10_0 w d r1 (nI 0) n4 i2 p4.2) none (fun p5 => op_vN p5.1 none (some (none, p5.2)))))))))))) := by
  obtain ⟨m1_r1, m2_r1, m3_r1, m4_r1, m5_r1, m6_r1⟩ := mM_ h_r1
  obtain ⟨m1_sr0, m2_sr0, m3_sr0, m4_sr0, m5_sr0, m6_sr0⟩ := mM_ h_sr0
  refine (q_42_84 sh_ w.1 w.2 d r1 i2 i3 sr0 si1 si2 D).trans ?_
  (try simp only [rf_50_1, sf_21, sf_50, m1_r1, m2_r1, m3_r1, m4_r1, m5_r1, m1_sr0, m2_sr0, m3_sr0, m4_sr0, m5_sr0, reduceIte, Nat.reduceEqDiff, Nat.add_one_ne_zero, Nat.succ_ne_zero, Nat.add_eq_zero_iff, and_false]) <;> rfl
set_option maxRecDepth 100000 in
set_option maxHeartbeats 4000000 in
theorem e43_0 {w : (Nat → Int32) × Nat} {d : Nat} {i1 : Int32} {D : dy_} : k43_0 w (d + 1) i1 D = op_o (k45_0 w d D) none (fun p1 => op_vI p1.1 none (fun n1 => if n1 = (nI 0) then (some (none, p1.2)) else (if (p1.2.1 50 3) < (nI 1) then (some (none, p1.2)) else (mk_inb ((p1.2.1 50 3) - (nI 1)) 96 none (if sh_.2.1 51 ((p1.2.1 50 3) - (nI 1)).toNatClampNeg = 0 then none else op_o (k69_0 w d (sh_.2.1 51 ((p1.2.1 50 3) - (nI 1)).toNatClampNeg) i1 (sh_.2.1 51 ((p1.2.1 50 3) - (nI 1)).toNatClampNeg) (sh_.2.1 51 ((p1.2.1 50 3) - (nI 1)).toNatClampNeg) p1.2) none (fun p2 => op_vI p2.1 none (fun n2 => if n2 ≠ (-104) then (some (none, (dI_ p2.2 50 7 (nI 0)))) else (some (none, (dI_ p2.2 50 7 (nI 1))))))))))) := by
  refine (q_43_0 sh_ w.1 w.2 d i1 D).trans ?_
  (try simp only [rf_50_0, rf_50_2, sf_23, sf_50, sf_51, reduceIte, Nat.reduceEqDiff, Nat.add_one_ne_zero, Nat.succ_ne_zero, Nat.add_eq_zero_iff, and_false]) <;> rfl
set_option maxRecDepth 100000 in
set_option maxHeartbeats 4000000 in
theorem e44_0 {w : (Nat → Int32) × Nat} {d : Nat} {i1 : Int32} {D : dy_} : k44_0 w (d + 1) i1 D = if (nI 2) ≤ (D.1 50 3) then (op_o (k45_0 w d (dI_ D 50 3 ((D.1 50 3) - (nI 1)))) none (fun p1 => op_vI p1.1 none (fun n1 => if n1 = (nI 0) then (some (none, p1.2)) else (mk_inb ((p1.2.1 50 3) - (nI 1)) 96 none (if sh_.2.1 51 ((p1.2.1 50 3) - (nI 1)).toNatClampNeg = 0 then none else mk_inb ((p1.2.1 50 3) - (nI 1)) 96 none (if sh_.2.1 51 ((p1.2.1 50 3) - (nI 1)).toNatClampNeg = 0 then none else mk_inb (p1.2.1 50 3) 96 none (if sh_.2.1 51 (p1.2.1 50 3).toNatClampNeg = 0 then none else op_o (k69_0 w d (sh_.2.1 51 ((p1.2.1 50 3) - (nI 1)).toNatClampNeg) i1 (sh_.2.1 51 ((p1.2.1 50 3) - (nI 1)).toNatClampNeg) (sh_.2.1 51 (p1.2.1 50 3).toNatClampNeg) p1.2) none (fun p2 => op_vI p2.1 none (fun n2 => if n2 ≠ (-104) then (some (none, (dI_ p2.2 50 7 (nI 0)))) else (some (none, (dI_ p2.2 50 7 (nI 1))))))))))))) else (some (none, D)) := by
  refine (q_44_0 sh_ w.1 w.2 d i1 D).trans ?_
  (try simp only [rf_50_0, rf_50_2, sf_23, sf_50, sf_51, reduceIte, Nat.reduceEqDiff, Nat.add_one_ne_zero, Nat.succ_ne_zero, Nat.add_eq_zero_iff, and_false]) <;> rfl
set_option maxRecDepth 100000 in
set_option maxHeartbeats 4000000 in
theorem e45_0 {w : (Nat → Int32) × Nat} {d : Nat}  {D : dy_} : k45_0 w (d + 1) D = if (D.1 50 6) ≠ (-1) then (some (some (.int (nI 0)), D)) else (if (D.1 50 7) ≠ (nI 0) then (some (some (.int (nI 0)), D)) else (some (some (.int (nI 1)), D))) := by
  refine (q_45_0 sh_ w.1 w.2 d  D).trans ?_
  (try simp only [sf_50, reduceIte, Nat.reduceEqDiff, Nat.add_one_ne_zero, Nat.succ_ne_zero, Nat.add_eq_zero_iff, and_false]) <;> rfl
set_option maxRecDepth 100000 in
set_option maxHeartbeats 4000000 in
theorem e47_0 {w : (Nat → Int32) × Nat} {d : Nat}  {D : dy_} : k47_0 w (d + 1) D = op_o (k186_0 w d 40 (-1) D) none (fun p1 => op_vN p1.1 none (some (none, (dI_ p1.2 36 4 (nI 0))))) := by
  refine (q_47_0 sh_ w.1 w.2 d  D).trans ?_
  (try simp only [rf_36_3, sf_36, reduceIte, Nat.reduceEqDiff, Nat.add_one_ne_zero, Nat.succ_ne_zero, Nat.add_eq_zero_iff, and_false]) <;> rfl
set_option maxRecDepth 100000 in
set_option maxHeartbeats 4000000 in
theorem e48_0 {w : (Nat → Int32) × Nat} {d : Nat} {i1 : Int32} {j2 : Int64} {D : dy_} : k48_0 w (d + 1) i1 j2 D = mk_inb (((((j2 + i1.toInt64) * (-7046029254386353131)).toUInt64 >>> ((nI 55).toInt64.toUInt64 &&& Int64.toUInt64 63)).toInt64).toInt32) 512 none (k48_29 w (d + 1) i1 j2 (((((j2 + i1.toInt64) * (-7046029254386353131)).toUInt64 >>> ((nI 55).toInt64.toUInt64 &&& Int64.toUInt64 63)).toInt64).toInt32) (D.1 40 (((((j2 + i1.toInt64) * (-7046029254386353131)).toUInt64 >>> ((nI 55).toInt64.toUInt64 &&& Int64.toUInt64 63)).toInt64).toInt32).toNatClampNeg) (D.1 36 4) D) := by
  refine (q_48_0 sh_ w.1 w.2 d i1 j2 D).trans ?_
  (try simp only [rf_36_3, sf_36, sf_40, reduceIte, Nat.reduceEqDiff, Nat.add_one_ne_zero, Nat.succ_ne_zero, Nat.add_eq_zero_iff, and_false]) <;> rfl
set_option maxRecDepth 100000 in
set_option maxHeartbeats 4000000 in
theorem e48_29 {w : (Nat → Int32) × Nat} {d : Nat} {i1 : Int32} {j2 : Int64} {i4 : Int32} {i5 : Int32} {i6 : Int32} {D : dy_} : k48_29 w (d + 1) i1 j2 i4 i5 i6 D = if i6 ≤ (nI 0) then (k48_80 w (d + 1) i1 j2 i4 D) else (if i5 < (nI 0) then (k48_80 w (d + 1) i1 j2 i4 D) else (mk_inb i5 500 none (if (lg_cmp (D.2 37 i5.toNatClampNeg) j2) ≠ (nI 0) then (k48_65 w (d + 1) i1 j2 i4 i5 i6 D) else (mk_inb i5 500 none (if (D.1 38 i5.toNatClampNeg) ≠ i1 then (k48_65 w (d + 1) i1 j2 i4 i5 i6 D) else (some (some (.int i5), D))))))) := by
  refine (q_48_29 sh_ w.1 w.2 d i1 j2 i4 i5 i6 D).trans ?_
  (try simp only [rf_36_0, rf_36_1, sf_36, sf_37, sf_38, reduceIte, Nat.reduceEqDiff, Nat.add_one_ne_zero, Nat.succ_ne_zero, Nat.add_eq_zero_iff, and_false]) <;> rfl
set_option maxRecDepth 100000 in
set_option maxHeartbeats 4000000 in
theorem e48_65 {w : (Nat → Int32) × Nat} {d : Nat} {i1 : Int32} {j2 : Int64} {i4 : Int32} {i5 : Int32} {i6 : Int32} {D : dy_} : k48_65 w (d + 1) i1 j2 i4 i5 i6 D = mk_inb i5 500 none (k48_29 w (d + 1) i1 j2 i4 (D.1 39 i5.toNatClampNeg) (i6 + (-1)) D) := by
  refine (q_48_65 sh_ w.1 w.2 d i1 j2 i4 i5 i6 D).trans ?_
  (try simp only [rf_36_2, sf_36, sf_39, reduceIte, Nat.reduceEqDiff, Nat.add_one_ne_zero, Nat.succ_ne_zero, Nat.add_eq_zero_iff, and_false]) <;> rfl
set_option maxRecDepth 100000 in
set_option maxHeartbeats 4000000 in
theorem e48_80 {w : (Nat → Int32) × Nat} {d : Nat} {i1 : Int32} {j2 : Int64} {i4 : Int32} {D : dy_} : k48_80 w (d + 1) i1 j2 i4 D = if (D.1 36 4) < (nI 500) then (mk_inb (D.1 36 4) 500 none (mk_inb (D.1 36 4) 500 none (mk_inb i4 512 none (mk_inb ((dI_ D 38 (D.1 36 4).toNatClampNeg i1).1 36 4) 500 none (mk_inb i4 512 none (some (some (.int (((dI_ (dI_ (dI_ (dI_ D 38 (D.1 36 4).toNatClampNeg i1) 39 ((dI_ D 38 (D.1 36 4).toNatClampNeg i1).1 36 4).toNatClampNeg ((dI_ D 38 (D.1 36 4).toNatClampNeg i1).1 40 i4.toNatClampNeg)) 40 i4.toNatClampNeg ((dI_ (dI_ D 38 (D.1 36 4).toNatClampNeg i1) 39 ((dI_ D 38 (D.1 36 4).toNatClampNeg i1).1 36 4).toNatClampNeg ((dI_ D 38 (D.1 36 4).toNatClampNeg i1).1 40 i4.toNatClampNeg)).1 36 4)) 36 4 (((dI_ (dI_ (dI_ D 38 (D.1 36 4).toNatClampNeg i1) 39 ((dI_ D 38 (D.1 36 4).toNatClampNeg i1).1 36 4).toNatClampNeg ((dI_ D 38 (D.1 36 4).toNatClampNeg i1).1 40 i4.toNatClampNeg)) 40 i4.toNatClampNeg ((dI_ (dI_ D 38 (D.1 36 4).toNatClampNeg i1) 39 ((dI_ D 38 (D.1 36 4).toNatClampNeg i1).1 36 4).toNatClampNeg ((dI_ D 38 (D.1 36 4).toNatClampNeg i1).1 40 i4.toNatClampNeg)).1 36 4)).1 36 4) + (nI 1))).1 36 4) - (nI 1))), (dI_ (dI_ (dI_ (dI_ (dL_ D 37 (D.1 36 4).toNatClampNeg j2) 38 (D.1 36 4).toNatClampNeg i1) 39 ((dI_ D 38 (D.1 36 4).toNatClampNeg i1).1 36 4).toNatClampNeg ((dI_ D 38 (D.1 36 4).toNatClampNeg i1).1 40 i4.toNatClampNeg)) 40 i4.toNatClampNeg ((dI_ (dI_ D 38 (D.1 36 4).toNatClampNeg i1) 39 ((dI_ D 38 (D.1 36 4).toNatClampNeg i1).1 36 4).toNatClampNeg ((dI_ D 38 (D.1 36 4).toNatClampNeg i1).1 40 i4.toNatClampNeg)).1 36 4)) 36 4 (((dI_ (dI_ (dI_ D 38 (D.1 36 4).toNatClampNeg i1) 39 ((dI_ D 38 (D.1 36 4).toNatClampNeg i1).1 36 4).toNatClampNeg ((dI_ D 38 (D.1 36 4).toNatClampNeg i1).1 40 i4.toNatClampNeg)) 40 i4.toNatClampNeg ((dI_ (dI_ D 38 (D.1 36 4).toNatClampNeg i1) 39 ((dI_ D 38 (D.1 36 4).toNatClampNeg i1).1 36 4).toNatClampNeg ((dI_ D 38 (D.1 36 4).toNatClampNeg i1).1 40 i4.toNatClampNeg)).1 36 4)).1 36 4) + (nI 1)))))))))) else (some (some (.int (-1)), D)) := by
  refine (q_48_80 sh_ w.1 w.2 d i1 j2 i4 D).trans ?_
  (try simp only [rf_36_0, rf_36_1, rf_36_2, rf_36_3, sf_36, sf_37, sf_38, sf_39, sf_40, reduceIte, Nat.reduceEqDiff, Nat.add_one_ne_zero, Nat.succ_ne_zero, Nat.add_eq_zero_iff, and_false]) <;> rfl
set_option maxRecDepth 100000 in
set_option maxHeartbeats 4000000 in
theorem e50_0 {w : (Nat → Int32) × Nat} {d : Nat} {i1 : Int32} {D : dy_} : k50_0 w (d + 1) i1 D = k50_3 w (d + 1) i1 (nI 24) D := by
  refine (q_50_0 sh_ w.1 w.2 d i1 D).trans ?_
  (try simp only [reduceIte, Nat.reduceEqDiff, Nat.add_one_ne_zero, Nat.succ_ne_zero, Nat.add_eq_zero_iff, and_false]) <;> rfl
set_option maxRecDepth 100000 in
set_option maxHeartbeats 4000000 in
theorem e50_3 {w : (Nat → Int32) × Nat} {d : Nat} {i1 : Int32} {i2 : Int32} {D : dy_} : k50_3 w (d + 1) i1 i2 D = if i2 < (nI 0) then (some (none, D)) else (if (nI 500) ≤ (D.1 21 1) then (some (none, D)) else (mk_inb (D.1 21 1) 500 none (k50_3 w (d + 1) i1 (i2 + (-8)) (dI_ (dI_ D 22 (D.1 21 1).toNatClampNeg (((i1.toUInt32 >>> (i2.toUInt32 &&& Int32.toUInt32 31)).toInt32) &&& (nI 255))) 21 1 (((dI_ D 22 (D.1 21 1).toNatClampNeg (((i1.toUInt32 >>> (i2.toUInt32 &&& Int32.toUInt32 31)).toInt32) &&& (nI 255))).1 21 1) + (nI 1)))))) := by
  refine (q_50_3 sh_ w.1 w.2 d i1 i2 D).trans ?_
  (try simp only [rf_21_0, sf_21, sf_22, reduceIte, Nat.reduceEqDiff, Nat.add_one_ne_zero, Nat.succ_ne_zero, Nat.add_eq_zero_iff, and_false]) <;> rfl
set_option maxRecDepth 100000 in
set_option maxHeartbeats 4000000 in
theorem e51_0 {w : (Nat → Int32) × Nat} {d : Nat} {i1 : Int32} {i2 : Int32} {D : dy_} : k51_0 w (d + 1) i1 i2 D = if i1 < (nI 0) then (some (none, D)) else (if (nI 500) ≤ i1 then (some (none, D)) else (mk_inb i1 500 none (some (none, (dI_ D 22 i1.toNatClampNeg ((nI 97) + i2)))))) := by
  refine (q_51_0 sh_ w.1 w.2 d i1 i2 D).trans ?_
  (try simp only [rf_21_0, sf_21, sf_22, reduceIte, Nat.reduceEqDiff, Nat.add_one_ne_zero, Nat.succ_ne_zero, Nat.add_eq_zero_iff, and_false]) <;> rfl
set_option maxRecDepth 100000 in
set_option maxHeartbeats 4000000 in
theorem e52_0 {w : (Nat → Int32) × Nat} {d : Nat} {i1 : Int32} {D : dy_} : k52_0 w (d + 1) i1 D = mk_inb i1 500 none (some (some (.int ((D.1 22 i1.toNatClampNeg) - (nI 97))), D)) := by
  refine (q_52_0 sh_ w.1 w.2 d i1 D).trans ?_
  (try simp only [rf_21_0, sf_21, sf_22, reduceIte, Nat.reduceEqDiff, Nat.add_one_ne_zero, Nat.succ_ne_zero, Nat.add_eq_zero_iff, and_false]) <;> rfl
set_option maxRecDepth 100000 in
set_option maxHeartbeats 4000000 in
theorem e53_0 {w : (Nat → Int32) × Nat} {d : Nat} {r1 : Nat} {D : dy_} (h_r1 : r1 ∈ ml_) : k53_0 w (d + 1) r1 D = k53_2 w (d + 1) r1 (nI 0) D := by
  obtain ⟨m1_r1, m2_r1, m3_r1, m4_r1, m5_r1, m6_r1⟩ := mM_ h_r1
  refine (q_53_0 sh_ w.1 w.2 d r1 D).trans ?_
  (try simp only [m1_r1, m2_r1, m3_r1, m4_r1, m5_r1, reduceIte, Nat.reduceEqDiff, Nat.add_one_ne_zero, Nat.succ_ne_zero, Nat.add_eq_zero_iff, and_false]) <;> rfl
set_option maxRecDepth 100000 in
set_option maxHeartbeats 4000000 in
theorem e53_2 {w : (Nat → Int32) × Nat} {d : Nat} {r1 : Nat} {i2 : Int32} {D : dy_} (h_r1 : r1 ∈ ml_) : k53_2 w (d + 1) r1 i2 D = if (D.1 21 1) ≤ i2 then (some (some (.int (nI 1)), D)) else (op_o (k52_0 w d i2 D) none (fun p1 => op_vI p1.1 none (fun n1 => op_o (k8_0 w d r1 n1 p1.2) none (fun p2 => op_vI p2.1 none (fun n2 => if n2 ≠ (nI 0) then (k53_2 w (d + 1) r1 (i2 + (nI 1)) p2.2) else (some (some (.int (nI 0)), p2.2))))))) := by
  obtain ⟨m1_r1, m2_r1, m3_r1, m4_r1, m5_r1, m6_r1⟩ := mM_ h_r1
  refine (q_53_2 sh_ w.1 w.2 d r1 i2 D).trans ?_
  (try simp only [sf_21, m1_r1, m2_r1, m3_r1, m4_r1, m5_r1, reduceIte, Nat.reduceEqDiff, Nat.add_one_ne_zero, Nat.succ_ne_zero, Nat.add_eq_zero_iff, and_false]) <;> rfl
set_option maxRecDepth 100000 in
set_option maxHeartbeats 4000000 in
theorem e54_0 {w : (Nat → Int32) × Nat} {d : Nat} {r1 : Nat} {D : dy_} (h_r1 : r1 ∈ ml_) : k54_0 w (d + 1) r1 D = k54_7 w (d + 1) r1 (D.1 r1 4) (nI 0) D := by
  obtain ⟨m1_r1, m2_r1, m3_r1, m4_r1, m5_r1, m6_r1⟩ := mM_ h_r1
  refine (q_54_0 sh_ w.1 w.2 d r1 D).trans ?_
  (try simp only [m1_r1, m2_r1, m3_r1, m4_r1, m5_r1, reduceIte, Nat.reduceEqDiff, Nat.add_one_ne_zero, Nat.succ_ne_zero, Nat.add_eq_zero_iff, and_false]) <;> rfl
set_option maxRecDepth 100000 in
set_option maxHeartbeats 4000000 in
theorem e54_7 {w : (Nat → Int32) × Nat} {d : Nat} {r1 : Nat} {i2 : Int32} {i3 : Int32} {D : dy_} (h_r1 : r1 ∈ ml_) : k54_7 w (d + 1) r1 i2 i3 D = if (D.1 21 1) ≤ i3 then (some (some (.int i2), D)) else (op_o (k52_0 w d i3 D) none (fun p1 => op_vI p1.1 none (fun n1 => op_o (k9_0 w d r1 i2 n1 p1.2) none (fun p2 => op_vI p2.1 none (fun n2 => k54_7 w (d + 1) r1 n2 (i3 + (nI 1)) p2.2))))) := by
  obtain ⟨m1_r1, m2_r1, m3_r1, m4_r1, m5_r1, m6_r1⟩ := mM_ h_r1
  refine (q_54_7 sh_ w.1 w.2 d r1 i2 i3 D).trans ?_
  (try simp only [sf_21, m1_r1, m2_r1, m3_r1, m4_r1, m5_r1, reduceIte, Nat.reduceEqDiff, Nat.add_one_ne_zero, Nat.succ_ne_zero, Nat.add_eq_zero_iff, and_false]) <;> rfl
set_option maxRecDepth 100000 in
set_option maxHeartbeats 4000000 in
theorem e56_0 {w : (Nat → Int32) × Nat} {d : Nat} {r1 : Nat} {i2 : Int32} {D : dy_} (h_r1 : r1 ∈ ml_) : k56_0 w (d + 1) r1 i2 D = k56_2 w (d + 1) r1 i2 (nI 0) D := by
  obtain ⟨m1_r1, m2_r1, m3_r1, m4_r1, m5_r1, m6_r1⟩ := mM_ h_r1
  refine (q_56_0 sh_ w.1 w.2 d r1 i2 D).trans ?_
  (try simp only [m1_r1, m2_r1, m3_r1, m4_r1, m5_r1, reduceIte, Nat.reduceEqDiff, Nat.add_one_ne_zero, Nat.succ_ne_zero, Nat.add_eq_zero_iff, and_false]) <;> rfl
set_option maxRecDepth 100000 in
set_option maxHeartbeats 4000000 in
theorem e56_2 {w : (Nat → Int32) × Nat} {d : Nat} {r1 : Nat} {i2 : Int32} {i3 : Int32} {D : dy_} (h_r1 : r1 ∈ ml_) : k56_2 w (d + 1) r1 i2 i3 D = if i2 < i3 then (op_o (k60_0 w d (D.1 r1 4) i2 D) none (fun p1 => op_vL p1.1 none (fun n1 => some (some (.long n1), p1.2)))) else (op_o (k61_0 w d r1 i3 D) none (fun p2 => op_vN p2.1 none (k56_2 w (d + 1) r1 i2 (i3 + (nI 1)) p2.2))) := by
  obtain ⟨m1_r1, m2_r1, m3_r1, m4_r1, m5_r1, m6_r1⟩ := mM_ h_r1
  refine (q_56_2 sh_ w.1 w.2 d r1 i2 i3 D).trans ?_
  (try simp only [sf_340, m1_r1, m2_r1, m3_r1, m4_r1, m5_r1, reduceIte, Nat.reduceEqDiff, Nat.add_one_ne_zero, Nat.succ_ne_zero, Nat.add_eq_zero_iff, and_false]) <;> rfl
set_option maxRecDepth 100000 in
set_option maxHeartbeats 4000000 in
theorem e57_0 {w : (Nat → Int32) × Nat} {d : Nat} {r1 : Nat} {j2 : Int64} {D : dy_} (h_r1 : r1 ∈ ml_) : k57_0 w (d + 1) r1 j2 D = k57_6 w (d + 1) r1 j2 (nI 0) D := by
  obtain ⟨m1_r1, m2_r1, m3_r1, m4_r1, m5_r1, m6_r1⟩ := mM_ h_r1
  refine (q_57_0 sh_ w.1 w.2 d r1 j2 D).trans ?_
  (try simp only [m1_r1, m2_r1, m3_r1, m4_r1, m5_r1, reduceIte, Nat.reduceEqDiff, Nat.add_one_ne_zero, Nat.succ_ne_zero, Nat.add_eq_zero_iff, and_false]) <;> rfl
set_option maxRecDepth 100000 in
set_option maxHeartbeats 4000000 in
theorem e57_6 {w : (Nat → Int32) × Nat} {d : Nat} {r1 : Nat} {j5 : Int64} {i7 : Int32} {D : dy_} (h_r1 : r1 ∈ ml_) : k57_6 w (d + 1) r1 j5 i7 D = if (nI 30) < i7 then (some (some (.int (-1)), D)) else (op_o (k61_0 w d r1 i7 D) none (fun p1 => op_vN p1.1 none (op_o (k60_0 w d (p1.2.1 r1 4) i7 p1.2) none (fun p2 => op_vL p2.1 none (fun n2 => if (nI 0) ≤ (lg_cmp j5 n2) then (k57_6 w (d + 1) r1 (j5 - n2) (i7 + (nI 1)) p2.2) else (op_o (k59_0 w d r1 i7 j5 p2.2) none (fun p3 => op_vN p3.1 none (some (some (.int i7), p3.2))))))))) := by
  obtain ⟨m1_r1, m2_r1, m3_r1, m4_r1, m5_r1, m6_r1⟩ := mM_ h_r1
  refine (q_57_6 sh_ w.1 w.2 d r1 j5 i7 D).trans ?_
  (try simp only [sf_340, m1_r1, m2_r1, m3_r1, m4_r1, m5_r1, reduceIte, Nat.reduceEqDiff, Nat.add_one_ne_zero, Nat.succ_ne_zero, Nat.add_eq_zero_iff, and_false]) <;> rfl
set_option maxRecDepth 100000 in
set_option maxHeartbeats 4000000 in
theorem e58_0 {w : (Nat → Int32) × Nat} {d : Nat} {r1 : Nat} {D : dy_} (h_r1 : r1 ∈ ml_) : k58_0 w (d + 1) r1 D = k58_5 w (d + 1) r1 (lN 0) (nI 0) D := by
  obtain ⟨m1_r1, m2_r1, m3_r1, m4_r1, m5_r1, m6_r1⟩ := mM_ h_r1
  refine (q_58_0 sh_ w.1 w.2 d r1 D).trans ?_
  (try simp only [m1_r1, m2_r1, m3_r1, m4_r1, m5_r1, reduceIte, Nat.reduceEqDiff, Nat.add_one_ne_zero, Nat.succ_ne_zero, Nat.add_eq_zero_iff, and_false]) <;> rfl
set_option maxRecDepth 100000 in
set_option maxHeartbeats 4000000 in
theorem e58_5 {w : (Nat → Int32) × Nat} {d : Nat} {r1 : Nat} {j3 : Int64} {i5 : Int32} {D : dy_} (h_r1 : r1 ∈ ml_) : k58_5 w (d + 1) r1 j3 i5 D = if (D.1 21 1) < i5 then (k58_58 w (d + 1) r1 j3 (D.1 r1 4) (nI 0) D) else (op_o (k61_0 w d r1 i5 D) none (fun p1 => op_vN p1.1 none (if (p1.2.1 21 1) ≤ i5 then (k58_43 w (d + 1) r1 j3 i5 p1.2) else (op_o (k60_0 w d (p1.2.1 r1 4) i5 p1.2) none (fun p2 => op_vL p2.1 none (fun n2 => k58_43 w (d + 1) r1 (j3 + n2) i5 p2.2)))))) := by
  obtain ⟨m1_r1, m2_r1, m3_r1, m4_r1, m5_r1, m6_r1⟩ := mM_ h_r1
  refine (q_58_5 sh_ w.1 w.2 d r1 j3 i5 D).trans ?_
  (try simp only [sf_21, sf_340, m1_r1, m2_r1, m3_r1, m4_r1, m5_r1, reduceIte, Nat.reduceEqDiff, Nat.add_one_ne_zero, Nat.succ_ne_zero, Nat.add_eq_zero_iff, and_false]) <;> rfl
set_option maxRecDepth 100000 in
set_option maxHeartbeats 4000000 in
theorem e58_43 {w : (Nat → Int32) × Nat} {d : Nat} {r1 : Nat} {j3 : Int64} {i5 : Int32} {D : dy_} (h_r1 : r1 ∈ ml_) : k58_43 w (d + 1) r1 j3 i5 D = k58_5 w (d + 1) r1 j3 (i5 + (nI 1)) D := by
  obtain ⟨m1_r1, m2_r1, m3_r1, m4_r1, m5_r1, m6_r1⟩ := mM_ h_r1
  refine (q_58_43 sh_ w.1 w.2 d r1 j3 i5 D).trans ?_
  (try simp only [m1_r1, m2_r1, m3_r1, m4_r1, m5_r1, reduceIte, Nat.reduceEqDiff, Nat.add_one_ne_zero, Nat.succ_ne_zero, Nat.add_eq_zero_iff, and_false]) <;> rfl
set_option maxRecDepth 100000 in
set_option maxHeartbeats 4000000 in
theorem e58_58 {w : (Nat → Int32) × Nat} {d : Nat} {r1 : Nat} {j3 : Int64} {i5 : Int32} {i6 : Int32} {D : dy_} (h_r1 : r1 ∈ ml_) : k58_58 w (d + 1) r1 j3 i5 i6 D = if (D.1 21 1) ≤ i6 then (some (some (.long j3), D)) else (op_o (k52_0 w d i6 D) none (fun p1 => op_vI p1.1 none (fun n1 => k58_78 w (d + 1) r1 j3 i5 i6 n1 (nI 0) p1.2))) := by
  obtain ⟨m1_r1, m2_r1, m3_r1, m4_r1, m5_r1, m6_r1⟩ := mM_ h_r1
  refine (q_58_58 sh_ w.1 w.2 d r1 j3 i5 i6 D).trans ?_
  (try simp only [sf_21, m1_r1, m2_r1, m3_r1, m4_r1, m5_r1, reduceIte, Nat.reduceEqDiff, Nat.add_one_ne_zero, Nat.succ_ne_zero, Nat.add_eq_zero_iff, and_false]) <;> rfl
set_option maxRecDepth 100000 in
set_option maxHeartbeats 4000000 in
theorem e58_78 {w : (Nat → Int32) × Nat} {d : Nat} {r1 : Nat} {j3 : Int64} {i5 : Int32} {i6 : Int32} {i7 : Int32} {i8 : Int32} {D : dy_} (h_r1 : r1 ∈ ml_) : k58_78 w (d + 1) r1 j3 i5 i6 i7 i8 D = if i7 ≤ i8 then (op_o (k9_0 w d r1 i5 i7 D) none (fun p1 => op_vI p1.1 none (fun n1 => k58_58 w (d + 1) r1 j3 n1 (i6 + (nI 1)) p1.2))) else (op_o (k9_0 w d r1 i5 i8 D) none (fun p2 => op_vI p2.1 none (fun n2 => op_o (k60_0 w d n2 (((p2.2.1 21 1) - i6) - (nI 1)) p2.2) none (fun p3 => op_vL p3.1 none (fun n3 => k58_78 w (d + 1) r1 (j3 + n3) i5 i6 i7 (i8 + (nI 1)) p3.2))))) := by
  obtain ⟨m1_r1, m2_r1, m3_r1, m4_r1, m5_r1, m6_r1⟩ := mM_ h_r1
  refine (q_58_78 sh_ w.1 w.2 d r1 j3 i5 i6 i7 i8 D).trans ?_
  (try simp only [sf_21, sf_340, m1_r1, m2_r1, m3_r1, m4_r1, m5_r1, reduceIte, Nat.reduceEqDiff, Nat.add_one_ne_zero, Nat.succ_ne_zero, Nat.add_eq_zero_iff, and_false]) <;> rfl
set_option maxRecDepth 100000 in
set_option maxHeartbeats 4000000 in
theorem e59_0 {w : (Nat → Int32) × Nat} {d : Nat} {r1 : Nat} {i2 : Int32} {j3 : Int64} {D : dy_} (h_r1 : r1 ∈ ml_) : k59_0 w (d + 1) r1 i2 j3 D = k59_18 w (d + 1) r1 i2 j3 ((dI_ D 21 1 i2).1 r1 4) (nI 0) (dI_ D 21 1 i2) := by
  obtain ⟨m1_r1, m2_r1, m3_r1, m4_r1, m5_r1, m6_r1⟩ := mM_ h_r1
  refine (q_59_0 sh_ w.1 w.2 d r1 i2 j3 D).trans ?_
  (try simp only [sf_21, m1_r1, m2_r1, m3_r1, m4_r1, m5_r1, reduceIte, Nat.reduceEqDiff, Nat.add_one_ne_zero, Nat.succ_ne_zero, Nat.add_eq_zero_iff, and_false]) <;> rfl
set_option maxRecDepth 100000 in
set_option maxHeartbeats 4000000 in
theorem e59_18 {w : (Nat → Int32) × Nat} {d : Nat} {r1 : Nat} {i2 : Int32} {j6 : Int64} {i8 : Int32} {i9 : Int32} {D : dy_} (h_r1 : r1 ∈ ml_) : k59_18 w (d + 1) r1 i2 j6 i8 i9 D = if i2 ≤ i9 then (some (none, D)) else (op_o (k9_0 w d r1 i8 (nI 0) D) none (fun p1 => op_vI p1.1 none (fun n1 => op_o (k60_0 w d n1 ((i2 - i9) - (nI 1)) p1.2) none (fun p2 => op_vL p2.1 none (fun n2 => k59_46 w (d + 1) r1 i2 j6 i8 i9 (nI 0) n2 p2.2))))) := by
  obtain ⟨m1_r1, m2_r1, m3_r1, m4_r1, m5_r1, m6_r1⟩ := mM_ h_r1
  refine (q_59_18 sh_ w.1 w.2 d r1 i2 j6 i8 i9 D).trans ?_
  (try simp only [sf_340, m1_r1, m2_r1, m3_r1, m4_r1, m5_r1, reduceIte, Nat.reduceEqDiff, Nat.add_one_ne_zero, Nat.succ_ne_zero, Nat.add_eq_zero_iff, and_false]) <;> rfl
set_option maxRecDepth 100000 in
set_option maxHeartbeats 4000000 in
theorem e59_46 {w : (Nat → Int32) × Nat} {d : Nat} {r1 : Nat} {i2 : Int32} {j6 : Int64} {i8 : Int32} {i9 : Int32} {i10 : Int32} {j11 : Int64} {D : dy_} (h_r1 : r1 ∈ ml_) : k59_46 w (d + 1) r1 i2 j6 i8 i9 i10 j11 D = if (lg_cmp j6 j11) < (nI 0) then (k59_98 w (d + 1) r1 i2 j6 i8 i9 i10 D) else (if ((D.1 r1 2) - (nI 1)) ≤ i10 then (k59_98 w (d + 1) r1 i2 j6 i8 i9 i10 D) else (op_o (k9_0 w d r1 i8 (i10 + (nI 1)) D) none (fun p1 => op_vI p1.1 none (fun n1 => op_o (k60_0 w d n1 ((i2 - i9) - (nI 1)) p1.2) none (fun p2 => op_vL p2.1 none (fun n2 => k59_46 w (d + 1) r1 i2 (j6 - j11) i8 i9 (i10 + (nI 1)) n2 p2.2)))))) := by
  obtain ⟨m1_r1, m2_r1, m3_r1, m4_r1, m5_r1, m6_r1⟩ := mM_ h_r1
  refine (q_59_46 sh_ w.1 w.2 d r1 i2 j6 i8 i9 i10 j11 D).trans ?_
  (try simp only [sf_340, m1_r1, m2_r1, m3_r1, m4_r1, m5_r1, reduceIte, Nat.reduceEqDiff, Nat.add_one_ne_zero, Nat.succ_ne_zero, Nat.add_eq_zero_iff, and_false]) <;> rfl
set_option maxRecDepth 100000 in
set_option maxHeartbeats 4000000 in
theorem e59_98 {w : (Nat → Int32) × Nat} {d : Nat} {r1 : Nat} {i2 : Int32} {j6 : Int64} {i8 : Int32} {i9 : Int32} {i10 : Int32} {D : dy_} (h_r1 : r1 ∈ ml_) : k59_98 w (d + 1) r1 i2 j6 i8 i9 i10 D = op_o (k51_0 w d i9 i10 D) none (fun p1 => op_vN p1.1 none (op_o (k9_0 w d r1 i8 i10 p1.2) none (fun p2 => op_vI p2.1 none (fun n2 => k59_18 w (d + 1) r1 i2 j6 n2 (i9 + (nI 1)) p2.2)))) := by
  obtain ⟨m1_r1, m2_r1, m3_r1, m4_r1, m5_r1, m6_r1⟩ := mM_ h_r1
  refine (q_59_98 sh_ w.1 w.2 d r1 i2 j6 i8 i9 i10 D).trans ?_
  (try simp only [sf_21, m1_r1, m2_r1, m3_r1, m4_r1, m5_r1, reduceIte, Nat.reduceEqDiff, Nat.add_one_ne_zero, Nat.succ_ne_zero, Nat.add_eq_zero_iff, and_false]) <;> rfl
set_option maxRecDepth 100000 in
set_option maxHeartbeats 4000000 in
theorem e60_0 {w : (Nat → Int32) × Nat} {d : Nat} {i1 : Int32} {i2 : Int32} {D : dy_} : k60_0 w (d + 1) i1 i2 D = mk_inb ((i2 * (nI 60)) + i1) 1860 none (some (some (.long (D.2 341 ((i2 * (nI 60)) + i1).toNatClampNeg)), D)) := by
  refine (q_60_0 sh_ w.1 w.2 d i1 i2 D).trans ?_
  (try simp only [rf_340_0, sf_340, sf_341, reduceIte, Nat.reduceEqDiff, Nat.add_one_ne_zero, Nat.succ_ne_zero, Nat.add_eq_zero_iff, and_false]) <;> rfl
set_option maxRecDepth 100000 in
set_option maxHeartbeats 4000000 in
theorem e61_0 {w : (Nat → Int32) × Nat} {d : Nat} {r1 : Nat} {i2 : Int32} {D : dy_} (h_r1 : r1 ∈ ml_) : k61_0 w (d + 1) r1 i2 D = k61_2 w (d + 1) r1 i2 (nI 0) D := by
  obtain ⟨m1_r1, m2_r1, m3_r1, m4_r1, m5_r1, m6_r1⟩ := mM_ h_r1
  refine (q_61_0 sh_ w.1 w.2 d r1 i2 D).trans ?_
  (try simp only [m1_r1, m2_r1, m3_r1, m4_r1, m5_r1, reduceIte, Nat.reduceEqDiff, Nat.add_one_ne_zero, Nat.succ_ne_zero, Nat.add_eq_zero_iff, and_false]) <;> rfl
set_option maxRecDepth 100000 in
set_option maxHeartbeats 4000000 in
theorem e61_2 {w : (Nat → Int32) × Nat} {d : Nat} {r1 : Nat} {i2 : Int32} {i3 : Int32} {D : dy_} (h_r1 : r1 ∈ ml_) : k61_2 w (d + 1) r1 i2 i3 D = if (D.1 r1 3) ≤ i3 then (some (none, D)) else (if i2 ≠ (nI 0) then (op_o (k62_0 w d r1 i3 i2 D) none (fun p1 => op_vL p1.1 none (fun n1 => k61_44 w (d + 1) r1 i2 i3 341 ((i2 * (nI 60)) + i3) n1 p1.2))) else (mk_inb i3 (cap_ r1) none (op_o (k105_0 w d (D.1 (r1 + 2) i3.toNatClampNeg) D) none (fun p2 => op_vI p2.1 none (fun n2 => k61_44 w (d + 1) r1 i2 i3 341 ((i2 * (nI 60)) + i3) n2.toInt64 p2.2))))) := by
  obtain ⟨m1_r1, m2_r1, m3_r1, m4_r1, m5_r1, m6_r1⟩ := mM_ h_r1
  refine (q_61_2 sh_ w.1 w.2 d r1 i2 i3 D).trans ?_
  (try simp only [rf_340_0, sf_340, m1_r1, m2_r1, m3_r1, m4_r1, m5_r1, reduceIte, Nat.reduceEqDiff, Nat.add_one_ne_zero, Nat.succ_ne_zero, Nat.add_eq_zero_iff, and_false]) <;> rfl
set_option maxRecDepth 100000 in
set_option maxHeartbeats 4000000 in
theorem e61_44 {w : (Nat → Int32) × Nat} {d : Nat} {r1 : Nat} {i2 : Int32} {i3 : Int32} {sr0 : Nat} {si1 : Int32} {sj2 : Int64} {D : dy_} (h_r1 : r1 ∈ ml_) : k61_44 w (d + 1) r1 i2 i3 sr0 si1 sj2 D = if (sh_.1 sr0).1 = 4 then (mk_inb si1 (sh_.1 sr0).2 none (k61_2 w (d + 1) r1 i2 (i3 + (nI 1)) (dL_ D sr0 si1.toNatClampNeg sj2))) else none := by
  obtain ⟨m1_r1, m2_r1, m3_r1, m4_r1, m5_r1, m6_r1⟩ := mM_ h_r1
  refine (q_61_44 sh_ w.1 w.2 d r1 i2 i3 sr0 si1 sj2 D).trans ?_
  (try simp only [m1_r1, m2_r1, m3_r1, m4_r1, m5_r1, reduceIte, Nat.reduceEqDiff, Nat.add_one_ne_zero, Nat.succ_ne_zero, Nat.add_eq_zero_iff, and_false]) <;> rfl
set_option maxRecDepth 100000 in
set_option maxHeartbeats 4000000 in
theorem e62_0 {w : (Nat → Int32) × Nat} {d : Nat} {r1 : Nat} {i2 : Int32} {i3 : Int32} {D : dy_} (h_r1 : r1 ∈ ml_) : k62_0 w (d + 1) r1 i2 i3 D = k62_6 w (d + 1) r1 i2 i3 (lN 0) (nI 0) D := by
  obtain ⟨m1_r1, m2_r1, m3_r1, m4_r1, m5_r1, m6_r1⟩ := mM_ h_r1
  refine (q_62_0 sh_ w.1 w.2 d r1 i2 i3 D).trans ?_
  (try simp only [m1_r1, m2_r1, m3_r1, m4_r1, m5_r1, reduceIte, Nat.reduceEqDiff, Nat.add_one_ne_zero, Nat.succ_ne_zero, Nat.add_eq_zero_iff, and_false]) <;> rfl
set_option maxRecDepth 100000 in
set_option maxHeartbeats 4000000 in
theorem e62_6 {w : (Nat → Int32) × Nat} {d : Nat} {r1 : Nat} {i2 : Int32} {i3 : Int32} {j4 : Int64} {i6 : Int32} {D : dy_} (h_r1 : r1 ∈ ml_) : k62_6 w (d + 1) r1 i2 i3 j4 i6 D = if (D.1 r1 2) ≤ i6 then (some (some (.long j4), D)) else (op_o (k9_0 w d r1 i2 i6 D) none (fun p1 => op_vI p1.1 none (fun n1 => op_o (k60_0 w d n1 (i3 - (nI 1)) p1.2) none (fun p2 => op_vL p2.1 none (fun n2 => k62_6 w (d + 1) r1 i2 i3 (j4 + n2) (i6 + (nI 1)) p2.2))))) := by
  obtain ⟨m1_r1, m2_r1, m3_r1, m4_r1, m5_r1, m6_r1⟩ := mM_ h_r1
  refine (q_62_6 sh_ w.1 w.2 d r1 i2 i3 j4 i6 D).trans ?_
  (try simp only [sf_340, m1_r1, m2_r1, m3_r1, m4_r1, m5_r1, reduceIte, Nat.reduceEqDiff, Nat.add_one_ne_zero, Nat.succ_ne_zero, Nat.add_eq_zero_iff, and_false]) <;> rfl
set_option maxRecDepth 100000 in
set_option maxHeartbeats 4000000 in
theorem e64_0 {w : (Nat → Int32) × Nat} {d : Nat} {r1 : Nat} {D : dy_} (h_r1 : r1 ∈ ml_) : k64_0 w (d + 1) r1 D = op_o (k72_0 w d (nI 1) r1 (D.1 r1 4) 30 (nI 0) D) none (fun p1 => op_vN p1.1 none (some (none, p1.2))) := by
  obtain ⟨m1_r1, m2_r1, m3_r1, m4_r1, m5_r1, m6_r1⟩ := mM_ h_r1
  refine (q_64_0 sh_ w.1 w.2 d r1 D).trans ?_
  (try simp only [rf_23_2, sf_23, m1_r1, m2_r1, m3_r1, m4_r1, m5_r1, reduceIte, Nat.reduceEqDiff, Nat.add_one_ne_zero, Nat.succ_ne_zero, Nat.add_eq_zero_iff, and_false]) <;> rfl
set_option maxRecDepth 100000 in
set_option maxHeartbeats 4000000 in
theorem e65_0 {w : (Nat → Int32) × Nat} {d : Nat} {r1 : Nat} {r2 : Nat} {D : dy_} (h_r1 : r1 ∈ ml_) (h_r2 : r2 ∈ ml_) : k65_0 w (d + 1) r1 r2 D = op_o (k64_0 w d r1 D) none (fun p1 => op_vN p1.1 none (op_o (k1_0 w d 24 r2 p1.2) none (fun p2 => op_vI p2.1 none (fun n2 => some (none, p2.2))))) := by
  obtain ⟨m1_r1, m2_r1, m3_r1, m4_r1, m5_r1, m6_r1⟩ := mM_ h_r1
  obtain ⟨m1_r2, m2_r2, m3_r2, m4_r2, m5_r2, m6_r2⟩ := mM_ h_r2
  refine (q_65_0 sh_ w.1 w.2 d r1 r2 D).trans ?_
  (try simp only [rf_23_0, rf_23_5, sf_23, sf_41, m1_r1, m2_r1, m3_r1, m4_r1, m5_r1, m1_r2, m2_r2, m3_r2, m4_r2, m5_r2, reduceIte, Nat.reduceEqDiff, Nat.add_one_ne_zero, Nat.succ_ne_zero, Nat.add_eq_zero_iff, and_false]) <;> rfl
set_option maxRecDepth 100000 in
set_option maxHeartbeats 4000000 in
theorem e66_0 {w : (Nat → Int32) × Nat} {d : Nat} {r1 : Nat} {i2 : Int32} {D : dy_} (h_r1 : r1 ∈ ml_) : k66_0 w (d + 1) r1 i2 D = if i2 ≠ (nI 2) then (k66_14 w (d + 1) r1 i2 (nI 0) D) else (op_o (k68_0 w d r1 D) none (fun p1 => op_vI p1.1 none (fun n1 => k66_14 w (d + 1) r1 i2 n1 p1.2))) := by
  obtain ⟨m1_r1, m2_r1, m3_r1, m4_r1, m5_r1, m6_r1⟩ := mM_ h_r1
  refine (q_66_0 sh_ w.1 w.2 d r1 i2 D).trans ?_
  (try simp only [sf_23, m1_r1, m2_r1, m3_r1, m4_r1, m5_r1, reduceIte, Nat.reduceEqDiff, Nat.add_one_ne_zero, Nat.succ_ne_zero, Nat.add_eq_zero_iff, and_false]) <;> rfl
set_option maxRecDepth 100000 in
set_option maxHeartbeats 4000000 in
theorem e66_14 {w : (Nat → Int32) × Nat} {d : Nat} {r1 : Nat} {i2 : Int32} {si0 : Int32} {D : dy_} (h_r1 : r1 ∈ ml_) : k66_14 w (d + 1) r1 i2 si0 D = if si0 ≠ (-104) then (op_o (k65_0 w d r1 r1 D) none (fun p1 => op_vN p1.1 none ((if i2 = (nI 0) then (some (some (.int (p1.2.1 41 6)), p1.2)) else (if i2 = (nI 1) then (op_o (k67_0 w d r1 p1.2) none (fun p2 => op_vI p2.1 none (fun n2 => some (some (.int n2), p2.2)))) else (some (some (.int si0), p1.2))))))) else (some (some (.int (-104)), D)) := by
  obtain ⟨m1_r1, m2_r1, m3_r1, m4_r1, m5_r1, m6_r1⟩ := mM_ h_r1
  refine (q_66_14 sh_ w.1 w.2 d r1 i2 si0 D).trans ?_
  (try simp only [rf_23_5, sf_23, sf_41, m1_r1, m2_r1, m3_r1, m4_r1, m5_r1, reduceIte, Nat.reduceEqDiff, Nat.add_one_ne_zero, Nat.succ_ne_zero, Nat.add_eq_zero_iff, and_false]) <;> rfl
set_option maxRecDepth 100000 in
set_option maxHeartbeats 4000000 in
theorem e67_0 {w : (Nat → Int32) × Nat} {d : Nat} {r0 : Nat} {D : dy_} (h_r0 : r0 ∈ ml_) : k67_0 w (d + 1) r0 D = some (some (.int ((D.1 r0 2) * ((D.1 r0 3) - (nI 1)))), D) := by
  obtain ⟨m1_r0, m2_r0, m3_r0, m4_r0, m5_r0, m6_r0⟩ := mM_ h_r0
  refine (q_67_0 sh_ w.1 w.2 d r0 D).trans ?_
  (try simp only [m1_r0, m2_r0, m3_r0, m4_r0, m5_r0, reduceIte, Nat.reduceEqDiff, Nat.add_one_ne_zero, Nat.succ_ne_zero, Nat.add_eq_zero_iff, and_false]) <;> rfl
set_option maxRecDepth 100000 in
set_option maxHeartbeats 4000000 in
theorem e68_0 {w : (Nat → Int32) × Nat} {d : Nat} {r1 : Nat} {D : dy_} (h_r1 : r1 ∈ ml_) : k68_0 w (d + 1) r1 D = op_o (k64_0 w d r1 D) none (fun p1 => op_vN p1.1 none (op_o (k14_0 w d 27 24 p1.2) none (fun p2 => op_vN p2.1 none (op_o (k76_0 w d (nI 6) 27 27 p2.2) none (fun p3 => op_vI p3.1 none (fun n3 => if n3 = (nI 0) then (some (some (.int (-104)), p3.2)) else (some (some (.int (p3.2.1 24 3)), p3.2)))))))) := by
  obtain ⟨m1_r1, m2_r1, m3_r1, m4_r1, m5_r1, m6_r1⟩ := mM_ h_r1
  refine (q_68_0 sh_ w.1 w.2 d r1 D).trans ?_
  (try simp only [rf_23_0, rf_23_1, sf_23, sf_24, sf_27, m1_r1, m2_r1, m3_r1, m4_r1, m5_r1, reduceIte, Nat.reduceEqDiff, Nat.add_one_ne_zero, Nat.succ_ne_zero, Nat.add_eq_zero_iff, and_false]) <;> rfl
set_option maxRecDepth 100000 in
set_option maxHeartbeats 4000000 in
theorem e69_0 {w : (Nat → Int32) × Nat} {d : Nat} {r1 : Nat} {i2 : Int32} {r3 : Nat} {r4 : Nat} {D : dy_} (h_r1 : r1 ∈ ml_) (h_r3 : r3 ∈ ml_) (h_r4 : r4 ∈ ml_) : k69_0 w (d + 1) r1 i2 r3 r4 D = if (nI 3) < i2 then (if i2 ≠ (nI 7) then (op_o (k76_0 w d i2 r3 r4 D) none (fun p1 => op_vI p1.1 none (fun n1 => if n1 ≠ (nI 0) then (k69_63 w (d + 1) r1 p1.2) else (some (some (.int (-104)), p1.2))))) else (op_o (k72_0 w d (nI 2) 33 (nI 0) r3 (D.1 r3 4) D) none (fun p2 => op_vN p2.1 none (k69_63 w (d + 1) r1 p2.2)))) else (op_o (k72_0 w d i2 r3 (D.1 r3 4) r4 (D.1 r4 4) D) none (fun p3 => op_vN p3.1 none (k69_63 w (d + 1) r1 p3.2))) := by
  obtain ⟨m1_r1, m2_r1, m3_r1, m4_r1, m5_r1, m6_r1⟩ := mM_ h_r1
  obtain ⟨m1_r3, m2_r3, m3_r3, m4_r3, m5_r3, m6_r3⟩ := mM_ h_r3
  obtain ⟨m1_r4, m2_r4, m3_r4, m4_r4, m5_r4, m6_r4⟩ := mM_ h_r4
  refine (q_69_0 sh_ w.1 w.2 d r1 i2 r3 r4 D).trans ?_
  (try simp only [rf_23_3, sf_23, m1_r1, m2_r1, m3_r1, m4_r1, m5_r1, m1_r3, m2_r3, m3_r3, m4_r3, m5_r3, m1_r4, m2_r4, m3_r4, m4_r4, m5_r4, reduceIte, Nat.reduceEqDiff, Nat.add_one_ne_zero, Nat.succ_ne_zero, Nat.add_eq_zero_iff, and_false]) <;> rfl
set_option maxRecDepth 100000 in
set_option maxHeartbeats 4000000 in
theorem e69_63 {w : (Nat → Int32) × Nat} {d : Nat} {r1 : Nat} {D : dy_} (h_r1 : r1 ∈ ml_) : k69_63 w (d + 1) r1 D = op_o (k1_0 w d 24 r1 D) none (fun p1 => op_vI p1.1 none (fun n1 => some (some (.int n1), p1.2))) := by
  obtain ⟨m1_r1, m2_r1, m3_r1, m4_r1, m5_r1, m6_r1⟩ := mM_ h_r1
  refine (q_69_63 sh_ w.1 w.2 d r1 D).trans ?_
  (try simp only [rf_23_0, rf_23_5, sf_23, sf_41, m1_r1, m2_r1, m3_r1, m4_r1, m5_r1, reduceIte, Nat.reduceEqDiff, Nat.add_one_ne_zero, Nat.succ_ne_zero, Nat.add_eq_zero_iff, and_false]) <;> rfl
set_option maxRecDepth 100000 in
set_option maxHeartbeats 4000000 in
theorem e70_0 {w : (Nat → Int32) × Nat} {d : Nat} {r1 : Nat} {i2 : Int32} {r3 : Nat} {i4 : Int32} {D : dy_} (h_r1 : r1 ∈ ml_) (h_r3 : r3 ∈ ml_) : k70_0 w (d + 1) r1 i2 r3 i4 D = op_o (k72_0 w d (nI 3) r1 i2 r3 i4 D) none (fun p1 => op_vN p1.1 none (k70_13 w (d + 1) (nI 0) p1.2)) := by
  obtain ⟨m1_r1, m2_r1, m3_r1, m4_r1, m5_r1, m6_r1⟩ := mM_ h_r1
  obtain ⟨m1_r3, m2_r3, m3_r3, m4_r3, m5_r3, m6_r3⟩ := mM_ h_r3
  refine (q_70_0 sh_ w.1 w.2 d r1 i2 r3 i4 D).trans ?_
  (try simp only [sf_23, m1_r1, m2_r1, m3_r1, m4_r1, m5_r1, m1_r3, m2_r3, m3_r3, m4_r3, m5_r3, reduceIte, Nat.reduceEqDiff, Nat.add_one_ne_zero, Nat.succ_ne_zero, Nat.add_eq_zero_iff, and_false]) <;> rfl
set_option maxRecDepth 100000 in
set_option maxHeartbeats 4000000 in
theorem e70_13 {w : (Nat → Int32) × Nat} {d : Nat} {i6 : Int32} {D : dy_} : k70_13 w (d + 1) i6 D = if (D.1 24 3) ≤ i6 then (some (some (.int (nI 0)), D)) else (mk_inb i6 3600 none (if (D.1 26 i6.toNatClampNeg) = (nI 0) then (k70_13 w (d + 1) (i6 + (nI 1)) D) else (op_o (k71_0 w d i6 D) none (fun p1 => op_vN p1.1 none (some (some (.int (nI 1)), p1.2)))))) := by
  refine (q_70_13 sh_ w.1 w.2 d i6 D).trans ?_
  (try simp only [rf_23_0, rf_24_1, sf_23, sf_24, sf_26, reduceIte, Nat.reduceEqDiff, Nat.add_one_ne_zero, Nat.succ_ne_zero, Nat.add_eq_zero_iff, and_false]) <;> rfl
set_option maxRecDepth 100000 in
set_option maxHeartbeats 4000000 in
theorem e71_0 {w : (Nat → Int32) × Nat} {d : Nat} {i1 : Int32} {D : dy_} : k71_0 w (d + 1) i1 D = k71_5 w (d + 1) i1 (nI 0) i1 D := by
  refine (q_71_0 sh_ w.1 w.2 d i1 D).trans ?_
  (try simp only [reduceIte, Nat.reduceEqDiff, Nat.add_one_ne_zero, Nat.succ_ne_zero, Nat.add_eq_zero_iff, and_false]) <;> rfl
set_option maxRecDepth 100000 in
set_option maxHeartbeats 4000000 in
theorem e71_5 {w : (Nat → Int32) × Nat} {d : Nat} {i1 : Int32} {i3 : Int32} {i4 : Int32} {D : dy_} : k71_5 w (d + 1) i1 i3 i4 D = if i4 ≤ (nI 0) then (k71_34 w (d + 1) i1 i3 D) else (if (nI 500) ≤ i3 then (k71_34 w (d + 1) i1 i3 D) else (mk_inb i4 3600 none (k71_5 w (d + 1) i1 (i3 + (nI 1)) ((D.1 48 i4.toNatClampNeg) / (nI 4)) D))) := by
  refine (q_71_5 sh_ w.1 w.2 d i1 i3 i4 D).trans ?_
  (try simp only [rf_23_8, sf_23, sf_48, reduceIte, Nat.reduceEqDiff, Nat.add_one_ne_zero, Nat.succ_ne_zero, Nat.add_eq_zero_iff, and_false]) <;> rfl
set_option maxRecDepth 100000 in
set_option maxHeartbeats 4000000 in
theorem e71_34 {w : (Nat → Int32) × Nat} {d : Nat} {i1 : Int32} {i3 : Int32} {D : dy_} : k71_34 w (d + 1) i1 i3 D = k71_47 w (d + 1) i1 (i3 - (nI 1)) (dI_ D 21 1 i3) := by
  refine (q_71_34 sh_ w.1 w.2 d i1 i3 D).trans ?_
  (try simp only [sf_21, reduceIte, Nat.reduceEqDiff, Nat.add_one_ne_zero, Nat.succ_ne_zero, Nat.add_eq_zero_iff, and_false]) <;> rfl
set_option maxRecDepth 100000 in
set_option maxHeartbeats 4000000 in
theorem e71_47 {w : (Nat → Int32) × Nat} {d : Nat} {i4 : Int32} {i5 : Int32} {D : dy_} : k71_47 w (d + 1) i4 i5 D = if i5 < (nI 0) then (some (none, D)) else (mk_inb i4 3600 none (op_o (k51_0 w d i5 ((D.1 48 i4.toNatClampNeg) - (D.1 48 i4.toNatClampNeg) / (nI 4) * (nI 4)) D) none (fun p1 => op_vN p1.1 none (mk_inb i4 3600 none (k71_47 w (d + 1) ((p1.2.1 48 i4.toNatClampNeg) / (nI 4)) (i5 + (-1)) p1.2))))) := by
  refine (q_71_47 sh_ w.1 w.2 d i4 i5 D).trans ?_
  (try simp only [rf_23_8, sf_21, sf_23, sf_48, reduceIte, Nat.reduceEqDiff, Nat.add_one_ne_zero, Nat.succ_ne_zero, Nat.add_eq_zero_iff, and_false]) <;> rfl
set_option maxRecDepth 100000 in
set_option maxHeartbeats 4000000 in
theorem e72_0 {w : (Nat → Int32) × Nat} {d : Nat} {i1 : Int32} {r2 : Nat} {i3 : Int32} {r4 : Nat} {i5 : Int32} {D : dy_} (h_r2 : r2 ∈ ml_) (h_r4 : r4 ∈ ml_) : k72_0 w (d + 1) i1 r2 i3 r4 i5 D = op_o (k73_0 w d (D.1 r2 3) (D.1 r4 3) D) none (fun p1 => op_vN p1.1 none (op_o (k74_0 w d ((i3 <<< ((nI 6) &&& 31)) ||| i5) (nI 0) (dI_ (dI_ p1.2 24 2 (if (p1.2.1 r4 2) < (p1.2.1 r2 2) then (p1.2.1 r4 2) else (p1.2.1 r2 2))) 24 3 (nI 0))) none (fun p2 => op_vI p2.1 none (fun n2 => k72_56 w (d + 1) i1 r2 r4 (nI 0) p2.2)))) := by
  obtain ⟨m1_r2, m2_r2, m3_r2, m4_r2, m5_r2, m6_r2⟩ := mM_ h_r2
  obtain ⟨m1_r4, m2_r4, m3_r4, m4_r4, m5_r4, m6_r4⟩ := mM_ h_r4
  refine (q_72_0 sh_ w.1 w.2 d i1 r2 i3 r4 i5 D).trans ?_
  (try simp only [rf_23_0, sf_23, sf_24, m1_r2, m2_r2, m3_r2, m4_r2, m5_r2, m1_r4, m2_r4, m3_r4, m4_r4, m5_r4, reduceIte, Nat.reduceEqDiff, Nat.add_one_ne_zero, Nat.succ_ne_zero, Nat.add_eq_zero_iff, and_false]) <;> rfl
set_option maxRecDepth 100000 in
set_option maxHeartbeats 4000000 in
theorem e72_56 {w : (Nat → Int32) × Nat} {d : Nat} {i1 : Int32} {r2 : Nat} {r4 : Nat} {i6 : Int32} {D : dy_} (h_r2 : r2 ∈ ml_) (h_r4 : r4 ∈ ml_) : k72_56 w (d + 1) i1 r2 r4 i6 D = if (D.1 24 3) ≤ i6 then (some (none, D)) else (if (nI 3600) ≤ i6 then (some (none, D)) else (mk_inb i6 3600 none (mk_inb i6 3600 none (mk_inb ((D.1 46 i6.toNatClampNeg) >>> ((nI 6) &&& 31)) (cap_ r2) none (mk_inb ((D.1 46 i6.toNatClampNeg) &&& (nI 63)) (cap_ r4) none (op_o (k75_0 w d i1 (D.1 (r2 + 2) ((D.1 46 i6.toNatClampNeg) >>> ((nI 6) &&& 31)).toNatClampNeg) (D.1 (r4 + 2) ((D.1 46 i6.toNatClampNeg) &&& (nI 63)).toNatClampNeg) D) none (fun p1 => op_vI p1.1 none (fun n1 => mk_inb i6 3600 none (k72_132 w (d + 1) i1 r2 r4 i6 ((D.1 46 i6.toNatClampNeg) >>> ((nI 6) &&& 31)) ((D.1 46 i6.toNatClampNeg) &&& (nI 63)) (nI 0) (dI_ p1.2 26 i6.toNatClampNeg (vp_nar .boolean n1))))))))))) := by
  obtain ⟨m1_r2, m2_r2, m3_r2, m4_r2, m5_r2, m6_r2⟩ := mM_ h_r2
  obtain ⟨m1_r4, m2_r4, m3_r4, m4_r4, m5_r4, m6_r4⟩ := mM_ h_r4
  refine (q_72_56 sh_ w.1 w.2 d i1 r2 r4 i6 D).trans ?_
  (try simp only [rf_23_0, rf_23_6, rf_24_1, sf_23, sf_24, sf_26, sf_46, m1_r2, m2_r2, m3_r2, m4_r2, m5_r2, m1_r4, m2_r4, m3_r4, m4_r4, m5_r4, reduceIte, Nat.reduceEqDiff, Nat.add_one_ne_zero, Nat.succ_ne_zero, Nat.add_eq_zero_iff, and_false]) <;> rfl
set_option maxRecDepth 100000 in
set_option maxHeartbeats 4000000 in
theorem e72_132 {w : (Nat → Int32) × Nat} {d : Nat} {i1 : Int32} {r2 : Nat} {r4 : Nat} {i6 : Int32} {i7 : Int32} {i8 : Int32} {i9 : Int32} {D : dy_} (h_r2 : r2 ∈ ml_) (h_r4 : r4 ∈ ml_) : k72_132 w (d + 1) i1 r2 r4 i6 i7 i8 i9 D = if (D.1 24 2) ≤ i9 then (k72_56 w (d + 1) i1 r2 r4 (i6 + (nI 1)) D) else (op_o (k9_0 w d r2 i7 i9 D) none (fun p1 => op_vI p1.1 none (fun n1 => op_o (k9_0 w d r4 i8 i9 p1.2) none (fun p2 => op_vI p2.1 none (fun n2 => op_o (k74_0 w d ((n1 <<< ((nI 6) &&& 31)) ||| n2) ((i6 * (nI 4)) + i9) p2.2) none (fun p3 => op_vI p3.1 none (fun n3 => op_o (k10_0 w d 24 i6 i9 n3 p3.2) none (fun p4 => op_vN p4.1 none (k72_132 w (d + 1) i1 r2 r4 i6 i7 i8 (i9 + (nI 1)) p4.2))))))))) := by
  obtain ⟨m1_r2, m2_r2, m3_r2, m4_r2, m5_r2, m6_r2⟩ := mM_ h_r2
  obtain ⟨m1_r4, m2_r4, m3_r4, m4_r4, m5_r4, m6_r4⟩ := mM_ h_r4
  refine (q_72_132 sh_ w.1 w.2 d i1 r2 r4 i6 i7 i8 i9 D).trans ?_
  (try simp only [rf_23_0, sf_23, sf_24, m1_r2, m2_r2, m3_r2, m4_r2, m5_r2, m1_r4, m2_r4, m3_r4, m4_r4, m5_r4, reduceIte, Nat.reduceEqDiff, Nat.add_one_ne_zero, Nat.succ_ne_zero, Nat.add_eq_zero_iff, and_false]) <;> rfl
set_option maxRecDepth 100000 in
set_option maxHeartbeats 4000000 in
theorem e73_0 {w : (Nat → Int32) × Nat} {d : Nat} {i1 : Int32} {i2 : Int32} {D : dy_} : k73_0 w (d + 1) i1 i2 D = k73_2 w (d + 1) i1 i2 (nI 0) D := by
  refine (q_73_0 sh_ w.1 w.2 d i1 i2 D).trans ?_
  (try simp only [reduceIte, Nat.reduceEqDiff, Nat.add_one_ne_zero, Nat.succ_ne_zero, Nat.add_eq_zero_iff, and_false]) <;> rfl
set_option maxRecDepth 100000 in
set_option maxHeartbeats 4000000 in
theorem e73_2 {w : (Nat → Int32) × Nat} {d : Nat} {i1 : Int32} {i2 : Int32} {i3 : Int32} {D : dy_} : k73_2 w (d + 1) i1 i2 i3 D = if i1 ≤ i3 then (some (none, D)) else (k73_10 w (d + 1) i1 i2 i3 (nI 0) D) := by
  refine (q_73_2 sh_ w.1 w.2 d i1 i2 i3 D).trans ?_
  (try simp only [reduceIte, Nat.reduceEqDiff, Nat.add_one_ne_zero, Nat.succ_ne_zero, Nat.add_eq_zero_iff, and_false]) <;> rfl
set_option maxRecDepth 100000 in
set_option maxHeartbeats 4000000 in
theorem e73_10 {w : (Nat → Int32) × Nat} {d : Nat} {i1 : Int32} {i2 : Int32} {i3 : Int32} {i4 : Int32} {D : dy_} : k73_10 w (d + 1) i1 i2 i3 i4 D = if i2 ≤ i4 then (k73_2 w (d + 1) i1 i2 (i3 + (nI 1)) D) else (mk_inb ((i3 <<< ((nI 6) &&& 31)) ||| i4) 3840 none (k73_10 w (d + 1) i1 i2 i3 (i4 + (nI 1)) (dI_ D 47 ((i3 <<< ((nI 6) &&& 31)) ||| i4).toNatClampNeg (-1)))) := by
  refine (q_73_10 sh_ w.1 w.2 d i1 i2 i3 i4 D).trans ?_
  (try simp only [rf_23_7, sf_23, sf_47, reduceIte, Nat.reduceEqDiff, Nat.add_one_ne_zero, Nat.succ_ne_zero, Nat.add_eq_zero_iff, and_false]) <;> rfl
set_option maxRecDepth 100000 in
set_option maxHeartbeats 4000000 in
theorem e74_0 {w : (Nat → Int32) × Nat} {d : Nat} {i1 : Int32} {i2 : Int32} {D : dy_} : k74_0 w (d + 1) i1 i2 D = mk_inb i1 3840 none (if (D.1 47 i1.toNatClampNeg) ≠ (-1) then (mk_inb i1 3840 none (some (some (.int (D.1 47 i1.toNatClampNeg)), D))) else (if (nI 3600) ≤ (D.1 24 3) then (mk_inb i1 3840 none (some (some (.int (D.1 47 i1.toNatClampNeg)), D))) else (mk_inb i1 3840 none (mk_inb ((dI_ D 47 i1.toNatClampNeg (D.1 24 3)).1 24 3) 3600 none (mk_inb ((dI_ (dI_ D 47 i1.toNatClampNeg (D.1 24 3)) 46 ((dI_ D 47 i1.toNatClampNeg (D.1 24 3)).1 24 3).toNatClampNeg i1).1 24 3) 3600 none (mk_inb i1 3840 none (some (some (.int ((dI_ (dI_ (dI_ (dI_ D 47 i1.toNatClampNeg (D.1 24 3)) 46 ((dI_ D 47 i1.toNatClampNeg (D.1 24 3)).1 24 3).toNatClampNeg i1) 48 ((dI_ (dI_ D 47 i1.toNatClampNeg (D.1 24 3)) 46 ((dI_ D 47 i1.toNatClampNeg (D.1 24 3)).1 24 3).toNatClampNeg i1).1 24 3).toNatClampNeg i2) 24 3 (((dI_ (dI_ (dI_ D 47 i1.toNatClampNeg (D.1 24 3)) 46 ((dI_ D 47 i1.toNatClampNeg (D.1 24 3)).1 24 3).toNatClampNeg i1) 48 ((dI_ (dI_ D 47 i1.toNatClampNeg (D.1 24 3)) 46 ((dI_ D 47 i1.toNatClampNeg (D.1 24 3)).1 24 3).toNatClampNeg i1).1 24 3).toNatClampNeg i2).1 24 3) + (nI 1))).1 47 i1.toNatClampNeg)), (dI_ (dI_ (dI_ (dI_ D 47 i1.toNatClampNeg (D.1 24 3)) 46 ((dI_ D 47 i1.toNatClampNeg (D.1 24 3)).1 24 3).toNatClampNeg i1) 48 ((dI_ (dI_ D 47 i1.toNatClampNeg (D.1 24 3)) 46 ((dI_ D 47 i1.toNatClampNeg (D.1 24 3)).1 24 3).toNatClampNeg i1).1 24 3).toNatClampNeg i2) 24 3 (((dI_ (dI_ (dI_ D 47 i1.toNatClampNeg (D.1 24 3)) 46 ((dI_ D 47 i1.toNatClampNeg (D.1 24 3)).1 24 3).toNatClampNeg i1) 48 ((dI_ (dI_ D 47 i1.toNatClampNeg (D.1 24 3)) 46 ((dI_ D 47 i1.toNatClampNeg (D.1 24 3)).1 24 3).toNatClampNeg i1).1 24 3).toNatClampNeg i2).1 24 3) + (nI 1))))))))))) := by
  refine (q_74_0 sh_ w.1 w.2 d i1 i2 D).trans ?_
  (try simp only [rf_23_0, rf_23_6, rf_23_7, rf_23_8, sf_23, sf_24, sf_46, sf_47, sf_48, reduceIte, Nat.reduceEqDiff, Nat.add_one_ne_zero, Nat.succ_ne_zero, Nat.add_eq_zero_iff, and_false]) <;> rfl
set_option maxRecDepth 100000 in
set_option maxHeartbeats 4000000 in
theorem e75_0 {w : (Nat → Int32) × Nat} {d : Nat} {i0 : Int32} {i1 : Int32} {i2 : Int32} {D : dy_} : k75_0 w (d + 1) i0 i1 i2 D = (if i0 = (nI 0) then (if i1 = (nI 0) then (some (some (.int (nI 0)), D)) else (if i2 = (nI 0) then (some (some (.int (nI 0)), D)) else (some (some (.int (nI 1)), D)))) else (if i0 = (nI 1) then (if i1 ≠ (nI 0) then (some (some (.int (nI 1)), D)) else (if i2 = (nI 0) then (some (some (.int (nI 0)), D)) else (some (some (.int (nI 1)), D)))) else (if i0 = (nI 2) then (if i1 = (nI 0) then (some (some (.int (nI 0)), D)) else (if i2 ≠ (nI 0) then (some (some (.int (nI 0)), D)) else (some (some (.int (nI 1)), D)))) else (if i1 = i2 then (some (some (.int (nI 0)), D)) else (some (some (.int (nI 1)), D)))))) := by
  refine (q_75_0 sh_ w.1 w.2 d i0 i1 i2 D).trans ?_
  (try simp only [reduceIte, Nat.reduceEqDiff, Nat.add_one_ne_zero, Nat.succ_ne_zero, Nat.add_eq_zero_iff, and_false]) <;> rfl
set_option maxRecDepth 100000 in
set_option maxHeartbeats 4000000 in
theorem e76_0 {w : (Nat → Int32) × Nat} {d : Nat} {i1 : Int32} {r2 : Nat} {r3 : Nat} {D : dy_} (h_r2 : r2 ∈ ml_) (h_r3 : r3 ∈ ml_) : k76_0 w (d + 1) i1 r2 r3 D = op_o (k47_0 w d (dI_ D 24 2 (D.1 r2 2))) none (fun p1 => op_vN p1.1 none (op_o (k77_0 w d i1 r2 r3 p1.2) none (fun p2 => op_vN p2.1 none (if i1 ≠ (nI 6) then (if i1 ≠ (nI 4) then (k76_50 w (d + 1) i1 r2 r3 r2 p2.2) else (k76_50 w (d + 1) i1 r2 r3 r3 p2.2)) else (k76_53 w (d + 1) i1 r2 r3 ((lN 1) <<< ((p2.2.1 r2 4).toInt64 &&& 63)) p2.2))))) := by
  obtain ⟨m1_r2, m2_r2, m3_r2, m4_r2, m5_r2, m6_r2⟩ := mM_ h_r2
  obtain ⟨m1_r3, m2_r3, m3_r3, m4_r3, m5_r3, m6_r3⟩ := mM_ h_r3
  refine (q_76_0 sh_ w.1 w.2 d i1 r2 r3 D).trans ?_
  (try simp only [rf_23_0, rf_23_4, sf_23, sf_24, sf_36, m1_r2, m2_r2, m3_r2, m4_r2, m5_r2, m1_r3, m2_r3, m3_r3, m4_r3, m5_r3, reduceIte, Nat.reduceEqDiff, Nat.add_one_ne_zero, Nat.succ_ne_zero, Nat.add_eq_zero_iff, and_false]) <;> rfl
set_option maxRecDepth 100000 in
set_option maxHeartbeats 4000000 in
theorem e76_50 {w : (Nat → Int32) × Nat} {d : Nat} {i1 : Int32} {r2 : Nat} {r3 : Nat} {sr0 : Nat} {D : dy_} (h_r2 : r2 ∈ ml_) (h_r3 : r3 ∈ ml_) (h_sr0 : sr0 ∈ ml_) : k76_50 w (d + 1) i1 r2 r3 sr0 D = op_o (k13_0 w d sr0 D) none (fun p1 => op_vL p1.1 none (fun n1 => k76_53 w (d + 1) i1 r2 r3 n1 p1.2)) := by
  obtain ⟨m1_r2, m2_r2, m3_r2, m4_r2, m5_r2, m6_r2⟩ := mM_ h_r2
  obtain ⟨m1_r3, m2_r3, m3_r3, m4_r3, m5_r3, m6_r3⟩ := mM_ h_r3
  obtain ⟨m1_sr0, m2_sr0, m3_sr0, m4_sr0, m5_sr0, m6_sr0⟩ := mM_ h_sr0
  refine (q_76_50 sh_ w.1 w.2 d i1 r2 r3 sr0 D).trans ?_
  (try simp only [m1_r2, m2_r2, m3_r2, m4_r2, m5_r2, m1_r3, m2_r3, m3_r3, m4_r3, m5_r3, m1_sr0, m2_sr0, m3_sr0, m4_sr0, m5_sr0, reduceIte, Nat.reduceEqDiff, Nat.add_one_ne_zero, Nat.succ_ne_zero, Nat.add_eq_zero_iff, and_false]) <;> rfl
set_option maxRecDepth 100000 in
set_option maxHeartbeats 4000000 in
theorem e76_53 {w : (Nat → Int32) × Nat} {d : Nat} {i1 : Int32} {r2 : Nat} {r3 : Nat} {sj0 : Int64} {D : dy_} (h_r2 : r2 ∈ ml_) (h_r3 : r3 ∈ ml_) : k76_53 w (d + 1) i1 r2 r3 sj0 D = k76_58 w (d + 1) i1 r2 r3 sj0 (nI 0) D := by
  obtain ⟨m1_r2, m2_r2, m3_r2, m4_r2, m5_r2, m6_r2⟩ := mM_ h_r2
  obtain ⟨m1_r3, m2_r3, m3_r3, m4_r3, m5_r3, m6_r3⟩ := mM_ h_r3
  refine (q_76_53 sh_ w.1 w.2 d i1 r2 r3 sj0 D).trans ?_
  (try simp only [m1_r2, m2_r2, m3_r2, m4_r2, m5_r2, m1_r3, m2_r3, m3_r3, m4_r3, m5_r3, reduceIte, Nat.reduceEqDiff, Nat.add_one_ne_zero, Nat.succ_ne_zero, Nat.add_eq_zero_iff, and_false]) <;> rfl
set_option maxRecDepth 100000 in
set_option maxHeartbeats 4000000 in
theorem e76_58 {w : (Nat → Int32) × Nat} {d : Nat} {i1 : Int32} {r2 : Nat} {r3 : Nat} {j4 : Int64} {i6 : Int32} {D : dy_} (h_r2 : r2 ∈ ml_) (h_r3 : r3 ∈ ml_) : k76_58 w (d + 1) i1 r2 r3 j4 i6 D = if (D.1 36 4) ≤ i6 then (k76_228 w (d + 1) D) else (if (nI 500) ≤ i6 then (k76_228 w (d + 1) D) else (mk_inb i6 500 none (if (lg_cmp ((D.2 37 i6.toNatClampNeg) &&& j4) (lN 0)) ≠ (nI 0) then (k76_115 w (d + 1) i1 r2 r3 j4 i6 26 i6 D) else (if i1 ≠ (nI 5) then (k76_119 w (d + 1) i1 r2 r3 j4 i6 26 i6 D) else (if i6 ≠ (nI 0) then (k76_119 w (d + 1) i1 r2 r3 j4 i6 26 i6 D) else (k76_115 w (d + 1) i1 r2 r3 j4 i6 26 i6 D)))))) := by
  obtain ⟨m1_r2, m2_r2, m3_r2, m4_r2, m5_r2, m6_r2⟩ := mM_ h_r2
  obtain ⟨m1_r3, m2_r3, m3_r3, m4_r3, m5_r3, m6_r3⟩ := mM_ h_r3
  refine (q_76_58 sh_ w.1 w.2 d i1 r2 r3 j4 i6 D).trans ?_
  (try simp only [rf_23_0, rf_23_4, rf_24_1, rf_36_0, sf_23, sf_24, sf_36, sf_37, m1_r2, m2_r2, m3_r2, m4_r2, m5_r2, m1_r3, m2_r3, m3_r3, m4_r3, m5_r3, reduceIte, Nat.reduceEqDiff, Nat.add_one_ne_zero, Nat.succ_ne_zero, Nat.add_eq_zero_iff, and_false]) <;> rfl
set_option maxRecDepth 100000 in
set_option maxHeartbeats 4000000 in
theorem e76_115 {w : (Nat → Int32) × Nat} {d : Nat} {i1 : Int32} {r2 : Nat} {r3 : Nat} {j4 : Int64} {i6 : Int32} {sr0 : Nat} {si1 : Int32} {D : dy_} (h_r2 : r2 ∈ ml_) (h_r3 : r3 ∈ ml_) : k76_115 w (d + 1) i1 r2 r3 j4 i6 sr0 si1 D = k76_120 w (d + 1) i1 r2 r3 j4 i6 sr0 si1 (nI 1) D := by
  obtain ⟨m1_r2, m2_r2, m3_r2, m4_r2, m5_r2, m6_r2⟩ := mM_ h_r2
  obtain ⟨m1_r3, m2_r3, m3_r3, m4_r3, m5_r3, m6_r3⟩ := mM_ h_r3
  refine (q_76_115 sh_ w.1 w.2 d i1 r2 r3 j4 i6 sr0 si1 D).trans ?_
  (try simp only [m1_r2, m2_r2, m3_r2, m4_r2, m5_r2, m1_r3, m2_r3, m3_r3, m4_r3, m5_r3, reduceIte, Nat.reduceEqDiff, Nat.add_one_ne_zero, Nat.succ_ne_zero, Nat.add_eq_zero_iff, and_false]) <;> rfl
set_option maxRecDepth 100000 in
set_option maxHeartbeats 4000000 in
theorem e76_119 {w : (Nat → Int32) × Nat} {d : Nat} {i1 : Int32} {r2 : Nat} {r3 : Nat} {j4 : Int64} {i6 : Int32} {sr0 : Nat} {si1 : Int32} {D : dy_} (h_r2 : r2 ∈ ml_) (h_r3 : r3 ∈ ml_) : k76_119 w (d + 1) i1 r2 r3 j4 i6 sr0 si1 D = k76_120 w (d + 1) i1 r2 r3 j4 i6 sr0 si1 (nI 0) D := by
  obtain ⟨m1_r2, m2_r2, m3_r2, m4_r2, m5_r2, m6_r2⟩ := mM_ h_r2
  obtain ⟨m1_r3, m2_r3, m3_r3, m4_r3, m5_r3, m6_r3⟩ := mM_ h_r3
  refine (q_76_119 sh_ w.1 w.2 d i1 r2 r3 j4 i6 sr0 si1 D).trans ?_
  (try simp only [m1_r2, m2_r2, m3_r2, m4_r2, m5_r2, m1_r3, m2_r3, m3_r3, m4_r3, m5_r3, reduceIte, Nat.reduceEqDiff, Nat.add_one_ne_zero, Nat.succ_ne_zero, Nat.add_eq_zero_iff, and_false]) <;> rfl
set_option maxRecDepth 100000 in
set_option maxHeartbeats 4000000 in
theorem e76_120 {w : (Nat → Int32) × Nat} {d : Nat} {i1 : Int32} {r2 : Nat} {r3 : Nat} {j4 : Int64} {i6 : Int32} {sr0 : Nat} {si1 : Int32} {si2 : Int32} {D : dy_} (h_r2 : r2 ∈ ml_) (h_r3 : r3 ∈ ml_) : k76_120 w (d + 1) i1 r2 r3 j4 i6 sr0 si1 si2 D = if (sh_.1 sr0).1 = 2 then (mk_inb si1 (sh_.1 sr0).2 none (op_o (k185_0 w d 49 (lN 0) (dI_ D sr0 si1.toNatClampNeg (vp_nar .boolean si2))) none (fun p1 => op_vN p1.1 none (op_o (k78_0 w d i1 i6 r2 r3 p1.2) none (fun p2 => op_vN p2.1 none (k76_141 w (d + 1) i1 r2 r3 j4 i6 (nI 0) p2.2)))))) else none := by
  obtain ⟨m1_r2, m2_r2, m3_r2, m4_r2, m5_r2, m6_r2⟩ := mM_ h_r2
  obtain ⟨m1_r3, m2_r3, m3_r3, m4_r3, m5_r3, m6_r3⟩ := mM_ h_r3
  refine (q_76_120 sh_ w.1 w.2 d i1 r2 r3 j4 i6 sr0 si1 si2 D).trans ?_
  (try simp only [rf_23_9, sf_23, m1_r2, m2_r2, m3_r2, m4_r2, m5_r2, m1_r3, m2_r3, m3_r3, m4_r3, m5_r3, reduceIte, Nat.reduceEqDiff, Nat.add_one_ne_zero, Nat.succ_ne_zero, Nat.add_eq_zero_iff, and_false]) <;> rfl
set_option maxRecDepth 100000 in
set_option maxHeartbeats 4000000 in
theorem e76_141 {w : (Nat → Int32) × Nat} {d : Nat} {i1 : Int32} {r2 : Nat} {r3 : Nat} {j4 : Int64} {i6 : Int32} {i7 : Int32} {D : dy_} (h_r2 : r2 ∈ ml_) (h_r3 : r3 ∈ ml_) : k76_141 w (d + 1) i1 r2 r3 j4 i6 i7 D = if (D.1 r2 2) ≤ i7 then (k76_58 w (d + 1) i1 r2 r3 j4 (i6 + (nI 1)) D) else (if i1 ≠ (nI 4) then (k76_175 w (d + 1) i1 r2 r3 j4 i6 i7 (nI 0) D) else (mk_inb i6 500 none (op_o (k9_0 w d r2 (D.1 38 i6.toNatClampNeg) i7 D) none (fun p1 => op_vI p1.1 none (fun n1 => k76_175 w (d + 1) i1 r2 r3 j4 i6 i7 n1 p1.2))))) := by
  obtain ⟨m1_r2, m2_r2, m3_r2, m4_r2, m5_r2, m6_r2⟩ := mM_ h_r2
  obtain ⟨m1_r3, m2_r3, m3_r3, m4_r3, m5_r3, m6_r3⟩ := mM_ h_r3
  refine (q_76_141 sh_ w.1 w.2 d i1 r2 r3 j4 i6 i7 D).trans ?_
  (try simp only [rf_23_4, rf_36_1, sf_23, sf_36, sf_38, m1_r2, m2_r2, m3_r2, m4_r2, m5_r2, m1_r3, m2_r3, m3_r3, m4_r3, m5_r3, reduceIte, Nat.reduceEqDiff, Nat.add_one_ne_zero, Nat.succ_ne_zero, Nat.add_eq_zero_iff, and_false]) <;> rfl
set_option maxRecDepth 100000 in
set_option maxHeartbeats 4000000 in
theorem e76_175 {w : (Nat → Int32) × Nat} {d : Nat} {i1 : Int32} {r2 : Nat} {r3 : Nat} {j4 : Int64} {i6 : Int32} {i7 : Int32} {si0 : Int32} {D : dy_} (h_r2 : r2 ∈ ml_) (h_r3 : r3 ∈ ml_) : k76_175 w (d + 1) i1 r2 r3 j4 i6 i7 si0 D = mk_inb i7 4 none (op_o (k48_0 w d si0 (D.2 49 i7.toNatClampNeg) D) none (fun p1 => op_vI p1.1 none (fun n1 => if n1 ≠ (-1) then (op_o (k10_0 w d 24 i6 i7 n1 p1.2) none (fun p2 => op_vN p2.1 none (k76_141 w (d + 1) i1 r2 r3 j4 i6 (i7 + (nI 1)) p2.2))) else (some (some (.int (nI 0)), p1.2))))) := by
  obtain ⟨m1_r2, m2_r2, m3_r2, m4_r2, m5_r2, m6_r2⟩ := mM_ h_r2
  obtain ⟨m1_r3, m2_r3, m3_r3, m4_r3, m5_r3, m6_r3⟩ := mM_ h_r3
  refine (q_76_175 sh_ w.1 w.2 d i1 r2 r3 j4 i6 i7 si0 D).trans ?_
  (try simp only [rf_23_0, rf_23_4, rf_23_9, sf_23, sf_24, sf_36, sf_49, m1_r2, m2_r2, m3_r2, m4_r2, m5_r2, m1_r3, m2_r3, m3_r3, m4_r3, m5_r3, reduceIte, Nat.reduceEqDiff, Nat.add_one_ne_zero, Nat.succ_ne_zero, Nat.add_eq_zero_iff, and_false]) <;> rfl
set_option maxRecDepth 100000 in
set_option maxHeartbeats 4000000 in
theorem e76_228 {w : (Nat → Int32) × Nat} {d : Nat}  {D : dy_} : k76_228 w (d + 1) D = some (some (.int (nI 1)), (dI_ D 24 3 (D.1 36 4))) := by
  refine (q_76_228 sh_ w.1 w.2 d  D).trans ?_
  (try simp only [rf_23_0, rf_23_4, sf_23, sf_24, sf_36, reduceIte, Nat.reduceEqDiff, Nat.add_one_ne_zero, Nat.succ_ne_zero, Nat.add_eq_zero_iff, and_false]) <;> rfl
set_option maxRecDepth 100000 in
set_option maxHeartbeats 4000000 in
theorem e77_0 {w : (Nat → Int32) × Nat} {d : Nat} {i1 : Int32} {r2 : Nat} {r3 : Nat} {D : dy_} (h_r2 : r2 ∈ ml_) (h_r3 : r3 ∈ ml_) : k77_0 w (d + 1) i1 r2 r3 D = if i1 ≠ (nI 6) then (if i1 ≠ (nI 4) then (op_o (k48_0 w d (nI 0) (lN 0) D) none (fun p1 => op_vI p1.1 none (fun n1 => some (none, p1.2)))) else (mk_inb (D.1 r2 4) (cap_ r2) none (if (D.1 (r2 + 2) (D.1 r2 4).toNatClampNeg) = (nI 0) then (k77_57 w (d + 1) (D.1 r2 4) (lN 0) D) else (k77_57 w (d + 1) (D.1 r2 4) ((lN 1) <<< ((D.1 r3 4).toInt64 &&& 63)) D)))) else (op_o (k13_0 w d r2 D) none (fun p2 => op_vL p2.1 none (fun n2 => op_o (k48_0 w d (nI 0) n2 p2.2) none (fun p3 => op_vI p3.1 none (fun n3 => some (none, p3.2)))))) := by
  obtain ⟨m1_r2, m2_r2, m3_r2, m4_r2, m5_r2, m6_r2⟩ := mM_ h_r2
  obtain ⟨m1_r3, m2_r3, m3_r3, m4_r3, m5_r3, m6_r3⟩ := mM_ h_r3
  refine (q_77_0 sh_ w.1 w.2 d i1 r2 r3 D).trans ?_
  (try simp only [rf_23_4, sf_23, sf_36, m1_r2, m2_r2, m3_r2, m4_r2, m5_r2, m1_r3, m2_r3, m3_r3, m4_r3, m5_r3, reduceIte, Nat.reduceEqDiff, Nat.add_one_ne_zero, Nat.succ_ne_zero, Nat.add_eq_zero_iff, and_false]) <;> rfl
set_option maxRecDepth 100000 in
set_option maxHeartbeats 4000000 in
theorem e77_57 {w : (Nat → Int32) × Nat} {d : Nat} {si1 : Int32} {sj2 : Int64} {D : dy_} : k77_57 w (d + 1) si1 sj2 D = op_o (k48_0 w d si1 sj2 D) none (fun p1 => op_vI p1.1 none (fun n1 => some (none, p1.2))) := by
  refine (q_77_57 sh_ w.1 w.2 d si1 sj2 D).trans ?_
  (try simp only [sf_36, reduceIte, Nat.reduceEqDiff, Nat.add_one_ne_zero, Nat.succ_ne_zero, Nat.add_eq_zero_iff, and_false]) <;> rfl
set_option maxRecDepth 100000 in
set_option maxHeartbeats 4000000 in
theorem e78_0 {w : (Nat → Int32) × Nat} {d : Nat} {i1 : Int32} {i2 : Int32} {r3 : Nat} {r4 : Nat} {D : dy_} (h_r3 : r3 ∈ ml_) (h_r4 : r4 ∈ ml_) : k78_0 w (d + 1) i1 i2 r3 r4 D = if i1 ≠ (nI 6) then (if i1 ≠ (nI 4) then (if i2 ≠ (nI 0) then (mk_inb i2 500 none (k78_127 w (d + 1) r3 (D.2 37 i2.toNatClampNeg) D)) else (k78_127 w (d + 1) r3 ((lN 1) <<< ((D.1 r3 4).toInt64 &&& 63)) D)) else (mk_inb i2 500 none (op_o (k79_0 w d (D.2 37 i2.toNatClampNeg) r4 D) none (fun p1 => op_vN p1.1 none (k78_46 w (d + 1) i2 r3 r4 (nI 0) p1.2))))) else (mk_inb i2 500 none (op_o (k80_0 w d (D.2 37 i2.toNatClampNeg) r3 D) none (fun p2 => op_vN p2.1 none (some (none, p2.2))))) := by
  obtain ⟨m1_r3, m2_r3, m3_r3, m4_r3, m5_r3, m6_r3⟩ := mM_ h_r3
  obtain ⟨m1_r4, m2_r4, m3_r4, m4_r4, m5_r4, m6_r4⟩ := mM_ h_r4
  refine (q_78_0 sh_ w.1 w.2 d i1 i2 r3 r4 D).trans ?_
  (try simp only [rf_23_4, rf_36_0, sf_23, sf_36, sf_37, m1_r3, m2_r3, m3_r3, m4_r3, m5_r3, m1_r4, m2_r4, m3_r4, m4_r4, m5_r4, reduceIte, Nat.reduceEqDiff, Nat.add_one_ne_zero, Nat.succ_ne_zero, Nat.add_eq_zero_iff, and_false]) <;> rfl
set_option maxRecDepth 100000 in
set_option maxHeartbeats 4000000 in
theorem e78_46 {w : (Nat → Int32) × Nat} {d : Nat} {i2 : Int32} {r3 : Nat} {r4 : Nat} {i5 : Int32} {D : dy_} (h_r3 : r3 ∈ ml_) (h_r4 : r4 ∈ ml_) : k78_46 w (d + 1) i2 r3 r4 i5 D = if (D.1 r3 2) ≤ i5 then (some (none, D)) else (mk_inb i2 500 none (op_o (k9_0 w d r3 (D.1 38 i2.toNatClampNeg) i5 D) none (fun p1 => op_vI p1.1 none (fun n1 => mk_inb n1 (cap_ r3) none (if (p1.2.1 (r3 + 2) n1.toNatClampNeg) = (nI 0) then (k78_95 w (d + 1) i2 r3 r4 i5 p1.2) else (mk_inb i5 4 none (mk_inb i5 4 none (k78_95 w (d + 1) i2 r3 r4 i5 (dL_ p1.2 49 i5.toNatClampNeg ((p1.2.2 49 i5.toNatClampNeg) ||| ((lN 1) <<< ((p1.2.1 r4 4).toInt64 &&& 63)))))))))))) := by
  obtain ⟨m1_r3, m2_r3, m3_r3, m4_r3, m5_r3, m6_r3⟩ := mM_ h_r3
  obtain ⟨m1_r4, m2_r4, m3_r4, m4_r4, m5_r4, m6_r4⟩ := mM_ h_r4
  refine (q_78_46 sh_ w.1 w.2 d i2 r3 r4 i5 D).trans ?_
  (try simp only [rf_23_4, rf_23_9, rf_36_1, sf_23, sf_36, sf_38, sf_49, m1_r3, m2_r3, m3_r3, m4_r3, m5_r3, m1_r4, m2_r4, m3_r4, m4_r4, m5_r4, reduceIte, Nat.reduceEqDiff, Nat.add_one_ne_zero, Nat.succ_ne_zero, Nat.add_eq_zero_iff, and_false]) <;> rfl
set_option maxRecDepth 100000 in
set_option maxHeartbeats 4000000 in
theorem e78_95 {w : (Nat → Int32) × Nat} {d : Nat} {i2 : Int32} {r3 : Nat} {r4 : Nat} {i5 : Int32} {D : dy_} (h_r3 : r3 ∈ ml_) (h_r4 : r4 ∈ ml_) : k78_95 w (d + 1) i2 r3 r4 i5 D = k78_46 w (d + 1) i2 r3 r4 (i5 + (nI 1)) D := by
  obtain ⟨m1_r3, m2_r3, m3_r3, m4_r3, m5_r3, m6_r3⟩ := mM_ h_r3
  obtain ⟨m1_r4, m2_r4, m3_r4, m4_r4, m5_r4, m6_r4⟩ := mM_ h_r4
  refine (q_78_95 sh_ w.1 w.2 d i2 r3 r4 i5 D).trans ?_
  (try simp only [m1_r3, m2_r3, m3_r3, m4_r3, m5_r3, m1_r4, m2_r4, m3_r4, m4_r4, m5_r4, reduceIte, Nat.reduceEqDiff, Nat.add_one_ne_zero, Nat.succ_ne_zero, Nat.add_eq_zero_iff, and_false]) <;> rfl
set_option maxRecDepth 100000 in
set_option maxHeartbeats 4000000 in
theorem e78_127 {w : (Nat → Int32) × Nat} {d : Nat} {r3 : Nat} {sj1 : Int64} {D : dy_} (h_r3 : r3 ∈ ml_) : k78_127 w (d + 1) r3 sj1 D = op_o (k79_0 w d sj1 r3 D) none (fun p1 => op_vN p1.1 none (op_o (k13_0 w d r3 p1.2) none (fun p2 => op_vL p2.1 none (fun n2 => k78_140 w (d + 1) r3 n2 (nI 0) p2.2)))) := by
  obtain ⟨m1_r3, m2_r3, m3_r3, m4_r3, m5_r3, m6_r3⟩ := mM_ h_r3
  refine (q_78_127 sh_ w.1 w.2 d r3 sj1 D).trans ?_
  (try simp only [sf_23, m1_r3, m2_r3, m3_r3, m4_r3, m5_r3, reduceIte, Nat.reduceEqDiff, Nat.add_one_ne_zero, Nat.succ_ne_zero, Nat.add_eq_zero_iff, and_false]) <;> rfl
set_option maxRecDepth 100000 in
set_option maxHeartbeats 4000000 in
theorem e78_140 {w : (Nat → Int32) × Nat} {d : Nat} {r3 : Nat} {j5 : Int64} {i7 : Int32} {D : dy_} (h_r3 : r3 ∈ ml_) : k78_140 w (d + 1) r3 j5 i7 D = if (D.1 r3 2) ≤ i7 then (some (none, D)) else (mk_inb i7 4 none (if (lg_cmp ((D.2 49 i7.toNatClampNeg) &&& j5) (lN 0)) = (nI 0) then (k78_180 w (d + 1) r3 j5 i7 D) else (mk_inb i7 4 none (mk_inb i7 4 none (k78_180 w (d + 1) r3 j5 i7 (dL_ D 49 i7.toNatClampNeg ((D.2 49 i7.toNatClampNeg) ||| ((lN 1) <<< ((D.1 r3 4).toInt64 &&& 63))))))))) := by
  obtain ⟨m1_r3, m2_r3, m3_r3, m4_r3, m5_r3, m6_r3⟩ := mM_ h_r3
  refine (q_78_140 sh_ w.1 w.2 d r3 j5 i7 D).trans ?_
  (try simp only [rf_23_9, sf_23, sf_49, m1_r3, m2_r3, m3_r3, m4_r3, m5_r3, reduceIte, Nat.reduceEqDiff, Nat.add_one_ne_zero, Nat.succ_ne_zero, Nat.add_eq_zero_iff, and_false]) <;> rfl
set_option maxRecDepth 100000 in
set_option maxHeartbeats 4000000 in
theorem e78_180 {w : (Nat → Int32) × Nat} {d : Nat} {r3 : Nat} {j5 : Int64} {i7 : Int32} {D : dy_} (h_r3 : r3 ∈ ml_) : k78_180 w (d + 1) r3 j5 i7 D = k78_140 w (d + 1) r3 j5 (i7 + (nI 1)) D := by
  obtain ⟨m1_r3, m2_r3, m3_r3, m4_r3, m5_r3, m6_r3⟩ := mM_ h_r3
  refine (q_78_180 sh_ w.1 w.2 d r3 j5 i7 D).trans ?_
  (try simp only [m1_r3, m2_r3, m3_r3, m4_r3, m5_r3, reduceIte, Nat.reduceEqDiff, Nat.add_one_ne_zero, Nat.succ_ne_zero, Nat.add_eq_zero_iff, and_false]) <;> rfl
set_option maxRecDepth 100000 in
set_option maxHeartbeats 4000000 in
theorem e79_0 {w : (Nat → Int32) × Nat} {d : Nat} {j1 : Int64} {r3 : Nat} {D : dy_} (h_r3 : r3 ∈ ml_) : k79_0 w (d + 1) j1 r3 D = k79_3 w (d + 1) j1 r3 (nI 0) D := by
  obtain ⟨m1_r3, m2_r3, m3_r3, m4_r3, m5_r3, m6_r3⟩ := mM_ h_r3
  refine (q_79_0 sh_ w.1 w.2 d j1 r3 D).trans ?_
  (try simp only [m1_r3, m2_r3, m3_r3, m4_r3, m5_r3, reduceIte, Nat.reduceEqDiff, Nat.add_one_ne_zero, Nat.succ_ne_zero, Nat.add_eq_zero_iff, and_false]) <;> rfl
set_option maxRecDepth 100000 in
set_option maxHeartbeats 4000000 in
theorem e79_3 {w : (Nat → Int32) × Nat} {d : Nat} {j1 : Int64} {r3 : Nat} {i4 : Int32} {D : dy_} (h_r3 : r3 ∈ ml_) : k79_3 w (d + 1) j1 r3 i4 D = if (D.1 r3 3) ≤ i4 then (some (none, D)) else (if (lg_cmp (((j1.toUInt64 >>> (i4.toInt64.toUInt64 &&& Int64.toUInt64 63)).toInt64) &&& (lN 1)) (lN 0)) = (nI 0) then (k79_68 w (d + 1) j1 r3 i4 D) else (k79_26 w (d + 1) j1 r3 i4 (nI 0) D)) := by
  obtain ⟨m1_r3, m2_r3, m3_r3, m4_r3, m5_r3, m6_r3⟩ := mM_ h_r3
  refine (q_79_3 sh_ w.1 w.2 d j1 r3 i4 D).trans ?_
  (try simp only [m1_r3, m2_r3, m3_r3, m4_r3, m5_r3, reduceIte, Nat.reduceEqDiff, Nat.add_one_ne_zero, Nat.succ_ne_zero, Nat.add_eq_zero_iff, and_false]) <;> rfl
set_option maxRecDepth 100000 in
set_option maxHeartbeats 4000000 in
theorem e79_26 {w : (Nat → Int32) × Nat} {d : Nat} {j1 : Int64} {r3 : Nat} {i4 : Int32} {i5 : Int32} {D : dy_} (h_r3 : r3 ∈ ml_) : k79_26 w (d + 1) j1 r3 i4 i5 D = if (D.1 r3 2) ≤ i5 then (k79_68 w (d + 1) j1 r3 i4 D) else (mk_inb i5 4 none (mk_inb ((i4 * (D.1 r3 2)) + i5) (4 * cap_ r3) none (mk_inb i5 4 none (k79_26 w (d + 1) j1 r3 i4 (i5 + (nI 1)) (dL_ D 49 i5.toNatClampNeg ((D.2 49 i5.toNatClampNeg) ||| ((lN 1) <<< ((D.1 (r3 + 1) ((i4 * (D.1 r3 2)) + i5).toNatClampNeg).toInt64 &&& 63)))))))) := by
  obtain ⟨m1_r3, m2_r3, m3_r3, m4_r3, m5_r3, m6_r3⟩ := mM_ h_r3
  refine (q_79_26 sh_ w.1 w.2 d j1 r3 i4 i5 D).trans ?_
  (try simp only [rf_23_9, sf_23, sf_49, m1_r3, m2_r3, m3_r3, m4_r3, m5_r3, reduceIte, Nat.reduceEqDiff, Nat.add_one_ne_zero, Nat.succ_ne_zero, Nat.add_eq_zero_iff, and_false]) <;> rfl
set_option maxRecDepth 100000 in
set_option maxHeartbeats 4000000 in
theorem e79_68 {w : (Nat → Int32) × Nat} {d : Nat} {j1 : Int64} {r3 : Nat} {i4 : Int32} {D : dy_} (h_r3 : r3 ∈ ml_) : k79_68 w (d + 1) j1 r3 i4 D = k79_3 w (d + 1) j1 r3 (i4 + (nI 1)) D := by
  obtain ⟨m1_r3, m2_r3, m3_r3, m4_r3, m5_r3, m6_r3⟩ := mM_ h_r3
  refine (q_79_68 sh_ w.1 w.2 d j1 r3 i4 D).trans ?_
  (try simp only [m1_r3, m2_r3, m3_r3, m4_r3, m5_r3, reduceIte, Nat.reduceEqDiff, Nat.add_one_ne_zero, Nat.succ_ne_zero, Nat.add_eq_zero_iff, and_false]) <;> rfl
set_option maxRecDepth 100000 in
set_option maxHeartbeats 4000000 in
theorem e80_0 {w : (Nat → Int32) × Nat} {d : Nat} {j1 : Int64} {r3 : Nat} {D : dy_} (h_r3 : r3 ∈ ml_) : k80_0 w (d + 1) j1 r3 D = k80_3 w (d + 1) j1 r3 (nI 0) D := by
  obtain ⟨m1_r3, m2_r3, m3_r3, m4_r3, m5_r3, m6_r3⟩ := mM_ h_r3
  refine (q_80_0 sh_ w.1 w.2 d j1 r3 D).trans ?_
  (try simp only [m1_r3, m2_r3, m3_r3, m4_r3, m5_r3, reduceIte, Nat.reduceEqDiff, Nat.add_one_ne_zero, Nat.succ_ne_zero, Nat.add_eq_zero_iff, and_false]) <;> rfl
set_option maxRecDepth 100000 in
set_option maxHeartbeats 4000000 in
theorem e80_3 {w : (Nat → Int32) × Nat} {d : Nat} {j1 : Int64} {r3 : Nat} {i4 : Int32} {D : dy_} (h_r3 : r3 ∈ ml_) : k80_3 w (d + 1) j1 r3 i4 D = if (D.1 r3 3) ≤ i4 then (some (none, D)) else (k80_15 w (d + 1) j1 r3 i4 (nI 0) D) := by
  obtain ⟨m1_r3, m2_r3, m3_r3, m4_r3, m5_r3, m6_r3⟩ := mM_ h_r3
  refine (q_80_3 sh_ w.1 w.2 d j1 r3 i4 D).trans ?_
  (try simp only [m1_r3, m2_r3, m3_r3, m4_r3, m5_r3, reduceIte, Nat.reduceEqDiff, Nat.add_one_ne_zero, Nat.succ_ne_zero, Nat.add_eq_zero_iff, and_false]) <;> rfl
set_option maxRecDepth 100000 in
set_option maxHeartbeats 4000000 in
theorem e80_15 {w : (Nat → Int32) × Nat} {d : Nat} {j1 : Int64} {r3 : Nat} {i4 : Int32} {i5 : Int32} {D : dy_} (h_r3 : r3 ∈ ml_) : k80_15 w (d + 1) j1 r3 i4 i5 D = if (D.1 r3 2) ≤ i5 then (k80_3 w (d + 1) j1 r3 (i4 + (nI 1)) D) else (mk_inb ((i4 * (D.1 r3 2)) + i5) (4 * cap_ r3) none (if (lg_cmp (((j1.toUInt64 >>> ((D.1 (r3 + 1) ((i4 * (D.1 r3 2)) + i5).toNatClampNeg).toInt64.toUInt64 &&& Int64.toUInt64 63)).toInt64) &&& (lN 1)) (lN 0)) = (nI 0) then (k80_62 w (d + 1) j1 r3 i4 i5 D) else (mk_inb i5 4 none (mk_inb i5 4 none (k80_62 w (d + 1) j1 r3 i4 i5 (dL_ D 49 i5.toNatClampNeg ((D.2 49 i5.toNatClampNeg) ||| ((lN 1) <<< (i4.toInt64 &&& 63))))))))) := by
  obtain ⟨m1_r3, m2_r3, m3_r3, m4_r3, m5_r3, m6_r3⟩ := mM_ h_r3
  refine (q_80_15 sh_ w.1 w.2 d j1 r3 i4 i5 D).trans ?_
  (try simp only [rf_23_9, sf_23, sf_49, m1_r3, m2_r3, m3_r3, m4_r3, m5_r3, reduceIte, Nat.reduceEqDiff, Nat.add_one_ne_zero, Nat.succ_ne_zero, Nat.add_eq_zero_iff, and_false]) <;> rfl
set_option maxRecDepth 100000 in
set_option maxHeartbeats 4000000 in
theorem e80_62 {w : (Nat → Int32) × Nat} {d : Nat} {j1 : Int64} {r3 : Nat} {i4 : Int32} {i5 : Int32} {D : dy_} (h_r3 : r3 ∈ ml_) : k80_62 w (d + 1) j1 r3 i4 i5 D = k80_15 w (d + 1) j1 r3 i4 (i5 + (nI 1)) D := by
  obtain ⟨m1_r3, m2_r3, m3_r3, m4_r3, m5_r3, m6_r3⟩ := mM_ h_r3
  refine (q_80_62 sh_ w.1 w.2 d j1 r3 i4 i5 D).trans ?_
  (try simp only [m1_r3, m2_r3, m3_r3, m4_r3, m5_r3, reduceIte, Nat.reduceEqDiff, Nat.add_one_ne_zero, Nat.succ_ne_zero, Nat.add_eq_zero_iff, and_false]) <;> rfl
set_option maxRecDepth 100000 in
set_option maxHeartbeats 4000000 in
theorem e82_0 {w : (Nat → Int32) × Nat} {d : Nat} {i1 : Int32} {i2 : Int32} {i3 : Int32} {D : dy_} : k82_0 w (d + 1) i1 i2 i3 D = op_o (k106_0 w d i1 D) none (fun p1 => op_vI p1.1 none (fun n1 => if n1 = (nI 0) then (some (some (.int (-102)), p1.2)) else (op_o (k107_0 w d i2 p1.2) none (fun p2 => op_vI p2.1 none (fun n2 => if n2 = (nI 0) then (some (some (.int (-102)), p2.2)) else (if i3 < (nI 1) then (some (some (.int (-102)), p2.2)) else (if i3 ≤ (nI 60) then (mk_inb i1 6 none (if sh_.2.1 2 i1.toNatClampNeg = 0 then none else if (sh_.1 (sh_.2.1 2 i1.toNatClampNeg)).1 = 11 then (op_o (k6_0 w d (sh_.2.1 2 i1.toNatClampNeg) i2 i3 p2.2) none (fun p3 => op_vN p3.1 none (some (some (.int (nI 1)), p3.2)))) else none)) else (some (some (.int (-102)), p2.2))))))))) := by
  refine (q_82_0 sh_ w.1 w.2 d i1 i2 i3 D).trans ?_
  (try simp only [rf_1_0, sf_1, sf_2, reduceIte, Nat.reduceEqDiff, Nat.add_one_ne_zero, Nat.succ_ne_zero, Nat.add_eq_zero_iff, and_false]) <;> rfl
set_option maxRecDepth 100000 in
set_option maxHeartbeats 4000000 in
theorem e83_0 {w : (Nat → Int32) × Nat} {d : Nat} {i1 : Int32} {i2 : Int32} {i3 : Int32} {i4 : Int32} {D : dy_} : k83_0 w (d + 1) i1 i2 i3 i4 D = op_o (k108_0 w d i1 i2 D) none (fun p1 => op_vI p1.1 none (fun n1 => if n1 = (nI 0) then (some (some (.int (-102)), p1.2)) else (op_o (k108_0 w d i1 i4 p1.2) none (fun p2 => op_vI p2.1 none (fun n2 => if n2 = (nI 0) then (some (some (.int (-102)), p2.2)) else (mk_inb i1 6 none (if sh_.2.1 2 i1.toNatClampNeg = 0 then none else if (sh_.1 (sh_.2.1 2 i1.toNatClampNeg)).1 = 11 then (op_o (k8_0 w d (sh_.2.1 2 i1.toNatClampNeg) i3 p2.2) none (fun p3 => op_vI p3.1 none (fun n3 => if n3 ≠ (nI 0) then (mk_inb i1 6 none (if sh_.2.1 2 i1.toNatClampNeg = 0 then none else if (sh_.1 (sh_.2.1 2 i1.toNatClampNeg)).1 = 11 then (op_o (k9_0 w d (sh_.2.1 2 i1.toNatClampNeg) i2 i3 p3.2) none (fun p4 => op_vI p4.1 none (fun n4 => mk_inb i1 6 none (if sh_.2.1 2 i1.toNatClampNeg = 0 then none else if (sh_.1 (sh_.2.1 2 i1.toNatClampNeg)).1 = 11 then (op_o (k10_0 w d (sh_.2.1 2 i1.toNatClampNeg) i2 i3 i4 p4.2) none (fun p5 => op_vN p5.1 none (some (some (.int n4), p5.2)))) else none)))) else none)) else (some (some (.int (-102)), p3.2))))) else none))))))) := by
  refine (q_83_0 sh_ w.1 w.2 d i1 i2 i3 i4 D).trans ?_
  (try simp only [rf_1_0, sf_1, sf_2, reduceIte, Nat.reduceEqDiff, Nat.add_one_ne_zero, Nat.succ_ne_zero, Nat.add_eq_zero_iff, and_false]) <;> rfl
set_option maxRecDepth 100000 in
set_option maxHeartbeats 4000000 in
theorem e84_0 {w : (Nat → Int32) × Nat} {d : Nat} {i1 : Int32} {i2 : Int32} {i3 : Int32} {D : dy_} : k84_0 w (d + 1) i1 i2 i3 D = op_o (k108_0 w d i1 i2 D) none (fun p1 => op_vI p1.1 none (fun n1 => if n1 ≠ (nI 0) then (mk_inb i1 6 none (if sh_.2.1 2 i1.toNatClampNeg = 0 then none else if (sh_.1 (sh_.2.1 2 i1.toNatClampNeg)).1 = 11 then (if sh_.2.1 (sh_.2.1 2 i1.toNatClampNeg) 1 = 0 then none else if (sh_.1 (sh_.2.1 (sh_.2.1 2 i1.toNatClampNeg) 1)).1 = 2 then (mk_inb i2 (sh_.1 (sh_.2.1 (sh_.2.1 2 i1.toNatClampNeg) 1)).2 none (op_o (k105_0 w d (p1.2.1 (sh_.2.1 (sh_.2.1 2 i1.toNatClampNeg) 1) i2.toNatClampNeg) p1.2) none (fun p2 => op_vI p2.1 none (fun n2 => mk_inb i1 6 none (if sh_.2.1 2 i1.toNatClampNeg = 0 then none else if (sh_.1 (sh_.2.1 2 i1.toNatClampNeg)).1 = 11 then (if sh_.2.1 (sh_.2.1 2 i1.toNatClampNeg) 1 = 0 then none else if (sh_.1 (sh_.2.1 (sh_.2.1 2 i1.toNatClampNeg) 1)).1 = 2 then (mk_inb i2 (sh_.1 (sh_.2.1 (sh_.2.1 2 i1.toNatClampNeg) 1)).2 none (some (some (.int n2), (dI_ p2.2 (sh_.2.1 (sh_.2.1 2 i1.toNatClampNeg) 1) i2.toNatClampNeg (vp_nar .boolean i3))))) else none) else none))))) else none) else none)) else (some (some (.int (-102)), p1.2)))) := by
  refine (q_84_0 sh_ w.1 w.2 d i1 i2 i3 D).trans ?_
  (try simp only [rf_1_0, sf_1, sf_2, reduceIte, Nat.reduceEqDiff, Nat.add_one_ne_zero, Nat.succ_ne_zero, Nat.add_eq_zero_iff, and_false]) <;> rfl
set_option maxRecDepth 100000 in
set_option maxHeartbeats 4000000 in
theorem e85_0 {w : (Nat → Int32) × Nat} {d : Nat} {i1 : Int32} {i2 : Int32} {D : dy_} : k85_0 w (d + 1) i1 i2 D = op_o (k108_0 w d i1 i2 D) none (fun p1 => op_vI p1.1 none (fun n1 => if n1 ≠ (nI 0) then (mk_inb i1 6 none (if sh_.2.1 2 i1.toNatClampNeg = 0 then none else if (sh_.1 (sh_.2.1 2 i1.toNatClampNeg)).1 = 11 then (mk_inb i1 6 none (if sh_.2.1 2 i1.toNatClampNeg = 0 then none else if (sh_.1 (sh_.2.1 2 i1.toNatClampNeg)).1 = 11 then (some (some (.int (p1.2.1 (sh_.2.1 2 i1.toNatClampNeg) 4)), (dI_ p1.2 (sh_.2.1 2 i1.toNatClampNeg) 4 i2))) else none)) else none)) else (some (some (.int (-102)), p1.2)))) := by
  refine (q_85_0 sh_ w.1 w.2 d i1 i2 D).trans ?_
  (try simp only [rf_1_0, sf_1, sf_2, reduceIte, Nat.reduceEqDiff, Nat.add_one_ne_zero, Nat.succ_ne_zero, Nat.add_eq_zero_iff, and_false]) <;> rfl
set_option maxRecDepth 100000 in
set_option maxHeartbeats 4000000 in
theorem e86_0 {w : (Nat → Int32) × Nat} {d : Nat} {i1 : Int32} {i2 : Int32} {D : dy_} : k86_0 w (d + 1) i1 i2 D = op_o (k106_0 w d i1 D) none (fun p1 => op_vI p1.1 none (fun n1 => if n1 ≠ (nI 0) then ((if i2 = (nI 0) then (mk_inb i1 6 none (if sh_.2.1 2 i1.toNatClampNeg = 0 then none else if (sh_.1 (sh_.2.1 2 i1.toNatClampNeg)).1 = 11 then (some (some (.int (p1.2.1 (sh_.2.1 2 i1.toNatClampNeg) 2)), p1.2)) else none)) else (if i2 = (nI 1) then (mk_inb i1 6 none (if sh_.2.1 2 i1.toNatClampNeg = 0 then none else if (sh_.1 (sh_.2.1 2 i1.toNatClampNeg)).1 = 11 then (some (some (.int (p1.2.1 (sh_.2.1 2 i1.toNatClampNeg) 3)), p1.2)) else none)) else (if i2 = (nI 2) then (mk_inb i1 6 none (if sh_.2.1 2 i1.toNatClampNeg = 0 then none else if (sh_.1 (sh_.2.1 2 i1.toNatClampNeg)).1 = 11 then (some (some (.int (p1.2.1 (sh_.2.1 2 i1.toNatClampNeg) 4)), p1.2)) else none)) else (if i2 = (nI 3) then (mk_inb i1 6 none (if sh_.2.1 2 i1.toNatClampNeg = 0 then none else if (sh_.1 (sh_.2.1 2 i1.toNatClampNeg)).1 = 11 then (op_o (k12_0 w d (sh_.2.1 2 i1.toNatClampNeg) p1.2) none (fun p2 => op_vI p2.1 none (fun n2 => some (some (.int n2), p2.2)))) else none)) else (some (some (.int (-102)), p1.2))))))) else (some (some (.int (-102)), p1.2)))) := by
  refine (q_86_0 sh_ w.1 w.2 d i1 i2 D).trans ?_
  (try simp only [rf_1_0, sf_1, sf_2, reduceIte, Nat.reduceEqDiff, Nat.add_one_ne_zero, Nat.succ_ne_zero, Nat.add_eq_zero_iff, and_false]) <;> rfl
set_option maxRecDepth 100000 in
set_option maxHeartbeats 4000000 in
theorem e87_0 {w : (Nat → Int32) × Nat} {d : Nat} {i1 : Int32} {i2 : Int32} {i3 : Int32} {D : dy_} : k87_0 w (d + 1) i1 i2 i3 D = op_o (k108_0 w d i1 i2 D) none (fun p1 => op_vI p1.1 none (fun n1 => if n1 ≠ (nI 0) then (if i3 ≠ (-1) then (mk_inb i1 6 none (if sh_.2.1 2 i1.toNatClampNeg = 0 then none else if (sh_.1 (sh_.2.1 2 i1.toNatClampNeg)).1 = 11 then (op_o (k8_0 w d (sh_.2.1 2 i1.toNatClampNeg) i3 p1.2) none (fun p2 => op_vI p2.1 none (fun n2 => if n2 = (nI 0) then (some (some (.int (-102)), p2.2)) else (mk_inb i1 6 none (if sh_.2.1 2 i1.toNatClampNeg = 0 then none else if (sh_.1 (sh_.2.1 2 i1.toNatClampNeg)).1 = 11 then (op_o (k9_0 w d (sh_.2.1 2 i1.toNatClampNeg) i2 i3 p2.2) none (fun p3 => op_vI p3.1 none (fun n3 => some (some (.int n3), p3.2)))) else none))))) else none)) else (mk_inb i1 6 none (if sh_.2.1 2 i1.toNatClampNeg = 0 then none else if (sh_.1 (sh_.2.1 2 i1.toNatClampNeg)).1 = 11 then (if sh_.2.1 (sh_.2.1 2 i1.toNatClampNeg) 1 = 0 then none else if (sh_.1 (sh_.2.1 (sh_.2.1 2 i1.toNatClampNeg) 1)).1 = 2 then (mk_inb i2 (sh_.1 (sh_.2.1 (sh_.2.1 2 i1.toNatClampNeg) 1)).2 none (op_o (k105_0 w d (p1.2.1 (sh_.2.1 (sh_.2.1 2 i1.toNatClampNeg) 1) i2.toNatClampNeg) p1.2) none (fun p4 => op_vI p4.1 none (fun n4 => some (some (.int n4), p4.2))))) else none) else none))) else (some (some (.int (-102)), p1.2)))) := by
  refine (q_87_0 sh_ w.1 w.2 d i1 i2 i3 D).trans ?_
  (try simp only [rf_1_0, sf_1, sf_2, reduceIte, Nat.reduceEqDiff, Nat.add_one_ne_zero, Nat.succ_ne_zero, Nat.add_eq_zero_iff, and_false]) <;> rfl
set_option maxRecDepth 100000 in
set_option maxHeartbeats 4000000 in
theorem e88_0 {w : (Nat → Int32) × Nat} {d : Nat} {i1 : Int32} {D : dy_} : k88_0 w (d + 1) i1 D = op_o (k106_0 w d i1 D) none (fun p1 => op_vI p1.1 none (fun n1 => if n1 ≠ (nI 0) then (mk_inb i1 6 none (if sh_.2.1 2 i1.toNatClampNeg = 0 then none else op_o (k64_0 w d (sh_.2.1 2 i1.toNatClampNeg) p1.2) none (fun p2 => op_vN p2.1 none (mk_inb i1 6 none (if sh_.2.1 2 i1.toNatClampNeg = 0 then none else if (sh_.1 (sh_.2.1 2 i1.toNatClampNeg)).1 = 11 then (op_o (k14_0 w d (sh_.2.1 2 i1.toNatClampNeg) 24 p2.2) none (fun p3 => op_vN p3.1 none (mk_inb i1 6 none (if sh_.2.1 2 i1.toNatClampNeg = 0 then none else if (sh_.1 (sh_.2.1 2 i1.toNatClampNeg)).1 = 11 then (some (some (.int (p3.2.1 (sh_.2.1 2 i1.toNatClampNeg) 3)), p3.2)) else none)))) else none))))) else (some (some (.int (-102)), p1.2)))) := by
  refine (q_88_0 sh_ w.1 w.2 d i1 D).trans ?_
  (try simp only [rf_1_0, rf_1_2, rf_23_0, sf_1, sf_2, sf_23, reduceIte, Nat.reduceEqDiff, Nat.add_one_ne_zero, Nat.succ_ne_zero, Nat.add_eq_zero_iff, and_false]) <;> rfl
set_option maxRecDepth 100000 in
set_option maxHeartbeats 4000000 in
theorem e89_0 {w : (Nat → Int32) × Nat} {d : Nat} {i1 : Int32} {i2 : Int32} {D : dy_} : k89_0 w (d + 1) i1 i2 D = op_o (k106_0 w d i1 D) none (fun p1 => op_vI p1.1 none (fun n1 => if n1 = (nI 0) then (some (some (.int (-102)), p1.2)) else (if i2 < (nI 0) then (some (some (.int (-102)), p1.2)) else (if i2 ≤ (nI 2) then (mk_inb i1 6 none (if sh_.2.1 2 i1.toNatClampNeg = 0 then none else op_o (k66_0 w d (sh_.2.1 2 i1.toNatClampNeg) i2 p1.2) none (fun p2 => op_vI p2.1 none (fun n2 => some (some (.int n2), p2.2))))) else (some (some (.int (-102)), p1.2)))))) := by
  refine (q_89_0 sh_ w.1 w.2 d i1 i2 D).trans ?_
  (try simp only [rf_1_0, rf_1_2, sf_1, sf_2, sf_23, reduceIte, Nat.reduceEqDiff, Nat.add_one_ne_zero, Nat.succ_ne_zero, Nat.add_eq_zero_iff, and_false]) <;> rfl
set_option maxRecDepth 100000 in
set_option maxHeartbeats 4000000 in
theorem e90_0 {w : (Nat → Int32) × Nat} {d : Nat} {i1 : Int32} {i2 : Int32} {i3 : Int32} {i4 : Int32} {D : dy_} : k90_0 w (d + 1) i1 i2 i3 i4 D = op_o (k106_0 w d i1 D) none (fun p1 => op_vI p1.1 none (fun n1 => if n1 = (nI 0) then (some (some (.int (-102)), p1.2)) else (if i2 < (nI 0) then (some (some (.int (-102)), p1.2)) else (if (nI 7) < i2 then (some (some (.int (-102)), p1.2)) else (op_o (k106_0 w d i3 p1.2) none (fun p2 => op_vI p2.1 none (fun n2 => if n2 ≠ (nI 0) then (if i2 < (nI 5) then (op_o (k109_0 w d i3 i4 p2.2) none (fun p3 => op_vI p3.1 none (fun n3 => if n3 = (nI 0) then (mk_inb i1 6 none (if sh_.2.1 2 i1.toNatClampNeg = 0 then none else mk_inb i3 6 none (if sh_.2.1 2 i3.toNatClampNeg = 0 then none else mk_inb i4 6 none (if sh_.2.1 2 i4.toNatClampNeg = 0 then none else op_o (k69_0 w d (sh_.2.1 2 i1.toNatClampNeg) i2 (sh_.2.1 2 i3.toNatClampNeg) (sh_.2.1 2 i4.toNatClampNeg) p3.2) none (fun p4 => op_vI p4.1 none (fun n4 => some (some (.int n4), p4.2))))))) else (some (some (.int n3), p3.2))))) else (mk_inb i1 6 none (if sh_.2.1 2 i1.toNatClampNeg = 0 then none else mk_inb i3 6 none (if sh_.2.1 2 i3.toNatClampNeg = 0 then none else mk_inb i3 6 none (if sh_.2.1 2 i3.toNatClampNeg = 0 then none else op_o (k69_0 w d (sh_.2.1 2 i1.toNatClampNeg) i2 (sh_.2.1 2 i3.toNatClampNeg) (sh_.2.1 2 i3.toNatClampNeg) p2.2) none (fun p5 => op_vI p5.1 none (fun n5 => some (some (.int n5), p5.2)))))))) else (some (some (.int (-102)), p2.2))))))))) := by
  refine (q_90_0 sh_ w.1 w.2 d i1 i2 i3 i4 D).trans ?_
  (try simp only [rf_1_0, rf_1_2, sf_1, sf_2, sf_23, reduceIte, Nat.reduceEqDiff, Nat.add_one_ne_zero, Nat.succ_ne_zero, Nat.add_eq_zero_iff, and_false]) <;> rfl
set_option maxRecDepth 100000 in
set_option maxHeartbeats 4000000 in
theorem e91_0 {w : (Nat → Int32) × Nat} {d : Nat} {i1 : Int32} {i2 : Int32} {i3 : Int32} {i4 : Int32} {i5 : Int32} {D : dy_} : k91_0 w (d + 1) i1 i2 i3 i4 i5 D = if ((D.1 21 1) + (nI 20)) ≤ (nI 500) then (op_o (k50_0 w d i1 D) none (fun p1 => op_vN p1.1 none (op_o (k50_0 w d i2 p1.2) none (fun p2 => op_vN p2.1 none (op_o (k50_0 w d i3 p2.2) none (fun p3 => op_vN p3.1 none (op_o (k50_0 w d i4 p3.2) none (fun p4 => op_vN p4.1 none (op_o (k50_0 w d i5 p4.2) none (fun p5 => op_vN p5.1 none (some (some (.int (p5.2.1 21 1)), p5.2)))))))))))) else (some (some (.int (-104)), D)) := by
  refine (q_91_0 sh_ w.1 w.2 d i1 i2 i3 i4 i5 D).trans ?_
  (try simp only [rf_1_1, sf_1, sf_21, reduceIte, Nat.reduceEqDiff, Nat.add_one_ne_zero, Nat.succ_ne_zero, Nat.add_eq_zero_iff, and_false]) <;> rfl
set_option maxRecDepth 100000 in
set_option maxHeartbeats 4000000 in
theorem e92_0 {w : (Nat → Int32) × Nat} {d : Nat} {i1 : Int32} {D : dy_} : k92_0 w (d + 1) i1 D = if i1 < (nI 0) then (some (some (.int (-102)), D)) else (if i1 ≤ (D.1 21 1) then (some (some (.int (nI 1)), (dI_ D 21 1 i1))) else (some (some (.int (-102)), D))) := by
  refine (q_92_0 sh_ w.1 w.2 d i1 D).trans ?_
  (try simp only [rf_1_1, sf_1, sf_21, reduceIte, Nat.reduceEqDiff, Nat.add_one_ne_zero, Nat.succ_ne_zero, Nat.add_eq_zero_iff, and_false]) <;> rfl
set_option maxRecDepth 100000 in
set_option maxHeartbeats 4000000 in
theorem e93_0 {w : (Nat → Int32) × Nat} {d : Nat} {i1 : Int32} {i2 : Int32} {D : dy_} : k93_0 w (d + 1) i1 i2 D = op_o (k106_0 w d i1 D) none (fun p1 => op_vI p1.1 none (fun n1 => if n1 = (nI 0) then (some (some (.int (-102)), p1.2)) else (op_o (k107_0 w d i2 p1.2) none (fun p2 => op_vI p2.1 none (fun n2 => if n2 ≠ (nI 0) then (op_o (k29_0 w d i2 p2.2) none (fun p3 => op_vI p3.1 none (fun n3 => if n3 ≤ (nI 0) then (some (some (.int n3), (dI_ p3.2 21 1 (nI 0)))) else (mk_inb i1 6 none (if sh_.2.1 2 i1.toNatClampNeg = 0 then none else op_o (k28_0 w d (dI_ p3.2 21 1 (nI 0))) none (fun p4 => op_vR p4.1 none (fun n4 => if (sh_.1 (sh_.2.1 2 i1.toNatClampNeg)).1 = 11 then (op_o (k14_0 w d (sh_.2.1 2 i1.toNatClampNeg) n4 p4.2) none (fun p5 => op_vN p5.1 none (some (some (.int n3), p5.2)))) else none))))))) else (some (some (.int (-102)), p2.2))))))) := by
  refine (q_93_0 sh_ w.1 w.2 d i1 i2 D).trans ?_
  (try simp only [rf_1_0, rf_1_1, rf_1_3, sf_1, sf_2, sf_21, sf_50, reduceIte, Nat.reduceEqDiff, Nat.add_one_ne_zero, Nat.succ_ne_zero, Nat.add_eq_zero_iff, and_false]) <;> rfl
set_option maxRecDepth 100000 in
set_option maxHeartbeats 4000000 in
theorem e94_0 {w : (Nat → Int32) × Nat} {d : Nat} {i1 : Int32} {D : dy_} : k94_0 w (d + 1) i1 D = op_o (k106_0 w d i1 D) none (fun p1 => op_vI p1.1 none (fun n1 => if n1 = (nI 0) then (some (some (.int (-102)), p1.2)) else (mk_inb i1 6 none (if sh_.2.1 2 i1.toNatClampNeg = 0 then none else op_o (k53_0 w d (sh_.2.1 2 i1.toNatClampNeg) p1.2) none (fun p2 => op_vI p2.1 none (fun n2 => if n2 ≠ (nI 0) then (mk_inb i1 6 none (if sh_.2.1 2 i1.toNatClampNeg = 0 then none else if (sh_.1 (sh_.2.1 2 i1.toNatClampNeg)).1 = 11 then (if sh_.2.1 (sh_.2.1 2 i1.toNatClampNeg) 1 = 0 then none else mk_inb i1 6 none (if sh_.2.1 2 i1.toNatClampNeg = 0 then none else op_o (k54_0 w d (sh_.2.1 2 i1.toNatClampNeg) p2.2) none (fun p3 => op_vI p3.1 none (fun n3 => if (sh_.1 (sh_.2.1 (sh_.2.1 2 i1.toNatClampNeg) 1)).1 = 2 then (mk_inb n3 (sh_.1 (sh_.2.1 (sh_.2.1 2 i1.toNatClampNeg) 1)).2 none (op_o (k105_0 w d (p3.2.1 (sh_.2.1 (sh_.2.1 2 i1.toNatClampNeg) 1) n3.toNatClampNeg) p3.2) none (fun p4 => op_vI p4.1 none (fun n4 => some (some (.int n4), p4.2))))) else none)))) else none)) else (some (some (.int (-102)), p2.2)))))))) := by
  refine (q_94_0 sh_ w.1 w.2 d i1 D).trans ?_
  (try simp only [rf_1_0, rf_1_1, sf_1, sf_2, sf_21, reduceIte, Nat.reduceEqDiff, Nat.add_one_ne_zero, Nat.succ_ne_zero, Nat.add_eq_zero_iff, and_false]) <;> rfl
set_option maxRecDepth 100000 in
set_option maxHeartbeats 4000000 in
theorem e95_0 {w : (Nat → Int32) × Nat} {d : Nat} {i1 : Int32} {i2 : Int32} {D : dy_} : k95_0 w (d + 1) i1 i2 D = op_o (k109_0 w d i1 i2 D) none (fun p1 => op_vI p1.1 none (fun n1 => if n1 = (nI 0) then (mk_inb i1 6 none (if sh_.2.1 2 i1.toNatClampNeg = 0 then none else mk_inb i1 6 none (if sh_.2.1 2 i1.toNatClampNeg = 0 then none else if (sh_.1 (sh_.2.1 2 i1.toNatClampNeg)).1 = 11 then (mk_inb i2 6 none (if sh_.2.1 2 i2.toNatClampNeg = 0 then none else mk_inb i2 6 none (if sh_.2.1 2 i2.toNatClampNeg = 0 then none else if (sh_.1 (sh_.2.1 2 i2.toNatClampNeg)).1 = 11 then (op_o (k70_0 w d (sh_.2.1 2 i1.toNatClampNeg) (p1.2.1 (sh_.2.1 2 i1.toNatClampNeg) 4) (sh_.2.1 2 i2.toNatClampNeg) (p1.2.1 (sh_.2.1 2 i2.toNatClampNeg) 4) p1.2) none (fun p2 => op_vI p2.1 none (fun n2 => if n2 = (nI 0) then (some (some (.int (nI 1)), p2.2)) else (some (some (.int (nI 0)), p2.2))))) else none))) else none))) else (some (some (.int n1), p1.2)))) := by
  refine (q_95_0 sh_ w.1 w.2 d i1 i2 D).trans ?_
  (try simp only [rf_1_0, rf_1_1, rf_1_2, sf_1, sf_2, sf_23, reduceIte, Nat.reduceEqDiff, Nat.add_one_ne_zero, Nat.succ_ne_zero, Nat.add_eq_zero_iff, and_false]) <;> rfl
set_option maxRecDepth 100000 in
set_option maxHeartbeats 4000000 in
theorem e96_0 {w : (Nat → Int32) × Nat} {d : Nat} {i1 : Int32} {i2 : Int32} {i3 : Int32} {D : dy_} : k96_0 w (d + 1) i1 i2 i3 D = op_o (k108_0 w d i1 i2 D) none (fun p1 => op_vI p1.1 none (fun n1 => if n1 = (nI 0) then (some (some (.int (-102)), p1.2)) else (op_o (k108_0 w d i1 i3 p1.2) none (fun p2 => op_vI p2.1 none (fun n2 => if n2 ≠ (nI 0) then (mk_inb i1 6 none (if sh_.2.1 2 i1.toNatClampNeg = 0 then none else mk_inb i1 6 none (if sh_.2.1 2 i1.toNatClampNeg = 0 then none else op_o (k70_0 w d (sh_.2.1 2 i1.toNatClampNeg) i2 (sh_.2.1 2 i1.toNatClampNeg) i3 p2.2) none (fun p3 => op_vI p3.1 none (fun n3 => if n3 = (nI 0) then (some (some (.int (-1)), p3.2)) else (some (some (.int (p3.2.1 21 1)), p3.2))))))) else (some (some (.int (-102)), p2.2))))))) := by
  refine (q_96_0 sh_ w.1 w.2 d i1 i2 i3 D).trans ?_
  (try simp only [rf_1_0, rf_1_1, rf_1_2, sf_1, sf_2, sf_21, sf_23, reduceIte, Nat.reduceEqDiff, Nat.add_one_ne_zero, Nat.succ_ne_zero, Nat.add_eq_zero_iff, and_false]) <;> rfl
set_option maxRecDepth 100000 in
set_option maxHeartbeats 4000000 in
theorem e97_0 {w : (Nat → Int32) × Nat} {d : Nat} {i1 : Int32} {i2 : Int32} {D : dy_} : k97_0 w (d + 1) i1 i2 D = op_o (k106_0 w d i1 D) none (fun p1 => op_vI p1.1 none (fun n1 => if n1 = (nI 0) then (some (some (.long (-1)), p1.2)) else (if i2 < (nI 0) then (some (some (.long (-1)), p1.2)) else (if i2 ≤ (nI 30) then (mk_inb i1 6 none (if sh_.2.1 2 i1.toNatClampNeg = 0 then none else op_o (k56_0 w d (sh_.2.1 2 i1.toNatClampNeg) i2 p1.2) none (fun p2 => op_vL p2.1 none (fun n2 => some (some (.long n2), p2.2))))) else (some (some (.long (-1)), p1.2)))))) := by
  refine (q_97_0 sh_ w.1 w.2 d i1 i2 D).trans ?_
  (try simp only [rf_1_0, rf_1_4, sf_1, sf_2, sf_340, reduceIte, Nat.reduceEqDiff, Nat.add_one_ne_zero, Nat.succ_ne_zero, Nat.add_eq_zero_iff, and_false]) <;> rfl
set_option maxRecDepth 100000 in
set_option maxHeartbeats 4000000 in
theorem e98_0 {w : (Nat → Int32) × Nat} {d : Nat} {i1 : Int32} {j2 : Int64} {D : dy_} : k98_0 w (d + 1) i1 j2 D = op_o (k106_0 w d i1 D) none (fun p1 => op_vI p1.1 none (fun n1 => if n1 = (nI 0) then (some (some (.int (-102)), p1.2)) else (if (nI 0) ≤ (lg_cmp j2 (lN 0)) then (mk_inb i1 6 none (if sh_.2.1 2 i1.toNatClampNeg = 0 then none else op_o (k57_0 w d (sh_.2.1 2 i1.toNatClampNeg) j2 p1.2) none (fun p2 => op_vI p2.1 none (fun n2 => some (some (.int n2), p2.2))))) else (some (some (.int (-102)), p1.2))))) := by
  refine (q_98_0 sh_ w.1 w.2 d i1 j2 D).trans ?_
  (try simp only [rf_1_0, rf_1_1, rf_1_4, sf_1, sf_2, sf_340, reduceIte, Nat.reduceEqDiff, Nat.add_one_ne_zero, Nat.succ_ne_zero, Nat.add_eq_zero_iff, and_false]) <;> rfl
set_option maxRecDepth 100000 in
set_option maxHeartbeats 4000000 in
theorem e99_0 {w : (Nat → Int32) × Nat} {d : Nat} {i1 : Int32} {D : dy_} : k99_0 w (d + 1) i1 D = op_o (k106_0 w d i1 D) none (fun p1 => op_vI p1.1 none (fun n1 => if n1 = (nI 0) then (some (some (.long (-1)), p1.2)) else (if (nI 30) < (p1.2.1 21 1) then (some (some (.long (-1)), p1.2)) else (mk_inb i1 6 none (if sh_.2.1 2 i1.toNatClampNeg = 0 then none else op_o (k53_0 w d (sh_.2.1 2 i1.toNatClampNeg) p1.2) none (fun p2 => op_vI p2.1 none (fun n2 => if n2 ≠ (nI 0) then (mk_inb i1 6 none (if sh_.2.1 2 i1.toNatClampNeg = 0 then none else if (sh_.1 (sh_.2.1 2 i1.toNatClampNeg)).1 = 11 then (if sh_.2.1 (sh_.2.1 2 i1.toNatClampNeg) 1 = 0 then none else mk_inb i1 6 none (if sh_.2.1 2 i1.toNatClampNeg = 0 then none else op_o (k54_0 w d (sh_.2.1 2 i1.toNatClampNeg) p2.2) none (fun p3 => op_vI p3.1 none (fun n3 => if (sh_.1 (sh_.2.1 (sh_.2.1 2 i1.toNatClampNeg) 1)).1 = 2 then (mk_inb n3 (sh_.1 (sh_.2.1 (sh_.2.1 2 i1.toNatClampNeg) 1)).2 none (if (p3.2.1 (sh_.2.1 (sh_.2.1 2 i1.toNatClampNeg) 1) n3.toNatClampNeg) ≠ (nI 0) then (mk_inb i1 6 none (if sh_.2.1 2 i1.toNatClampNeg = 0 then none else op_o (k58_0 w d (sh_.2.1 2 i1.toNatClampNeg) p3.2) none (fun p4 => op_vL p4.1 none (fun n4 => some (some (.long n4), p4.2))))) else (some (some (.long (-1)), p3.2)))) else none)))) else none)) else (some (some (.long (-1)), p2.2))))))))) := by
  refine (q_99_0 sh_ w.1 w.2 d i1 D).trans ?_
  (try simp only [rf_1_0, rf_1_1, rf_1_4, sf_1, sf_2, sf_21, sf_340, reduceIte, Nat.reduceEqDiff, Nat.add_one_ne_zero, Nat.succ_ne_zero, Nat.add_eq_zero_iff, and_false]) <;> rfl
set_option maxRecDepth 100000 in
set_option maxHeartbeats 4000000 in
theorem e100_0 {w : (Nat → Int32) × Nat} {d : Nat} {i1 : Int32} {D : dy_} : k100_0 w (d + 1) i1 D = if i1 < (nI 0) then (some (some (.int (-1)), D)) else (if (D.1 21 1) ≤ i1 then (some (some (.int (-1)), D)) else (mk_inb i1 500 none (some (some (.int (D.1 22 i1.toNatClampNeg)), D)))) := by
  refine (q_100_0 sh_ w.1 w.2 d i1 D).trans ?_
  (try simp only [rf_1_1, rf_21_0, sf_1, sf_21, sf_22, reduceIte, Nat.reduceEqDiff, Nat.add_one_ne_zero, Nat.succ_ne_zero, Nat.add_eq_zero_iff, and_false]) <;> rfl
set_option maxRecDepth 100000 in
set_option maxHeartbeats 4000000 in
theorem e101_0 {w : (Nat → Int32) × Nat} {d : Nat}  {D : dy_} : k101_0 w (d + 1) D = some (some (.int (D.1 21 1)), D) := by
  refine (q_101_0 sh_ w.1 w.2 d  D).trans ?_
  (try simp only [rf_1_1, sf_1, sf_21, reduceIte, Nat.reduceEqDiff, Nat.add_one_ne_zero, Nat.succ_ne_zero, Nat.add_eq_zero_iff, and_false]) <;> rfl
set_option maxRecDepth 100000 in
set_option maxHeartbeats 4000000 in
theorem e102_0 {w : (Nat → Int32) × Nat} {d : Nat} {i1 : Int32} {D : dy_} : k102_0 w (d + 1) i1 D = op_o (k106_0 w d i1 D) none (fun p1 => op_vI p1.1 none (fun n1 => if n1 ≠ (nI 0) then (mk_inb i1 6 none (if sh_.2.1 2 i1.toNatClampNeg = 0 then none else op_o (k65_0 w d (sh_.2.1 2 i1.toNatClampNeg) 343 p1.2) none (fun p2 => op_vN p2.1 none (op_o (k16_0 w d p2.2) none (fun p3 => op_vI p3.1 none (fun n3 => some (some (.int n3), p3.2))))))) else (some (some (.int (-102)), p1.2)))) := by
  refine (q_102_0 sh_ w.1 w.2 d i1 D).trans ?_
  (try simp only [rf_1_0, rf_1_2, rf_1_5, rf_342_0, sf_1, sf_2, sf_23, sf_342, reduceIte, Nat.reduceEqDiff, Nat.add_one_ne_zero, Nat.succ_ne_zero, Nat.add_eq_zero_iff, and_false]) <;> rfl
set_option maxRecDepth 100000 in
set_option maxHeartbeats 4000000 in
theorem e103_0 {w : (Nat → Int32) × Nat} {d : Nat} {i1 : Int32} {i2 : Int32} {D : dy_} : k103_0 w (d + 1) i1 i2 D = if i1 < (nI 0) then (some (some (.int (-102)), D)) else (if (D.1 342 6) ≤ i1 then (some (some (.int (-102)), D)) else (op_o (k7_0 w d 343 i2 D) none (fun p1 => op_vI p1.1 none (fun n1 => if n1 ≠ (nI 0) then (op_o (k17_0 w d i1 i2 p1.2) none (fun p2 => op_vI p2.1 none (fun n2 => some (some (.int n2), p2.2)))) else (some (some (.int (-102)), p1.2)))))) := by
  refine (q_103_0 sh_ w.1 w.2 d i1 i2 D).trans ?_
  (try simp only [rf_1_5, rf_342_0, sf_1, sf_342, sf_343, reduceIte, Nat.reduceEqDiff, Nat.add_one_ne_zero, Nat.succ_ne_zero, Nat.add_eq_zero_iff, and_false]) <;> rfl
set_option maxRecDepth 100000 in
set_option maxHeartbeats 4000000 in
theorem e104_0 {w : (Nat → Int32) × Nat} {d : Nat} {i1 : Int32} {D : dy_} : k104_0 w (d + 1) i1 D = if i1 < (nI 0) then (some (some (.int (-102)), D)) else (if i1 ≤ (nI 4) then (if (D.1 342 6) ≠ (nI 0) then ((if i1 = (nI 0) then (op_o (k21_0 w d D) none (fun p7 => op_vI p7.1 none (fun n7 => some (some (.int n7), p7.2)))) else (if i1 = (nI 1) then (op_o (k24_0 w d D) none (fun p5 => op_vI p5.1 none (fun n5 => op_o (k105_0 w d n5 p5.2) none (fun p6 => op_vI p6.1 none (fun n6 => some (some (.int n6), p6.2)))))) else (if i1 = (nI 2) then (op_o (k23_0 w d D) none (fun p3 => op_vI p3.1 none (fun n3 => op_o (k105_0 w d n3 p3.2) none (fun p4 => op_vI p4.1 none (fun n4 => some (some (.int n4), p4.2)))))) else (if i1 = (nI 3) then (op_o (k22_0 w d (nI 1) D) none (fun p2 => op_vI p2.1 none (fun n2 => some (some (.int n2), p2.2)))) else (op_o (k22_0 w d (D.1 343 3) D) none (fun p1 => op_vI p1.1 none (fun n1 => some (some (.int n1), p1.2))))))))) else (some (some (.int (-1)), D))) else (some (some (.int (-102)), D))) := by
  refine (q_104_0 sh_ w.1 w.2 d i1 D).trans ?_
  (try simp only [rf_1_5, rf_342_0, sf_1, sf_342, sf_343, reduceIte, Nat.reduceEqDiff, Nat.add_one_ne_zero, Nat.succ_ne_zero, Nat.add_eq_zero_iff, and_false]) <;> rfl
set_option maxRecDepth 100000 in
set_option maxHeartbeats 4000000 in
theorem e105_0 {w : (Nat → Int32) × Nat} {d : Nat} {i0 : Int32} {D : dy_} : k105_0 w (d + 1) i0 D = if i0 = (nI 0) then (some (some (.int (nI 0)), D)) else (some (some (.int (nI 1)), D)) := by
  refine (q_105_0 sh_ w.1 w.2 d i0 D).trans ?_
  (try simp only [reduceIte, Nat.reduceEqDiff, Nat.add_one_ne_zero, Nat.succ_ne_zero, Nat.add_eq_zero_iff, and_false]) <;> rfl
set_option maxRecDepth 100000 in
set_option maxHeartbeats 4000000 in
theorem e106_0 {w : (Nat → Int32) × Nat} {d : Nat} {i0 : Int32} {D : dy_} : k106_0 w (d + 1) i0 D = if i0 < (nI 0) then (some (some (.int (nI 0)), D)) else (if (nI 6) ≤ i0 then (some (some (.int (nI 0)), D)) else (some (some (.int (nI 1)), D))) := by
  refine (q_106_0 sh_ w.1 w.2 d i0 D).trans ?_
  (try simp only [reduceIte, Nat.reduceEqDiff, Nat.add_one_ne_zero, Nat.succ_ne_zero, Nat.add_eq_zero_iff, and_false]) <;> rfl
set_option maxRecDepth 100000 in
set_option maxHeartbeats 4000000 in
theorem e107_0 {w : (Nat → Int32) × Nat} {d : Nat} {i0 : Int32} {D : dy_} : k107_0 w (d + 1) i0 D = if i0 < (nI 1) then (some (some (.int (nI 0)), D)) else (if (nI 4) < i0 then (some (some (.int (nI 0)), D)) else (some (some (.int (nI 1)), D))) := by
  refine (q_107_0 sh_ w.1 w.2 d i0 D).trans ?_
  (try simp only [reduceIte, Nat.reduceEqDiff, Nat.add_one_ne_zero, Nat.succ_ne_zero, Nat.add_eq_zero_iff, and_false]) <;> rfl
set_option maxRecDepth 100000 in
set_option maxHeartbeats 4000000 in
theorem e108_0 {w : (Nat → Int32) × Nat} {d : Nat} {i1 : Int32} {i2 : Int32} {D : dy_} : k108_0 w (d + 1) i1 i2 D = op_o (k106_0 w d i1 D) none (fun p1 => op_vI p1.1 none (fun n1 => if n1 = (nI 0) then (some (some (.int (nI 0)), p1.2)) else (mk_inb i1 6 none (if sh_.2.1 2 i1.toNatClampNeg = 0 then none else if (sh_.1 (sh_.2.1 2 i1.toNatClampNeg)).1 = 11 then (op_o (k7_0 w d (sh_.2.1 2 i1.toNatClampNeg) i2 p1.2) none (fun p2 => op_vI p2.1 none (fun n2 => if n2 = (nI 0) then (some (some (.int (nI 0)), p2.2)) else (some (some (.int (nI 1)), p2.2))))) else none)))) := by
  refine (q_108_0 sh_ w.1 w.2 d i1 i2 D).trans ?_
  (try simp only [rf_1_0, sf_1, sf_2, reduceIte, Nat.reduceEqDiff, Nat.add_one_ne_zero, Nat.succ_ne_zero, Nat.add_eq_zero_iff, and_false]) <;> rfl
set_option maxRecDepth 100000 in
set_option maxHeartbeats 4000000 in
theorem e109_0 {w : (Nat → Int32) × Nat} {d : Nat} {i1 : Int32} {i2 : Int32} {D : dy_} : k109_0 w (d + 1) i1 i2 D = op_o (k106_0 w d i1 D) none (fun p1 => op_vI p1.1 none (fun n1 => if n1 = (nI 0) then (some (some (.int (-102)), p1.2)) else (op_o (k106_0 w d i2 p1.2) none (fun p2 => op_vI p2.1 none (fun n2 => if n2 ≠ (nI 0) then (mk_inb i1 6 none (if sh_.2.1 2 i1.toNatClampNeg = 0 then none else if (sh_.1 (sh_.2.1 2 i1.toNatClampNeg)).1 = 11 then (mk_inb i2 6 none (if sh_.2.1 2 i2.toNatClampNeg = 0 then none else if (sh_.1 (sh_.2.1 2 i2.toNatClampNeg)).1 = 11 then (if (p2.2.1 (sh_.2.1 2 i1.toNatClampNeg) 2) ≠ (p2.2.1 (sh_.2.1 2 i2.toNatClampNeg) 2) then (some (some (.int (-103)), p2.2)) else (some (some (.int (nI 0)), p2.2))) else none)) else none)) else (some (some (.int (-102)), p2.2))))))) := by
  refine (q_109_0 sh_ w.1 w.2 d i1 i2 D).trans ?_
  (try simp only [rf_1_0, sf_1, sf_2, reduceIte, Nat.reduceEqDiff, Nat.add_one_ne_zero, Nat.succ_ne_zero, Nat.add_eq_zero_iff, and_false]) <;> rfl
set_option maxRecDepth 100000 in
set_option maxHeartbeats 4000000 in
theorem e111_0 {w : (Nat → Int32) × Nat} {d : Nat} {j0 : Int64} {j2 : Int64} {j4 : Int64} {D : dy_} : k111_0 w (d + 1) j0 j2 j4 D = if (lg_cmp j0 j2) < (nI 0) then (some (some (.int (nI 0)), D)) else (if (nI 0) < (lg_cmp j0 j4) then (some (some (.int (nI 0)), D)) else (some (some (.int (nI 1)), D))) := by
  refine (q_111_0 sh_ w.1 w.2 d j0 j2 j4 D).trans ?_
  (try simp only [reduceIte, Nat.reduceEqDiff, Nat.add_one_ne_zero, Nat.succ_ne_zero, Nat.add_eq_zero_iff, and_false]) <;> rfl
set_option maxRecDepth 100000 in
set_option maxHeartbeats 4000000 in
theorem e112_0 {w : (Nat → Int32) × Nat} {d : Nat} {i1 : Int32} {i2 : Int32} {i3 : Int32} {D : dy_} : k112_0 w (d + 1) i1 i2 i3 D = mk_inb (((nI 4) * (((nI 60) * i1) + i2)) + i3) 26400 none (some (some (.int (D.1 355 (((nI 4) * (((nI 60) * i1) + i2)) + i3).toNatClampNeg)), D)) := by
  refine (q_112_0 sh_ w.1 w.2 d i1 i2 i3 D).trans ?_
  (try simp only [rf_351_4, sf_351, sf_355, reduceIte, Nat.reduceEqDiff, Nat.add_one_ne_zero, Nat.succ_ne_zero, Nat.add_eq_zero_iff, and_false]) <;> rfl
set_option maxRecDepth 100000 in
set_option maxHeartbeats 4000000 in
theorem e113_0 {w : (Nat → Int32) × Nat} {d : Nat} {i1 : Int32} {i2 : Int32} {D : dy_} : k113_0 w (d + 1) i1 i2 D = mk_inb (((nI 60) * i1) + i2) 6600 none (if (D.1 356 (((nI 60) * i1) + i2).toNatClampNeg) = 0 ∨ (D.1 356 (((nI 60) * i1) + i2).toNatClampNeg) = 1 then some (some (.int (D.1 356 (((nI 60) * i1) + i2).toNatClampNeg)), D) else none) := by
  refine (q_113_0 sh_ w.1 w.2 d i1 i2 D).trans ?_
  (try simp only [rf_351_5, sf_351, sf_356, reduceIte, Nat.reduceEqDiff, Nat.add_one_ne_zero, Nat.succ_ne_zero, Nat.add_eq_zero_iff, and_false]) <;> rfl
set_option maxRecDepth 100000 in
set_option maxHeartbeats 4000000 in
theorem e114_0 {w : (Nat → Int32) × Nat} {d : Nat} {i0 : Int32} {D : dy_} : k114_0 w (d + 1) i0 D = op_o (k111_0 w d i0.toInt64 (lN 0) (lN 5) D) none (fun p1 => op_vI p1.1 none (fun n1 => if n1 = 0 ∨ n1 = 1 then some (some (.int n1), p1.2) else none)) := by
  refine (q_114_0 sh_ w.1 w.2 d i0 D).trans ?_
  (try simp only [reduceIte, Nat.reduceEqDiff, Nat.add_one_ne_zero, Nat.succ_ne_zero, Nat.add_eq_zero_iff, and_false]) <;> rfl
set_option maxRecDepth 100000 in
set_option maxHeartbeats 4000000 in
theorem e115_0 {w : (Nat → Int32) × Nat} {d : Nat} {i1 : Int32} {i2 : Int32} {i3 : Int32} {D : dy_} : k115_0 w (d + 1) i1 i2 i3 D = op_o (k114_0 w d i1 (dI_ D 351 0 (nI 0))) none (fun p1 => op_vI p1.1 none (fun n1 => if n1 = (nI 0) then (some (some (.int (-102)), p1.2)) else (op_o (k111_0 w d i2.toInt64 (lN 1) (lN 4) p1.2) none (fun p2 => op_vI p2.1 none (fun n2 => if n2 = (nI 0) then (some (some (.int (-102)), p2.2)) else (op_o (k111_0 w d i3.toInt64 (lN 1) (lN 60) p2.2) none (fun p3 => op_vI p3.1 none (fun n3 => if n3 ≠ (nI 0) then (mk_inb i1 110 none (mk_inb i1 110 none (mk_inb i1 110 none (k115_63 w (d + 1) i1 i2 i3 (nI 0) (dI_ (dI_ (dI_ p3.2 352 i1.toNatClampNeg i2) 353 i1.toNatClampNeg i3) 354 i1.toNatClampNeg (nI 0)))))) else (some (some (.int (-102)), p3.2)))))))))) := by
  refine (q_115_0 sh_ w.1 w.2 d i1 i2 i3 D).trans ?_
  (try simp only [rf_351_1, rf_351_2, rf_351_3, sf_351, sf_352, sf_353, sf_354, reduceIte, Nat.reduceEqDiff, Nat.add_one_ne_zero, Nat.succ_ne_zero, Nat.add_eq_zero_iff, and_false]) <;> rfl
set_option maxRecDepth 100000 in
set_option maxHeartbeats 4000000 in
theorem e115_63 {w : (Nat → Int32) × Nat} {d : Nat} {i1 : Int32} {i2 : Int32} {i3 : Int32} {i4 : Int32} {D : dy_} : k115_63 w (d + 1) i1 i2 i3 i4 D = if i3 ≤ i4 then (some (some (.int (nI 1)), D)) else (mk_inb (((nI 60) * i1) + i4) 6600 none (k115_85 w (d + 1) i1 i2 i3 i4 (nI 0) (dI_ D 356 (((nI 60) * i1) + i4).toNatClampNeg (vp_nar .boolean (nI 0))))) := by
  refine (q_115_63 sh_ w.1 w.2 d i1 i2 i3 i4 D).trans ?_
  (try simp only [rf_351_5, sf_351, sf_356, reduceIte, Nat.reduceEqDiff, Nat.add_one_ne_zero, Nat.succ_ne_zero, Nat.add_eq_zero_iff, and_false]) <;> rfl
set_option maxRecDepth 100000 in
set_option maxHeartbeats 4000000 in
theorem e115_85 {w : (Nat → Int32) × Nat} {d : Nat} {i1 : Int32} {i2 : Int32} {i3 : Int32} {i4 : Int32} {i5 : Int32} {D : dy_} : k115_85 w (d + 1) i1 i2 i3 i4 i5 D = if i2 ≤ i5 then (k115_63 w (d + 1) i1 i2 i3 (i4 + (nI 1)) D) else (mk_inb (((nI 4) * (((nI 60) * i1) + i4)) + i5) 26400 none (k115_85 w (d + 1) i1 i2 i3 i4 (i5 + (nI 1)) (dI_ D 355 (((nI 4) * (((nI 60) * i1) + i4)) + i5).toNatClampNeg i4))) := by
  refine (q_115_85 sh_ w.1 w.2 d i1 i2 i3 i4 i5 D).trans ?_
  (try simp only [rf_351_4, sf_351, sf_355, reduceIte, Nat.reduceEqDiff, Nat.add_one_ne_zero, Nat.succ_ne_zero, Nat.add_eq_zero_iff, and_false]) <;> rfl
set_option maxRecDepth 100000 in
set_option maxHeartbeats 4000000 in
theorem e116_0 {w : (Nat → Int32) × Nat} {d : Nat} {i1 : Int32} {i2 : Int32} {D : dy_} : k116_0 w (d + 1) i1 i2 D = op_o (k114_0 w d i1 D) none (fun p1 => op_vI p1.1 none (fun n1 => if n1 = (nI 0) then (some (some (.int (nI 0)), p1.2)) else (mk_inb i1 110 none (op_o (k111_0 w d i2.toInt64 (lN 0) (((p1.2.1 353 i1.toNatClampNeg) - (nI 1)).toInt64) p1.2) none (fun p2 => op_vI p2.1 none (fun n2 => if n2 = (nI 0) then (some (some (.int (nI 0)), p2.2)) else (some (some (.int (nI 1)), p2.2)))))))) := by
  refine (q_116_0 sh_ w.1 w.2 d i1 i2 D).trans ?_
  (try simp only [rf_351_2, sf_351, sf_353, reduceIte, Nat.reduceEqDiff, Nat.add_one_ne_zero, Nat.succ_ne_zero, Nat.add_eq_zero_iff, and_false]) <;> rfl
set_option maxRecDepth 100000 in
set_option maxHeartbeats 4000000 in
theorem e117_0 {w : (Nat → Int32) × Nat} {d : Nat} {i1 : Int32} {i2 : Int32} {i3 : Int32} {i4 : Int32} {D : dy_} : k117_0 w (d + 1) i1 i2 i3 i4 D = op_o (k116_0 w d i1 i2 (dI_ D 351 0 (nI 0))) none (fun p1 => op_vI p1.1 none (fun n1 => if n1 = (nI 0) then (some (some (.int (-102)), p1.2)) else (mk_inb i1 110 none (op_o (k111_0 w d i3.toInt64 (lN 0) (((p1.2.1 352 i1.toNatClampNeg) - (nI 1)).toInt64) p1.2) none (fun p2 => op_vI p2.1 none (fun n2 => if n2 = (nI 0) then (some (some (.int (-102)), p2.2)) else (op_o (k116_0 w d i1 i4 p2.2) none (fun p3 => op_vI p3.1 none (fun n3 => if n3 ≠ (nI 0) then (op_o (k112_0 w d i1 i2 i3 p3.2) none (fun p4 => op_vI p4.1 none (fun n4 => mk_inb (((nI 4) * (((nI 60) * i1) + i2)) + i3) 26400 none (some (some (.int n4), (dI_ p4.2 355 (((nI 4) * (((nI 60) * i1) + i2)) + i3).toNatClampNeg i4)))))) else (some (some (.int (-102)), p3.2))))))))))) := by
  refine (q_117_0 sh_ w.1 w.2 d i1 i2 i3 i4 D).trans ?_
  (try simp only [rf_351_1, rf_351_4, sf_351, sf_352, sf_355, reduceIte, Nat.reduceEqDiff, Nat.add_one_ne_zero, Nat.succ_ne_zero, Nat.add_eq_zero_iff, and_false]) <;> rfl
set_option maxRecDepth 100000 in
set_option maxHeartbeats 4000000 in
theorem e118_0 {w : (Nat → Int32) × Nat} {d : Nat} {i1 : Int32} {i2 : Int32} {i3 : Int32} {D : dy_} : k118_0 w (d + 1) i1 i2 i3 D = op_o (k116_0 w d i1 i2 (dI_ D 351 0 (nI 0))) none (fun p1 => op_vI p1.1 none (fun n1 => if n1 ≠ (nI 0) then (op_o (k113_0 w d i1 i2 p1.2) none (fun p2 => op_vI p2.1 none (fun n2 => if n2 = (nI 0) then (k118_31 w (d + 1) i1 i2 i3 (nI 0) p2.2) else (k118_31 w (d + 1) i1 i2 i3 (nI 1) p2.2)))) else (some (some (.int (-102)), p1.2)))) := by
  refine (q_118_0 sh_ w.1 w.2 d i1 i2 i3 D).trans ?_
  (try simp only [sf_351, reduceIte, Nat.reduceEqDiff, Nat.add_one_ne_zero, Nat.succ_ne_zero, Nat.add_eq_zero_iff, and_false]) <;> rfl
set_option maxRecDepth 100000 in
set_option maxHeartbeats 4000000 in
theorem e118_31 {w : (Nat → Int32) × Nat} {d : Nat} {i1 : Int32} {i2 : Int32} {i3 : Int32} {si0 : Int32} {D : dy_} : k118_31 w (d + 1) i1 i2 i3 si0 D = mk_inb (((nI 60) * i1) + i2) 6600 none (some (some (.int si0), (dI_ D 356 (((nI 60) * i1) + i2).toNatClampNeg (vp_nar .boolean i3)))) := by
  refine (q_118_31 sh_ w.1 w.2 d i1 i2 i3 si0 D).trans ?_
  (try simp only [rf_351_5, sf_351, sf_356, reduceIte, Nat.reduceEqDiff, Nat.add_one_ne_zero, Nat.succ_ne_zero, Nat.add_eq_zero_iff, and_false]) <;> rfl
set_option maxRecDepth 100000 in
set_option maxHeartbeats 4000000 in
theorem e119_0 {w : (Nat → Int32) × Nat} {d : Nat} {i1 : Int32} {i2 : Int32} {D : dy_} : k119_0 w (d + 1) i1 i2 D = op_o (k116_0 w d i1 i2 (dI_ D 351 0 (nI 0))) none (fun p1 => op_vI p1.1 none (fun n1 => if n1 ≠ (nI 0) then (mk_inb i1 110 none (mk_inb i1 110 none (some (some (.int (p1.2.1 354 i1.toNatClampNeg)), (dI_ p1.2 354 i1.toNatClampNeg i2))))) else (some (some (.int (-102)), p1.2)))) := by
  refine (q_119_0 sh_ w.1 w.2 d i1 i2 D).trans ?_
  (try simp only [rf_351_3, sf_351, sf_354, reduceIte, Nat.reduceEqDiff, Nat.add_one_ne_zero, Nat.succ_ne_zero, Nat.add_eq_zero_iff, and_false]) <;> rfl
set_option maxRecDepth 100000 in
set_option maxHeartbeats 4000000 in
theorem e120_0 {w : (Nat → Int32) × Nat} {d : Nat} {i1 : Int32} {i2 : Int32} {D : dy_} : k120_0 w (d + 1) i1 i2 D = op_o (k114_0 w d i1 (dI_ D 351 0 (nI 0))) none (fun p1 => op_vI p1.1 none (fun n1 => if n1 = (nI 0) then (some (some (.int (-102)), p1.2)) else (op_o (k111_0 w d i2.toInt64 (lN 0) (lN 3) p1.2) none (fun p2 => op_vI p2.1 none (fun n2 => if n2 ≠ (nI 0) then (k120_32 w (d + 1) i1 i2 (nI 0) (nI 0) p2.2) else (some (some (.int (-102)), p2.2))))))) := by
  refine (q_120_0 sh_ w.1 w.2 d i1 i2 D).trans ?_
  (try simp only [sf_351, reduceIte, Nat.reduceEqDiff, Nat.add_one_ne_zero, Nat.succ_ne_zero, Nat.add_eq_zero_iff, and_false]) <;> rfl
set_option maxRecDepth 100000 in
set_option maxHeartbeats 4000000 in
theorem e120_32 {w : (Nat → Int32) × Nat} {d : Nat} {i1 : Int32} {i2 : Int32} {i3 : Int32} {i4 : Int32} {D : dy_} : k120_32 w (d + 1) i1 i2 i3 i4 D = mk_inb i1 110 none (if (D.1 353 i1.toNatClampNeg) ≤ i4 then (if i2 ≠ (nI 0) then (if i2 ≠ (nI 1) then (if i2 ≠ (nI 2) then (some (some (.int i3), D)) else (mk_inb i1 110 none (some (some (.int (D.1 354 i1.toNatClampNeg)), D)))) else (mk_inb i1 110 none (some (some (.int (D.1 353 i1.toNatClampNeg)), D)))) else (mk_inb i1 110 none (some (some (.int (D.1 352 i1.toNatClampNeg)), D)))) else (op_o (k113_0 w d i1 i4 D) none (fun p1 => op_vI p1.1 none (fun n1 => if n1 = (nI 0) then (k120_60 w (d + 1) i1 i2 i4 i3 p1.2) else (k120_60 w (d + 1) i1 i2 i4 (i3 + (nI 1)) p1.2))))) := by
  refine (q_120_32 sh_ w.1 w.2 d i1 i2 i3 i4 D).trans ?_
  (try simp only [rf_351_1, rf_351_2, rf_351_3, sf_351, sf_352, sf_353, sf_354, reduceIte, Nat.reduceEqDiff, Nat.add_one_ne_zero, Nat.succ_ne_zero, Nat.add_eq_zero_iff, and_false]) <;> rfl
set_option maxRecDepth 100000 in
set_option maxHeartbeats 4000000 in
theorem e120_60 {w : (Nat → Int32) × Nat} {d : Nat} {i1 : Int32} {i2 : Int32} {i4 : Int32} {si0 : Int32} {D : dy_} : k120_60 w (d + 1) i1 i2 i4 si0 D = k120_32 w (d + 1) i1 i2 si0 (i4 + (nI 1)) D := by
  refine (q_120_60 sh_ w.1 w.2 d i1 i2 i4 si0 D).trans ?_
  (try simp only [reduceIte, Nat.reduceEqDiff, Nat.add_one_ne_zero, Nat.succ_ne_zero, Nat.add_eq_zero_iff, and_false]) <;> rfl
set_option maxRecDepth 100000 in
set_option maxHeartbeats 4000000 in
theorem e121_0 {w : (Nat → Int32) × Nat} {d : Nat} {i1 : Int32} {i2 : Int32} {i3 : Int32} {D : dy_} : k121_0 w (d + 1) i1 i2 i3 D = op_o (k116_0 w d i1 i2 (dI_ D 351 0 (nI 0))) none (fun p1 => op_vI p1.1 none (fun n1 => if n1 = (nI 0) then (some (some (.int (-102)), p1.2)) else (mk_inb i1 110 none (op_o (k111_0 w d i3.toInt64 (-1) (((p1.2.1 352 i1.toNatClampNeg) - (nI 1)).toInt64) p1.2) none (fun p2 => op_vI p2.1 none (fun n2 => if n2 ≠ (nI 0) then (if i3 ≠ (-1) then (op_o (k112_0 w d i1 i2 i3 p2.2) none (fun p3 => op_vI p3.1 none (fun n3 => some (some (.int n3), p3.2)))) else (op_o (k113_0 w d i1 i2 p2.2) none (fun p4 => op_vI p4.1 none (fun n4 => if n4 = (nI 0) then (some (some (.int (nI 0)), p4.2)) else (some (some (.int (nI 1)), p4.2)))))) else (some (some (.int (-102)), p2.2)))))))) := by
  refine (q_121_0 sh_ w.1 w.2 d i1 i2 i3 D).trans ?_
  (try simp only [rf_351_1, sf_351, sf_352, reduceIte, Nat.reduceEqDiff, Nat.add_one_ne_zero, Nat.succ_ne_zero, Nat.add_eq_zero_iff, and_false]) <;> rfl
set_option maxRecDepth 100000 in
set_option maxHeartbeats 4000000 in
theorem e122_0 {w : (Nat → Int32) × Nat} {d : Nat} {i1 : Int32} {D : dy_} : k122_0 w (d + 1) i1 D = k122_2 w (d + 1) i1 (nI 0) D := by
  refine (q_122_0 sh_ w.1 w.2 d i1 D).trans ?_
  (try simp only [reduceIte, Nat.reduceEqDiff, Nat.add_one_ne_zero, Nat.succ_ne_zero, Nat.add_eq_zero_iff, and_false]) <;> rfl
set_option maxRecDepth 100000 in
set_option maxHeartbeats 4000000 in
theorem e122_2 {w : (Nat → Int32) × Nat} {d : Nat} {i1 : Int32} {i2 : Int32} {D : dy_} : k122_2 w (d + 1) i1 i2 D = mk_inb i1 110 none (if (D.1 353 i1.toNatClampNeg) ≤ i2 then (mk_inb i1 110 none (mk_inb i1 110 none (mk_inb (nI 0) 3600 none (mk_inb i1 110 none (mk_inb ((dI_ (dI_ (dI_ D 351 8 (D.1 352 i1.toNatClampNeg)) 351 9 (nI 1)) 360 (nI 0).toNatClampNeg ((dI_ (dI_ D 351 8 (D.1 352 i1.toNatClampNeg)) 351 9 (nI 1)).1 354 i1.toNatClampNeg)).1 354 i1.toNatClampNeg) 3600 none (k122_66 w (d + 1) i1 (nI 0) (dI_ (dI_ (dI_ (dI_ D 351 8 (D.1 352 i1.toNatClampNeg)) 351 9 (nI 1)) 360 (nI 0).toNatClampNeg ((dI_ (dI_ D 351 8 (D.1 352 i1.toNatClampNeg)) 351 9 (nI 1)).1 354 i1.toNatClampNeg)) 361 ((dI_ (dI_ (dI_ D 351 8 (D.1 352 i1.toNatClampNeg)) 351 9 (nI 1)) 360 (nI 0).toNatClampNeg ((dI_ (dI_ D 351 8 (D.1 352 i1.toNatClampNeg)) 351 9 (nI 1)).1 354 i1.toNatClampNeg)).1 354 i1.toNatClampNeg).toNatClampNeg (nI 0)))))))) else (mk_inb i2 3600 none (k122_2 w (d + 1) i1 (i2 + (nI 1)) (dI_ D 361 i2.toNatClampNeg (-1))))) := by
  refine (q_122_2 sh_ w.1 w.2 d i1 i2 D).trans ?_
  (try simp only [rf_351_1, rf_351_12, rf_351_13, rf_351_2, rf_351_3, sf_351, sf_352, sf_353, sf_354, sf_360, sf_361, reduceIte, Nat.reduceEqDiff, Nat.add_one_ne_zero, Nat.succ_ne_zero, Nat.add_eq_zero_iff, and_false]) <;> rfl
set_option maxRecDepth 100000 in
set_option maxHeartbeats 4000000 in
theorem e122_66 {w : (Nat → Int32) × Nat} {d : Nat} {i1 : Int32} {i2 : Int32} {D : dy_} : k122_66 w (d + 1) i1 i2 D = if (D.1 351 9) ≤ i2 then (some (none, D)) else (mk_inb i2 3600 none (op_o (k113_0 w d i1 (D.1 360 i2.toNatClampNeg) D) none (fun p1 => op_vI p1.1 none (fun n1 => mk_inb i2 3600 none (k122_93 w (d + 1) i1 i2 (nI 0) (dI_ p1.2 359 i2.toNatClampNeg (vp_nar .boolean n1))))))) := by
  refine (q_122_66 sh_ w.1 w.2 d i1 i2 D).trans ?_
  (try simp only [rf_351_11, rf_351_12, sf_351, sf_359, sf_360, reduceIte, Nat.reduceEqDiff, Nat.add_one_ne_zero, Nat.succ_ne_zero, Nat.add_eq_zero_iff, and_false]) <;> rfl
set_option maxRecDepth 100000 in
set_option maxHeartbeats 4000000 in
theorem e122_93 {w : (Nat → Int32) × Nat} {d : Nat} {i1 : Int32} {i2 : Int32} {i3 : Int32} {D : dy_} : k122_93 w (d + 1) i1 i2 i3 D = if (D.1 351 8) ≤ i3 then (k122_66 w (d + 1) i1 (i2 + (nI 1)) D) else (mk_inb i2 3600 none (op_o (k112_0 w d i1 (D.1 360 i2.toNatClampNeg) i3 D) none (fun p1 => op_vI p1.1 none (fun n1 => mk_inb n1 3600 none (if (p1.2.1 361 n1.toNatClampNeg) ≠ (-1) then (k122_158 w (d + 1) i1 i2 i3 n1 p1.2) else (mk_inb n1 3600 none (mk_inb ((dI_ p1.2 361 n1.toNatClampNeg (p1.2.1 351 9)).1 351 9) 3600 none (k122_158 w (d + 1) i1 i2 i3 n1 (dI_ (dI_ (dI_ p1.2 361 n1.toNatClampNeg (p1.2.1 351 9)) 360 ((dI_ p1.2 361 n1.toNatClampNeg (p1.2.1 351 9)).1 351 9).toNatClampNeg n1) 351 9 (((dI_ (dI_ p1.2 361 n1.toNatClampNeg (p1.2.1 351 9)) 360 ((dI_ p1.2 361 n1.toNatClampNeg (p1.2.1 351 9)).1 351 9).toNatClampNeg n1).1 351 9) + (nI 1))))))))))) := by
  refine (q_122_93 sh_ w.1 w.2 d i1 i2 i3 D).trans ?_
  (try simp only [rf_351_12, rf_351_13, sf_351, sf_360, sf_361, reduceIte, Nat.reduceEqDiff, Nat.add_one_ne_zero, Nat.succ_ne_zero, Nat.add_eq_zero_iff, and_false]) <;> rfl
set_option maxRecDepth 100000 in
set_option maxHeartbeats 4000000 in
theorem e122_158 {w : (Nat → Int32) × Nat} {d : Nat} {i1 : Int32} {i2 : Int32} {i3 : Int32} {i4 : Int32} {D : dy_} : k122_158 w (d + 1) i1 i2 i3 i4 D = mk_inb i4 3600 none (mk_inb (((nI 4) * i2) + i3) 14400 none (k122_93 w (d + 1) i1 i2 (i3 + (nI 1)) (dI_ D 358 (((nI 4) * i2) + i3).toNatClampNeg (D.1 361 i4.toNatClampNeg)))) := by
  refine (q_122_158 sh_ w.1 w.2 d i1 i2 i3 i4 D).trans ?_
  (try simp only [rf_351_10, rf_351_13, sf_351, sf_358, sf_361, reduceIte, Nat.reduceEqDiff, Nat.add_one_ne_zero, Nat.succ_ne_zero, Nat.add_eq_zero_iff, and_false]) <;> rfl
set_option maxRecDepth 100000 in
set_option maxHeartbeats 4000000 in
theorem e123_0 {w : (Nat → Int32) × Nat} {d : Nat} {i1 : Int32} {D : dy_} : k123_0 w (d + 1) i1 D = if (D.1 351 9) ≤ (nI 60) then (mk_inb i1 110 none (mk_inb i1 110 none (mk_inb i1 110 none (k123_40 w (d + 1) i1 (nI 0) (dI_ (dI_ (dI_ D 352 i1.toNatClampNeg (D.1 351 8)) 353 i1.toNatClampNeg ((dI_ D 352 i1.toNatClampNeg (D.1 351 8)).1 351 9)) 354 i1.toNatClampNeg (nI 0)))))) else (some (some (.int (nI 0)), D)) := by
  refine (q_123_0 sh_ w.1 w.2 d i1 D).trans ?_
  (try simp only [rf_351_1, rf_351_2, rf_351_3, sf_351, sf_352, sf_353, sf_354, reduceIte, Nat.reduceEqDiff, Nat.add_one_ne_zero, Nat.succ_ne_zero, Nat.add_eq_zero_iff, and_false]) <;> rfl
set_option maxRecDepth 100000 in
set_option maxHeartbeats 4000000 in
theorem e123_40 {w : (Nat → Int32) × Nat} {d : Nat} {i1 : Int32} {i2 : Int32} {D : dy_} : k123_40 w (d + 1) i1 i2 D = if (D.1 351 9) ≤ i2 then (some (some (.int (nI 1)), D)) else (mk_inb i2 3600 none (mk_inb (((nI 60) * i1) + i2) 6600 none (k123_67 w (d + 1) i1 i2 (nI 0) (dI_ D 356 (((nI 60) * i1) + i2).toNatClampNeg (vp_nar .boolean (D.1 359 i2.toNatClampNeg)))))) := by
  refine (q_123_40 sh_ w.1 w.2 d i1 i2 D).trans ?_
  (try simp only [rf_351_11, rf_351_5, sf_351, sf_356, sf_359, reduceIte, Nat.reduceEqDiff, Nat.add_one_ne_zero, Nat.succ_ne_zero, Nat.add_eq_zero_iff, and_false]) <;> rfl
set_option maxRecDepth 100000 in
set_option maxHeartbeats 4000000 in
theorem e123_67 {w : (Nat → Int32) × Nat} {d : Nat} {i1 : Int32} {i2 : Int32} {i3 : Int32} {D : dy_} : k123_67 w (d + 1) i1 i2 i3 D = if (D.1 351 8) ≤ i3 then (k123_40 w (d + 1) i1 (i2 + (nI 1)) D) else (mk_inb (((nI 4) * i2) + i3) 14400 none (mk_inb (((nI 4) * (((nI 60) * i1) + i2)) + i3) 26400 none (k123_67 w (d + 1) i1 i2 (i3 + (nI 1)) (dI_ D 355 (((nI 4) * (((nI 60) * i1) + i2)) + i3).toNatClampNeg (D.1 358 (((nI 4) * i2) + i3).toNatClampNeg))))) := by
  refine (q_123_67 sh_ w.1 w.2 d i1 i2 i3 D).trans ?_
  (try simp only [rf_351_10, rf_351_4, sf_351, sf_355, sf_358, reduceIte, Nat.reduceEqDiff, Nat.add_one_ne_zero, Nat.succ_ne_zero, Nat.add_eq_zero_iff, and_false]) <;> rfl
set_option maxRecDepth 100000 in
set_option maxHeartbeats 4000000 in
theorem e124_0 {w : (Nat → Int32) × Nat} {d : Nat} {i1 : Int32} {i2 : Int32} {D : dy_} : k124_0 w (d + 1) i1 i2 D = k124_21 w (d + 1) (((nI 4096) * i1) + i2) (((((((nI 4096) * i1) + i2) * (-1640531527)).toUInt32 >>> ((nI 18).toUInt32 &&& Int32.toUInt32 31)).toInt32) &&& (nI 16383)) D := by
  refine (q_124_0 sh_ w.1 w.2 d i1 i2 D).trans ?_
  (try simp only [reduceIte, Nat.reduceEqDiff, Nat.add_one_ne_zero, Nat.succ_ne_zero, Nat.add_eq_zero_iff, and_false]) <;> rfl
set_option maxRecDepth 100000 in
set_option maxHeartbeats 4000000 in
theorem e124_21 {w : (Nat → Int32) × Nat} {d : Nat} {i3 : Int32} {i4 : Int32} {D : dy_} : k124_21 w (d + 1) i3 i4 D = mk_inb i4 16384 none (if (D.1 364 i4.toNatClampNeg) = (-1) then (k124_56 w (d + 1) i3 i4 D) else (mk_inb i4 16384 none (if (D.1 365 i4.toNatClampNeg) = i3 then (k124_56 w (d + 1) i3 i4 D) else (k124_21 w (d + 1) i3 ((i4 + (nI 1)) &&& (nI 16383)) D)))) := by
  refine (q_124_21 sh_ w.1 w.2 d i3 i4 D).trans ?_
  (try simp only [rf_351_16, rf_351_17, sf_351, sf_364, sf_365, reduceIte, Nat.reduceEqDiff, Nat.add_one_ne_zero, Nat.succ_ne_zero, Nat.add_eq_zero_iff, and_false]) <;> rfl
set_option maxRecDepth 100000 in
set_option maxHeartbeats 4000000 in
theorem e124_56 {w : (Nat → Int32) × Nat} {d : Nat} {i3 : Int32} {i4 : Int32} {D : dy_} : k124_56 w (d + 1) i3 i4 D = mk_inb i4 16384 none (if (D.1 364 i4.toNatClampNeg) ≠ (-1) then (mk_inb i4 16384 none (some (some (.int (D.1 364 i4.toNatClampNeg)), D))) else (mk_inb i4 16384 none (mk_inb i4 16384 none (mk_inb i4 16384 none (some (some (.int ((dI_ (dI_ (dI_ D 364 i4.toNatClampNeg (D.1 351 18)) 365 i4.toNatClampNeg i3) 351 18 (((dI_ (dI_ D 364 i4.toNatClampNeg (D.1 351 18)) 365 i4.toNatClampNeg i3).1 351 18) + (nI 1))).1 364 i4.toNatClampNeg)), (dI_ (dI_ (dI_ D 364 i4.toNatClampNeg (D.1 351 18)) 365 i4.toNatClampNeg i3) 351 18 (((dI_ (dI_ D 364 i4.toNatClampNeg (D.1 351 18)) 365 i4.toNatClampNeg i3).1 351 18) + (nI 1))))))))) := by
  refine (q_124_56 sh_ w.1 w.2 d i3 i4 D).trans ?_
  (try simp only [rf_351_16, rf_351_17, sf_351, sf_364, sf_365, reduceIte, Nat.reduceEqDiff, Nat.add_one_ne_zero, Nat.succ_ne_zero, Nat.add_eq_zero_iff, and_false]) <;> rfl
set_option maxRecDepth 100000 in
set_option maxHeartbeats 4000000 in
theorem e125_0 {w : (Nat → Int32) × Nat} {d : Nat}  {D : dy_} : k125_0 w (d + 1) D = k125_7 w (d + 1) (nI 0) (dI_ D 351 18 (nI 0)) := by
  refine (q_125_0 sh_ w.1 w.2 d  D).trans ?_
  (try simp only [sf_351, reduceIte, Nat.reduceEqDiff, Nat.add_one_ne_zero, Nat.succ_ne_zero, Nat.add_eq_zero_iff, and_false]) <;> rfl
set_option maxRecDepth 100000 in
set_option maxHeartbeats 4000000 in
theorem e125_7 {w : (Nat → Int32) × Nat} {d : Nat} {i1 : Int32} {D : dy_} : k125_7 w (d + 1) i1 D = if (nI 16384) ≤ i1 then (some (none, D)) else (mk_inb i1 16384 none (k125_7 w (d + 1) (i1 + (nI 1)) (dI_ D 364 i1.toNatClampNeg (-1)))) := by
  refine (q_125_7 sh_ w.1 w.2 d i1 D).trans ?_
  (try simp only [rf_351_16, sf_351, sf_364, reduceIte, Nat.reduceEqDiff, Nat.add_one_ne_zero, Nat.succ_ne_zero, Nat.add_eq_zero_iff, and_false]) <;> rfl
set_option maxRecDepth 100000 in
set_option maxHeartbeats 4000000 in
theorem e126_0 {w : (Nat → Int32) × Nat} {d : Nat}  {D : dy_} : k126_0 w (d + 1) D = k126_2 w (d + 1) (nI 0) D := by
  refine (q_126_0 sh_ w.1 w.2 d  D).trans ?_
  (try simp only [reduceIte, Nat.reduceEqDiff, Nat.add_one_ne_zero, Nat.succ_ne_zero, Nat.add_eq_zero_iff, and_false]) <;> rfl
set_option maxRecDepth 100000 in
set_option maxHeartbeats 4000000 in
theorem e126_2 {w : (Nat → Int32) × Nat} {d : Nat} {i1 : Int32} {D : dy_} : k126_2 w (d + 1) i1 D = if (D.1 351 9) ≤ i1 then (k126_40 w (d + 1) (nI 0) (nI 1) D) else (mk_inb i1 3600 none (if (D.1 359 i1.toNatClampNeg) = (nI 0) then (k126_29 w (d + 1) i1 362 i1 (nI 0) D) else (k126_29 w (d + 1) i1 362 i1 (nI 1) D))) := by
  refine (q_126_2 sh_ w.1 w.2 d i1 D).trans ?_
  (try simp only [rf_351_11, rf_351_14, sf_351, sf_359, reduceIte, Nat.reduceEqDiff, Nat.add_one_ne_zero, Nat.succ_ne_zero, Nat.add_eq_zero_iff, and_false]) <;> rfl
set_option maxRecDepth 100000 in
set_option maxHeartbeats 4000000 in
theorem e126_29 {w : (Nat → Int32) × Nat} {d : Nat} {i1 : Int32} {sr0 : Nat} {si1 : Int32} {si2 : Int32} {D : dy_} : k126_29 w (d + 1) i1 sr0 si1 si2 D = if (sh_.1 sr0).1 = 1 then (mk_inb si1 (sh_.1 sr0).2 none (k126_2 w (d + 1) (i1 + (nI 1)) (dI_ D sr0 si1.toNatClampNeg si2))) else none := by
  refine (q_126_29 sh_ w.1 w.2 d i1 sr0 si1 si2 D).trans ?_
  (try simp only [reduceIte, Nat.reduceEqDiff, Nat.add_one_ne_zero, Nat.succ_ne_zero, Nat.add_eq_zero_iff, and_false]) <;> rfl
set_option maxRecDepth 100000 in
set_option maxHeartbeats 4000000 in
theorem e126_40 {w : (Nat → Int32) × Nat} {d : Nat} {i1 : Int32} {i2 : Int32} {D : dy_} : k126_40 w (d + 1) i1 i2 D = if i2 ≤ i1 then (some (none, D)) else (k126_49 w (d + 1) i2 (nI 0) D) := by
  refine (q_126_40 sh_ w.1 w.2 d i1 i2 D).trans ?_
  (try simp only [reduceIte, Nat.reduceEqDiff, Nat.add_one_ne_zero, Nat.succ_ne_zero, Nat.add_eq_zero_iff, and_false]) <;> rfl
set_option maxRecDepth 100000 in
set_option maxHeartbeats 4000000 in
theorem e126_49 {w : (Nat → Int32) × Nat} {d : Nat} {i1 : Int32} {i3 : Int32} {D : dy_} : k126_49 w (d + 1) i1 i3 D = if (D.1 351 9) ≤ i3 then (k126_77 w (d + 1) i1 (nI 0) D) else (mk_inb i3 3600 none (mk_inb i3 3600 none (k126_49 w (d + 1) i1 (i3 + (nI 1)) (dI_ D 363 i3.toNatClampNeg (D.1 362 i3.toNatClampNeg))))) := by
  refine (q_126_49 sh_ w.1 w.2 d i1 i3 D).trans ?_
  (try simp only [rf_351_14, rf_351_15, sf_351, sf_362, sf_363, reduceIte, Nat.reduceEqDiff, Nat.add_one_ne_zero, Nat.succ_ne_zero, Nat.add_eq_zero_iff, and_false]) <;> rfl
set_option maxRecDepth 100000 in
set_option maxHeartbeats 4000000 in
theorem e126_77 {w : (Nat → Int32) × Nat} {d : Nat} {i1 : Int32} {i3 : Int32} {D : dy_} : k126_77 w (d + 1) i1 i3 D = if (D.1 351 8) ≤ i3 then (k126_154 w (d + 1) i1 (D.1 351 18) (nI 0) D) else (op_o (k125_0 w d D) none (fun p1 => op_vN p1.1 none (k126_92 w (d + 1) i1 i3 (nI 0) p1.2))) := by
  refine (q_126_77 sh_ w.1 w.2 d i1 i3 D).trans ?_
  (try simp only [sf_351, reduceIte, Nat.reduceEqDiff, Nat.add_one_ne_zero, Nat.succ_ne_zero, Nat.add_eq_zero_iff, and_false]) <;> rfl
set_option maxRecDepth 100000 in
set_option maxHeartbeats 4000000 in
theorem e126_92 {w : (Nat → Int32) × Nat} {d : Nat} {i1 : Int32} {i3 : Int32} {i4 : Int32} {D : dy_} : k126_92 w (d + 1) i1 i3 i4 D = if (D.1 351 9) ≤ i4 then (k126_77 w (d + 1) i1 (i3 + (nI 1)) D) else (mk_inb i4 3600 none (mk_inb (((nI 4) * i4) + i3) 14400 none (mk_inb (D.1 358 (((nI 4) * i4) + i3).toNatClampNeg) 3600 none (op_o (k124_0 w d (D.1 363 i4.toNatClampNeg) (D.1 362 (D.1 358 (((nI 4) * i4) + i3).toNatClampNeg).toNatClampNeg) D) none (fun p1 => op_vI p1.1 none (fun n1 => mk_inb i4 3600 none (k126_92 w (d + 1) i1 i3 (i4 + (nI 1)) (dI_ p1.2 363 i4.toNatClampNeg n1)))))))) := by
  refine (q_126_92 sh_ w.1 w.2 d i1 i3 i4 D).trans ?_
  (try simp only [rf_351_10, rf_351_14, rf_351_15, sf_351, sf_358, sf_362, sf_363, reduceIte, Nat.reduceEqDiff, Nat.add_one_ne_zero, Nat.succ_ne_zero, Nat.add_eq_zero_iff, and_false]) <;> rfl
set_option maxRecDepth 100000 in
set_option maxHeartbeats 4000000 in
theorem e126_154 {w : (Nat → Int32) × Nat} {d : Nat} {i1 : Int32} {i2 : Int32} {i3 : Int32} {D : dy_} : k126_154 w (d + 1) i1 i2 i3 D = if (D.1 351 9) ≤ i3 then (k126_40 w (d + 1) i1 i2 D) else (mk_inb i3 3600 none (mk_inb i3 3600 none (k126_154 w (d + 1) i1 i2 (i3 + (nI 1)) (dI_ D 362 i3.toNatClampNeg (D.1 363 i3.toNatClampNeg))))) := by
  refine (q_126_154 sh_ w.1 w.2 d i1 i2 i3 D).trans ?_
  (try simp only [rf_351_14, rf_351_15, sf_351, sf_362, sf_363, reduceIte, Nat.reduceEqDiff, Nat.add_one_ne_zero, Nat.succ_ne_zero, Nat.add_eq_zero_iff, and_false]) <;> rfl
set_option maxRecDepth 100000 in
set_option maxHeartbeats 4000000 in
theorem e127_0 {w : (Nat → Int32) × Nat} {d : Nat}  {D : dy_} : k127_0 w (d + 1) D = op_o (k126_0 w d D) none (fun p1 => op_vN p1.1 none (k127_6 w (d + 1) (nI 0) p1.2)) := by
  refine (q_127_0 sh_ w.1 w.2 d  D).trans ?_
  (try simp only [sf_351, reduceIte, Nat.reduceEqDiff, Nat.add_one_ne_zero, Nat.succ_ne_zero, Nat.add_eq_zero_iff, and_false]) <;> rfl
set_option maxRecDepth 100000 in
set_option maxHeartbeats 4000000 in
theorem e127_6 {w : (Nat → Int32) × Nat} {d : Nat} {i1 : Int32} {D : dy_} : k127_6 w (d + 1) i1 D = if (D.1 351 9) ≤ i1 then (mk_inb (nI 0) 3600 none (mk_inb (nI 0) 3600 none (mk_inb ((dI_ D 366 (nI 0).toNatClampNeg (nI 0)).1 362 (nI 0).toNatClampNeg) 3600 none (k127_50 w (d + 1) (nI 1) (nI 0) (dI_ (dI_ D 366 (nI 0).toNatClampNeg (nI 0)) 361 ((dI_ D 366 (nI 0).toNatClampNeg (nI 0)).1 362 (nI 0).toNatClampNeg).toNatClampNeg (nI 0)))))) else (mk_inb i1 3600 none (k127_6 w (d + 1) (i1 + (nI 1)) (dI_ D 361 i1.toNatClampNeg (-1)))) := by
  refine (q_127_6 sh_ w.1 w.2 d i1 D).trans ?_
  (try simp only [rf_351_13, rf_351_14, rf_351_19, sf_351, sf_361, sf_362, sf_366, reduceIte, Nat.reduceEqDiff, Nat.add_one_ne_zero, Nat.succ_ne_zero, Nat.add_eq_zero_iff, and_false]) <;> rfl
set_option maxRecDepth 100000 in
set_option maxHeartbeats 4000000 in
theorem e127_50 {w : (Nat → Int32) × Nat} {d : Nat} {i1 : Int32} {i2 : Int32} {D : dy_} : k127_50 w (d + 1) i1 i2 D = if i1 ≤ i2 then (k127_180 w (d + 1) i1 (nI 0) (dI_ D 351 9 i1)) else (mk_inb i2 3600 none (mk_inb (D.1 366 i2.toNatClampNeg) 3600 none (mk_inb i2 3600 none (k127_74 w (d + 1) i1 i2 (nI 0) (dI_ D 368 i2.toNatClampNeg (vp_nar .boolean (D.1 359 (D.1 366 i2.toNatClampNeg).toNatClampNeg))))))) := by
  refine (q_127_50 sh_ w.1 w.2 d i1 i2 D).trans ?_
  (try simp only [rf_351_11, rf_351_19, rf_351_21, sf_351, sf_359, sf_366, sf_368, reduceIte, Nat.reduceEqDiff, Nat.add_one_ne_zero, Nat.succ_ne_zero, Nat.add_eq_zero_iff, and_false]) <;> rfl
set_option maxRecDepth 100000 in
set_option maxHeartbeats 4000000 in
theorem e127_74 {w : (Nat → Int32) × Nat} {d : Nat} {i1 : Int32} {i2 : Int32} {i3 : Int32} {D : dy_} : k127_74 w (d + 1) i1 i2 i3 D = if (D.1 351 8) ≤ i3 then (k127_50 w (d + 1) i1 (i2 + (nI 1)) D) else (mk_inb i2 3600 none (mk_inb (((nI 4) * (D.1 366 i2.toNatClampNeg)) + i3) 14400 none (mk_inb (D.1 358 (((nI 4) * (D.1 366 i2.toNatClampNeg)) + i3).toNatClampNeg) 3600 none (mk_inb (D.1 362 (D.1 358 (((nI 4) * (D.1 366 i2.toNatClampNeg)) + i3).toNatClampNeg).toNatClampNeg) 3600 none (if (D.1 361 (D.1 362 (D.1 358 (((nI 4) * (D.1 366 i2.toNatClampNeg)) + i3).toNatClampNeg).toNatClampNeg).toNatClampNeg) ≠ (-1) then (k127_139 w (d + 1) i1 i2 i3 (D.1 358 (((nI 4) * (D.1 366 i2.toNatClampNeg)) + i3).toNatClampNeg) D) else (mk_inb (D.1 358 (((nI 4) * (D.1 366 i2.toNatClampNeg)) + i3).toNatClampNeg) 3600 none (mk_inb (D.1 362 (D.1 358 (((nI 4) * (D.1 366 i2.toNatClampNeg)) + i3).toNatClampNeg).toNatClampNeg) 3600 none (mk_inb i1 3600 none (k127_139 w (d + 1) (i1 + (nI 1)) i2 i3 (D.1 358 (((nI 4) * (D.1 366 i2.toNatClampNeg)) + i3).toNatClampNeg) (dI_ (dI_ D 361 (D.1 362 (D.1 358 (((nI 4) * (D.1 366 i2.toNatClampNeg)) + i3).toNatClampNeg).toNatClampNeg).toNatClampNeg i1) 366 i1.toNatClampNeg (D.1 358 (((nI 4) * (D.1 366 i2.toNatClampNeg)) + i3).toNatClampNeg))))))))))) := by
  refine (q_127_74 sh_ w.1 w.2 d i1 i2 i3 D).trans ?_
  (try simp only [rf_351_10, rf_351_13, rf_351_14, rf_351_19, sf_351, sf_358, sf_361, sf_362, sf_366, reduceIte, Nat.reduceEqDiff, Nat.add_one_ne_zero, Nat.succ_ne_zero, Nat.add_eq_zero_iff, and_false]) <;> rfl
set_option maxRecDepth 100000 in
set_option maxHeartbeats 4000000 in
theorem e127_139 {w : (Nat → Int32) × Nat} {d : Nat} {i1 : Int32} {i2 : Int32} {i3 : Int32} {i4 : Int32} {D : dy_} : k127_139 w (d + 1) i1 i2 i3 i4 D = mk_inb i4 3600 none (mk_inb (D.1 362 i4.toNatClampNeg) 3600 none (mk_inb (((nI 4) * i2) + i3) 14400 none (k127_74 w (d + 1) i1 i2 (i3 + (nI 1)) (dI_ D 367 (((nI 4) * i2) + i3).toNatClampNeg (D.1 361 (D.1 362 i4.toNatClampNeg).toNatClampNeg))))) := by
  refine (q_127_139 sh_ w.1 w.2 d i1 i2 i3 i4 D).trans ?_
  (try simp only [rf_351_13, rf_351_14, rf_351_20, sf_351, sf_361, sf_362, sf_367, reduceIte, Nat.reduceEqDiff, Nat.add_one_ne_zero, Nat.succ_ne_zero, Nat.add_eq_zero_iff, and_false]) <;> rfl
set_option maxRecDepth 100000 in
set_option maxHeartbeats 4000000 in
theorem e127_180 {w : (Nat → Int32) × Nat} {d : Nat} {i1 : Int32} {i2 : Int32} {D : dy_} : k127_180 w (d + 1) i1 i2 D = if i1 ≤ i2 then (some (none, D)) else (mk_inb i2 3600 none (mk_inb i2 3600 none (k127_199 w (d + 1) i1 i2 (nI 0) (dI_ D 359 i2.toNatClampNeg (vp_nar .boolean (D.1 368 i2.toNatClampNeg)))))) := by
  refine (q_127_180 sh_ w.1 w.2 d i1 i2 D).trans ?_
  (try simp only [rf_351_11, rf_351_21, sf_351, sf_359, sf_368, reduceIte, Nat.reduceEqDiff, Nat.add_one_ne_zero, Nat.succ_ne_zero, Nat.add_eq_zero_iff, and_false]) <;> rfl
set_option maxRecDepth 100000 in
set_option maxHeartbeats 4000000 in
theorem e127_199 {w : (Nat → Int32) × Nat} {d : Nat} {i1 : Int32} {i2 : Int32} {i3 : Int32} {D : dy_} : k127_199 w (d + 1) i1 i2 i3 D = if (D.1 351 8) ≤ i3 then (k127_180 w (d + 1) i1 (i2 + (nI 1)) D) else (mk_inb (((nI 4) * i2) + i3) 14400 none (mk_inb (((nI 4) * i2) + i3) 14400 none (k127_199 w (d + 1) i1 i2 (i3 + (nI 1)) (dI_ D 358 (((nI 4) * i2) + i3).toNatClampNeg (D.1 367 (((nI 4) * i2) + i3).toNatClampNeg))))) := by
  refine (q_127_199 sh_ w.1 w.2 d i1 i2 i3 D).trans ?_
  (try simp only [rf_351_10, rf_351_20, sf_351, sf_358, sf_367, reduceIte, Nat.reduceEqDiff, Nat.add_one_ne_zero, Nat.succ_ne_zero, Nat.add_eq_zero_iff, and_false]) <;> rfl
set_option maxRecDepth 100000 in
set_option maxHeartbeats 4000000 in
theorem e128_0 {w : (Nat → Int32) × Nat} {d : Nat} {i1 : Int32} {D : dy_} : k128_0 w (d + 1) i1 D = op_o (k114_0 w d i1 (dI_ D 351 0 (nI 0))) none (fun p1 => op_vI p1.1 none (fun n1 => if n1 ≠ (nI 0) then (op_o (k122_0 w d i1 p1.2) none (fun p2 => op_vN p2.1 none (op_o (k123_0 w d i1 p2.2) none (fun p3 => op_vI p3.1 none (fun n3 => mk_inb i1 110 none (some (some (.int (p3.2.1 353 i1.toNatClampNeg)), p3.2))))))) else (some (some (.int (-102)), p1.2)))) := by
  refine (q_128_0 sh_ w.1 w.2 d i1 D).trans ?_
  (try simp only [rf_351_2, sf_351, sf_353, reduceIte, Nat.reduceEqDiff, Nat.add_one_ne_zero, Nat.succ_ne_zero, Nat.add_eq_zero_iff, and_false]) <;> rfl
set_option maxRecDepth 100000 in
set_option maxHeartbeats 4000000 in
theorem e129_0 {w : (Nat → Int32) × Nat} {d : Nat} {i1 : Int32} {i2 : Int32} {D : dy_} : k129_0 w (d + 1) i1 i2 D = mk_inb i1 3600 none (mk_inb i2 3600 none (if (D.1 362 i1.toNatClampNeg) ≠ (D.1 362 i2.toNatClampNeg) then (k129_20 w (d + 1) i1 i2 (nI 0) D) else (k129_20 w (d + 1) i1 i2 (nI 1) D))) := by
  refine (q_129_0 sh_ w.1 w.2 d i1 i2 D).trans ?_
  (try simp only [rf_351_14, sf_351, sf_362, reduceIte, Nat.reduceEqDiff, Nat.add_one_ne_zero, Nat.succ_ne_zero, Nat.add_eq_zero_iff, and_false]) <;> rfl
set_option maxRecDepth 100000 in
set_option maxHeartbeats 4000000 in
theorem e129_20 {w : (Nat → Int32) × Nat} {d : Nat} {i1 : Int32} {i2 : Int32} {si0 : Int32} {D : dy_} : k129_20 w (d + 1) i1 i2 si0 D = k129_24 w (d + 1) i1 i2 si0 (nI 0) D := by
  refine (q_129_20 sh_ w.1 w.2 d i1 i2 si0 D).trans ?_
  (try simp only [reduceIte, Nat.reduceEqDiff, Nat.add_one_ne_zero, Nat.succ_ne_zero, Nat.add_eq_zero_iff, and_false]) <;> rfl
set_option maxRecDepth 100000 in
set_option maxHeartbeats 4000000 in
theorem e129_24 {w : (Nat → Int32) × Nat} {d : Nat} {i1 : Int32} {i2 : Int32} {i3 : Int32} {i4 : Int32} {D : dy_} : k129_24 w (d + 1) i1 i2 i3 i4 D = if (D.1 351 8) ≤ i4 then (if i3 = 0 ∨ i3 = 1 then some (some (.int i3), D) else none) else (if i3 = (nI 0) then (k129_76 w (d + 1) i1 i2 i4 D) else (mk_inb (((nI 4) * i1) + i4) 14400 none (mk_inb (D.1 358 (((nI 4) * i1) + i4).toNatClampNeg) 3600 none (mk_inb (((nI 4) * i2) + i4) 14400 none (mk_inb (D.1 358 (((nI 4) * i2) + i4).toNatClampNeg) 3600 none (if (D.1 362 (D.1 358 (((nI 4) * i1) + i4).toNatClampNeg).toNatClampNeg) ≠ (D.1 362 (D.1 358 (((nI 4) * i2) + i4).toNatClampNeg).toNatClampNeg) then (k129_76 w (d + 1) i1 i2 i4 D) else (k129_77 w (d + 1) i1 i2 i4 (nI 1) D))))))) := by
  refine (q_129_24 sh_ w.1 w.2 d i1 i2 i3 i4 D).trans ?_
  (try simp only [rf_351_10, rf_351_14, sf_351, sf_358, sf_362, reduceIte, Nat.reduceEqDiff, Nat.add_one_ne_zero, Nat.succ_ne_zero, Nat.add_eq_zero_iff, and_false]) <;> rfl
set_option maxRecDepth 100000 in
set_option maxHeartbeats 4000000 in
theorem e129_76 {w : (Nat → Int32) × Nat} {d : Nat} {i1 : Int32} {i2 : Int32} {i4 : Int32} {D : dy_} : k129_76 w (d + 1) i1 i2 i4 D = k129_77 w (d + 1) i1 i2 i4 (nI 0) D := by
  refine (q_129_76 sh_ w.1 w.2 d i1 i2 i4 D).trans ?_
  (try simp only [reduceIte, Nat.reduceEqDiff, Nat.add_one_ne_zero, Nat.succ_ne_zero, Nat.add_eq_zero_iff, and_false]) <;> rfl
set_option maxRecDepth 100000 in
set_option maxHeartbeats 4000000 in
theorem e129_77 {w : (Nat → Int32) × Nat} {d : Nat} {i1 : Int32} {i2 : Int32} {i4 : Int32} {si0 : Int32} {D : dy_} : k129_77 w (d + 1) i1 i2 i4 si0 D = k129_24 w (d + 1) i1 i2 si0 (i4 + (nI 1)) D := by
  refine (q_129_77 sh_ w.1 w.2 d i1 i2 i4 si0 D).trans ?_
  (try simp only [reduceIte, Nat.reduceEqDiff, Nat.add_one_ne_zero, Nat.succ_ne_zero, Nat.add_eq_zero_iff, and_false]) <;> rfl
set_option maxRecDepth 100000 in
set_option maxHeartbeats 4000000 in
theorem e130_0 {w : (Nat → Int32) × Nat} {d : Nat}  {D : dy_} : k130_0 w (d + 1) D = k130_9 w (d + 1) (nI 0) (nI 0) (nI 0) D := by
  refine (q_130_0 sh_ w.1 w.2 d  D).trans ?_
  (try simp only [reduceIte, Nat.reduceEqDiff, Nat.add_one_ne_zero, Nat.succ_ne_zero, Nat.add_eq_zero_iff, and_false]) <;> rfl
set_option maxRecDepth 100000 in
set_option maxHeartbeats 4000000 in
theorem e130_9 {w : (Nat → Int32) × Nat} {d : Nat} {i2 : Int32} {i3 : Int32} {i4 : Int32} {D : dy_} : k130_9 w (d + 1) i2 i3 i4 D = if (D.1 351 9) ≤ i4 then (if i2 = (nI 0) then (k130_98 w (d + 1) D) else (if i3 = (nI 0) then (k130_98 w (d + 1) D) else (k130_99 w (d + 1) (nI 2) D))) else (mk_inb i4 3600 none (if (D.1 359 i4.toNatClampNeg) = (nI 0) then (k130_39 w (d + 1) i2 i3 i4 362 i4 (nI 0) D) else (k130_39 w (d + 1) i2 i3 i4 362 i4 (nI 1) D))) := by
  refine (q_130_9 sh_ w.1 w.2 d i2 i3 i4 D).trans ?_
  (try simp only [rf_351_11, rf_351_14, sf_351, sf_359, reduceIte, Nat.reduceEqDiff, Nat.add_one_ne_zero, Nat.succ_ne_zero, Nat.add_eq_zero_iff, and_false]) <;> rfl
set_option maxRecDepth 100000 in
set_option maxHeartbeats 4000000 in
theorem e130_39 {w : (Nat → Int32) × Nat} {d : Nat} {i2 : Int32} {i3 : Int32} {i4 : Int32} {sr0 : Nat} {si1 : Int32} {si2 : Int32} {D : dy_} : k130_39 w (d + 1) i2 i3 i4 sr0 si1 si2 D = if (sh_.1 sr0).1 = 1 then (mk_inb si1 (sh_.1 sr0).2 none (if i2 ≠ (nI 0) then (k130_54 w (d + 1) i3 i4 (dI_ D sr0 si1.toNatClampNeg si2)) else (mk_inb i4 3600 none (if ((dI_ D sr0 si1.toNatClampNeg si2).1 359 i4.toNatClampNeg) = (nI 0) then (k130_59 w (d + 1) i3 i4 (nI 0) (dI_ D sr0 si1.toNatClampNeg si2)) else (k130_54 w (d + 1) i3 i4 (dI_ D sr0 si1.toNatClampNeg si2)))))) else none := by
  refine (q_130_39 sh_ w.1 w.2 d i2 i3 i4 sr0 si1 si2 D).trans ?_
  (try simp only [rf_351_11, sf_351, sf_359, reduceIte, Nat.reduceEqDiff, Nat.add_one_ne_zero, Nat.succ_ne_zero, Nat.add_eq_zero_iff, and_false]) <;> rfl
set_option maxRecDepth 100000 in
set_option maxHeartbeats 4000000 in
theorem e130_54 {w : (Nat → Int32) × Nat} {d : Nat} {i3 : Int32} {i4 : Int32} {D : dy_} : k130_54 w (d + 1) i3 i4 D = k130_59 w (d + 1) i3 i4 (nI 1) D := by
  refine (q_130_54 sh_ w.1 w.2 d i3 i4 D).trans ?_
  (try simp only [reduceIte, Nat.reduceEqDiff, Nat.add_one_ne_zero, Nat.succ_ne_zero, Nat.add_eq_zero_iff, and_false]) <;> rfl
set_option maxRecDepth 100000 in
set_option maxHeartbeats 4000000 in
theorem e130_59 {w : (Nat → Int32) × Nat} {d : Nat} {i3 : Int32} {i4 : Int32} {si0 : Int32} {D : dy_} : k130_59 w (d + 1) i3 i4 si0 D = if i3 ≠ (nI 0) then (k130_74 w (d + 1) si0 i4 D) else (mk_inb i4 3600 none (if (D.1 359 i4.toNatClampNeg) ≠ (nI 0) then (k130_79 w (d + 1) si0 i4 (nI 0) D) else (k130_74 w (d + 1) si0 i4 D))) := by
  refine (q_130_59 sh_ w.1 w.2 d i3 i4 si0 D).trans ?_
  (try simp only [rf_351_11, sf_351, sf_359, reduceIte, Nat.reduceEqDiff, Nat.add_one_ne_zero, Nat.succ_ne_zero, Nat.add_eq_zero_iff, and_false]) <;> rfl
set_option maxRecDepth 100000 in
set_option maxHeartbeats 4000000 in
theorem e130_74 {w : (Nat → Int32) × Nat} {d : Nat} {i2 : Int32} {i4 : Int32} {D : dy_} : k130_74 w (d + 1) i2 i4 D = k130_79 w (d + 1) i2 i4 (nI 1) D := by
  refine (q_130_74 sh_ w.1 w.2 d i2 i4 D).trans ?_
  (try simp only [reduceIte, Nat.reduceEqDiff, Nat.add_one_ne_zero, Nat.succ_ne_zero, Nat.add_eq_zero_iff, and_false]) <;> rfl
set_option maxRecDepth 100000 in
set_option maxHeartbeats 4000000 in
theorem e130_79 {w : (Nat → Int32) × Nat} {d : Nat} {i2 : Int32} {i4 : Int32} {si0 : Int32} {D : dy_} : k130_79 w (d + 1) i2 i4 si0 D = k130_9 w (d + 1) i2 si0 (i4 + (nI 1)) D := by
  refine (q_130_79 sh_ w.1 w.2 d i2 i4 si0 D).trans ?_
  (try simp only [reduceIte, Nat.reduceEqDiff, Nat.add_one_ne_zero, Nat.succ_ne_zero, Nat.add_eq_zero_iff, and_false]) <;> rfl
set_option maxRecDepth 100000 in
set_option maxHeartbeats 4000000 in
theorem e130_98 {w : (Nat → Int32) × Nat} {d : Nat}  {D : dy_} : k130_98 w (d + 1) D = k130_99 w (d + 1) (nI 1) D := by
  refine (q_130_98 sh_ w.1 w.2 d  D).trans ?_
  (try simp only [reduceIte, Nat.reduceEqDiff, Nat.add_one_ne_zero, Nat.succ_ne_zero, Nat.add_eq_zero_iff, and_false]) <;> rfl
set_option maxRecDepth 100000 in
set_option maxHeartbeats 4000000 in
theorem e130_99 {w : (Nat → Int32) × Nat} {d : Nat} {si0 : Int32} {D : dy_} : k130_99 w (d + 1) si0 D = k130_106 w (d + 1) si0 (nI 0) (nI 0) D := by
  refine (q_130_99 sh_ w.1 w.2 d si0 D).trans ?_
  (try simp only [reduceIte, Nat.reduceEqDiff, Nat.add_one_ne_zero, Nat.succ_ne_zero, Nat.add_eq_zero_iff, and_false]) <;> rfl
set_option maxRecDepth 100000 in
set_option maxHeartbeats 4000000 in
theorem e130_106 {w : (Nat → Int32) × Nat} {d : Nat} {i1 : Int32} {i4 : Int32} {i5 : Int32} {D : dy_} : k130_106 w (d + 1) i1 i4 i5 D = if i1 ≤ i5 then (some (some (.int i4), D)) else (k130_123 w (d + 1) (nI 0) (i4 + (nI 1)) i1 (nI 0) D) := by
  refine (q_130_106 sh_ w.1 w.2 d i1 i4 i5 D).trans ?_
  (try simp only [reduceIte, Nat.reduceEqDiff, Nat.add_one_ne_zero, Nat.succ_ne_zero, Nat.add_eq_zero_iff, and_false]) <;> rfl
set_option maxRecDepth 100000 in
set_option maxHeartbeats 4000000 in
theorem e130_123 {w : (Nat → Int32) × Nat} {d : Nat} {i1 : Int32} {i4 : Int32} {i5 : Int32} {i6 : Int32} {D : dy_} : k130_123 w (d + 1) i1 i4 i5 i6 D = if (D.1 351 9) ≤ i6 then (k130_227 w (d + 1) i1 i4 i5 (nI 0) D) else (mk_inb i6 3600 none (k130_143 w (d + 1) i1 i4 i5 i6 (nI 0) (dI_ D 363 i6.toNatClampNeg (-1)))) := by
  refine (q_130_123 sh_ w.1 w.2 d i1 i4 i5 i6 D).trans ?_
  (try simp only [rf_351_15, sf_351, sf_363, reduceIte, Nat.reduceEqDiff, Nat.add_one_ne_zero, Nat.succ_ne_zero, Nat.add_eq_zero_iff, and_false]) <;> rfl
set_option maxRecDepth 100000 in
set_option maxHeartbeats 4000000 in
theorem e130_143 {w : (Nat → Int32) × Nat} {d : Nat} {i1 : Int32} {i4 : Int32} {i5 : Int32} {i6 : Int32} {i7 : Int32} {D : dy_} : k130_143 w (d + 1) i1 i4 i5 i6 i7 D = if i6 ≤ i7 then (k130_196 w (d + 1) i1 i4 i5 i6 D) else (mk_inb i6 3600 none (if (D.1 363 i6.toNatClampNeg) ≠ (-1) then (k130_196 w (d + 1) i1 i4 i5 i6 D) else (op_o (k129_0 w d i6 i7 D) none (fun p1 => op_vI p1.1 none (fun n1 => if n1 = (nI 0) then (k130_189 w (d + 1) i1 i4 i5 i6 i7 363 i6 (-1) p1.2) else (mk_inb i7 3600 none (k130_189 w (d + 1) i1 i4 i5 i6 i7 363 i6 (p1.2.1 363 i7.toNatClampNeg) p1.2))))))) := by
  refine (q_130_143 sh_ w.1 w.2 d i1 i4 i5 i6 i7 D).trans ?_
  (try simp only [rf_351_15, sf_351, sf_363, reduceIte, Nat.reduceEqDiff, Nat.add_one_ne_zero, Nat.succ_ne_zero, Nat.add_eq_zero_iff, and_false]) <;> rfl
set_option maxRecDepth 100000 in
set_option maxHeartbeats 4000000 in
theorem e130_189 {w : (Nat → Int32) × Nat} {d : Nat} {i1 : Int32} {i4 : Int32} {i5 : Int32} {i6 : Int32} {i7 : Int32} {sr0 : Nat} {si1 : Int32} {si2 : Int32} {D : dy_} : k130_189 w (d + 1) i1 i4 i5 i6 i7 sr0 si1 si2 D = if (sh_.1 sr0).1 = 1 then (mk_inb si1 (sh_.1 sr0).2 none (k130_143 w (d + 1) i1 i4 i5 i6 (i7 + (nI 1)) (dI_ D sr0 si1.toNatClampNeg si2))) else none := by
  refine (q_130_189 sh_ w.1 w.2 d i1 i4 i5 i6 i7 sr0 si1 si2 D).trans ?_
  (try simp only [reduceIte, Nat.reduceEqDiff, Nat.add_one_ne_zero, Nat.succ_ne_zero, Nat.add_eq_zero_iff, and_false]) <;> rfl
set_option maxRecDepth 100000 in
set_option maxHeartbeats 4000000 in
theorem e130_196 {w : (Nat → Int32) × Nat} {d : Nat} {i1 : Int32} {i4 : Int32} {i5 : Int32} {i6 : Int32} {D : dy_} : k130_196 w (d + 1) i1 i4 i5 i6 D = mk_inb i6 3600 none (if (D.1 363 i6.toNatClampNeg) ≠ (-1) then (k130_218 w (d + 1) i1 i4 i5 i6 D) else (mk_inb i6 3600 none (k130_218 w (d + 1) (i1 + (nI 1)) i4 i5 i6 (dI_ D 363 i6.toNatClampNeg i1)))) := by
  refine (q_130_196 sh_ w.1 w.2 d i1 i4 i5 i6 D).trans ?_
  (try simp only [rf_351_15, sf_351, sf_363, reduceIte, Nat.reduceEqDiff, Nat.add_one_ne_zero, Nat.succ_ne_zero, Nat.add_eq_zero_iff, and_false]) <;> rfl
set_option maxRecDepth 100000 in
set_option maxHeartbeats 4000000 in
theorem e130_218 {w : (Nat → Int32) × Nat} {d : Nat} {i1 : Int32} {i4 : Int32} {i5 : Int32} {i6 : Int32} {D : dy_} : k130_218 w (d + 1) i1 i4 i5 i6 D = k130_123 w (d + 1) i1 i4 i5 (i6 + (nI 1)) D := by
  refine (q_130_218 sh_ w.1 w.2 d i1 i4 i5 i6 D).trans ?_
  (try simp only [reduceIte, Nat.reduceEqDiff, Nat.add_one_ne_zero, Nat.succ_ne_zero, Nat.add_eq_zero_iff, and_false]) <;> rfl
set_option maxRecDepth 100000 in
set_option maxHeartbeats 4000000 in
theorem e130_227 {w : (Nat → Int32) × Nat} {d : Nat} {i1 : Int32} {i4 : Int32} {i5 : Int32} {i6 : Int32} {D : dy_} : k130_227 w (d + 1) i1 i4 i5 i6 D = if (D.1 351 9) ≤ i6 then (k130_106 w (d + 1) i1 i4 i5 D) else (mk_inb i6 3600 none (mk_inb i6 3600 none (k130_227 w (d + 1) i1 i4 i5 (i6 + (nI 1)) (dI_ D 362 i6.toNatClampNeg (D.1 363 i6.toNatClampNeg))))) := by
  refine (q_130_227 sh_ w.1 w.2 d i1 i4 i5 i6 D).trans ?_
  (try simp only [rf_351_14, rf_351_15, sf_351, sf_362, sf_363, reduceIte, Nat.reduceEqDiff, Nat.add_one_ne_zero, Nat.succ_ne_zero, Nat.add_eq_zero_iff, and_false]) <;> rfl
set_option maxRecDepth 100000 in
set_option maxHeartbeats 4000000 in
theorem e131_0 {w : (Nat → Int32) × Nat} {d : Nat} {i1 : Int32} {i2 : Int32} {D : dy_} : k131_0 w (d + 1) i1 i2 D = mk_inb (D.1 351 24) 2000 none (mk_inb ((dI_ D 370 (D.1 351 24).toNatClampNeg i1).1 351 24) 2000 none (some (none, (dI_ (dI_ (dI_ D 370 (D.1 351 24).toNatClampNeg i1) 371 ((dI_ D 370 (D.1 351 24).toNatClampNeg i1).1 351 24).toNatClampNeg i2) 351 24 (((dI_ (dI_ D 370 (D.1 351 24).toNatClampNeg i1) 371 ((dI_ D 370 (D.1 351 24).toNatClampNeg i1).1 351 24).toNatClampNeg i2).1 351 24) + (nI 1)))))) := by
  refine (q_131_0 sh_ w.1 w.2 d i1 i2 D).trans ?_
  (try simp only [rf_351_26, rf_351_27, sf_351, sf_370, sf_371, reduceIte, Nat.reduceEqDiff, Nat.add_one_ne_zero, Nat.succ_ne_zero, Nat.add_eq_zero_iff, and_false]) <;> rfl
set_option maxRecDepth 100000 in
set_option maxHeartbeats 4000000 in
theorem e132_0 {w : (Nat → Int32) × Nat} {d : Nat} {i1 : Int32} {i2 : Int32} {D : dy_} : k132_0 w (d + 1) i1 i2 D = k132_8 w (d + 1) i1 i2 (nI 0) (D.1 351 25) D := by
  refine (q_132_0 sh_ w.1 w.2 d i1 i2 D).trans ?_
  (try simp only [sf_351, reduceIte, Nat.reduceEqDiff, Nat.add_one_ne_zero, Nat.succ_ne_zero, Nat.add_eq_zero_iff, and_false]) <;> rfl
set_option maxRecDepth 100000 in
set_option maxHeartbeats 4000000 in
theorem e132_8 {w : (Nat → Int32) × Nat} {d : Nat} {i1 : Int32} {i2 : Int32} {i3 : Int32} {i4 : Int32} {D : dy_} : k132_8 w (d + 1) i1 i2 i3 i4 D = if (D.1 351 24) ≤ i4 then (if i3 = 0 ∨ i3 = 1 then some (some (.int i3), D) else none) else (if i3 ≠ (nI 0) then (k132_43 w (d + 1) i1 i2 i4 D) else (mk_inb i4 2000 none (if (D.1 370 i4.toNatClampNeg) ≠ i1 then (k132_47 w (d + 1) i1 i2 i4 D) else (mk_inb i4 2000 none (if (D.1 371 i4.toNatClampNeg) ≠ i2 then (k132_47 w (d + 1) i1 i2 i4 D) else (k132_43 w (d + 1) i1 i2 i4 D)))))) := by
  refine (q_132_8 sh_ w.1 w.2 d i1 i2 i3 i4 D).trans ?_
  (try simp only [rf_351_26, rf_351_27, sf_351, sf_370, sf_371, reduceIte, Nat.reduceEqDiff, Nat.add_one_ne_zero, Nat.succ_ne_zero, Nat.add_eq_zero_iff, and_false]) <;> rfl
set_option maxRecDepth 100000 in
set_option maxHeartbeats 4000000 in
theorem e132_43 {w : (Nat → Int32) × Nat} {d : Nat} {i1 : Int32} {i2 : Int32} {i4 : Int32} {D : dy_} : k132_43 w (d + 1) i1 i2 i4 D = k132_48 w (d + 1) i1 i2 i4 (nI 1) D := by
  refine (q_132_43 sh_ w.1 w.2 d i1 i2 i4 D).trans ?_
  (try simp only [reduceIte, Nat.reduceEqDiff, Nat.add_one_ne_zero, Nat.succ_ne_zero, Nat.add_eq_zero_iff, and_false]) <;> rfl
set_option maxRecDepth 100000 in
set_option maxHeartbeats 4000000 in
theorem e132_47 {w : (Nat → Int32) × Nat} {d : Nat} {i1 : Int32} {i2 : Int32} {i4 : Int32} {D : dy_} : k132_47 w (d + 1) i1 i2 i4 D = k132_48 w (d + 1) i1 i2 i4 (nI 0) D := by
  refine (q_132_47 sh_ w.1 w.2 d i1 i2 i4 D).trans ?_
  (try simp only [reduceIte, Nat.reduceEqDiff, Nat.add_one_ne_zero, Nat.succ_ne_zero, Nat.add_eq_zero_iff, and_false]) <;> rfl
set_option maxRecDepth 100000 in
set_option maxHeartbeats 4000000 in
theorem e132_48 {w : (Nat → Int32) × Nat} {d : Nat} {i1 : Int32} {i2 : Int32} {i4 : Int32} {si0 : Int32} {D : dy_} : k132_48 w (d + 1) i1 i2 i4 si0 D = k132_8 w (d + 1) i1 i2 si0 (i4 + (nI 1)) D := by
  refine (q_132_48 sh_ w.1 w.2 d i1 i2 i4 si0 D).trans ?_
  (try simp only [reduceIte, Nat.reduceEqDiff, Nat.add_one_ne_zero, Nat.succ_ne_zero, Nat.add_eq_zero_iff, and_false]) <;> rfl
set_option maxRecDepth 100000 in
set_option maxHeartbeats 4000000 in
theorem e133_0 {w : (Nat → Int32) × Nat} {d : Nat}  {D : dy_} : k133_0 w (d + 1) D = mk_inb (nI 0) 60 none (mk_inb (nI 1) 60 none (k133_31 w (d + 1) (nI 0) (dI_ (dI_ (dI_ (dI_ (dI_ D 351 22 (nI 1)) 369 (nI 0).toNatClampNeg (nI 0)) 369 (nI 1).toNatClampNeg (nI 0)) 351 24 (nI 0)) 351 25 (nI 0)))) := by
  refine (q_133_0 sh_ w.1 w.2 d  D).trans ?_
  (try simp only [rf_351_23, sf_351, sf_369, reduceIte, Nat.reduceEqDiff, Nat.add_one_ne_zero, Nat.succ_ne_zero, Nat.add_eq_zero_iff, and_false]) <;> rfl
set_option maxRecDepth 100000 in
set_option maxHeartbeats 4000000 in
theorem e133_31 {w : (Nat → Int32) × Nat} {d : Nat} {i1 : Int32} {D : dy_} : k133_31 w (d + 1) i1 D = if (D.1 351 9) ≤ i1 then (k133_110 w (d + 1) (nI 0) D) else (mk_inb i1 3600 none (mk_inb (nI 0) 3600 none (if (D.1 359 i1.toNatClampNeg) ≠ (D.1 359 (nI 0).toNatClampNeg) then (k133_64 w (d + 1) i1 362 i1 (nI 1) D) else (k133_64 w (d + 1) i1 362 i1 (nI 0) D)))) := by
  refine (q_133_31 sh_ w.1 w.2 d i1 D).trans ?_
  (try simp only [rf_351_11, rf_351_14, sf_351, sf_359, reduceIte, Nat.reduceEqDiff, Nat.add_one_ne_zero, Nat.succ_ne_zero, Nat.add_eq_zero_iff, and_false]) <;> rfl
set_option maxRecDepth 100000 in
set_option maxHeartbeats 4000000 in
theorem e133_64 {w : (Nat → Int32) × Nat} {d : Nat} {i1 : Int32} {sr0 : Nat} {si1 : Int32} {si2 : Int32} {D : dy_} : k133_64 w (d + 1) i1 sr0 si1 si2 D = if (sh_.1 sr0).1 = 1 then (mk_inb si1 (sh_.1 sr0).2 none (mk_inb i1 3600 none (if ((dI_ D sr0 si1.toNatClampNeg si2).1 362 i1.toNatClampNeg) ≠ (nI 1) then (k133_84 w (d + 1) i1 ((dI_ D sr0 si1.toNatClampNeg si2).1 351 22) (dI_ D sr0 si1.toNatClampNeg si2)) else (k133_84 w (d + 1) i1 (nI 2) (dI_ D sr0 si1.toNatClampNeg si2))))) else none := by
  refine (q_133_64 sh_ w.1 w.2 d i1 sr0 si1 si2 D).trans ?_
  (try simp only [rf_351_14, sf_351, sf_362, reduceIte, Nat.reduceEqDiff, Nat.add_one_ne_zero, Nat.succ_ne_zero, Nat.add_eq_zero_iff, and_false]) <;> rfl
set_option maxRecDepth 100000 in
set_option maxHeartbeats 4000000 in
theorem e133_84 {w : (Nat → Int32) × Nat} {d : Nat} {i1 : Int32} {si1 : Int32} {D : dy_} : k133_84 w (d + 1) i1 si1 D = mk_inb i1 3600 none (mk_inb ((dI_ D 351 22 si1).1 362 i1.toNatClampNeg) 60 none (mk_inb ((dI_ D 351 22 si1).1 362 i1.toNatClampNeg) 60 none (k133_31 w (d + 1) (i1 + (nI 1)) (dI_ (dI_ D 351 22 si1) 369 ((dI_ D 351 22 si1).1 362 i1.toNatClampNeg).toNatClampNeg (((dI_ D 351 22 si1).1 369 ((dI_ D 351 22 si1).1 362 i1.toNatClampNeg).toNatClampNeg) + (nI 1)))))) := by
  refine (q_133_84 sh_ w.1 w.2 d i1 si1 D).trans ?_
  (try simp only [rf_351_14, rf_351_23, sf_351, sf_362, sf_369, reduceIte, Nat.reduceEqDiff, Nat.add_one_ne_zero, Nat.succ_ne_zero, Nat.add_eq_zero_iff, and_false]) <;> rfl
set_option maxRecDepth 100000 in
set_option maxHeartbeats 4000000 in
theorem e133_110 {w : (Nat → Int32) × Nat} {d : Nat} {i1 : Int32} {D : dy_} : k133_110 w (d + 1) i1 D = if (D.1 351 8) ≤ i1 then (k133_157 w (d + 1) D) else (if (D.1 351 22) ≠ (nI 2) then (k133_157 w (d + 1) D) else (mk_inb (nI 0) 60 none (mk_inb (nI 1) 60 none (if (D.1 369 (nI 1).toNatClampNeg) ≤ (D.1 369 (nI 0).toNatClampNeg) then (k133_147 w (d + 1) i1 (nI 1) D) else (k133_147 w (d + 1) i1 (nI 0) D))))) := by
  refine (q_133_110 sh_ w.1 w.2 d i1 D).trans ?_
  (try simp only [rf_351_23, sf_351, sf_369, reduceIte, Nat.reduceEqDiff, Nat.add_one_ne_zero, Nat.succ_ne_zero, Nat.add_eq_zero_iff, and_false]) <;> rfl
set_option maxRecDepth 100000 in
set_option maxHeartbeats 4000000 in
theorem e133_147 {w : (Nat → Int32) × Nat} {d : Nat} {i1 : Int32} {si1 : Int32} {D : dy_} : k133_147 w (d + 1) i1 si1 D = op_o (k131_0 w d si1 i1 D) none (fun p1 => op_vN p1.1 none (k133_110 w (d + 1) (i1 + (nI 1)) p1.2)) := by
  refine (q_133_147 sh_ w.1 w.2 d i1 si1 D).trans ?_
  (try simp only [sf_351, reduceIte, Nat.reduceEqDiff, Nat.add_one_ne_zero, Nat.succ_ne_zero, Nat.add_eq_zero_iff, and_false]) <;> rfl
set_option maxRecDepth 100000 in
set_option maxHeartbeats 4000000 in
theorem e133_157 {w : (Nat → Int32) × Nat} {d : Nat}  {D : dy_} : k133_157 w (d + 1) D = if (D.1 351 24) ≤ (D.1 351 25) then (some (some (.int (D.1 351 25)), D)) else (mk_inb (D.1 351 25) 2000 none (mk_inb (D.1 351 25) 2000 none (k133_200 w (d + 1) (D.1 370 (D.1 351 25).toNatClampNeg) (D.1 371 (D.1 351 25).toNatClampNeg) (nI 0) (dI_ D 351 25 ((D.1 351 25) + (nI 1)))))) := by
  refine (q_133_157 sh_ w.1 w.2 d  D).trans ?_
  (try simp only [rf_351_26, rf_351_27, sf_351, sf_370, sf_371, reduceIte, Nat.reduceEqDiff, Nat.add_one_ne_zero, Nat.succ_ne_zero, Nat.add_eq_zero_iff, and_false]) <;> rfl
set_option maxRecDepth 100000 in
set_option maxHeartbeats 4000000 in
theorem e133_200 {w : (Nat → Int32) × Nat} {d : Nat} {i1 : Int32} {i2 : Int32} {i3 : Int32} {D : dy_} : k133_200 w (d + 1) i1 i2 i3 D = if (D.1 351 9) ≤ i3 then (k133_252 w (d + 1) (D.1 351 22) (nI 0) D) else (mk_inb (((nI 4) * i3) + i2) 14400 none (mk_inb (D.1 358 (((nI 4) * i3) + i2).toNatClampNeg) 3600 none (if (D.1 362 (D.1 358 (((nI 4) * i3) + i2).toNatClampNeg).toNatClampNeg) ≠ i1 then (k133_237 w (d + 1) i1 i2 i3 372 i3 (nI 0) D) else (k133_237 w (d + 1) i1 i2 i3 372 i3 (nI 1) D)))) := by
  refine (q_133_200 sh_ w.1 w.2 d i1 i2 i3 D).trans ?_
  (try simp only [rf_351_10, rf_351_14, rf_351_28, sf_351, sf_358, sf_362, reduceIte, Nat.reduceEqDiff, Nat.add_one_ne_zero, Nat.succ_ne_zero, Nat.add_eq_zero_iff, and_false]) <;> rfl
set_option maxRecDepth 100000 in
set_option maxHeartbeats 4000000 in
theorem e133_237 {w : (Nat → Int32) × Nat} {d : Nat} {i1 : Int32} {i2 : Int32} {i3 : Int32} {sr0 : Nat} {si1 : Int32} {si2 : Int32} {D : dy_} : k133_237 w (d + 1) i1 i2 i3 sr0 si1 si2 D = if (sh_.1 sr0).1 = 2 then (mk_inb si1 (sh_.1 sr0).2 none (k133_200 w (d + 1) i1 i2 (i3 + (nI 1)) (dI_ D sr0 si1.toNatClampNeg (vp_nar .boolean si2)))) else none := by
  refine (q_133_237 sh_ w.1 w.2 d i1 i2 i3 sr0 si1 si2 D).trans ?_
  (try simp only [reduceIte, Nat.reduceEqDiff, Nat.add_one_ne_zero, Nat.succ_ne_zero, Nat.add_eq_zero_iff, and_false]) <;> rfl
set_option maxRecDepth 100000 in
set_option maxHeartbeats 4000000 in
theorem e133_252 {w : (Nat → Int32) × Nat} {d : Nat} {i3 : Int32} {i4 : Int32} {D : dy_} : k133_252 w (d + 1) i3 i4 D = if i3 ≤ i4 then (k133_157 w (d + 1) D) else (op_o (k134_0 w d i4 D) none (fun p1 => op_vN p1.1 none (k133_252 w (d + 1) i3 (i4 + (nI 1)) p1.2))) := by
  refine (q_133_252 sh_ w.1 w.2 d i3 i4 D).trans ?_
  (try simp only [sf_351, reduceIte, Nat.reduceEqDiff, Nat.add_one_ne_zero, Nat.succ_ne_zero, Nat.add_eq_zero_iff, and_false]) <;> rfl
set_option maxRecDepth 100000 in
set_option maxHeartbeats 4000000 in
theorem e134_0 {w : (Nat → Int32) × Nat} {d : Nat} {i1 : Int32} {D : dy_} : k134_0 w (d + 1) i1 D = k134_12 w (d + 1) i1 (-1) (nI 0) ((D.1 351 9) - (nI 1)) D := by
  refine (q_134_0 sh_ w.1 w.2 d i1 D).trans ?_
  (try simp only [sf_351, reduceIte, Nat.reduceEqDiff, Nat.add_one_ne_zero, Nat.succ_ne_zero, Nat.add_eq_zero_iff, and_false]) <;> rfl
set_option maxRecDepth 100000 in
set_option maxHeartbeats 4000000 in
theorem e134_12 {w : (Nat → Int32) × Nat} {d : Nat} {i1 : Int32} {i2 : Int32} {i3 : Int32} {i4 : Int32} {D : dy_} : k134_12 w (d + 1) i1 i2 i3 i4 D = if i4 < (nI 0) then (if i3 = (nI 0) then (some (none, D)) else (mk_inb i1 60 none (if i3 ≠ (D.1 369 i1.toNatClampNeg) then (mk_inb (D.1 351 22) 60 none (k134_112 w (d + 1) i1 i2 (D.1 351 22) (nI 0) (dI_ (dI_ D 351 22 ((D.1 351 22) + (nI 1))) 369 (D.1 351 22).toNatClampNeg (nI 0)))) else (some (none, D))))) else (mk_inb i4 3600 none (if (D.1 362 i4.toNatClampNeg) ≠ i1 then (k134_34 w (d + 1) i1 i3 i4 i2 D) else (k134_34 w (d + 1) i1 i3 i4 i4 D))) := by
  refine (q_134_12 sh_ w.1 w.2 d i1 i2 i3 i4 D).trans ?_
  (try simp only [rf_351_14, rf_351_23, sf_351, sf_362, sf_369, reduceIte, Nat.reduceEqDiff, Nat.add_one_ne_zero, Nat.succ_ne_zero, Nat.add_eq_zero_iff, and_false]) <;> rfl
set_option maxRecDepth 100000 in
set_option maxHeartbeats 4000000 in
theorem e134_34 {w : (Nat → Int32) × Nat} {d : Nat} {i1 : Int32} {i3 : Int32} {i4 : Int32} {si0 : Int32} {D : dy_} : k134_34 w (d + 1) i1 i3 i4 si0 D = mk_inb i4 3600 none (if (D.1 362 i4.toNatClampNeg) ≠ i1 then (k134_62 w (d + 1) i1 si0 i3 i4 D) else (mk_inb i4 60 none (if (D.1 372 i4.toNatClampNeg) = (nI 0) then (k134_62 w (d + 1) i1 si0 i3 i4 D) else (k134_63 w (d + 1) i1 si0 i4 (i3 + (nI 1)) D)))) := by
  refine (q_134_34 sh_ w.1 w.2 d i1 i3 i4 si0 D).trans ?_
  (try simp only [rf_351_14, rf_351_28, sf_351, sf_362, sf_372, reduceIte, Nat.reduceEqDiff, Nat.add_one_ne_zero, Nat.succ_ne_zero, Nat.add_eq_zero_iff, and_false]) <;> rfl
set_option maxRecDepth 100000 in
set_option maxHeartbeats 4000000 in
theorem e134_62 {w : (Nat → Int32) × Nat} {d : Nat} {i1 : Int32} {i2 : Int32} {i3 : Int32} {i4 : Int32} {D : dy_} : k134_62 w (d + 1) i1 i2 i3 i4 D = k134_63 w (d + 1) i1 i2 i4 i3 D := by
  refine (q_134_62 sh_ w.1 w.2 d i1 i2 i3 i4 D).trans ?_
  (try simp only [reduceIte, Nat.reduceEqDiff, Nat.add_one_ne_zero, Nat.succ_ne_zero, Nat.add_eq_zero_iff, and_false]) <;> rfl
set_option maxRecDepth 100000 in
set_option maxHeartbeats 4000000 in
theorem e134_63 {w : (Nat → Int32) × Nat} {d : Nat} {i1 : Int32} {i2 : Int32} {i4 : Int32} {si0 : Int32} {D : dy_} : k134_63 w (d + 1) i1 i2 i4 si0 D = k134_12 w (d + 1) i1 i2 si0 (i4 + (-1)) D := by
  refine (q_134_63 sh_ w.1 w.2 d i1 i2 i4 si0 D).trans ?_
  (try simp only [reduceIte, Nat.reduceEqDiff, Nat.add_one_ne_zero, Nat.succ_ne_zero, Nat.add_eq_zero_iff, and_false]) <;> rfl
set_option maxRecDepth 100000 in
set_option maxHeartbeats 4000000 in
theorem e134_112 {w : (Nat → Int32) × Nat} {d : Nat} {i1 : Int32} {i2 : Int32} {i4 : Int32} {i5 : Int32} {D : dy_} : k134_112 w (d + 1) i1 i2 i4 i5 D = if (D.1 351 9) ≤ i5 then (k134_187 w (d + 1) i1 i4 (nI 0) D) else (mk_inb i5 3600 none (if (D.1 362 i5.toNatClampNeg) ≠ i1 then (k134_178 w (d + 1) i1 i2 i4 i5 D) else (mk_inb i5 60 none (mk_inb i2 60 none (if (D.1 372 i5.toNatClampNeg) = (D.1 372 i2.toNatClampNeg) then (k134_178 w (d + 1) i1 i2 i4 i5 D) else (mk_inb i5 3600 none (mk_inb i4 60 none (mk_inb i4 60 none (mk_inb i1 60 none (mk_inb i1 60 none (k134_178 w (d + 1) i1 i2 i4 i5 (dI_ (dI_ (dI_ D 362 i5.toNatClampNeg i4) 369 i4.toNatClampNeg (((dI_ D 362 i5.toNatClampNeg i4).1 369 i4.toNatClampNeg) + (nI 1))) 369 i1.toNatClampNeg (((dI_ (dI_ D 362 i5.toNatClampNeg i4) 369 i4.toNatClampNeg (((dI_ D 362 i5.toNatClampNeg i4).1 369 i4.toNatClampNeg) + (nI 1))).1 369 i1.toNatClampNeg) - (nI 1)))))))))))))) := by
  refine (q_134_112 sh_ w.1 w.2 d i1 i2 i4 i5 D).trans ?_
  (try simp only [rf_351_14, rf_351_23, rf_351_28, sf_351, sf_362, sf_369, sf_372, reduceIte, Nat.reduceEqDiff, Nat.add_one_ne_zero, Nat.succ_ne_zero, Nat.add_eq_zero_iff, and_false]) <;> rfl
set_option maxRecDepth 100000 in
set_option maxHeartbeats 4000000 in
theorem e134_178 {w : (Nat → Int32) × Nat} {d : Nat} {i1 : Int32} {i2 : Int32} {i4 : Int32} {i5 : Int32} {D : dy_} : k134_178 w (d + 1) i1 i2 i4 i5 D = k134_112 w (d + 1) i1 i2 i4 (i5 + (nI 1)) D := by
  refine (q_134_178 sh_ w.1 w.2 d i1 i2 i4 i5 D).trans ?_
  (try simp only [reduceIte, Nat.reduceEqDiff, Nat.add_one_ne_zero, Nat.succ_ne_zero, Nat.add_eq_zero_iff, and_false]) <;> rfl
set_option maxRecDepth 100000 in
set_option maxHeartbeats 4000000 in
theorem e134_187 {w : (Nat → Int32) × Nat} {d : Nat} {i1 : Int32} {i4 : Int32} {i5 : Int32} {D : dy_} : k134_187 w (d + 1) i1 i4 i5 D = if (D.1 351 8) ≤ i5 then (some (none, D)) else (op_o (k132_0 w d i1 i5 D) none (fun p1 => op_vI p1.1 none (fun n1 => if n1 = (nI 0) then (mk_inb i1 60 none (mk_inb i4 60 none (if (p1.2.1 369 i4.toNatClampNeg) ≤ (p1.2.1 369 i1.toNatClampNeg) then (k134_240 w (d + 1) i1 i4 i5 i4 p1.2) else (k134_240 w (d + 1) i1 i4 i5 i1 p1.2)))) else (op_o (k131_0 w d i4 i5 p1.2) none (fun p2 => op_vN p2.1 none (k134_245 w (d + 1) i1 i4 i5 p2.2)))))) := by
  refine (q_134_187 sh_ w.1 w.2 d i1 i4 i5 D).trans ?_
  (try simp only [rf_351_23, sf_351, sf_369, reduceIte, Nat.reduceEqDiff, Nat.add_one_ne_zero, Nat.succ_ne_zero, Nat.add_eq_zero_iff, and_false]) <;> rfl
set_option maxRecDepth 100000 in
set_option maxHeartbeats 4000000 in
theorem e134_240 {w : (Nat → Int32) × Nat} {d : Nat} {i1 : Int32} {i4 : Int32} {i5 : Int32} {si1 : Int32} {D : dy_} : k134_240 w (d + 1) i1 i4 i5 si1 D = op_o (k131_0 w d si1 i5 D) none (fun p1 => op_vN p1.1 none (k134_245 w (d + 1) i1 i4 i5 p1.2)) := by
  refine (q_134_240 sh_ w.1 w.2 d i1 i4 i5 si1 D).trans ?_
  (try simp only [sf_351, reduceIte, Nat.reduceEqDiff, Nat.add_one_ne_zero, Nat.succ_ne_zero, Nat.add_eq_zero_iff, and_false]) <;> rfl
set_option maxRecDepth 100000 in
set_option maxHeartbeats 4000000 in
theorem e134_245 {w : (Nat → Int32) × Nat} {d : Nat} {i1 : Int32} {i4 : Int32} {i5 : Int32} {D : dy_} : k134_245 w (d + 1) i1 i4 i5 D = k134_187 w (d + 1) i1 i4 (i5 + (nI 1)) D := by
  refine (q_134_245 sh_ w.1 w.2 d i1 i4 i5 D).trans ?_
  (try simp only [reduceIte, Nat.reduceEqDiff, Nat.add_one_ne_zero, Nat.succ_ne_zero, Nat.add_eq_zero_iff, and_false]) <;> rfl
set_option maxRecDepth 100000 in
set_option maxHeartbeats 4000000 in
theorem e135_0 {w : (Nat → Int32) × Nat} {d : Nat} {i1 : Int32} {j2 : Int64} {D : dy_} : k135_0 w (d + 1) i1 j2 D = k135_3 w (d + 1) i1 j2 (nI 0) D := by
  refine (q_135_0 sh_ w.1 w.2 d i1 j2 D).trans ?_
  (try simp only [reduceIte, Nat.reduceEqDiff, Nat.add_one_ne_zero, Nat.succ_ne_zero, Nat.add_eq_zero_iff, and_false]) <;> rfl
set_option maxRecDepth 100000 in
set_option maxHeartbeats 4000000 in
theorem e135_3 {w : (Nat → Int32) × Nat} {d : Nat} {i1 : Int32} {j2 : Int64} {i4 : Int32} {D : dy_} : k135_3 w (d + 1) i1 j2 i4 D = if (D.1 351 31) ≤ i4 then (if (D.1 351 31) ≠ (nI 500) then (mk_inb (D.1 351 31) 501 none (mk_inb (D.1 351 31) 501 none (some (some (.int (((dI_ (dI_ D 374 (D.1 351 31).toNatClampNeg i1) 351 31 (((dI_ D 374 (D.1 351 31).toNatClampNeg i1).1 351 31) + (nI 1))).1 351 31) - (nI 1))), (dI_ (dI_ (dL_ D 373 (D.1 351 31).toNatClampNeg j2) 374 (D.1 351 31).toNatClampNeg i1) 351 31 (((dI_ D 374 (D.1 351 31).toNatClampNeg i1).1 351 31) + (nI 1))))))) else (some (some (.int (-1)), D))) else (mk_inb i4 501 none (if (lg_cmp (D.2 373 i4.toNatClampNeg) j2) ≠ (nI 0) then (k135_38 w (d + 1) i1 j2 i4 D) else (mk_inb i4 501 none (if (D.1 374 i4.toNatClampNeg) ≠ i1 then (k135_38 w (d + 1) i1 j2 i4 D) else (some (some (.int i4), D)))))) := by
  refine (q_135_3 sh_ w.1 w.2 d i1 j2 i4 D).trans ?_
  (try simp only [rf_351_29, rf_351_30, sf_351, sf_373, sf_374, reduceIte, Nat.reduceEqDiff, Nat.add_one_ne_zero, Nat.succ_ne_zero, Nat.add_eq_zero_iff, and_false]) <;> rfl
set_option maxRecDepth 100000 in
set_option maxHeartbeats 4000000 in
theorem e135_38 {w : (Nat → Int32) × Nat} {d : Nat} {i1 : Int32} {j2 : Int64} {i4 : Int32} {D : dy_} : k135_38 w (d + 1) i1 j2 i4 D = k135_3 w (d + 1) i1 j2 (i4 + (nI 1)) D := by
  refine (q_135_38 sh_ w.1 w.2 d i1 j2 i4 D).trans ?_
  (try simp only [reduceIte, Nat.reduceEqDiff, Nat.add_one_ne_zero, Nat.succ_ne_zero, Nat.add_eq_zero_iff, and_false]) <;> rfl
set_option maxRecDepth 100000 in
set_option maxHeartbeats 4000000 in
theorem e136_0 {w : (Nat → Int32) × Nat} {d : Nat} {i1 : Int32} {D : dy_} : k136_0 w (d + 1) i1 D = k136_10 w (d + 1) i1 (lN 0) (nI 0) (dI_ D 351 31 (nI 0)) := by
  refine (q_136_0 sh_ w.1 w.2 d i1 D).trans ?_
  (try simp only [sf_351, reduceIte, Nat.reduceEqDiff, Nat.add_one_ne_zero, Nat.succ_ne_zero, Nat.add_eq_zero_iff, and_false]) <;> rfl
set_option maxRecDepth 100000 in
set_option maxHeartbeats 4000000 in
theorem e136_10 {w : (Nat → Int32) × Nat} {d : Nat} {i1 : Int32} {j2 : Int64} {i4 : Int32} {D : dy_} : k136_10 w (d + 1) i1 j2 i4 D = mk_inb i1 110 none (if (D.1 353 i1.toNatClampNeg) ≤ i4 then (op_o (k135_0 w d (nI 0) j2 D) none (fun p1 => op_vI p1.1 none (fun n1 => k136_58 w (d + 1) i1 (nI 0) p1.2))) else (op_o (k113_0 w d i1 i4 D) none (fun p2 => op_vI p2.1 none (fun n2 => if n2 = (nI 0) then (k136_41 w (d + 1) i1 i4 j2 p2.2) else (k136_41 w (d + 1) i1 i4 (j2 ||| ((lN 1) <<< (i4.toInt64 &&& 63))) p2.2))))) := by
  refine (q_136_10 sh_ w.1 w.2 d i1 j2 i4 D).trans ?_
  (try simp only [rf_351_2, sf_351, sf_353, reduceIte, Nat.reduceEqDiff, Nat.add_one_ne_zero, Nat.succ_ne_zero, Nat.add_eq_zero_iff, and_false]) <;> rfl
set_option maxRecDepth 100000 in
set_option maxHeartbeats 4000000 in
theorem e136_41 {w : (Nat → Int32) × Nat} {d : Nat} {i1 : Int32} {i4 : Int32} {sj0 : Int64} {D : dy_} : k136_41 w (d + 1) i1 i4 sj0 D = k136_10 w (d + 1) i1 sj0 (i4 + (nI 1)) D := by
  refine (q_136_41 sh_ w.1 w.2 d i1 i4 sj0 D).trans ?_
  (try simp only [reduceIte, Nat.reduceEqDiff, Nat.add_one_ne_zero, Nat.succ_ne_zero, Nat.add_eq_zero_iff, and_false]) <;> rfl
set_option maxRecDepth 100000 in
set_option maxHeartbeats 4000000 in
theorem e136_58 {w : (Nat → Int32) × Nat} {d : Nat} {i1 : Int32} {i4 : Int32} {D : dy_} : k136_58 w (d + 1) i1 i4 D = if (D.1 351 31) ≤ i4 then (mk_inb i1 110 none (some (some (.int (nI 1)), (dI_ (dI_ D 351 8 (D.1 352 i1.toNatClampNeg)) 351 9 ((dI_ D 351 8 (D.1 352 i1.toNatClampNeg)).1 351 31))))) else (mk_inb i4 501 none (mk_inb i1 110 none (if (lg_cmp (((D.2 373 i4.toNatClampNeg) >>> ((D.1 354 i1.toNatClampNeg).toInt64 &&& 63)) &&& (lN 1)) (lN 1)) ≠ (nI 0) then (k136_99 w (d + 1) i1 i4 359 i4 (nI 0) D) else (k136_99 w (d + 1) i1 i4 359 i4 (nI 1) D)))) := by
  refine (q_136_58 sh_ w.1 w.2 d i1 i4 D).trans ?_
  (try simp only [rf_351_1, rf_351_11, rf_351_29, rf_351_3, sf_351, sf_352, sf_354, sf_373, reduceIte, Nat.reduceEqDiff, Nat.add_one_ne_zero, Nat.succ_ne_zero, Nat.add_eq_zero_iff, and_false]) <;> rfl
set_option maxRecDepth 100000 in
set_option maxHeartbeats 4000000 in
theorem e136_99 {w : (Nat → Int32) × Nat} {d : Nat} {i1 : Int32} {i4 : Int32} {sr0 : Nat} {si1 : Int32} {si2 : Int32} {D : dy_} : k136_99 w (d + 1) i1 i4 sr0 si1 si2 D = if (sh_.1 sr0).1 = 2 then (mk_inb si1 (sh_.1 sr0).2 none (k136_103 w (d + 1) i1 i4 (nI 0) (dI_ D sr0 si1.toNatClampNeg (vp_nar .boolean si2)))) else none := by
  refine (q_136_99 sh_ w.1 w.2 d i1 i4 sr0 si1 si2 D).trans ?_
  (try simp only [reduceIte, Nat.reduceEqDiff, Nat.add_one_ne_zero, Nat.succ_ne_zero, Nat.add_eq_zero_iff, and_false]) <;> rfl
set_option maxRecDepth 100000 in
set_option maxHeartbeats 4000000 in
theorem e136_103 {w : (Nat → Int32) × Nat} {d : Nat} {i1 : Int32} {i4 : Int32} {i5 : Int32} {D : dy_} : k136_103 w (d + 1) i1 i4 i5 D = mk_inb i1 110 none (if (D.1 352 i1.toNatClampNeg) ≤ i5 then (k136_58 w (d + 1) i1 (i4 + (nI 1)) D) else (k136_120 w (d + 1) i1 i4 i5 (lN 0) (nI 0) D)) := by
  refine (q_136_103 sh_ w.1 w.2 d i1 i4 i5 D).trans ?_
  (try simp only [rf_351_1, sf_351, sf_352, reduceIte, Nat.reduceEqDiff, Nat.add_one_ne_zero, Nat.succ_ne_zero, Nat.add_eq_zero_iff, and_false]) <;> rfl
set_option maxRecDepth 100000 in
set_option maxHeartbeats 4000000 in
theorem e136_120 {w : (Nat → Int32) × Nat} {d : Nat} {i1 : Int32} {i4 : Int32} {i5 : Int32} {j6 : Int64} {i8 : Int32} {D : dy_} : k136_120 w (d + 1) i1 i4 i5 j6 i8 D = mk_inb i1 110 none (if (D.1 353 i1.toNatClampNeg) ≤ i8 then (op_o (k135_0 w d (nI 0) j6 D) none (fun p1 => op_vI p1.1 none (fun n1 => if n1 ≠ (-1) then (mk_inb (((nI 4) * i4) + i5) 14400 none (k136_103 w (d + 1) i1 i4 (i5 + (nI 1)) (dI_ p1.2 358 (((nI 4) * i4) + i5).toNatClampNeg n1))) else (some (some (.int (nI 0)), p1.2))))) else (mk_inb i4 501 none (op_o (k112_0 w d i1 i8 i5 D) none (fun p2 => op_vI p2.1 none (fun n2 => if (lg_cmp (((D.2 373 i4.toNatClampNeg) >>> (n2.toInt64 &&& 63)) &&& (lN 1)) (lN 1)) ≠ (nI 0) then (k136_167 w (d + 1) i1 i4 i5 i8 j6 p2.2) else (k136_167 w (d + 1) i1 i4 i5 i8 (j6 ||| ((lN 1) <<< (i8.toInt64 &&& 63))) p2.2)))))) := by
  refine (q_136_120 sh_ w.1 w.2 d i1 i4 i5 j6 i8 D).trans ?_
  (try simp only [rf_351_10, rf_351_2, rf_351_29, sf_351, sf_353, sf_358, sf_373, reduceIte, Nat.reduceEqDiff, Nat.add_one_ne_zero, Nat.succ_ne_zero, Nat.add_eq_zero_iff, and_false]) <;> rfl
set_option maxRecDepth 100000 in
set_option maxHeartbeats 4000000 in
theorem e136_167 {w : (Nat → Int32) × Nat} {d : Nat} {i1 : Int32} {i4 : Int32} {i5 : Int32} {i8 : Int32} {sj0 : Int64} {D : dy_} : k136_167 w (d + 1) i1 i4 i5 i8 sj0 D = k136_120 w (d + 1) i1 i4 i5 sj0 (i8 + (nI 1)) D := by
  refine (q_136_167 sh_ w.1 w.2 d i1 i4 i5 i8 sj0 D).trans ?_
  (try simp only [reduceIte, Nat.reduceEqDiff, Nat.add_one_ne_zero, Nat.succ_ne_zero, Nat.add_eq_zero_iff, and_false]) <;> rfl
set_option maxRecDepth 100000 in
set_option maxHeartbeats 4000000 in
theorem e137_0 {w : (Nat → Int32) × Nat} {d : Nat} {i1 : Int32} {i2 : Int32} {D : dy_} : k137_0 w (d + 1) i1 i2 D = op_o (k114_0 w d i1 (dI_ D 351 0 (nI 0))) none (fun p1 => op_vI p1.1 none (fun n1 => if n1 = (nI 0) then (some (some (.int (-102)), p1.2)) else (op_o (k111_0 w d i2.toInt64 (lN 0) (lN 2) p1.2) none (fun p2 => op_vI p2.1 none (fun n2 => if n2 ≠ (nI 0) then (op_o (k122_0 w d i1 p2.2) none (fun p3 => op_vN p3.1 none (if i2 ≠ (nI 0) then (if i2 ≠ (nI 1) then (op_o (k123_0 w d (nI 109) p3.2) none (fun p4 => op_vI p4.1 none (fun n4 => op_o (k136_0 w d (nI 109) p4.2) none (fun p5 => op_vI p5.1 none (fun n5 => if n5 ≠ (nI 0) then (op_o (k122_0 w d i1 p5.2) none (fun p6 => op_vN p6.1 none (k137_88 w (d + 1) i1 (p5.2.1 351 9) p6.2))) else (some (some (.int (-104)), p5.2))))))) else (op_o (k133_0 w d p3.2) none (fun p7 => op_vI p7.1 none (fun n7 => k137_88 w (d + 1) i1 n7 p7.2)))) else (op_o (k130_0 w d p3.2) none (fun p8 => op_vI p8.1 none (fun n8 => k137_88 w (d + 1) i1 n8 p8.2)))))) else (some (some (.int (-102)), p2.2))))))) := by
  refine (q_137_0 sh_ w.1 w.2 d i1 i2 D).trans ?_
  (try simp only [sf_351, reduceIte, Nat.reduceEqDiff, Nat.add_one_ne_zero, Nat.succ_ne_zero, Nat.add_eq_zero_iff, and_false]) <;> rfl
set_option maxRecDepth 100000 in
set_option maxHeartbeats 4000000 in
theorem e137_88 {w : (Nat → Int32) × Nat} {d : Nat} {i1 : Int32} {i3 : Int32} {D : dy_} : k137_88 w (d + 1) i1 i3 D = op_o (k127_0 w d D) none (fun p1 => op_vN p1.1 none (op_o (k123_0 w d i1 p1.2) none (fun p2 => op_vI p2.1 none (fun n2 => some (some (.int i3), p2.2))))) := by
  refine (q_137_88 sh_ w.1 w.2 d i1 i3 D).trans ?_
  (try simp only [sf_351, reduceIte, Nat.reduceEqDiff, Nat.add_one_ne_zero, Nat.succ_ne_zero, Nat.add_eq_zero_iff, and_false]) <;> rfl
set_option maxRecDepth 100000 in
set_option maxHeartbeats 4000000 in
theorem e138_0 {w : (Nat → Int32) × Nat} {d : Nat} {i0 : Int32} {i1 : Int32} {i2 : Int32} {D : dy_} : k138_0 w (d + 1) i0 i1 i2 D = if i0 ≠ (nI 0) then (if i0 ≠ (nI 1) then (if i0 ≠ (nI 2) then (if i1 = i2 then (some (some (.int (nI 0)), D)) else (some (some (.int (nI 1)), D))) else (if i1 = (nI 0) then (some (some (.int (nI 0)), D)) else (if i2 ≠ (nI 0) then (some (some (.int (nI 0)), D)) else (some (some (.int (nI 1)), D))))) else (if i1 ≠ (nI 0) then (some (some (.int (nI 1)), D)) else (if i2 = (nI 0) then (some (some (.int (nI 0)), D)) else (some (some (.int (nI 1)), D))))) else (if i1 = (nI 0) then (some (some (.int (nI 0)), D)) else (if i2 = (nI 0) then (some (some (.int (nI 0)), D)) else (some (some (.int (nI 1)), D)))) := by
  refine (q_138_0 sh_ w.1 w.2 d i0 i1 i2 D).trans ?_
  (try simp only [reduceIte, Nat.reduceEqDiff, Nat.add_one_ne_zero, Nat.succ_ne_zero, Nat.add_eq_zero_iff, and_false]) <;> rfl
set_option maxRecDepth 100000 in
set_option maxHeartbeats 4000000 in
theorem e139_0 {w : (Nat → Int32) × Nat} {d : Nat} {i1 : Int32} {i2 : Int32} {i3 : Int32} {D : dy_} : k139_0 w (d + 1) i1 i2 i3 D = k139_3 w (d + 1) i1 i2 i3 (nI 0) D := by
  refine (q_139_0 sh_ w.1 w.2 d i1 i2 i3 D).trans ?_
  (try simp only [reduceIte, Nat.reduceEqDiff, Nat.add_one_ne_zero, Nat.succ_ne_zero, Nat.add_eq_zero_iff, and_false]) <;> rfl
set_option maxRecDepth 100000 in
set_option maxHeartbeats 4000000 in
theorem e139_3 {w : (Nat → Int32) × Nat} {d : Nat} {i1 : Int32} {i2 : Int32} {i3 : Int32} {i4 : Int32} {D : dy_} : k139_3 w (d + 1) i1 i2 i3 i4 D = if (nI 3600) ≤ i4 then (mk_inb i2 110 none (mk_inb i2 110 none (mk_inb i3 110 none (mk_inb (nI 0) 3600 none (mk_inb (nI 0) 3600 none (mk_inb ((dI_ (dI_ (dI_ D 351 8 (D.1 352 i2.toNatClampNeg)) 351 9 (nI 1)) 360 (nI 0).toNatClampNeg (((nI 60) * ((dI_ (dI_ D 351 8 (D.1 352 i2.toNatClampNeg)) 351 9 (nI 1)).1 354 i2.toNatClampNeg)) + ((dI_ (dI_ D 351 8 (D.1 352 i2.toNatClampNeg)) 351 9 (nI 1)).1 354 i3.toNatClampNeg))).1 360 (nI 0).toNatClampNeg) 3600 none (k139_77 w (d + 1) i1 i2 i3 (nI 0) (dI_ (dI_ (dI_ (dI_ D 351 8 (D.1 352 i2.toNatClampNeg)) 351 9 (nI 1)) 360 (nI 0).toNatClampNeg (((nI 60) * ((dI_ (dI_ D 351 8 (D.1 352 i2.toNatClampNeg)) 351 9 (nI 1)).1 354 i2.toNatClampNeg)) + ((dI_ (dI_ D 351 8 (D.1 352 i2.toNatClampNeg)) 351 9 (nI 1)).1 354 i3.toNatClampNeg))) 375 ((dI_ (dI_ (dI_ D 351 8 (D.1 352 i2.toNatClampNeg)) 351 9 (nI 1)) 360 (nI 0).toNatClampNeg (((nI 60) * ((dI_ (dI_ D 351 8 (D.1 352 i2.toNatClampNeg)) 351 9 (nI 1)).1 354 i2.toNatClampNeg)) + ((dI_ (dI_ D 351 8 (D.1 352 i2.toNatClampNeg)) 351 9 (nI 1)).1 354 i3.toNatClampNeg))).1 360 (nI 0).toNatClampNeg).toNatClampNeg (nI 0))))))))) else (mk_inb i4 3600 none (k139_3 w (d + 1) i1 i2 i3 (i4 + (nI 1)) (dI_ D 375 i4.toNatClampNeg (-1)))) := by
  refine (q_139_3 sh_ w.1 w.2 d i1 i2 i3 i4 D).trans ?_
  (try simp only [rf_351_1, rf_351_12, rf_351_3, rf_351_33, sf_351, sf_352, sf_354, sf_360, sf_375, reduceIte, Nat.reduceEqDiff, Nat.add_one_ne_zero, Nat.succ_ne_zero, Nat.add_eq_zero_iff, and_false]) <;> rfl
set_option maxRecDepth 100000 in
set_option maxHeartbeats 4000000 in
theorem e139_77 {w : (Nat → Int32) × Nat} {d : Nat} {i1 : Int32} {i2 : Int32} {i3 : Int32} {i4 : Int32} {D : dy_} : k139_77 w (d + 1) i1 i2 i3 i4 D = if (D.1 351 9) ≤ i4 then (some (none, D)) else (mk_inb i4 3600 none (mk_inb i4 3600 none (op_o (k113_0 w d i2 ((D.1 360 i4.toNatClampNeg) / (nI 60)) D) none (fun p1 => op_vI p1.1 none (fun n1 => op_o (k113_0 w d i3 ((D.1 360 i4.toNatClampNeg) - (D.1 360 i4.toNatClampNeg) / (nI 60) * (nI 60)) p1.2) none (fun p2 => op_vI p2.1 none (fun n2 => op_o (k138_0 w d i1 n1 n2 p2.2) none (fun p3 => op_vI p3.1 none (fun n3 => mk_inb i4 3600 none (k139_138 w (d + 1) i1 i2 i3 i4 ((D.1 360 i4.toNatClampNeg) / (nI 60)) ((D.1 360 i4.toNatClampNeg) - (D.1 360 i4.toNatClampNeg) / (nI 60) * (nI 60)) (nI 0) (dI_ p3.2 359 i4.toNatClampNeg (vp_nar .boolean n3)))))))))))) := by
  refine (q_139_77 sh_ w.1 w.2 d i1 i2 i3 i4 D).trans ?_
  (try simp only [rf_351_11, rf_351_12, sf_351, sf_359, sf_360, reduceIte, Nat.reduceEqDiff, Nat.add_one_ne_zero, Nat.succ_ne_zero, Nat.add_eq_zero_iff, and_false]) <;> rfl
set_option maxRecDepth 100000 in
set_option maxHeartbeats 4000000 in
theorem e139_138 {w : (Nat → Int32) × Nat} {d : Nat} {i1 : Int32} {i2 : Int32} {i3 : Int32} {i4 : Int32} {i5 : Int32} {i6 : Int32} {i7 : Int32} {D : dy_} : k139_138 w (d + 1) i1 i2 i3 i4 i5 i6 i7 D = if (D.1 351 8) ≤ i7 then (k139_77 w (d + 1) i1 i2 i3 (i4 + (nI 1)) D) else (op_o (k112_0 w d i2 i5 i7 D) none (fun p1 => op_vI p1.1 none (fun n1 => op_o (k112_0 w d i3 i6 i7 p1.2) none (fun p2 => op_vI p2.1 none (fun n2 => mk_inb (((nI 60) * n1) + n2) 3600 none (if (p2.2.1 375 (((nI 60) * n1) + n2).toNatClampNeg) ≠ (-1) then (k139_214 w (d + 1) i1 i2 i3 i4 i5 i6 i7 (((nI 60) * n1) + n2) p2.2) else (mk_inb (((nI 60) * n1) + n2) 3600 none (mk_inb ((dI_ p2.2 375 (((nI 60) * n1) + n2).toNatClampNeg (p2.2.1 351 9)).1 351 9) 3600 none (k139_214 w (d + 1) i1 i2 i3 i4 i5 i6 i7 (((nI 60) * n1) + n2) (dI_ (dI_ (dI_ p2.2 375 (((nI 60) * n1) + n2).toNatClampNeg (p2.2.1 351 9)) 360 ((dI_ p2.2 375 (((nI 60) * n1) + n2).toNatClampNeg (p2.2.1 351 9)).1 351 9).toNatClampNeg (((nI 60) * n1) + n2)) 351 9 (((dI_ (dI_ p2.2 375 (((nI 60) * n1) + n2).toNatClampNeg (p2.2.1 351 9)) 360 ((dI_ p2.2 375 (((nI 60) * n1) + n2).toNatClampNeg (p2.2.1 351 9)).1 351 9).toNatClampNeg (((nI 60) * n1) + n2)).1 351 9) + (nI 1)))))))))))) := by
  refine (q_139_138 sh_ w.1 w.2 d i1 i2 i3 i4 i5 i6 i7 D).trans ?_
  (try simp only [rf_351_12, rf_351_33, sf_351, sf_360, sf_375, reduceIte, Nat.reduceEqDiff, Nat.add_one_ne_zero, Nat.succ_ne_zero, Nat.add_eq_zero_iff, and_false]) <;> rfl
set_option maxRecDepth 100000 in
set_option maxHeartbeats 4000000 in
theorem e139_214 {w : (Nat → Int32) × Nat} {d : Nat} {i1 : Int32} {i2 : Int32} {i3 : Int32} {i4 : Int32} {i5 : Int32} {i6 : Int32} {i7 : Int32} {i8 : Int32} {D : dy_} : k139_214 w (d + 1) i1 i2 i3 i4 i5 i6 i7 i8 D = mk_inb i8 3600 none (mk_inb (((nI 4) * i4) + i7) 14400 none (k139_138 w (d + 1) i1 i2 i3 i4 i5 i6 (i7 + (nI 1)) (dI_ D 358 (((nI 4) * i4) + i7).toNatClampNeg (D.1 375 i8.toNatClampNeg)))) := by
  refine (q_139_214 sh_ w.1 w.2 d i1 i2 i3 i4 i5 i6 i7 i8 D).trans ?_
  (try simp only [rf_351_10, rf_351_33, sf_351, sf_358, sf_375, reduceIte, Nat.reduceEqDiff, Nat.add_one_ne_zero, Nat.succ_ne_zero, Nat.add_eq_zero_iff, and_false]) <;> rfl
set_option maxRecDepth 100000 in
set_option maxHeartbeats 4000000 in
theorem e140_0 {w : (Nat → Int32) × Nat} {d : Nat} {i1 : Int32} {j2 : Int64} {i4 : Int32} {D : dy_} : k140_0 w (d + 1) i1 j2 i4 D = k140_6 w (d + 1) i1 j2 i4 (lN 0) (nI 0) D := by
  refine (q_140_0 sh_ w.1 w.2 d i1 j2 i4 D).trans ?_
  (try simp only [reduceIte, Nat.reduceEqDiff, Nat.add_one_ne_zero, Nat.succ_ne_zero, Nat.add_eq_zero_iff, and_false]) <;> rfl
set_option maxRecDepth 100000 in
set_option maxHeartbeats 4000000 in
theorem e140_6 {w : (Nat → Int32) × Nat} {d : Nat} {i1 : Int32} {j2 : Int64} {i4 : Int32} {j5 : Int64} {i7 : Int32} {D : dy_} : k140_6 w (d + 1) i1 j2 i4 j5 i7 D = mk_inb i1 110 none (if (D.1 353 i1.toNatClampNeg) ≤ i7 then (some (some (.long j5), D)) else (if (lg_cmp ((j2 >>> (i7.toInt64 &&& 63)) &&& (lN 1)) (lN 1)) ≠ (nI 0) then (k140_47 w (d + 1) i1 j2 i4 i7 j5 D) else (op_o (k112_0 w d i1 i7 i4 D) none (fun p1 => op_vI p1.1 none (fun n1 => k140_47 w (d + 1) i1 j2 i4 i7 (j5 ||| ((lN 1) <<< (n1.toInt64 &&& 63))) p1.2))))) := by
  refine (q_140_6 sh_ w.1 w.2 d i1 j2 i4 j5 i7 D).trans ?_
  (try simp only [rf_351_2, sf_351, sf_353, reduceIte, Nat.reduceEqDiff, Nat.add_one_ne_zero, Nat.succ_ne_zero, Nat.add_eq_zero_iff, and_false]) <;> rfl
set_option maxRecDepth 100000 in
set_option maxHeartbeats 4000000 in
theorem e140_47 {w : (Nat → Int32) × Nat} {d : Nat} {i1 : Int32} {j2 : Int64} {i4 : Int32} {i7 : Int32} {sj0 : Int64} {D : dy_} : k140_47 w (d + 1) i1 j2 i4 i7 sj0 D = k140_6 w (d + 1) i1 j2 i4 sj0 (i7 + (nI 1)) D := by
  refine (q_140_47 sh_ w.1 w.2 d i1 j2 i4 i7 sj0 D).trans ?_
  (try simp only [reduceIte, Nat.reduceEqDiff, Nat.add_one_ne_zero, Nat.succ_ne_zero, Nat.add_eq_zero_iff, and_false]) <;> rfl
set_option maxRecDepth 100000 in
set_option maxHeartbeats 4000000 in
theorem e141_0 {w : (Nat → Int32) × Nat} {d : Nat} {i1 : Int32} {j2 : Int64} {D : dy_} : k141_0 w (d + 1) i1 j2 D = k141_6 w (d + 1) i1 j2 (nI 0) (nI 0) D := by
  refine (q_141_0 sh_ w.1 w.2 d i1 j2 D).trans ?_
  (try simp only [reduceIte, Nat.reduceEqDiff, Nat.add_one_ne_zero, Nat.succ_ne_zero, Nat.add_eq_zero_iff, and_false]) <;> rfl
set_option maxRecDepth 100000 in
set_option maxHeartbeats 4000000 in
theorem e141_6 {w : (Nat → Int32) × Nat} {d : Nat} {i1 : Int32} {j2 : Int64} {i4 : Int32} {i5 : Int32} {D : dy_} : k141_6 w (d + 1) i1 j2 i4 i5 D = mk_inb i1 110 none (if (D.1 353 i1.toNatClampNeg) ≤ i5 then (if i4 = 0 ∨ i4 = 1 then some (some (.int i4), D) else none) else (if i4 ≠ (nI 0) then (k141_43 w (d + 1) i1 j2 i5 D) else (if (lg_cmp ((j2 >>> (i5.toInt64 &&& 63)) &&& (lN 1)) (lN 1)) ≠ (nI 0) then (k141_47 w (d + 1) i1 j2 i5 D) else (op_o (k113_0 w d i1 i5 D) none (fun p1 => op_vI p1.1 none (fun n1 => if n1 = (nI 0) then (k141_47 w (d + 1) i1 j2 i5 p1.2) else (k141_43 w (d + 1) i1 j2 i5 p1.2))))))) := by
  refine (q_141_6 sh_ w.1 w.2 d i1 j2 i4 i5 D).trans ?_
  (try simp only [rf_351_2, sf_351, sf_353, reduceIte, Nat.reduceEqDiff, Nat.add_one_ne_zero, Nat.succ_ne_zero, Nat.add_eq_zero_iff, and_false]) <;> rfl
set_option maxRecDepth 100000 in
set_option maxHeartbeats 4000000 in
theorem e141_43 {w : (Nat → Int32) × Nat} {d : Nat} {i1 : Int32} {j2 : Int64} {i5 : Int32} {D : dy_} : k141_43 w (d + 1) i1 j2 i5 D = k141_48 w (d + 1) i1 j2 i5 (nI 1) D := by
  refine (q_141_43 sh_ w.1 w.2 d i1 j2 i5 D).trans ?_
  (try simp only [reduceIte, Nat.reduceEqDiff, Nat.add_one_ne_zero, Nat.succ_ne_zero, Nat.add_eq_zero_iff, and_false]) <;> rfl
set_option maxRecDepth 100000 in
set_option maxHeartbeats 4000000 in
theorem e141_47 {w : (Nat → Int32) × Nat} {d : Nat} {i1 : Int32} {j2 : Int64} {i5 : Int32} {D : dy_} : k141_47 w (d + 1) i1 j2 i5 D = k141_48 w (d + 1) i1 j2 i5 (nI 0) D := by
  refine (q_141_47 sh_ w.1 w.2 d i1 j2 i5 D).trans ?_
  (try simp only [reduceIte, Nat.reduceEqDiff, Nat.add_one_ne_zero, Nat.succ_ne_zero, Nat.add_eq_zero_iff, and_false]) <;> rfl
set_option maxRecDepth 100000 in
set_option maxHeartbeats 4000000 in
theorem e141_48 {w : (Nat → Int32) × Nat} {d : Nat} {i1 : Int32} {j2 : Int64} {i5 : Int32} {si0 : Int32} {D : dy_} : k141_48 w (d + 1) i1 j2 i5 si0 D = k141_6 w (d + 1) i1 j2 si0 (i5 + (nI 1)) D := by
  refine (q_141_48 sh_ w.1 w.2 d i1 j2 i5 si0 D).trans ?_
  (try simp only [reduceIte, Nat.reduceEqDiff, Nat.add_one_ne_zero, Nat.succ_ne_zero, Nat.add_eq_zero_iff, and_false]) <;> rfl
set_option maxRecDepth 100000 in
set_option maxHeartbeats 4000000 in
theorem e142_0 {w : (Nat → Int32) × Nat} {d : Nat} {i1 : Int32} {i2 : Int32} {D : dy_} : k142_0 w (d + 1) i1 i2 D = mk_inb i1 110 none (mk_inb i1 110 none (op_o (k113_0 w d i1 ((dI_ D 351 31 (nI 0)).1 354 i1.toNatClampNeg) (dI_ D 351 31 (nI 0))) none (fun p1 => op_vI p1.1 none (fun n1 => if n1 = (nI 0) then (k142_38 w (d + 1) i1 i2 ((dI_ D 351 31 (nI 0)).1 354 i1.toNatClampNeg) (lN 0) p1.2) else (mk_inb i2 110 none (k142_38 w (d + 1) i1 i2 ((dI_ D 351 31 (nI 0)).1 354 i1.toNatClampNeg) ((lN 1) <<< ((p1.2.1 354 i2.toNatClampNeg).toInt64 &&& 63)) p1.2)))))) := by
  refine (q_142_0 sh_ w.1 w.2 d i1 i2 D).trans ?_
  (try simp only [rf_351_3, sf_351, sf_354, reduceIte, Nat.reduceEqDiff, Nat.add_one_ne_zero, Nat.succ_ne_zero, Nat.add_eq_zero_iff, and_false]) <;> rfl
set_option maxRecDepth 100000 in
set_option maxHeartbeats 4000000 in
theorem e142_38 {w : (Nat → Int32) × Nat} {d : Nat} {i1 : Int32} {i2 : Int32} {si1 : Int32} {sj2 : Int64} {D : dy_} : k142_38 w (d + 1) i1 i2 si1 sj2 D = op_o (k135_0 w d si1 sj2 D) none (fun p1 => op_vI p1.1 none (fun n1 => k142_44 w (d + 1) i1 i2 (nI 0) p1.2)) := by
  refine (q_142_38 sh_ w.1 w.2 d i1 i2 si1 sj2 D).trans ?_
  (try simp only [sf_351, reduceIte, Nat.reduceEqDiff, Nat.add_one_ne_zero, Nat.succ_ne_zero, Nat.add_eq_zero_iff, and_false]) <;> rfl
set_option maxRecDepth 100000 in
set_option maxHeartbeats 4000000 in
theorem e142_44 {w : (Nat → Int32) × Nat} {d : Nat} {i1 : Int32} {i2 : Int32} {i3 : Int32} {D : dy_} : k142_44 w (d + 1) i1 i2 i3 D = if (D.1 351 31) ≤ i3 then (mk_inb i1 110 none (some (some (.int (nI 1)), (dI_ (dI_ D 351 8 (D.1 352 i1.toNatClampNeg)) 351 9 ((dI_ D 351 8 (D.1 352 i1.toNatClampNeg)).1 351 31))))) else (mk_inb i3 501 none (op_o (k141_0 w d i2 (D.2 373 i3.toNatClampNeg) D) none (fun p1 => op_vI p1.1 none (fun n1 => mk_inb i3 3600 none (k142_72 w (d + 1) i1 i2 i3 (nI 0) (dI_ p1.2 359 i3.toNatClampNeg (vp_nar .boolean n1))))))) := by
  refine (q_142_44 sh_ w.1 w.2 d i1 i2 i3 D).trans ?_
  (try simp only [rf_351_1, rf_351_11, rf_351_29, sf_351, sf_352, sf_359, sf_373, reduceIte, Nat.reduceEqDiff, Nat.add_one_ne_zero, Nat.succ_ne_zero, Nat.add_eq_zero_iff, and_false]) <;> rfl
set_option maxRecDepth 100000 in
set_option maxHeartbeats 4000000 in
theorem e142_72 {w : (Nat → Int32) × Nat} {d : Nat} {i1 : Int32} {i2 : Int32} {i3 : Int32} {i4 : Int32} {D : dy_} : k142_72 w (d + 1) i1 i2 i3 i4 D = mk_inb i1 110 none (if (D.1 352 i1.toNatClampNeg) ≤ i4 then (k142_44 w (d + 1) i1 i2 (i3 + (nI 1)) D) else (mk_inb i3 501 none (op_o (k112_0 w d i1 (D.1 374 i3.toNatClampNeg) i4 D) none (fun p1 => op_vI p1.1 none (fun n1 => mk_inb i3 501 none (op_o (k140_0 w d i2 (p1.2.2 373 i3.toNatClampNeg) i4 p1.2) none (fun p2 => op_vL p2.1 none (fun n2 => op_o (k113_0 w d i1 n1 p2.2) none (fun p3 => op_vI p3.1 none (fun n3 => if n3 = (nI 0) then (k142_142 w (d + 1) i1 i2 i3 i4 n1 n2 p3.2) else (mk_inb i2 110 none (k142_142 w (d + 1) i1 i2 i3 i4 n1 (n2 ||| ((lN 1) <<< ((p3.2.1 354 i2.toNatClampNeg).toInt64 &&& 63))) p3.2)))))))))))) := by
  refine (q_142_72 sh_ w.1 w.2 d i1 i2 i3 i4 D).trans ?_
  (try simp only [rf_351_1, rf_351_29, rf_351_3, rf_351_30, sf_351, sf_352, sf_354, sf_373, sf_374, reduceIte, Nat.reduceEqDiff, Nat.add_one_ne_zero, Nat.succ_ne_zero, Nat.add_eq_zero_iff, and_false]) <;> rfl
set_option maxRecDepth 100000 in
set_option maxHeartbeats 4000000 in
theorem e142_142 {w : (Nat → Int32) × Nat} {d : Nat} {i1 : Int32} {i2 : Int32} {i3 : Int32} {i4 : Int32} {si1 : Int32} {sj2 : Int64} {D : dy_} : k142_142 w (d + 1) i1 i2 i3 i4 si1 sj2 D = op_o (k135_0 w d si1 sj2 D) none (fun p1 => op_vI p1.1 none (fun n1 => if n1 ≠ (-1) then (mk_inb (((nI 4) * i3) + i4) 14400 none (k142_72 w (d + 1) i1 i2 i3 (i4 + (nI 1)) (dI_ p1.2 358 (((nI 4) * i3) + i4).toNatClampNeg n1))) else (some (some (.int (nI 0)), p1.2)))) := by
  refine (q_142_142 sh_ w.1 w.2 d i1 i2 i3 i4 si1 sj2 D).trans ?_
  (try simp only [rf_351_10, sf_351, sf_358, reduceIte, Nat.reduceEqDiff, Nat.add_one_ne_zero, Nat.succ_ne_zero, Nat.add_eq_zero_iff, and_false]) <;> rfl
set_option maxRecDepth 100000 in
set_option maxHeartbeats 4000000 in
theorem e143_0 {w : (Nat → Int32) × Nat} {d : Nat} {i1 : Int32} {D : dy_} : k143_0 w (d + 1) i1 D = op_o (k135_0 w d (nI 1) (lN 0) (dI_ D 351 31 (nI 0))) none (fun p1 => op_vI p1.1 none (fun n1 => k143_14 w (d + 1) i1 (nI 0) p1.2)) := by
  refine (q_143_0 sh_ w.1 w.2 d i1 D).trans ?_
  (try simp only [sf_351, reduceIte, Nat.reduceEqDiff, Nat.add_one_ne_zero, Nat.succ_ne_zero, Nat.add_eq_zero_iff, and_false]) <;> rfl
set_option maxRecDepth 100000 in
set_option maxHeartbeats 4000000 in
theorem e143_14 {w : (Nat → Int32) × Nat} {d : Nat} {i1 : Int32} {i2 : Int32} {D : dy_} : k143_14 w (d + 1) i1 i2 D = if (D.1 351 31) ≤ i2 then (mk_inb i1 110 none (some (some (.int (nI 1)), (dI_ (dI_ D 351 8 (D.1 352 i1.toNatClampNeg)) 351 9 ((dI_ D 351 8 (D.1 352 i1.toNatClampNeg)).1 351 31))))) else (if i2 = (nI 0) then (k143_45 w (d + 1) i1 i2 359 i2 D) else (mk_inb i2 501 none (op_o (k141_0 w d i1 (D.2 373 i2.toNatClampNeg) D) none (fun p1 => op_vI p1.1 none (fun n1 => if n1 = (nI 0) then (k143_50 w (d + 1) i1 i2 359 i2 (nI 0) p1.2) else (k143_45 w (d + 1) i1 i2 359 i2 p1.2)))))) := by
  refine (q_143_14 sh_ w.1 w.2 d i1 i2 D).trans ?_
  (try simp only [rf_351_1, rf_351_11, rf_351_29, sf_351, sf_352, sf_373, reduceIte, Nat.reduceEqDiff, Nat.add_one_ne_zero, Nat.succ_ne_zero, Nat.add_eq_zero_iff, and_false]) <;> rfl
set_option maxRecDepth 100000 in
set_option maxHeartbeats 4000000 in
theorem e143_45 {w : (Nat → Int32) × Nat} {d : Nat} {i1 : Int32} {i2 : Int32} {sr0 : Nat} {si1 : Int32} {D : dy_} : k143_45 w (d + 1) i1 i2 sr0 si1 D = k143_50 w (d + 1) i1 i2 sr0 si1 (nI 1) D := by
  refine (q_143_45 sh_ w.1 w.2 d i1 i2 sr0 si1 D).trans ?_
  (try simp only [reduceIte, Nat.reduceEqDiff, Nat.add_one_ne_zero, Nat.succ_ne_zero, Nat.add_eq_zero_iff, and_false]) <;> rfl
set_option maxRecDepth 100000 in
set_option maxHeartbeats 4000000 in
theorem e143_50 {w : (Nat → Int32) × Nat} {d : Nat} {i1 : Int32} {i2 : Int32} {sr0 : Nat} {si1 : Int32} {si2 : Int32} {D : dy_} : k143_50 w (d + 1) i1 i2 sr0 si1 si2 D = if (sh_.1 sr0).1 = 2 then (mk_inb si1 (sh_.1 sr0).2 none (k143_53 w (d + 1) i1 i2 (nI 0) (dI_ D sr0 si1.toNatClampNeg (vp_nar .boolean si2)))) else none := by
  refine (q_143_50 sh_ w.1 w.2 d i1 i2 sr0 si1 si2 D).trans ?_
  (try simp only [reduceIte, Nat.reduceEqDiff, Nat.add_one_ne_zero, Nat.succ_ne_zero, Nat.add_eq_zero_iff, and_false]) <;> rfl
set_option maxRecDepth 100000 in
set_option maxHeartbeats 4000000 in
theorem e143_53 {w : (Nat → Int32) × Nat} {d : Nat} {i1 : Int32} {i2 : Int32} {i3 : Int32} {D : dy_} : k143_53 w (d + 1) i1 i2 i3 D = mk_inb i1 110 none (if (D.1 352 i1.toNatClampNeg) ≤ i3 then (k143_14 w (d + 1) i1 (i2 + (nI 1)) D) else (if i2 ≠ (nI 0) then (mk_inb i2 501 none (op_o (k140_0 w d i1 (D.2 373 i2.toNatClampNeg) i3 D) none (fun p1 => op_vL p1.1 none (fun n1 => k143_96 w (d + 1) i1 i2 i3 n1 p1.2)))) else (mk_inb i1 110 none (op_o (k112_0 w d i1 (D.1 354 i1.toNatClampNeg) i3 D) none (fun p2 => op_vI p2.1 none (fun n2 => k143_96 w (d + 1) i1 i2 i3 ((lN 1) <<< (n2.toInt64 &&& 63)) p2.2)))))) := by
  refine (q_143_53 sh_ w.1 w.2 d i1 i2 i3 D).trans ?_
  (try simp only [rf_351_1, rf_351_29, rf_351_3, sf_351, sf_352, sf_354, sf_373, reduceIte, Nat.reduceEqDiff, Nat.add_one_ne_zero, Nat.succ_ne_zero, Nat.add_eq_zero_iff, and_false]) <;> rfl
set_option maxRecDepth 100000 in
set_option maxHeartbeats 4000000 in
theorem e143_96 {w : (Nat → Int32) × Nat} {d : Nat} {i1 : Int32} {i2 : Int32} {i3 : Int32} {sj0 : Int64} {D : dy_} : k143_96 w (d + 1) i1 i2 i3 sj0 D = op_o (k141_0 w d i1 sj0 D) none (fun p1 => op_vI p1.1 none (fun n1 => if n1 = (nI 0) then (k143_126 w (d + 1) i1 i2 i3 (nI 0) sj0 p1.2) else (mk_inb i1 110 none (k143_126 w (d + 1) i1 i2 i3 (nI 0) (sj0 ||| ((lN 1) <<< ((p1.2.1 354 i1.toNatClampNeg).toInt64 &&& 63))) p1.2)))) := by
  refine (q_143_96 sh_ w.1 w.2 d i1 i2 i3 sj0 D).trans ?_
  (try simp only [rf_351_3, sf_351, sf_354, reduceIte, Nat.reduceEqDiff, Nat.add_one_ne_zero, Nat.succ_ne_zero, Nat.add_eq_zero_iff, and_false]) <;> rfl
set_option maxRecDepth 100000 in
set_option maxHeartbeats 4000000 in
theorem e143_126 {w : (Nat → Int32) × Nat} {d : Nat} {i1 : Int32} {i2 : Int32} {i3 : Int32} {si1 : Int32} {sj2 : Int64} {D : dy_} : k143_126 w (d + 1) i1 i2 i3 si1 sj2 D = op_o (k135_0 w d si1 sj2 D) none (fun p1 => op_vI p1.1 none (fun n1 => if n1 ≠ (-1) then (mk_inb (((nI 4) * i2) + i3) 14400 none (k143_53 w (d + 1) i1 i2 (i3 + (nI 1)) (dI_ p1.2 358 (((nI 4) * i2) + i3).toNatClampNeg n1))) else (some (some (.int (nI 0)), p1.2)))) := by
  refine (q_143_126 sh_ w.1 w.2 d i1 i2 i3 si1 sj2 D).trans ?_
  (try simp only [rf_351_10, sf_351, sf_358, reduceIte, Nat.reduceEqDiff, Nat.add_one_ne_zero, Nat.succ_ne_zero, Nat.add_eq_zero_iff, and_false]) <;> rfl
set_option maxRecDepth 100000 in
set_option maxHeartbeats 4000000 in
theorem e144_0 {w : (Nat → Int32) × Nat} {d : Nat} {i1 : Int32} {i2 : Int32} {i3 : Int32} {i4 : Int32} {D : dy_} : k144_0 w (d + 1) i1 i2 i3 i4 D = if (nI 4) ≤ i2 then (if i2 ≠ (nI 4) then (if i2 ≠ (nI 5) then (if i2 ≠ (nI 6) then (op_o (k122_0 w d i3 D) none (fun p1 => op_vN p1.1 none (k144_75 w (d + 1) i1 (nI 1) (nI 0) p1.2))) else (op_o (k136_0 w d i3 D) none (fun p2 => op_vI p2.1 none (fun n2 => k144_112 w (d + 1) i1 n2 p2.2)))) else (op_o (k143_0 w d i3 D) none (fun p3 => op_vI p3.1 none (fun n3 => k144_112 w (d + 1) i1 n3 p3.2)))) else (op_o (k142_0 w d i3 i4 D) none (fun p4 => op_vI p4.1 none (fun n4 => k144_112 w (d + 1) i1 n4 p4.2)))) else (op_o (k139_0 w d i2 i3 i4 D) none (fun p5 => op_vN p5.1 none (k144_112 w (d + 1) i1 (nI 1) p5.2))) := by
  refine (q_144_0 sh_ w.1 w.2 d i1 i2 i3 i4 D).trans ?_
  (try simp only [sf_351, reduceIte, Nat.reduceEqDiff, Nat.add_one_ne_zero, Nat.succ_ne_zero, Nat.add_eq_zero_iff, and_false]) <;> rfl
set_option maxRecDepth 100000 in
set_option maxHeartbeats 4000000 in
theorem e144_75 {w : (Nat → Int32) × Nat} {d : Nat} {i1 : Int32} {i5 : Int32} {i6 : Int32} {D : dy_} : k144_75 w (d + 1) i1 i5 i6 D = if (D.1 351 9) ≤ i6 then (k144_112 w (d + 1) i1 i5 D) else (mk_inb i6 3600 none (if (D.1 359 i6.toNatClampNeg) ≠ (nI 0) then (k144_105 w (d + 1) i1 i5 i6 359 i6 (nI 0) D) else (k144_105 w (d + 1) i1 i5 i6 359 i6 (nI 1) D))) := by
  refine (q_144_75 sh_ w.1 w.2 d i1 i5 i6 D).trans ?_
  (try simp only [rf_351_11, sf_351, sf_359, reduceIte, Nat.reduceEqDiff, Nat.add_one_ne_zero, Nat.succ_ne_zero, Nat.add_eq_zero_iff, and_false]) <;> rfl
set_option maxRecDepth 100000 in
set_option maxHeartbeats 4000000 in
theorem e144_105 {w : (Nat → Int32) × Nat} {d : Nat} {i1 : Int32} {i5 : Int32} {i6 : Int32} {sr0 : Nat} {si1 : Int32} {si2 : Int32} {D : dy_} : k144_105 w (d + 1) i1 i5 i6 sr0 si1 si2 D = if (sh_.1 sr0).1 = 2 then (mk_inb si1 (sh_.1 sr0).2 none (k144_75 w (d + 1) i1 i5 (i6 + (nI 1)) (dI_ D sr0 si1.toNatClampNeg (vp_nar .boolean si2)))) else none := by
  refine (q_144_105 sh_ w.1 w.2 d i1 i5 i6 sr0 si1 si2 D).trans ?_
  (try simp only [reduceIte, Nat.reduceEqDiff, Nat.add_one_ne_zero, Nat.succ_ne_zero, Nat.add_eq_zero_iff, and_false]) <;> rfl
set_option maxRecDepth 100000 in
set_option maxHeartbeats 4000000 in
theorem e144_112 {w : (Nat → Int32) × Nat} {d : Nat} {i1 : Int32} {i5 : Int32} {D : dy_} : k144_112 w (d + 1) i1 i5 D = if i5 ≠ (nI 0) then (op_o (k127_0 w d D) none (fun p1 => op_vN p1.1 none (op_o (k123_0 w d i1 p1.2) none (fun p2 => op_vI p2.1 none (fun n2 => if n2 = 0 ∨ n2 = 1 then some (some (.int n2), p2.2) else none))))) else (some (some (.int (nI 0)), D)) := by
  refine (q_144_112 sh_ w.1 w.2 d i1 i5 D).trans ?_
  (try simp only [sf_351, reduceIte, Nat.reduceEqDiff, Nat.add_one_ne_zero, Nat.succ_ne_zero, Nat.add_eq_zero_iff, and_false]) <;> rfl
set_option maxRecDepth 100000 in
set_option maxHeartbeats 4000000 in
theorem e145_0 {w : (Nat → Int32) × Nat} {d : Nat} {i1 : Int32} {i2 : Int32} {i3 : Int32} {i4 : Int32} {D : dy_} : k145_0 w (d + 1) i1 i2 i3 i4 D = op_o (k114_0 w d i1 (dI_ D 351 0 (nI 0))) none (fun p1 => op_vI p1.1 none (fun n1 => if n1 = (nI 0) then (some (some (.int (-102)), p1.2)) else (op_o (k111_0 w d i2.toInt64 (lN 0) (lN 7) p1.2) none (fun p2 => op_vI p2.1 none (fun n2 => if n2 = (nI 0) then (some (some (.int (-102)), p2.2)) else (op_o (k114_0 w d i3 p2.2) none (fun p3 => op_vI p3.1 none (fun n3 => if n3 = (nI 0) then (some (some (.int (-102)), p3.2)) else (if (nI 5) ≤ i2 then (k145_47 w (d + 1) i1 i2 i3 i4 p3.2) else (op_o (k114_0 w d i4 p3.2) none (fun p4 => op_vI p4.1 none (fun n4 => if n4 ≠ (nI 0) then (k145_47 w (d + 1) i1 i2 i3 i4 p4.2) else (some (some (.int (-102)), p4.2)))))))))))))) := by
  refine (q_145_0 sh_ w.1 w.2 d i1 i2 i3 i4 D).trans ?_
  (try simp only [sf_351, reduceIte, Nat.reduceEqDiff, Nat.add_one_ne_zero, Nat.succ_ne_zero, Nat.add_eq_zero_iff, and_false]) <;> rfl
set_option maxRecDepth 100000 in
set_option maxHeartbeats 4000000 in
theorem e145_47 {w : (Nat → Int32) × Nat} {d : Nat} {i1 : Int32} {i2 : Int32} {i3 : Int32} {i4 : Int32} {D : dy_} : k145_47 w (d + 1) i1 i2 i3 i4 D = if (nI 5) ≤ i2 then (k145_71 w (d + 1) i1 i2 i3 i4 D) else (mk_inb i3 110 none (mk_inb i4 110 none (if (D.1 352 i3.toNatClampNeg) = (D.1 352 i4.toNatClampNeg) then (k145_71 w (d + 1) i1 i2 i3 i4 D) else (some (some (.int (-103)), D))))) := by
  refine (q_145_47 sh_ w.1 w.2 d i1 i2 i3 i4 D).trans ?_
  (try simp only [rf_351_1, sf_351, sf_352, reduceIte, Nat.reduceEqDiff, Nat.add_one_ne_zero, Nat.succ_ne_zero, Nat.add_eq_zero_iff, and_false]) <;> rfl
set_option maxRecDepth 100000 in
set_option maxHeartbeats 4000000 in
theorem e145_71 {w : (Nat → Int32) × Nat} {d : Nat} {i1 : Int32} {i2 : Int32} {i3 : Int32} {i4 : Int32} {D : dy_} : k145_71 w (d + 1) i1 i2 i3 i4 D = op_o (k144_0 w d i1 i2 i3 i4 D) none (fun p1 => op_vI p1.1 none (fun n1 => if n1 = (nI 0) then (some (some (.int (-104)), p1.2)) else (mk_inb i1 110 none (some (some (.int (p1.2.1 353 i1.toNatClampNeg)), p1.2))))) := by
  refine (q_145_71 sh_ w.1 w.2 d i1 i2 i3 i4 D).trans ?_
  (try simp only [rf_351_2, sf_351, sf_353, reduceIte, Nat.reduceEqDiff, Nat.add_one_ne_zero, Nat.succ_ne_zero, Nat.add_eq_zero_iff, and_false]) <;> rfl
set_option maxRecDepth 100000 in
set_option maxHeartbeats 4000000 in
theorem e146_0 {w : (Nat → Int32) × Nat} {d : Nat} {i1 : Int32} {i2 : Int32} {i3 : Int32} {i4 : Int32} {i5 : Int32} {D : dy_} : k146_0 w (d + 1) i1 i2 i3 i4 i5 D = if (((dI_ D 351 0 (nI 0)).1 351 7) + (nI 20)) ≤ (nI 500) then (k146_24 w (d + 1) i1 i2 i3 i4 i5 (nI 0) (dI_ D 351 0 (nI 0))) else (some (some (.int (-104)), (dI_ D 351 0 (nI 0)))) := by
  refine (q_146_0 sh_ w.1 w.2 d i1 i2 i3 i4 i5 D).trans ?_
  (try simp only [sf_351, reduceIte, Nat.reduceEqDiff, Nat.add_one_ne_zero, Nat.succ_ne_zero, Nat.add_eq_zero_iff, and_false]) <;> rfl
set_option maxRecDepth 100000 in
set_option maxHeartbeats 4000000 in
theorem e146_24 {w : (Nat → Int32) × Nat} {d : Nat} {i1 : Int32} {i2 : Int32} {i3 : Int32} {i4 : Int32} {i5 : Int32} {i6 : Int32} {D : dy_} : k146_24 w (d + 1) i1 i2 i3 i4 i5 i6 D = if (nI 20) ≤ i6 then (some (some (.int (D.1 351 7)), D)) else (if (nI 4) ≤ i6 then (if (nI 8) ≤ i6 then (if (nI 12) ≤ i6 then (if (nI 16) ≤ i6 then (k146_77 w (d + 1) i1 i2 i3 i4 i5 i6 i5 D) else (k146_77 w (d + 1) i1 i2 i3 i4 i5 i6 i4 D)) else (k146_77 w (d + 1) i1 i2 i3 i4 i5 i6 i3 D)) else (k146_77 w (d + 1) i1 i2 i3 i4 i5 i6 i2 D)) else (k146_77 w (d + 1) i1 i2 i3 i4 i5 i6 i1 D)) := by
  refine (q_146_24 sh_ w.1 w.2 d i1 i2 i3 i4 i5 i6 D).trans ?_
  (try simp only [sf_351, reduceIte, Nat.reduceEqDiff, Nat.add_one_ne_zero, Nat.succ_ne_zero, Nat.add_eq_zero_iff, and_false]) <;> rfl
set_option maxRecDepth 100000 in
set_option maxHeartbeats 4000000 in
theorem e146_77 {w : (Nat → Int32) × Nat} {d : Nat} {i1 : Int32} {i2 : Int32} {i3 : Int32} {i4 : Int32} {i5 : Int32} {i6 : Int32} {si0 : Int32} {D : dy_} : k146_77 w (d + 1) i1 i2 i3 i4 i5 i6 si0 D = mk_inb (D.1 351 7) 500 none (k146_24 w (d + 1) i1 i2 i3 i4 i5 (i6 + (nI 1)) (dI_ (dI_ D 357 (D.1 351 7).toNatClampNeg (vp_nar .byte ((si0 >>> (((nI 24) - ((nI 8) * (i6 - i6 / (nI 4) * (nI 4)))) &&& 31)).toInt8.toInt32))) 351 7 (((dI_ D 357 (D.1 351 7).toNatClampNeg (vp_nar .byte ((si0 >>> (((nI 24) - ((nI 8) * (i6 - i6 / (nI 4) * (nI 4)))) &&& 31)).toInt8.toInt32))).1 351 7) + (nI 1)))) := by
  refine (q_146_77 sh_ w.1 w.2 d i1 i2 i3 i4 i5 i6 si0 D).trans ?_
  (try simp only [rf_351_6, sf_351, sf_357, reduceIte, Nat.reduceEqDiff, Nat.add_one_ne_zero, Nat.succ_ne_zero, Nat.add_eq_zero_iff, and_false]) <;> rfl
set_option maxRecDepth 100000 in
set_option maxHeartbeats 4000000 in
theorem e147_0 {w : (Nat → Int32) × Nat} {d : Nat} {i1 : Int32} {D : dy_} : k147_0 w (d + 1) i1 D = op_o (k111_0 w d i1.toInt64 (lN 0) (((dI_ D 351 0 (nI 0)).1 351 7).toInt64) (dI_ D 351 0 (nI 0))) none (fun p1 => op_vI p1.1 none (fun n1 => if n1 ≠ (nI 0) then (some (some (.int (nI 1)), (dI_ p1.2 351 7 i1))) else (some (some (.int (-102)), p1.2)))) := by
  refine (q_147_0 sh_ w.1 w.2 d i1 D).trans ?_
  (try simp only [sf_351, reduceIte, Nat.reduceEqDiff, Nat.add_one_ne_zero, Nat.succ_ne_zero, Nat.add_eq_zero_iff, and_false]) <;> rfl
set_option maxRecDepth 100000 in
set_option maxHeartbeats 4000000 in
theorem e148_0 {w : (Nat → Int32) × Nat} {d : Nat} {i1 : Int32} {D : dy_} : k148_0 w (d + 1) i1 D = if (D.1 351 7) ≤ i1 then (some (some (.int (-1)), D)) else (mk_inb i1 500 none (some (some (.int ((D.1 357 i1.toNatClampNeg) &&& (nI 255))), D))) := by
  refine (q_148_0 sh_ w.1 w.2 d i1 D).trans ?_
  (try simp only [rf_351_6, sf_351, sf_357, reduceIte, Nat.reduceEqDiff, Nat.add_one_ne_zero, Nat.succ_ne_zero, Nat.add_eq_zero_iff, and_false]) <;> rfl
set_option maxRecDepth 100000 in
set_option maxHeartbeats 4000000 in
theorem e149_0 {w : (Nat → Int32) × Nat} {d : Nat} {i0 : Int32} {D : dy_} : k149_0 w (d + 1) i0 D = if i0 = (nI 42) then (some (some (.int (nI 1)), D)) else (if i0 = (nI 43) then (some (some (.int (nI 1)), D)) else (if i0 ≠ (nI 63) then (some (some (.int (nI 0)), D)) else (some (some (.int (nI 1)), D)))) := by
  refine (q_149_0 sh_ w.1 w.2 d i0 D).trans ?_
  (try simp only [reduceIte, Nat.reduceEqDiff, Nat.add_one_ne_zero, Nat.succ_ne_zero, Nat.add_eq_zero_iff, and_false]) <;> rfl
set_option maxRecDepth 100000 in
set_option maxHeartbeats 4000000 in
theorem e150_0 {w : (Nat → Int32) × Nat} {d : Nat} {i0 : Int32} {i1 : Int32} {D : dy_} : k150_0 w (d + 1) i0 i1 D = if i0 = (nI 46) then (some (some (.int (nI 1)), D)) else (if i0 = (nI 48) then (some (some (.int (nI 1)), D)) else (op_o (k111_0 w d i0.toInt64 (lN 97) ((((nI 97) + i1) - (nI 1)).toInt64) D) none (fun p1 => op_vI p1.1 none (fun n1 => if n1 = (nI 0) then (some (some (.int (nI 0)), p1.2)) else (some (some (.int (nI 1)), p1.2)))))) := by
  refine (q_150_0 sh_ w.1 w.2 d i0 i1 D).trans ?_
  (try simp only [reduceIte, Nat.reduceEqDiff, Nat.add_one_ne_zero, Nat.succ_ne_zero, Nat.add_eq_zero_iff, and_false]) <;> rfl
set_option maxRecDepth 100000 in
set_option maxHeartbeats 4000000 in
theorem e151_0 {w : (Nat → Int32) × Nat} {d : Nat} {i1 : Int32} {D : dy_} : k151_0 w (d + 1) i1 D = k151_7 w (d + 1) i1 (nI 0) (nI 0) (nI 0) D := by
  refine (q_151_0 sh_ w.1 w.2 d i1 D).trans ?_
  (try simp only [reduceIte, Nat.reduceEqDiff, Nat.add_one_ne_zero, Nat.succ_ne_zero, Nat.add_eq_zero_iff, and_false]) <;> rfl
set_option maxRecDepth 100000 in
set_option maxHeartbeats 4000000 in
theorem e151_7 {w : (Nat → Int32) × Nat} {d : Nat} {i1 : Int32} {i2 : Int32} {i3 : Int32} {i4 : Int32} {D : dy_} : k151_7 w (d + 1) i1 i2 i3 i4 D = if (D.1 351 7) ≤ i4 then (if i2 ≤ (nI 0) then (some (some (.int (-1)), D)) else (some (some (.int (D.1 351 7)), D))) else (op_o (k148_0 w d i4 D) none (fun p1 => op_vI p1.1 none (fun n1 => if i2 ≤ (nI 0) then (k151_43 w (d + 1) i1 i2 i3 i4 n1 p1.2) else (mk_inb (i2 - (nI 1)) 64 none (if (p1.2.1 376 (i2 - (nI 1)).toNatClampNeg) = (nI 0) then (k151_43 w (d + 1) i1 i2 i3 i4 n1 p1.2) else (k151_44 w (d + 1) i1 i2 i3 i4 n1 (nI 1) p1.2)))))) := by
  refine (q_151_7 sh_ w.1 w.2 d i1 i2 i3 i4 D).trans ?_
  (try simp only [rf_351_34, sf_351, sf_376, reduceIte, Nat.reduceEqDiff, Nat.add_one_ne_zero, Nat.succ_ne_zero, Nat.add_eq_zero_iff, and_false]) <;> rfl
set_option maxRecDepth 100000 in
set_option maxHeartbeats 4000000 in
theorem e151_43 {w : (Nat → Int32) × Nat} {d : Nat} {i1 : Int32} {i2 : Int32} {i3 : Int32} {i4 : Int32} {i5 : Int32} {D : dy_} : k151_43 w (d + 1) i1 i2 i3 i4 i5 D = k151_44 w (d + 1) i1 i2 i3 i4 i5 (nI 0) D := by
  refine (q_151_43 sh_ w.1 w.2 d i1 i2 i3 i4 i5 D).trans ?_
  (try simp only [reduceIte, Nat.reduceEqDiff, Nat.add_one_ne_zero, Nat.succ_ne_zero, Nat.add_eq_zero_iff, and_false]) <;> rfl
set_option maxRecDepth 100000 in
set_option maxHeartbeats 4000000 in
theorem e151_44 {w : (Nat → Int32) × Nat} {d : Nat} {i1 : Int32} {i2 : Int32} {i3 : Int32} {i4 : Int32} {i5 : Int32} {si0 : Int32} {D : dy_} : k151_44 w (d + 1) i1 i2 i3 i4 i5 si0 D = op_o (k150_0 w d i5 i1 D) none (fun p1 => op_vI p1.1 none (fun n1 => if n1 = (nI 0) then (if i5 = (nI 40) then (k151_80 w (d + 1) i1 i2 i4 i5 p1.2) else (if i5 ≠ (nI 33) then (if si0 = (nI 0) then (if i5 ≠ (nI 41) then (if i5 = (nI 124) then (k151_164 w (d + 1) i1 i2 i4 p1.2) else (if i5 ≠ (nI 38) then (op_o (k149_0 w d i5 p1.2) none (fun p2 => op_vI p2.1 none (fun n2 => if n2 = (nI 0) then (some (some (.int i4), p2.2)) else (if i3 ≠ (nI 0) then (k151_184 w (d + 1) i1 i2 i3 i4 p2.2) else (some (some (.int i4), p2.2)))))) else (k151_164 w (d + 1) i1 i2 i4 p1.2))) else (if i2 ≠ (nI 0) then (op_o (k152_0 w d (i2 - (nI 1)) p1.2) none (fun p3 => op_vI p3.1 none (fun n3 => k151_184 w (d + 1) i1 n3 (nI 1) i4 p3.2))) else (some (some (.int i4), p1.2)))) else (some (some (.int i4), p1.2))) else (k151_80 w (d + 1) i1 i2 i4 i5 p1.2))) else (op_o (k152_0 w d i2 p1.2) none (fun p4 => op_vI p4.1 none (fun n4 => k151_184 w (d + 1) i1 n4 (nI 1) i4 p4.2))))) := by
  refine (q_151_44 sh_ w.1 w.2 d i1 i2 i3 i4 i5 si0 D).trans ?_
  (try simp only [sf_351, reduceIte, Nat.reduceEqDiff, Nat.add_one_ne_zero, Nat.succ_ne_zero, Nat.add_eq_zero_iff, and_false]) <;> rfl
set_option maxRecDepth 100000 in
set_option maxHeartbeats 4000000 in
theorem e151_80 {w : (Nat → Int32) × Nat} {d : Nat} {i1 : Int32} {i2 : Int32} {i4 : Int32} {i5 : Int32} {D : dy_} : k151_80 w (d + 1) i1 i2 i4 i5 D = if i2 ≠ (nI 30) then (if i5 ≠ (nI 33) then (k151_106 w (d + 1) i1 i2 i4 376 i2 (nI 0) D) else (k151_106 w (d + 1) i1 i2 i4 376 i2 (nI 1) D)) else (some (some (.int i4), D)) := by
  refine (q_151_80 sh_ w.1 w.2 d i1 i2 i4 i5 D).trans ?_
  (try simp only [rf_351_34, sf_351, reduceIte, Nat.reduceEqDiff, Nat.add_one_ne_zero, Nat.succ_ne_zero, Nat.add_eq_zero_iff, and_false]) <;> rfl
set_option maxRecDepth 100000 in
set_option maxHeartbeats 4000000 in
theorem e151_106 {w : (Nat → Int32) × Nat} {d : Nat} {i1 : Int32} {i2 : Int32} {i4 : Int32} {sr0 : Nat} {si1 : Int32} {si2 : Int32} {D : dy_} : k151_106 w (d + 1) i1 i2 i4 sr0 si1 si2 D = if (sh_.1 sr0).1 = 2 then (mk_inb si1 (sh_.1 sr0).2 none (k151_184 w (d + 1) i1 (i2 + (nI 1)) (nI 0) i4 (dI_ D sr0 si1.toNatClampNeg (vp_nar .boolean si2)))) else none := by
  refine (q_151_106 sh_ w.1 w.2 d i1 i2 i4 sr0 si1 si2 D).trans ?_
  (try simp only [reduceIte, Nat.reduceEqDiff, Nat.add_one_ne_zero, Nat.succ_ne_zero, Nat.add_eq_zero_iff, and_false]) <;> rfl
set_option maxRecDepth 100000 in
set_option maxHeartbeats 4000000 in
theorem e151_164 {w : (Nat → Int32) × Nat} {d : Nat} {i1 : Int32} {i2 : Int32} {i4 : Int32} {D : dy_} : k151_164 w (d + 1) i1 i2 i4 D = k151_184 w (d + 1) i1 i2 (nI 0) i4 D := by
  refine (q_151_164 sh_ w.1 w.2 d i1 i2 i4 D).trans ?_
  (try simp only [reduceIte, Nat.reduceEqDiff, Nat.add_one_ne_zero, Nat.succ_ne_zero, Nat.add_eq_zero_iff, and_false]) <;> rfl
set_option maxRecDepth 100000 in
set_option maxHeartbeats 4000000 in
theorem e151_184 {w : (Nat → Int32) × Nat} {d : Nat} {i1 : Int32} {i2 : Int32} {i3 : Int32} {i4 : Int32} {D : dy_} : k151_184 w (d + 1) i1 i2 i3 i4 D = k151_7 w (d + 1) i1 i2 i3 (i4 + (nI 1)) D := by
  refine (q_151_184 sh_ w.1 w.2 d i1 i2 i3 i4 D).trans ?_
  (try simp only [reduceIte, Nat.reduceEqDiff, Nat.add_one_ne_zero, Nat.succ_ne_zero, Nat.add_eq_zero_iff, and_false]) <;> rfl
set_option maxRecDepth 100000 in
set_option maxHeartbeats 4000000 in
theorem e152_0 {w : (Nat → Int32) × Nat} {d : Nat} {i1 : Int32} {D : dy_} : k152_0 w (d + 1) i1 D = k152_2 w (d + 1) i1 D := by
  refine (q_152_0 sh_ w.1 w.2 d i1 D).trans ?_
  (try simp only [reduceIte, Nat.reduceEqDiff, Nat.add_one_ne_zero, Nat.succ_ne_zero, Nat.add_eq_zero_iff, and_false]) <;> rfl
set_option maxRecDepth 100000 in
set_option maxHeartbeats 4000000 in
theorem e152_2 {w : (Nat → Int32) × Nat} {d : Nat} {i2 : Int32} {D : dy_} : k152_2 w (d + 1) i2 D = if i2 ≤ (nI 0) then (some (some (.int i2), D)) else (mk_inb (i2 - (nI 1)) 64 none (if (D.1 376 (i2 - (nI 1)).toNatClampNeg) = (nI 0) then (some (some (.int i2), D)) else (k152_2 w (d + 1) (i2 + (-1)) D))) := by
  refine (q_152_2 sh_ w.1 w.2 d i2 D).trans ?_
  (try simp only [rf_351_34, sf_351, sf_376, reduceIte, Nat.reduceEqDiff, Nat.add_one_ne_zero, Nat.succ_ne_zero, Nat.add_eq_zero_iff, and_false]) <;> rfl
set_option maxRecDepth 100000 in
set_option maxHeartbeats 4000000 in
theorem e153_0 {w : (Nat → Int32) × Nat} {d : Nat} {i0 : Int32} {D : dy_} : k153_0 w (d + 1) i0 D = some (some (.int ((nI 6) + ((nI 3) * i0))), D) := by
  refine (q_153_0 sh_ w.1 w.2 d i0 D).trans ?_
  (try simp only [reduceIte, Nat.reduceEqDiff, Nat.add_one_ne_zero, Nat.succ_ne_zero, Nat.add_eq_zero_iff, and_false]) <;> rfl
set_option maxRecDepth 100000 in
set_option maxHeartbeats 4000000 in
theorem e154_0 {w : (Nat → Int32) × Nat} {d : Nat} {i1 : Int32} {i2 : Int32} {D : dy_} : k154_0 w (d + 1) i1 i2 D = mk_inb i1 110 none (mk_inb i2 110 none (mk_inb i1 110 none (mk_inb i2 110 none (mk_inb i1 110 none (mk_inb i2 110 none (k154_38 w (d + 1) i1 i2 (nI 0) (dI_ (dI_ (dI_ D 352 i2.toNatClampNeg (D.1 352 i1.toNatClampNeg)) 353 i2.toNatClampNeg ((dI_ D 352 i2.toNatClampNeg (D.1 352 i1.toNatClampNeg)).1 353 i1.toNatClampNeg)) 354 i2.toNatClampNeg ((dI_ (dI_ D 352 i2.toNatClampNeg (D.1 352 i1.toNatClampNeg)) 353 i2.toNatClampNeg ((dI_ D 352 i2.toNatClampNeg (D.1 352 i1.toNatClampNeg)).1 353 i1.toNatClampNeg)).1 354 i1.toNatClampNeg)))))))) := by
  refine (q_154_0 sh_ w.1 w.2 d i1 i2 D).trans ?_
  (try simp only [rf_351_1, rf_351_2, rf_351_3, sf_351, sf_352, sf_353, sf_354, reduceIte, Nat.reduceEqDiff, Nat.add_one_ne_zero, Nat.succ_ne_zero, Nat.add_eq_zero_iff, and_false]) <;> rfl
set_option maxRecDepth 100000 in
set_option maxHeartbeats 4000000 in
theorem e154_38 {w : (Nat → Int32) × Nat} {d : Nat} {i1 : Int32} {i2 : Int32} {i3 : Int32} {D : dy_} : k154_38 w (d + 1) i1 i2 i3 D = if (nI 240) ≤ i3 then (k154_77 w (d + 1) i1 i2 (nI 0) D) else (mk_inb (((nI 240) * i1) + i3) 26400 none (mk_inb (((nI 240) * i2) + i3) 26400 none (k154_38 w (d + 1) i1 i2 (i3 + (nI 1)) (dI_ D 355 (((nI 240) * i2) + i3).toNatClampNeg (D.1 355 (((nI 240) * i1) + i3).toNatClampNeg))))) := by
  refine (q_154_38 sh_ w.1 w.2 d i1 i2 i3 D).trans ?_
  (try simp only [rf_351_4, sf_351, sf_355, reduceIte, Nat.reduceEqDiff, Nat.add_one_ne_zero, Nat.succ_ne_zero, Nat.add_eq_zero_iff, and_false]) <;> rfl
set_option maxRecDepth 100000 in
set_option maxHeartbeats 4000000 in
theorem e154_77 {w : (Nat → Int32) × Nat} {d : Nat} {i1 : Int32} {i2 : Int32} {i3 : Int32} {D : dy_} : k154_77 w (d + 1) i1 i2 i3 D = if (nI 60) ≤ i3 then (some (none, D)) else (mk_inb (((nI 60) * i1) + i3) 6600 none (mk_inb (((nI 60) * i2) + i3) 6600 none (k154_77 w (d + 1) i1 i2 (i3 + (nI 1)) (dI_ D 356 (((nI 60) * i2) + i3).toNatClampNeg (vp_nar .boolean (D.1 356 (((nI 60) * i1) + i3).toNatClampNeg)))))) := by
  refine (q_154_77 sh_ w.1 w.2 d i1 i2 i3 D).trans ?_
  (try simp only [rf_351_5, sf_351, sf_356, reduceIte, Nat.reduceEqDiff, Nat.add_one_ne_zero, Nat.succ_ne_zero, Nat.add_eq_zero_iff, and_false]) <;> rfl
set_option maxRecDepth 100000 in
set_option maxHeartbeats 4000000 in
theorem e155_0 {w : (Nat → Int32) × Nat} {d : Nat} {i1 : Int32} {i2 : Int32} {i3 : Int32} {i4 : Int32} {D : dy_} : k155_0 w (d + 1) i1 i2 i3 i4 D = if (D.1 351 36) = (nI 0) then (some (none, (dI_ D 351 36 (nI 0)))) else (op_o (k144_0 w d i1 i2 i3 i4 D) none (fun p1 => op_vI p1.1 none (fun n1 => if n1 = (nI 0) then (some (none, (dI_ p1.2 351 36 (nI 0)))) else (some (none, (dI_ p1.2 351 36 (nI 1))))))) := by
  refine (q_155_0 sh_ w.1 w.2 d i1 i2 i3 i4 D).trans ?_
  (try simp only [sf_351, reduceIte, Nat.reduceEqDiff, Nat.add_one_ne_zero, Nat.succ_ne_zero, Nat.add_eq_zero_iff, and_false]) <;> rfl
set_option maxRecDepth 100000 in
set_option maxHeartbeats 4000000 in
theorem e156_0 {w : (Nat → Int32) × Nat} {d : Nat} {i1 : Int32} {i2 : Int32} {D : dy_} : k156_0 w (d + 1) i1 i2 D = k156_15 w (d + 1) i1 i2 (nI 0) (dI_ (dI_ D 351 9 (nI 3)) 351 8 ((dI_ D 351 9 (nI 3)).1 351 35)) := by
  refine (q_156_0 sh_ w.1 w.2 d i1 i2 D).trans ?_
  (try simp only [sf_351, reduceIte, Nat.reduceEqDiff, Nat.add_one_ne_zero, Nat.succ_ne_zero, Nat.add_eq_zero_iff, and_false]) <;> rfl
set_option maxRecDepth 100000 in
set_option maxHeartbeats 4000000 in
theorem e156_15 {w : (Nat → Int32) × Nat} {d : Nat} {i1 : Int32} {i2 : Int32} {i3 : Int32} {D : dy_} : k156_15 w (d + 1) i1 i2 i3 D = if (nI 3) ≤ i3 then (op_o (k123_0 w d i1 D) none (fun p1 => op_vI p1.1 none (fun n1 => op_o (k122_0 w d i1 p1.2) none (fun p2 => op_vN p2.1 none (op_o (k127_0 w d p2.2) none (fun p3 => op_vN p3.1 none (op_o (k123_0 w d i1 p3.2) none (fun p4 => op_vI p4.1 none (fun n4 => some (none, p4.2)))))))))) else (if i2 ≠ (-1) then (if i3 ≠ (nI 1) then (k156_57 w (d + 1) i1 i2 i3 359 i3 D) else (if i2 = (nI 48) then (k156_57 w (d + 1) i1 i2 i3 359 i3 D) else (k156_58 w (d + 1) i1 i2 i3 359 i3 (nI 1) D))) else (if i3 ≠ (nI 0) then (k156_58 w (d + 1) i1 i2 i3 359 i3 (nI 0) D) else (k156_58 w (d + 1) i1 i2 i3 359 i3 (nI 1) D))) := by
  refine (q_156_15 sh_ w.1 w.2 d i1 i2 i3 D).trans ?_
  (try simp only [rf_351_11, sf_351, reduceIte, Nat.reduceEqDiff, Nat.add_one_ne_zero, Nat.succ_ne_zero, Nat.add_eq_zero_iff, and_false]) <;> rfl
set_option maxRecDepth 100000 in
set_option maxHeartbeats 4000000 in
theorem e156_57 {w : (Nat → Int32) × Nat} {d : Nat} {i1 : Int32} {i2 : Int32} {i3 : Int32} {sr0 : Nat} {si1 : Int32} {D : dy_} : k156_57 w (d + 1) i1 i2 i3 sr0 si1 D = k156_58 w (d + 1) i1 i2 i3 sr0 si1 (nI 0) D := by
  refine (q_156_57 sh_ w.1 w.2 d i1 i2 i3 sr0 si1 D).trans ?_
  (try simp only [reduceIte, Nat.reduceEqDiff, Nat.add_one_ne_zero, Nat.succ_ne_zero, Nat.add_eq_zero_iff, and_false]) <;> rfl
set_option maxRecDepth 100000 in
set_option maxHeartbeats 4000000 in
theorem e156_58 {w : (Nat → Int32) × Nat} {d : Nat} {i1 : Int32} {i2 : Int32} {i3 : Int32} {sr0 : Nat} {si1 : Int32} {si2 : Int32} {D : dy_} : k156_58 w (d + 1) i1 i2 i3 sr0 si1 si2 D = if (sh_.1 sr0).1 = 2 then (mk_inb si1 (sh_.1 sr0).2 none (k156_62 w (d + 1) i1 i2 i3 (nI 0) (dI_ D sr0 si1.toNatClampNeg (vp_nar .boolean si2)))) else none := by
  refine (q_156_58 sh_ w.1 w.2 d i1 i2 i3 sr0 si1 si2 D).trans ?_
  (try simp only [reduceIte, Nat.reduceEqDiff, Nat.add_one_ne_zero, Nat.succ_ne_zero, Nat.add_eq_zero_iff, and_false]) <;> rfl
set_option maxRecDepth 100000 in
set_option maxHeartbeats 4000000 in
theorem e156_62 {w : (Nat → Int32) × Nat} {d : Nat} {i1 : Int32} {i2 : Int32} {i3 : Int32} {i4 : Int32} {D : dy_} : k156_62 w (d + 1) i1 i2 i3 i4 D = if (D.1 351 35) ≤ i4 then (k156_15 w (d + 1) i1 i2 (i3 + (nI 1)) D) else (if i3 ≠ (nI 0) then (k156_115 w (d + 1) i1 i2 i3 i4 358 (((nI 4) * i3) + i4) D) else (if i2 = (-1) then (k156_115 w (d + 1) i1 i2 i3 i4 358 (((nI 4) * i3) + i4) D) else (if i2 = (nI 46) then (k156_111 w (d + 1) i1 i2 i3 i4 358 (((nI 4) * i3) + i4) D) else (if i2 = (nI 48) then (k156_111 w (d + 1) i1 i2 i3 i4 358 (((nI 4) * i3) + i4) D) else (if i2 ≠ ((nI 97) + i4) then (k156_115 w (d + 1) i1 i2 i3 i4 358 (((nI 4) * i3) + i4) D) else (k156_111 w (d + 1) i1 i2 i3 i4 358 (((nI 4) * i3) + i4) D)))))) := by
  refine (q_156_62 sh_ w.1 w.2 d i1 i2 i3 i4 D).trans ?_
  (try simp only [rf_351_10, sf_351, reduceIte, Nat.reduceEqDiff, Nat.add_one_ne_zero, Nat.succ_ne_zero, Nat.add_eq_zero_iff, and_false]) <;> rfl
set_option maxRecDepth 100000 in
set_option maxHeartbeats 4000000 in
theorem e156_111 {w : (Nat → Int32) × Nat} {d : Nat} {i1 : Int32} {i2 : Int32} {i3 : Int32} {i4 : Int32} {sr0 : Nat} {si1 : Int32} {D : dy_} : k156_111 w (d + 1) i1 i2 i3 i4 sr0 si1 D = k156_116 w (d + 1) i1 i2 i3 i4 sr0 si1 (nI 1) D := by
  refine (q_156_111 sh_ w.1 w.2 d i1 i2 i3 i4 sr0 si1 D).trans ?_
  (try simp only [reduceIte, Nat.reduceEqDiff, Nat.add_one_ne_zero, Nat.succ_ne_zero, Nat.add_eq_zero_iff, and_false]) <;> rfl
set_option maxRecDepth 100000 in
set_option maxHeartbeats 4000000 in
theorem e156_115 {w : (Nat → Int32) × Nat} {d : Nat} {i1 : Int32} {i2 : Int32} {i3 : Int32} {i4 : Int32} {sr0 : Nat} {si1 : Int32} {D : dy_} : k156_115 w (d + 1) i1 i2 i3 i4 sr0 si1 D = k156_116 w (d + 1) i1 i2 i3 i4 sr0 si1 (nI 2) D := by
  refine (q_156_115 sh_ w.1 w.2 d i1 i2 i3 i4 sr0 si1 D).trans ?_
  (try simp only [reduceIte, Nat.reduceEqDiff, Nat.add_one_ne_zero, Nat.succ_ne_zero, Nat.add_eq_zero_iff, and_false]) <;> rfl
set_option maxRecDepth 100000 in
set_option maxHeartbeats 4000000 in
theorem e156_116 {w : (Nat → Int32) × Nat} {d : Nat} {i1 : Int32} {i2 : Int32} {i3 : Int32} {i4 : Int32} {sr0 : Nat} {si1 : Int32} {si2 : Int32} {D : dy_} : k156_116 w (d + 1) i1 i2 i3 i4 sr0 si1 si2 D = if (sh_.1 sr0).1 = 1 then (mk_inb si1 (sh_.1 sr0).2 none (k156_62 w (d + 1) i1 i2 i3 (i4 + (nI 1)) (dI_ D sr0 si1.toNatClampNeg si2))) else none := by
  refine (q_156_116 sh_ w.1 w.2 d i1 i2 i3 i4 sr0 si1 si2 D).trans ?_
  (try simp only [reduceIte, Nat.reduceEqDiff, Nat.add_one_ne_zero, Nat.succ_ne_zero, Nat.add_eq_zero_iff, and_false]) <;> rfl
set_option maxRecDepth 100000 in
set_option maxHeartbeats 4000000 in
theorem e157_0 {w : (Nat → Int32) × Nat} {d : Nat}  {D : dy_} : k157_0 w (d + 1) D = mk_inb (D.1 351 37) 40 none (mk_inb ((dI_ D 378 (D.1 351 37).toNatClampNeg (vp_nar .boolean (nI 0))).1 351 37) 40 none (mk_inb ((dI_ (dI_ D 378 (D.1 351 37).toNatClampNeg (vp_nar .boolean (nI 0))) 379 ((dI_ D 378 (D.1 351 37).toNatClampNeg (vp_nar .boolean (nI 0))).1 351 37).toNatClampNeg (vp_nar .boolean (nI 0))).1 351 37) 40 none (mk_inb ((dI_ (dI_ (dI_ D 378 (D.1 351 37).toNatClampNeg (vp_nar .boolean (nI 0))) 379 ((dI_ D 378 (D.1 351 37).toNatClampNeg (vp_nar .boolean (nI 0))).1 351 37).toNatClampNeg (vp_nar .boolean (nI 0))) 380 ((dI_ (dI_ D 378 (D.1 351 37).toNatClampNeg (vp_nar .boolean (nI 0))) 379 ((dI_ D 378 (D.1 351 37).toNatClampNeg (vp_nar .boolean (nI 0))).1 351 37).toNatClampNeg (vp_nar .boolean (nI 0))).1 351 37).toNatClampNeg (vp_nar .boolean (nI 0))).1 351 37) 40 none (some (none, (dI_ (dI_ (dI_ (dI_ (dI_ (dI_ (dI_ D 378 (D.1 351 37).toNatClampNeg (vp_nar .boolean (nI 0))) 379 ((dI_ D 378 (D.1 351 37).toNatClampNeg (vp_nar .boolean (nI 0))).1 351 37).toNatClampNeg (vp_nar .boolean (nI 0))) 380 ((dI_ (dI_ D 378 (D.1 351 37).toNatClampNeg (vp_nar .boolean (nI 0))) 379 ((dI_ D 378 (D.1 351 37).toNatClampNeg (vp_nar .boolean (nI 0))).1 351 37).toNatClampNeg (vp_nar .boolean (nI 0))).1 351 37).toNatClampNeg (vp_nar .boolean (nI 0))) 377 ((dI_ (dI_ (dI_ D 378 (D.1 351 37).toNatClampNeg (vp_nar .boolean (nI 0))) 379 ((dI_ D 378 (D.1 351 37).toNatClampNeg (vp_nar .boolean (nI 0))).1 351 37).toNatClampNeg (vp_nar .boolean (nI 0))) 380 ((dI_ (dI_ D 378 (D.1 351 37).toNatClampNeg (vp_nar .boolean (nI 0))) 379 ((dI_ D 378 (D.1 351 37).toNatClampNeg (vp_nar .boolean (nI 0))).1 351 37).toNatClampNeg (vp_nar .boolean (nI 0))).1 351 37).toNatClampNeg (vp_nar .boolean (nI 0))).1 351 37).toNatClampNeg ((dI_ (dI_ (dI_ D 378 (D.1 351 37).toNatClampNeg (vp_nar .boolean (nI 0))) 379 ((dI_ D 378 (D.1 351 37).toNatClampNeg (vp_nar .boolean (nI 0))).1 351 37).toNatClampNeg (vp_nar .boolean (nI 0))) 380 ((dI_ (dI_ D 378 (D.1 351 37).toNatClampNeg (vp_nar .boolean (nI 0))) 379 ((dI_ D 378 (D.1 351 37).toNatClampNeg (vp_nar .boolean (nI 0))).1 351 37).toNatClampNeg (vp_nar .boolean (nI 0))).1 351 37).toNatClampNeg (vp_nar .boolean (nI 0))).1 351 38)) 351 38 (nI 0)) 351 37 (((dI_ (dI_ (dI_ (dI_ (dI_ D 378 (D.1 351 37).toNatClampNeg (vp_nar .boolean (nI 0))) 379 ((dI_ D 378 (D.1 351 37).toNatClampNeg (vp_nar .boolean (nI 0))).1 351 37).toNatClampNeg (vp_nar .boolean (nI 0))) 380 ((dI_ (dI_ D 378 (D.1 351 37).toNatClampNeg (vp_nar .boolean (nI 0))) 379 ((dI_ D 378 (D.1 351 37).toNatClampNeg (vp_nar .boolean (nI 0))).1 351 37).toNatClampNeg (vp_nar .boolean (nI 0))).1 351 37).toNatClampNeg (vp_nar .boolean (nI 0))) 377 ((dI_ (dI_ (dI_ D 378 (D.1 351 37).toNatClampNeg (vp_nar .boolean (nI 0))) 379 ((dI_ D 378 (D.1 351 37).toNatClampNeg (vp_nar .boolean (nI 0))).1 351 37).toNatClampNeg (vp_nar .boolean (nI 0))) 380 ((dI_ (dI_ D 378 (D.1 351 37).toNatClampNeg (vp_nar .boolean (nI 0))) 379 ((dI_ D 378 (D.1 351 37).toNatClampNeg (vp_nar .boolean (nI 0))).1 351 37).toNatClampNeg (vp_nar .boolean (nI 0))).1 351 37).toNatClampNeg (vp_nar .boolean (nI 0))).1 351 37).toNatClampNeg ((dI_ (dI_ (dI_ D 378 (D.1 351 37).toNatClampNeg (vp_nar .boolean (nI 0))) 379 ((dI_ D 378 (D.1 351 37).toNatClampNeg (vp_nar .boolean (nI 0))).1 351 37).toNatClampNeg (vp_nar .boolean (nI 0))) 380 ((dI_ (dI_ D 378 (D.1 351 37).toNatClampNeg (vp_nar .boolean (nI 0))) 379 ((dI_ D 378 (D.1 351 37).toNatClampNeg (vp_nar .boolean (nI 0))).1 351 37).toNatClampNeg (vp_nar .boolean (nI 0))).1 351 37).toNatClampNeg (vp_nar .boolean (nI 0))).1 351 38)) 351 38 (nI 0)).1 351 37) + (nI 1))) 351 43 (nI 0))))))) := by
  refine (q_157_0 sh_ w.1 w.2 d  D).trans ?_
  (try simp only [rf_351_39, rf_351_40, rf_351_41, rf_351_42, sf_351, sf_377, sf_378, sf_379, sf_380, reduceIte, Nat.reduceEqDiff, Nat.add_one_ne_zero, Nat.succ_ne_zero, Nat.add_eq_zero_iff, and_false]) <;> rfl
set_option maxRecDepth 100000 in
set_option maxHeartbeats 4000000 in
theorem e158_0 {w : (Nat → Int32) × Nat} {d : Nat}  {D : dy_} : k158_0 w (d + 1) D = op_o (k153_0 w d ((D.1 351 37) - (nI 1)) D) none (fun p1 => op_vI p1.1 none (fun n1 => if (p1.2.1 351 43) = (nI 0) then (k158_45 w (d + 1) (n1 + (nI 2)) p1.2) else (mk_inb ((p1.2.1 351 37) - (nI 1)) 40 none (if (p1.2.1 380 ((p1.2.1 351 37) - (nI 1)).toNatClampNeg) = (nI 0) then (k158_45 w (d + 1) (n1 + (nI 2)) p1.2) else (op_o (k155_0 w d (n1 + (nI 2)) (nI 4) (n1 + (nI 2)) (nI 105) p1.2) none (fun p2 => op_vN p2.1 none (k158_59 w (d + 1) p2.2))))))) := by
  refine (q_158_0 sh_ w.1 w.2 d  D).trans ?_
  (try simp only [rf_351_42, sf_351, sf_380, reduceIte, Nat.reduceEqDiff, Nat.add_one_ne_zero, Nat.succ_ne_zero, Nat.add_eq_zero_iff, and_false]) <;> rfl
set_option maxRecDepth 100000 in
set_option maxHeartbeats 4000000 in
theorem e158_45 {w : (Nat → Int32) × Nat} {d : Nat} {i1 : Int32} {D : dy_} : k158_45 w (d + 1) i1 D = if (D.1 351 43) = (nI 0) then (k158_59 w (d + 1) D) else (op_o (k154_0 w d (nI 105) i1 D) none (fun p1 => op_vN p1.1 none (k158_59 w (d + 1) p1.2))) := by
  refine (q_158_45 sh_ w.1 w.2 d i1 D).trans ?_
  (try simp only [sf_351, reduceIte, Nat.reduceEqDiff, Nat.add_one_ne_zero, Nat.succ_ne_zero, Nat.add_eq_zero_iff, and_false]) <;> rfl
set_option maxRecDepth 100000 in
set_option maxHeartbeats 4000000 in
theorem e158_59 {w : (Nat → Int32) × Nat} {d : Nat}  {D : dy_} : k158_59 w (d + 1) D = mk_inb ((D.1 351 37) - (nI 1)) 40 none (if (D.1 380 ((D.1 351 37) - (nI 1)).toNatClampNeg) ≠ (nI 0) then (k158_90 w (d + 1) 380 ((D.1 351 37) - (nI 1)) D) else (if (D.1 351 43) = (nI 0) then (mk_inb ((D.1 351 37) - (nI 1)) 40 none (some (none, (dI_ (dI_ D 380 ((D.1 351 37) - (nI 1)).toNatClampNeg (vp_nar .boolean (nI 0))) 351 43 (nI 0))))) else (k158_90 w (d + 1) 380 ((D.1 351 37) - (nI 1)) D))) := by
  refine (q_158_59 sh_ w.1 w.2 d  D).trans ?_
  (try simp only [rf_351_42, sf_351, sf_380, reduceIte, Nat.reduceEqDiff, Nat.add_one_ne_zero, Nat.succ_ne_zero, Nat.add_eq_zero_iff, and_false]) <;> rfl
set_option maxRecDepth 100000 in
set_option maxHeartbeats 4000000 in
theorem e158_90 {w : (Nat → Int32) × Nat} {d : Nat} {sr0 : Nat} {si1 : Int32} {D : dy_} : k158_90 w (d + 1) sr0 si1 D = if (sh_.1 sr0).1 = 2 then (mk_inb si1 (sh_.1 sr0).2 none (some (none, (dI_ (dI_ D sr0 si1.toNatClampNeg (vp_nar .boolean (nI 1))) 351 43 (nI 0))))) else none := by
  refine (q_158_90 sh_ w.1 w.2 d sr0 si1 D).trans ?_
  (try simp only [sf_351, reduceIte, Nat.reduceEqDiff, Nat.add_one_ne_zero, Nat.succ_ne_zero, Nat.add_eq_zero_iff, and_false]) <;> rfl
set_option maxRecDepth 100000 in
set_option maxHeartbeats 4000000 in
theorem e159_0 {w : (Nat → Int32) × Nat} {d : Nat}  {D : dy_} : k159_0 w (d + 1) D = op_o (k158_0 w d D) none (fun p1 => op_vN p1.1 none (op_o (k153_0 w d ((p1.2.1 351 37) - (nI 1)) p1.2) none (fun p2 => op_vI p2.1 none (fun n2 => mk_inb ((p1.2.1 351 37) - (nI 1)) 40 none (if (p2.2.1 380 ((p1.2.1 351 37) - (nI 1)).toNatClampNeg) = (nI 0) then (k159_33 w (d + 1) ((p1.2.1 351 37) - (nI 1)) n2 (nI 104) p2.2) else (k159_33 w (d + 1) ((p1.2.1 351 37) - (nI 1)) n2 (n2 + (nI 2)) p2.2)))))) := by
  refine (q_159_0 sh_ w.1 w.2 d  D).trans ?_
  (try simp only [rf_351_42, sf_351, sf_380, reduceIte, Nat.reduceEqDiff, Nat.add_one_ne_zero, Nat.succ_ne_zero, Nat.add_eq_zero_iff, and_false]) <;> rfl
set_option maxRecDepth 100000 in
set_option maxHeartbeats 4000000 in
theorem e159_33 {w : (Nat → Int32) × Nat} {d : Nat} {i1 : Int32} {i2 : Int32} {si0 : Int32} {D : dy_} : k159_33 w (d + 1) i1 i2 si0 D = mk_inb i1 40 none (if (D.1 379 i1.toNatClampNeg) = (nI 0) then (op_o (k154_0 w d si0 (i2 + (nI 1)) D) none (fun p1 => op_vN p1.1 none (k159_66 w (d + 1) i1 p1.2))) else (op_o (k155_0 w d (i2 + (nI 1)) (nI 0) (i2 + (nI 1)) si0 D) none (fun p2 => op_vN p2.1 none (k159_66 w (d + 1) i1 p2.2)))) := by
  refine (q_159_33 sh_ w.1 w.2 d i1 i2 si0 D).trans ?_
  (try simp only [rf_351_41, sf_351, sf_379, reduceIte, Nat.reduceEqDiff, Nat.add_one_ne_zero, Nat.succ_ne_zero, Nat.add_eq_zero_iff, and_false]) <;> rfl
set_option maxRecDepth 100000 in
set_option maxHeartbeats 4000000 in
theorem e159_66 {w : (Nat → Int32) × Nat} {d : Nat} {i1 : Int32} {D : dy_} : k159_66 w (d + 1) i1 D = mk_inb i1 40 none (mk_inb i1 40 none (some (none, (dI_ (dI_ D 379 i1.toNatClampNeg (vp_nar .boolean (nI 1))) 380 i1.toNatClampNeg (vp_nar .boolean (nI 0)))))) := by
  refine (q_159_66 sh_ w.1 w.2 d i1 D).trans ?_
  (try simp only [rf_351_41, rf_351_42, sf_351, sf_379, sf_380, reduceIte, Nat.reduceEqDiff, Nat.add_one_ne_zero, Nat.succ_ne_zero, Nat.add_eq_zero_iff, and_false]) <;> rfl
set_option maxRecDepth 100000 in
set_option maxHeartbeats 4000000 in
theorem e160_0 {w : (Nat → Int32) × Nat} {d : Nat}  {D : dy_} : k160_0 w (d + 1) D = op_o (k159_0 w d D) none (fun p1 => op_vN p1.1 none (op_o (k153_0 w d ((p1.2.1 351 37) - (nI 1)) p1.2) none (fun p2 => op_vI p2.1 none (fun n2 => mk_inb ((p1.2.1 351 37) - (nI 1)) 40 none (if (p2.2.1 378 ((p1.2.1 351 37) - (nI 1)).toNatClampNeg) = (nI 0) then (op_o (k154_0 w d (n2 + (nI 1)) n2 p2.2) none (fun p3 => op_vN p3.1 none (k160_46 w (d + 1) ((p1.2.1 351 37) - (nI 1)) p3.2))) else (op_o (k155_0 w d n2 (nI 1) n2 (n2 + (nI 1)) p2.2) none (fun p4 => op_vN p4.1 none (k160_46 w (d + 1) ((p1.2.1 351 37) - (nI 1)) p4.2)))))))) := by
  refine (q_160_0 sh_ w.1 w.2 d  D).trans ?_
  (try simp only [rf_351_40, sf_351, sf_378, reduceIte, Nat.reduceEqDiff, Nat.add_one_ne_zero, Nat.succ_ne_zero, Nat.add_eq_zero_iff, and_false]) <;> rfl
set_option maxRecDepth 100000 in
set_option maxHeartbeats 4000000 in
theorem e160_46 {w : (Nat → Int32) × Nat} {d : Nat} {i1 : Int32} {D : dy_} : k160_46 w (d + 1) i1 D = mk_inb i1 40 none (mk_inb i1 40 none (some (none, (dI_ (dI_ D 378 i1.toNatClampNeg (vp_nar .boolean (nI 1))) 379 i1.toNatClampNeg (vp_nar .boolean (nI 0)))))) := by
  refine (q_160_46 sh_ w.1 w.2 d i1 D).trans ?_
  (try simp only [rf_351_40, rf_351_41, sf_351, sf_378, sf_379, reduceIte, Nat.reduceEqDiff, Nat.add_one_ne_zero, Nat.succ_ne_zero, Nat.add_eq_zero_iff, and_false]) <;> rfl
set_option maxRecDepth 100000 in
set_option maxHeartbeats 4000000 in
theorem e161_0 {w : (Nat → Int32) × Nat} {d : Nat}  {D : dy_} : k161_0 w (d + 1) D = if (D.1 351 38) ≤ (nI 0) then (some (none, (dI_ D 351 43 (nI 1)))) else (op_o (k155_0 w d (nI 105) (nI 7) (nI 105) (nI 105) D) none (fun p1 => op_vN p1.1 none (k161_0 w (d + 1) (dI_ p1.2 351 38 ((p1.2.1 351 38) - (nI 1)))))) := by
  refine (q_161_0 sh_ w.1 w.2 d  D).trans ?_
  (try simp only [sf_351, reduceIte, Nat.reduceEqDiff, Nat.add_one_ne_zero, Nat.succ_ne_zero, Nat.add_eq_zero_iff, and_false]) <;> rfl
set_option maxRecDepth 100000 in
set_option maxHeartbeats 4000000 in
theorem e162_0 {w : (Nat → Int32) × Nat} {d : Nat} {i1 : Int32} {D : dy_} : k162_0 w (d + 1) i1 D = op_o (k150_0 w d i1 (D.1 351 35) D) none (fun p1 => op_vI p1.1 none (fun n1 => if n1 = (nI 0) then (if i1 = (nI 40) then (k162_48 w (d + 1) i1 p1.2) else (if i1 ≠ (nI 33) then (if i1 ≠ (nI 41) then (if i1 ≠ (nI 124) then (if i1 ≠ (nI 38) then (if i1 ≠ (nI 42) then (if i1 ≠ (nI 43) then (op_o (k155_0 w d (nI 105) (nI 1) (nI 105) (nI 104) p1.2) none (fun p2 => op_vN p2.1 none (some (none, p2.2)))) else (op_o (k155_0 w d (nI 106) (nI 5) (nI 105) (nI 105) p1.2) none (fun p3 => op_vN p3.1 none (op_o (k155_0 w d (nI 105) (nI 4) (nI 105) (nI 106) p3.2) none (fun p4 => op_vN p4.1 none (some (none, p4.2))))))) else (op_o (k155_0 w d (nI 105) (nI 5) (nI 105) (nI 105) p1.2) none (fun p5 => op_vN p5.1 none (some (none, p5.2))))) else (op_o (k159_0 w d p1.2) none (fun p6 => op_vN p6.1 none (some (none, p6.2))))) else (op_o (k160_0 w d p1.2) none (fun p7 => op_vN p7.1 none (some (none, p7.2))))) else (op_o (k160_0 w d p1.2) none (fun p8 => op_vN p8.1 none (op_o (k153_0 w d ((dI_ p8.2 351 37 ((p8.2.1 351 37) - (nI 1))).1 351 37) (dI_ p8.2 351 37 ((p8.2.1 351 37) - (nI 1)))) none (fun p9 => op_vI p9.1 none (fun n9 => op_o (k154_0 w d n9 (nI 105) p9.2) none (fun p10 => op_vN p10.1 none (mk_inb (p10.2.1 351 37) 40 none (op_o (k161_0 w d (dI_ p10.2 351 38 (p10.2.1 377 (p10.2.1 351 37).toNatClampNeg))) none (fun p11 => op_vN p11.1 none (some (none, p11.2)))))))))))) else (k162_48 w (d + 1) i1 p1.2))) else (if (p1.2.1 351 38) ≠ (nI 0) then (k162_22 w (d + 1) i1 p1.2) else (op_o (k158_0 w d p1.2) none (fun p12 => op_vN p12.1 none (k162_22 w (d + 1) i1 p12.2)))))) := by
  refine (q_162_0 sh_ w.1 w.2 d i1 D).trans ?_
  (try simp only [rf_351_39, sf_351, sf_377, reduceIte, Nat.reduceEqDiff, Nat.add_one_ne_zero, Nat.succ_ne_zero, Nat.add_eq_zero_iff, and_false]) <;> rfl
set_option maxRecDepth 100000 in
set_option maxHeartbeats 4000000 in
theorem e162_22 {w : (Nat → Int32) × Nat} {d : Nat} {i1 : Int32} {D : dy_} : k162_22 w (d + 1) i1 D = op_o (k156_0 w d (nI 105) i1 D) none (fun p1 => op_vN p1.1 none (op_o (k161_0 w d p1.2) none (fun p2 => op_vN p2.1 none (some (none, p2.2))))) := by
  refine (q_162_22 sh_ w.1 w.2 d i1 D).trans ?_
  (try simp only [sf_351, reduceIte, Nat.reduceEqDiff, Nat.add_one_ne_zero, Nat.succ_ne_zero, Nat.add_eq_zero_iff, and_false]) <;> rfl
set_option maxRecDepth 100000 in
set_option maxHeartbeats 4000000 in
theorem e162_48 {w : (Nat → Int32) × Nat} {d : Nat} {i1 : Int32} {D : dy_} : k162_48 w (d + 1) i1 D = if (D.1 351 38) ≠ (nI 0) then (k162_59 w (d + 1) i1 D) else (op_o (k158_0 w d D) none (fun p1 => op_vN p1.1 none (k162_59 w (d + 1) i1 p1.2))) := by
  refine (q_162_48 sh_ w.1 w.2 d i1 D).trans ?_
  (try simp only [sf_351, reduceIte, Nat.reduceEqDiff, Nat.add_one_ne_zero, Nat.succ_ne_zero, Nat.add_eq_zero_iff, and_false]) <;> rfl
set_option maxRecDepth 100000 in
set_option maxHeartbeats 4000000 in
theorem e162_59 {w : (Nat → Int32) × Nat} {d : Nat} {i1 : Int32} {D : dy_} : k162_59 w (d + 1) i1 D = if i1 ≠ (nI 33) then (op_o (k157_0 w d D) none (fun p1 => op_vN p1.1 none (some (none, p1.2)))) else (some (none, (dI_ D 351 38 ((D.1 351 38) + (nI 1))))) := by
  refine (q_162_59 sh_ w.1 w.2 d i1 D).trans ?_
  (try simp only [sf_351, reduceIte, Nat.reduceEqDiff, Nat.add_one_ne_zero, Nat.succ_ne_zero, Nat.add_eq_zero_iff, and_false]) <;> rfl
set_option maxRecDepth 100000 in
set_option maxHeartbeats 4000000 in
theorem e163_0 {w : (Nat → Int32) × Nat} {d : Nat} {i1 : Int32} {i2 : Int32} {D : dy_} : k163_0 w (d + 1) i1 i2 D = op_o (k114_0 w d i1 (dI_ D 351 0 (nI 0))) none (fun p1 => op_vI p1.1 none (fun n1 => if n1 = (nI 0) then (some (some (.int (-102)), p1.2)) else (op_o (k111_0 w d i2.toInt64 (lN 1) (lN 4) p1.2) none (fun p2 => op_vI p2.1 none (fun n2 => if n2 ≠ (nI 0) then (op_o (k151_0 w d i2 p2.2) none (fun p3 => op_vI p3.1 none (fun n3 => if n3 = (-1) then (op_o (k156_0 w d (nI 104) (-1) (dI_ (dI_ (dI_ (dI_ (dI_ p3.2 351 7 (nI 0)) 351 35 i2) 351 36 (nI 1)) 351 37 (nI 0)) 351 38 (nI 0))) none (fun p4 => op_vN p4.1 none (op_o (k157_0 w d p4.2) none (fun p5 => op_vN p5.1 none (k163_89 w (d + 1) i1 (p3.2.1 351 7) (nI 0) p5.2))))) else (some (some (.int ((-1000) - n3)), (dI_ p3.2 351 7 (nI 0))))))) else (some (some (.int (-102)), p2.2))))))) := by
  refine (q_163_0 sh_ w.1 w.2 d i1 i2 D).trans ?_
  (try simp only [sf_351, reduceIte, Nat.reduceEqDiff, Nat.add_one_ne_zero, Nat.succ_ne_zero, Nat.add_eq_zero_iff, and_false]) <;> rfl
set_option maxRecDepth 100000 in
set_option maxHeartbeats 4000000 in
theorem e163_89 {w : (Nat → Int32) × Nat} {d : Nat} {i1 : Int32} {i4 : Int32} {i5 : Int32} {D : dy_} : k163_89 w (d + 1) i1 i4 i5 D = if i4 ≤ i5 then (k163_124 w (d + 1) i1 D) else (if (D.1 351 36) = (nI 0) then (k163_124 w (d + 1) i1 D) else (mk_inb i5 500 none (op_o (k162_0 w d ((D.1 357 i5.toNatClampNeg) &&& (nI 255)) D) none (fun p1 => op_vN p1.1 none (k163_89 w (d + 1) i1 i4 (i5 + (nI 1)) p1.2))))) := by
  refine (q_163_89 sh_ w.1 w.2 d i1 i4 i5 D).trans ?_
  (try simp only [rf_351_6, sf_351, sf_357, reduceIte, Nat.reduceEqDiff, Nat.add_one_ne_zero, Nat.succ_ne_zero, Nat.add_eq_zero_iff, and_false]) <;> rfl
set_option maxRecDepth 100000 in
set_option maxHeartbeats 4000000 in
theorem e163_124 {w : (Nat → Int32) × Nat} {d : Nat} {i1 : Int32} {D : dy_} : k163_124 w (d + 1) i1 D = if (D.1 351 36) = (nI 0) then (k163_135 w (d + 1) i1 D) else (op_o (k160_0 w d D) none (fun p1 => op_vN p1.1 none (k163_135 w (d + 1) i1 p1.2))) := by
  refine (q_163_124 sh_ w.1 w.2 d i1 D).trans ?_
  (try simp only [sf_351, reduceIte, Nat.reduceEqDiff, Nat.add_one_ne_zero, Nat.succ_ne_zero, Nat.add_eq_zero_iff, and_false]) <;> rfl
set_option maxRecDepth 100000 in
set_option maxHeartbeats 4000000 in
theorem e163_135 {w : (Nat → Int32) × Nat} {d : Nat} {i1 : Int32} {D : dy_} : k163_135 w (d + 1) i1 D = if (D.1 351 36) ≠ (nI 0) then (op_o (k153_0 w d (nI 0) D) none (fun p1 => op_vI p1.1 none (fun n1 => op_o (k154_0 w d n1 i1 p1.2) none (fun p2 => op_vN p2.1 none (mk_inb i1 110 none (some (some (.int (p2.2.1 353 i1.toNatClampNeg)), p2.2))))))) else (some (some (.int (-104)), D)) := by
  refine (q_163_135 sh_ w.1 w.2 d i1 D).trans ?_
  (try simp only [rf_351_2, sf_351, sf_353, reduceIte, Nat.reduceEqDiff, Nat.add_one_ne_zero, Nat.succ_ne_zero, Nat.add_eq_zero_iff, and_false]) <;> rfl
set_option maxRecDepth 100000 in
set_option maxHeartbeats 4000000 in
theorem e164_0 {w : (Nat → Int32) × Nat} {d : Nat} {i1 : Int32} {D : dy_} : k164_0 w (d + 1) i1 D = mk_inb i1 110 none (k164_9 w (d + 1) i1 (D.1 354 i1.toNatClampNeg) (nI 0) D) := by
  refine (q_164_0 sh_ w.1 w.2 d i1 D).trans ?_
  (try simp only [rf_351_3, sf_351, sf_354, reduceIte, Nat.reduceEqDiff, Nat.add_one_ne_zero, Nat.succ_ne_zero, Nat.add_eq_zero_iff, and_false]) <;> rfl
set_option maxRecDepth 100000 in
set_option maxHeartbeats 4000000 in
theorem e164_9 {w : (Nat → Int32) × Nat} {d : Nat} {i1 : Int32} {i2 : Int32} {i3 : Int32} {D : dy_} : k164_9 w (d + 1) i1 i2 i3 D = if (D.1 351 7) ≤ i3 then (some (some (.int i2), D)) else (if i2 = (-1) then (some (some (.int i2), D)) else (op_o (k148_0 w d i3 D) none (fun p1 => op_vI p1.1 none (fun n1 => mk_inb i1 110 none (op_o (k111_0 w d ((n1 - (nI 97)).toInt64) (lN 0) (((p1.2.1 352 i1.toNatClampNeg) - (nI 1)).toInt64) p1.2) none (fun p2 => op_vI p2.1 none (fun n2 => if n2 = (nI 0) then (k164_63 w (d + 1) i1 i3 (-1) p2.2) else (op_o (k112_0 w d i1 i2 (n1 - (nI 97)) p2.2) none (fun p3 => op_vI p3.1 none (fun n3 => k164_63 w (d + 1) i1 i3 n3 p3.2)))))))))) := by
  refine (q_164_9 sh_ w.1 w.2 d i1 i2 i3 D).trans ?_
  (try simp only [rf_351_1, sf_351, sf_352, reduceIte, Nat.reduceEqDiff, Nat.add_one_ne_zero, Nat.succ_ne_zero, Nat.add_eq_zero_iff, and_false]) <;> rfl
set_option maxRecDepth 100000 in
set_option maxHeartbeats 4000000 in
theorem e164_63 {w : (Nat → Int32) × Nat} {d : Nat} {i1 : Int32} {i3 : Int32} {si0 : Int32} {D : dy_} : k164_63 w (d + 1) i1 i3 si0 D = k164_9 w (d + 1) i1 si0 (i3 + (nI 1)) D := by
  refine (q_164_63 sh_ w.1 w.2 d i1 i3 si0 D).trans ?_
  (try simp only [reduceIte, Nat.reduceEqDiff, Nat.add_one_ne_zero, Nat.succ_ne_zero, Nat.add_eq_zero_iff, and_false]) <;> rfl
set_option maxRecDepth 100000 in
set_option maxHeartbeats 4000000 in
theorem e165_0 {w : (Nat → Int32) × Nat} {d : Nat} {i1 : Int32} {D : dy_} : k165_0 w (d + 1) i1 D = op_o (k114_0 w d i1 (dI_ D 351 0 (nI 0))) none (fun p1 => op_vI p1.1 none (fun n1 => if n1 = (nI 0) then (k165_21 w (d + 1) i1 (-1) p1.2) else (op_o (k164_0 w d i1 p1.2) none (fun p2 => op_vI p2.1 none (fun n2 => k165_21 w (d + 1) i1 n2 p2.2))))) := by
  refine (q_165_0 sh_ w.1 w.2 d i1 D).trans ?_
  (try simp only [sf_351, reduceIte, Nat.reduceEqDiff, Nat.add_one_ne_zero, Nat.succ_ne_zero, Nat.add_eq_zero_iff, and_false]) <;> rfl
set_option maxRecDepth 100000 in
set_option maxHeartbeats 4000000 in
theorem e165_21 {w : (Nat → Int32) × Nat} {d : Nat} {i1 : Int32} {si0 : Int32} {D : dy_} : k165_21 w (d + 1) i1 si0 D = if si0 ≠ (-1) then (op_o (k113_0 w d i1 si0 D) none (fun p1 => op_vI p1.1 none (fun n1 => if n1 = (nI 0) then (some (some (.int (nI 0)), p1.2)) else (some (some (.int (nI 1)), p1.2))))) else (some (some (.int (-102)), D)) := by
  refine (q_165_21 sh_ w.1 w.2 d i1 si0 D).trans ?_
  (try simp only [sf_351, reduceIte, Nat.reduceEqDiff, Nat.add_one_ne_zero, Nat.succ_ne_zero, Nat.add_eq_zero_iff, and_false]) <;> rfl
set_option maxRecDepth 100000 in
set_option maxHeartbeats 4000000 in
theorem e166_0 {w : (Nat → Int32) × Nat} {d : Nat} {i1 : Int32} {i2 : Int32} {i3 : Int32} {i4 : Int32} {D : dy_} : k166_0 w (d + 1) i1 i2 i3 i4 D = k166_3 w (d + 1) i1 i2 i3 i4 (nI 0) D := by
  refine (q_166_0 sh_ w.1 w.2 d i1 i2 i3 i4 D).trans ?_
  (try simp only [reduceIte, Nat.reduceEqDiff, Nat.add_one_ne_zero, Nat.succ_ne_zero, Nat.add_eq_zero_iff, and_false]) <;> rfl
set_option maxRecDepth 100000 in
set_option maxHeartbeats 4000000 in
theorem e166_3 {w : (Nat → Int32) × Nat} {d : Nat} {i1 : Int32} {i2 : Int32} {i3 : Int32} {i4 : Int32} {i5 : Int32} {D : dy_} : k166_3 w (d + 1) i1 i2 i3 i4 i5 D = if (nI 3600) ≤ i5 then (mk_inb (nI 0) 3600 none (mk_inb (nI 0) 3600 none (mk_inb ((dI_ D 360 (nI 0).toNatClampNeg (((nI 60) * i2) + i4)).1 360 (nI 0).toNatClampNeg) 3600 none (mk_inb (nI 0) 3600 none (k166_63 w (d + 1) i1 i3 (nI 1) (nI 0) (dI_ (dI_ (dI_ D 360 (nI 0).toNatClampNeg (((nI 60) * i2) + i4)) 375 ((dI_ D 360 (nI 0).toNatClampNeg (((nI 60) * i2) + i4)).1 360 (nI 0).toNatClampNeg).toNatClampNeg (nI 0)) 381 (nI 0).toNatClampNeg (-1))))))) else (mk_inb i5 3600 none (k166_3 w (d + 1) i1 i2 i3 i4 (i5 + (nI 1)) (dI_ D 375 i5.toNatClampNeg (-1)))) := by
  refine (q_166_3 sh_ w.1 w.2 d i1 i2 i3 i4 i5 D).trans ?_
  (try simp only [rf_351_12, rf_351_33, rf_351_44, sf_351, sf_360, sf_375, sf_381, reduceIte, Nat.reduceEqDiff, Nat.add_one_ne_zero, Nat.succ_ne_zero, Nat.add_eq_zero_iff, and_false]) <;> rfl
set_option maxRecDepth 100000 in
set_option maxHeartbeats 4000000 in
theorem e166_63 {w : (Nat → Int32) × Nat} {d : Nat} {i1 : Int32} {i3 : Int32} {i5 : Int32} {i6 : Int32} {D : dy_} : k166_63 w (d + 1) i1 i3 i5 i6 D = if i5 ≤ i6 then (some (some (.int (-1)), D)) else (mk_inb i6 3600 none (mk_inb i6 3600 none (op_o (k113_0 w d i1 ((D.1 360 i6.toNatClampNeg) / (nI 60)) D) none (fun p1 => op_vI p1.1 none (fun n1 => op_o (k113_0 w d i3 ((D.1 360 i6.toNatClampNeg) - (D.1 360 i6.toNatClampNeg) / (nI 60) * (nI 60)) p1.2) none (fun p2 => op_vI p2.1 none (fun n2 => if n1 = n2 then (k166_121 w (d + 1) i1 i3 i5 i6 ((D.1 360 i6.toNatClampNeg) / (nI 60)) ((D.1 360 i6.toNatClampNeg) - (D.1 360 i6.toNatClampNeg) / (nI 60) * (nI 60)) (nI 0) p2.2) else (op_o (k167_0 w d i6 p2.2) none (fun p3 => op_vI p3.1 none (fun n3 => some (some (.int n3), p3.2))))))))))) := by
  refine (q_166_63 sh_ w.1 w.2 d i1 i3 i5 i6 D).trans ?_
  (try simp only [rf_351_12, sf_351, sf_360, reduceIte, Nat.reduceEqDiff, Nat.add_one_ne_zero, Nat.succ_ne_zero, Nat.add_eq_zero_iff, and_false]) <;> rfl
set_option maxRecDepth 100000 in
set_option maxHeartbeats 4000000 in
theorem e166_121 {w : (Nat → Int32) × Nat} {d : Nat} {i1 : Int32} {i3 : Int32} {i5 : Int32} {i6 : Int32} {i7 : Int32} {i8 : Int32} {i9 : Int32} {D : dy_} : k166_121 w (d + 1) i1 i3 i5 i6 i7 i8 i9 D = mk_inb i1 110 none (if (D.1 352 i1.toNatClampNeg) ≤ i9 then (k166_63 w (d + 1) i1 i3 i5 (i6 + (nI 1)) D) else (op_o (k112_0 w d i1 i7 i9 D) none (fun p1 => op_vI p1.1 none (fun n1 => op_o (k112_0 w d i3 i8 i9 p1.2) none (fun p2 => op_vI p2.1 none (fun n2 => mk_inb (((nI 60) * n1) + n2) 3600 none (if (p2.2.1 375 (((nI 60) * n1) + n2).toNatClampNeg) ≠ (-1) then (k166_206 w (d + 1) i1 i3 i5 i6 i7 i8 i9 p2.2) else (mk_inb (((nI 60) * n1) + n2) 3600 none (mk_inb i5 3600 none (mk_inb i5 3600 none (mk_inb i5 3600 none (k166_206 w (d + 1) i1 i3 (i5 + (nI 1)) i6 i7 i8 i9 (dI_ (dI_ (dI_ (dI_ p2.2 375 (((nI 60) * n1) + n2).toNatClampNeg i5) 360 i5.toNatClampNeg (((nI 60) * n1) + n2)) 381 i5.toNatClampNeg i6) 382 i5.toNatClampNeg i9))))))))))))) := by
  refine (q_166_121 sh_ w.1 w.2 d i1 i3 i5 i6 i7 i8 i9 D).trans ?_
  (try simp only [rf_351_1, rf_351_12, rf_351_33, rf_351_44, rf_351_45, sf_351, sf_352, sf_360, sf_375, sf_381, sf_382, reduceIte, Nat.reduceEqDiff, Nat.add_one_ne_zero, Nat.succ_ne_zero, Nat.add_eq_zero_iff, and_false]) <;> rfl
set_option maxRecDepth 100000 in
set_option maxHeartbeats 4000000 in
theorem e166_206 {w : (Nat → Int32) × Nat} {d : Nat} {i1 : Int32} {i3 : Int32} {i5 : Int32} {i6 : Int32} {i7 : Int32} {i8 : Int32} {i9 : Int32} {D : dy_} : k166_206 w (d + 1) i1 i3 i5 i6 i7 i8 i9 D = k166_121 w (d + 1) i1 i3 i5 i6 i7 i8 (i9 + (nI 1)) D := by
  refine (q_166_206 sh_ w.1 w.2 d i1 i3 i5 i6 i7 i8 i9 D).trans ?_
  (try simp only [reduceIte, Nat.reduceEqDiff, Nat.add_one_ne_zero, Nat.succ_ne_zero, Nat.add_eq_zero_iff, and_false]) <;> rfl
set_option maxRecDepth 100000 in
set_option maxHeartbeats 4000000 in
theorem e167_0 {w : (Nat → Int32) × Nat} {d : Nat} {i1 : Int32} {D : dy_} : k167_0 w (d + 1) i1 D = k167_4 w (d + 1) i1 (nI 0) i1 D := by
  refine (q_167_0 sh_ w.1 w.2 d i1 D).trans ?_
  (try simp only [reduceIte, Nat.reduceEqDiff, Nat.add_one_ne_zero, Nat.succ_ne_zero, Nat.add_eq_zero_iff, and_false]) <;> rfl
set_option maxRecDepth 100000 in
set_option maxHeartbeats 4000000 in
theorem e167_4 {w : (Nat → Int32) × Nat} {d : Nat} {i1 : Int32} {i2 : Int32} {i3 : Int32} {D : dy_} : k167_4 w (d + 1) i1 i2 i3 D = mk_inb i3 3600 none (if (D.1 381 i3.toNatClampNeg) = (-1) then (k167_39 w (d + 1) i2 (i2 - (nI 1)) i1 (dI_ D 351 7 i2)) else (mk_inb i3 3600 none (k167_4 w (d + 1) i1 (i2 + (nI 1)) (D.1 381 i3.toNatClampNeg) D))) := by
  refine (q_167_4 sh_ w.1 w.2 d i1 i2 i3 D).trans ?_
  (try simp only [rf_351_44, sf_351, sf_381, reduceIte, Nat.reduceEqDiff, Nat.add_one_ne_zero, Nat.succ_ne_zero, Nat.add_eq_zero_iff, and_false]) <;> rfl
set_option maxRecDepth 100000 in
set_option maxHeartbeats 4000000 in
theorem e167_39 {w : (Nat → Int32) × Nat} {d : Nat} {i2 : Int32} {i3 : Int32} {i4 : Int32} {D : dy_} : k167_39 w (d + 1) i2 i3 i4 D = mk_inb i4 3600 none (if (D.1 381 i4.toNatClampNeg) = (-1) then (some (some (.int i2), D)) else (mk_inb i4 3600 none (mk_inb i3 500 none (mk_inb i4 3600 none (k167_39 w (d + 1) i2 (i3 + (-1)) ((dI_ D 357 i3.toNatClampNeg (vp_nar .byte (((nI 97) + (D.1 382 i4.toNatClampNeg)).toInt8.toInt32))).1 381 i4.toNatClampNeg) (dI_ D 357 i3.toNatClampNeg (vp_nar .byte (((nI 97) + (D.1 382 i4.toNatClampNeg)).toInt8.toInt32)))))))) := by
  refine (q_167_39 sh_ w.1 w.2 d i2 i3 i4 D).trans ?_
  (try simp only [rf_351_44, rf_351_45, rf_351_6, sf_351, sf_357, sf_381, sf_382, reduceIte, Nat.reduceEqDiff, Nat.add_one_ne_zero, Nat.succ_ne_zero, Nat.add_eq_zero_iff, and_false]) <;> rfl
set_option maxRecDepth 100000 in
set_option maxHeartbeats 4000000 in
theorem e168_0 {w : (Nat → Int32) × Nat} {d : Nat} {i1 : Int32} {i2 : Int32} {D : dy_} : k168_0 w (d + 1) i1 i2 D = op_o (k114_0 w d i1 (dI_ D 351 0 (nI 0))) none (fun p1 => op_vI p1.1 none (fun n1 => if n1 = (nI 0) then (some (some (.int (-102)), p1.2)) else (op_o (k114_0 w d i2 p1.2) none (fun p2 => op_vI p2.1 none (fun n2 => if n2 ≠ (nI 0) then (mk_inb i1 110 none (mk_inb i2 110 none (if (p2.2.1 352 i1.toNatClampNeg) = (p2.2.1 352 i2.toNatClampNeg) then (mk_inb i1 110 none (mk_inb i2 110 none (op_o (k166_0 w d i1 (p2.2.1 354 i1.toNatClampNeg) i2 (p2.2.1 354 i2.toNatClampNeg) p2.2) none (fun p3 => op_vI p3.1 none (fun n3 => if n3 ≠ (-1) then (some (some (.int (nI 0)), p3.2)) else (some (some (.int (nI 1)), p3.2))))))) else (some (some (.int (-103)), p2.2))))) else (some (some (.int (-102)), p2.2))))))) := by
  refine (q_168_0 sh_ w.1 w.2 d i1 i2 D).trans ?_
  (try simp only [rf_351_1, rf_351_3, sf_351, sf_352, sf_354, reduceIte, Nat.reduceEqDiff, Nat.add_one_ne_zero, Nat.succ_ne_zero, Nat.add_eq_zero_iff, and_false]) <;> rfl
set_option maxRecDepth 100000 in
set_option maxHeartbeats 4000000 in
theorem e169_0 {w : (Nat → Int32) × Nat} {d : Nat} {i1 : Int32} {i2 : Int32} {i3 : Int32} {D : dy_} : k169_0 w (d + 1) i1 i2 i3 D = op_o (k116_0 w d i1 i2 (dI_ D 351 0 (nI 0))) none (fun p1 => op_vI p1.1 none (fun n1 => if n1 = (nI 0) then (some (some (.int (-102)), p1.2)) else (op_o (k116_0 w d i1 i3 p1.2) none (fun p2 => op_vI p2.1 none (fun n2 => if n2 ≠ (nI 0) then (op_o (k166_0 w d i1 i2 i1 i3 p2.2) none (fun p3 => op_vI p3.1 none (fun n3 => some (some (.int n3), p3.2)))) else (some (some (.int (-102)), p2.2))))))) := by
  refine (q_169_0 sh_ w.1 w.2 d i1 i2 i3 D).trans ?_
  (try simp only [sf_351, reduceIte, Nat.reduceEqDiff, Nat.add_one_ne_zero, Nat.succ_ne_zero, Nat.add_eq_zero_iff, and_false]) <;> rfl
set_option maxRecDepth 100000 in
set_option maxHeartbeats 4000000 in
theorem e170_0 {w : (Nat → Int32) × Nat} {d : Nat} {i1 : Int32} {D : dy_} : k170_0 w (d + 1) i1 D = k170_2 w (d + 1) i1 (nI 0) D := by
  refine (q_170_0 sh_ w.1 w.2 d i1 D).trans ?_
  (try simp only [reduceIte, Nat.reduceEqDiff, Nat.add_one_ne_zero, Nat.succ_ne_zero, Nat.add_eq_zero_iff, and_false]) <;> rfl
set_option maxRecDepth 100000 in
set_option maxHeartbeats 4000000 in
theorem e170_2 {w : (Nat → Int32) × Nat} {d : Nat} {i1 : Int32} {i2 : Int32} {D : dy_} : k170_2 w (d + 1) i1 i2 D = if (nI 30) < i2 then (some (none, D)) else (k170_10 w (d + 1) i1 i2 (nI 0) D) := by
  refine (q_170_2 sh_ w.1 w.2 d i1 i2 D).trans ?_
  (try simp only [reduceIte, Nat.reduceEqDiff, Nat.add_one_ne_zero, Nat.succ_ne_zero, Nat.add_eq_zero_iff, and_false]) <;> rfl
set_option maxRecDepth 100000 in
set_option maxHeartbeats 4000000 in
theorem e170_10 {w : (Nat → Int32) × Nat} {d : Nat} {i1 : Int32} {i2 : Int32} {i3 : Int32} {D : dy_} : k170_10 w (d + 1) i1 i2 i3 D = mk_inb i1 110 none (if (D.1 353 i1.toNatClampNeg) ≤ i3 then (k170_2 w (d + 1) i1 (i2 + (nI 1)) D) else (k170_26 w (d + 1) i1 i2 i3 (lN 0) (nI 0) D)) := by
  refine (q_170_10 sh_ w.1 w.2 d i1 i2 i3 D).trans ?_
  (try simp only [rf_351_2, sf_351, sf_353, reduceIte, Nat.reduceEqDiff, Nat.add_one_ne_zero, Nat.succ_ne_zero, Nat.add_eq_zero_iff, and_false]) <;> rfl
set_option maxRecDepth 100000 in
set_option maxHeartbeats 4000000 in
theorem e170_26 {w : (Nat → Int32) × Nat} {d : Nat} {i1 : Int32} {i2 : Int32} {i3 : Int32} {j4 : Int64} {i6 : Int32} {D : dy_} : k170_26 w (d + 1) i1 i2 i3 j4 i6 D = mk_inb i1 110 none (if (D.1 352 i1.toNatClampNeg) ≤ i6 then (k170_72 w (d + 1) i1 i2 i3 j4 D) else (if i2 ≤ (nI 0) then (k170_72 w (d + 1) i1 i2 i3 j4 D) else (op_o (k112_0 w d i1 i3 i6 D) none (fun p1 => op_vI p1.1 none (fun n1 => mk_inb (((nI 60) * (i2 - (nI 1))) + n1) 1860 none (k170_26 w (d + 1) i1 i2 i3 (j4 + (p1.2.2 383 (((nI 60) * (i2 - (nI 1))) + n1).toNatClampNeg)) (i6 + (nI 1)) p1.2)))))) := by
  refine (q_170_26 sh_ w.1 w.2 d i1 i2 i3 j4 i6 D).trans ?_
  (try simp only [rf_351_1, rf_351_46, sf_351, sf_352, sf_383, reduceIte, Nat.reduceEqDiff, Nat.add_one_ne_zero, Nat.succ_ne_zero, Nat.add_eq_zero_iff, and_false]) <;> rfl
set_option maxRecDepth 100000 in
set_option maxHeartbeats 4000000 in
theorem e170_72 {w : (Nat → Int32) × Nat} {d : Nat} {i1 : Int32} {i2 : Int32} {i3 : Int32} {j4 : Int64} {D : dy_} : k170_72 w (d + 1) i1 i2 i3 j4 D = if i2 ≤ (nI 0) then (op_o (k113_0 w d i1 i3 D) none (fun p1 => op_vI p1.1 none (fun n1 => if n1 = (nI 0) then (k170_105 w (d + 1) i1 i2 i3 383 (((nI 60) * i2) + i3) (lN 0) p1.2) else (k170_105 w (d + 1) i1 i2 i3 383 (((nI 60) * i2) + i3) (lN 1) p1.2)))) else (k170_105 w (d + 1) i1 i2 i3 383 (((nI 60) * i2) + i3) j4 D) := by
  refine (q_170_72 sh_ w.1 w.2 d i1 i2 i3 j4 D).trans ?_
  (try simp only [rf_351_46, sf_351, reduceIte, Nat.reduceEqDiff, Nat.add_one_ne_zero, Nat.succ_ne_zero, Nat.add_eq_zero_iff, and_false]) <;> rfl
set_option maxRecDepth 100000 in
set_option maxHeartbeats 4000000 in
theorem e170_105 {w : (Nat → Int32) × Nat} {d : Nat} {i1 : Int32} {i2 : Int32} {i3 : Int32} {sr0 : Nat} {si1 : Int32} {sj2 : Int64} {D : dy_} : k170_105 w (d + 1) i1 i2 i3 sr0 si1 sj2 D = if (sh_.1 sr0).1 = 4 then (mk_inb si1 (sh_.1 sr0).2 none (k170_10 w (d + 1) i1 i2 (i3 + (nI 1)) (dL_ D sr0 si1.toNatClampNeg sj2))) else none := by
  refine (q_170_105 sh_ w.1 w.2 d i1 i2 i3 sr0 si1 sj2 D).trans ?_
  (try simp only [reduceIte, Nat.reduceEqDiff, Nat.add_one_ne_zero, Nat.succ_ne_zero, Nat.add_eq_zero_iff, and_false]) <;> rfl
set_option maxRecDepth 100000 in
set_option maxHeartbeats 4000000 in
theorem e171_0 {w : (Nat → Int32) × Nat} {d : Nat} {i1 : Int32} {i2 : Int32} {D : dy_} : k171_0 w (d + 1) i1 i2 D = op_o (k114_0 w d i1 (dI_ D 351 0 (nI 0))) none (fun p1 => op_vI p1.1 none (fun n1 => if n1 = (nI 0) then (some (some (.long (-1)), p1.2)) else (op_o (k111_0 w d i2.toInt64 (lN 0) (lN 30) p1.2) none (fun p2 => op_vI p2.1 none (fun n2 => if n2 ≠ (nI 0) then (op_o (k170_0 w d i1 p2.2) none (fun p3 => op_vN p3.1 none (mk_inb i1 110 none (mk_inb (((nI 60) * i2) + (p3.2.1 354 i1.toNatClampNeg)) 1860 none (some (some (.long (p3.2.2 383 (((nI 60) * i2) + (p3.2.1 354 i1.toNatClampNeg)).toNatClampNeg)), p3.2)))))) else (some (some (.long (-1)), p2.2))))))) := by
  refine (q_171_0 sh_ w.1 w.2 d i1 i2 D).trans ?_
  (try simp only [rf_351_3, rf_351_46, sf_351, sf_354, sf_383, reduceIte, Nat.reduceEqDiff, Nat.add_one_ne_zero, Nat.succ_ne_zero, Nat.add_eq_zero_iff, and_false]) <;> rfl
set_option maxRecDepth 100000 in
set_option maxHeartbeats 4000000 in
theorem e172_0 {w : (Nat → Int32) × Nat} {d : Nat} {i1 : Int32} {j2 : Int64} {D : dy_} : k172_0 w (d + 1) i1 j2 D = op_o (k114_0 w d i1 (dI_ D 351 0 (nI 0))) none (fun p1 => op_vI p1.1 none (fun n1 => if n1 = (nI 0) then (some (some (.int (-102)), p1.2)) else (if (nI 0) ≤ (lg_cmp j2 (lN 0)) then (op_o (k170_0 w d i1 p1.2) none (fun p2 => op_vN p2.1 none (k172_32 w (d + 1) i1 j2 (nI 0) p2.2))) else (some (some (.int (-102)), p1.2))))) := by
  refine (q_172_0 sh_ w.1 w.2 d i1 j2 D).trans ?_
  (try simp only [sf_351, reduceIte, Nat.reduceEqDiff, Nat.add_one_ne_zero, Nat.succ_ne_zero, Nat.add_eq_zero_iff, and_false]) <;> rfl
set_option maxRecDepth 100000 in
set_option maxHeartbeats 4000000 in
theorem e172_32 {w : (Nat → Int32) × Nat} {d : Nat} {i1 : Int32} {j4 : Int64} {i6 : Int32} {D : dy_} : k172_32 w (d + 1) i1 j4 i6 D = if (nI 30) < i6 then (k172_90 w (d + 1) i1 j4 i6 D) else (mk_inb i1 110 none (mk_inb (((nI 60) * i6) + (D.1 354 i1.toNatClampNeg)) 1860 none (if (lg_cmp j4 (D.2 383 (((nI 60) * i6) + (D.1 354 i1.toNatClampNeg)).toNatClampNeg)) < (nI 0) then (k172_90 w (d + 1) i1 j4 i6 D) else (mk_inb i1 110 none (mk_inb (((nI 60) * i6) + (D.1 354 i1.toNatClampNeg)) 1860 none (k172_32 w (d + 1) i1 (j4 - (D.2 383 (((nI 60) * i6) + (D.1 354 i1.toNatClampNeg)).toNatClampNeg)) (i6 + (nI 1)) D)))))) := by
  refine (q_172_32 sh_ w.1 w.2 d i1 j4 i6 D).trans ?_
  (try simp only [rf_351_3, rf_351_46, sf_351, sf_354, sf_383, reduceIte, Nat.reduceEqDiff, Nat.add_one_ne_zero, Nat.succ_ne_zero, Nat.add_eq_zero_iff, and_false]) <;> rfl
set_option maxRecDepth 100000 in
set_option maxHeartbeats 4000000 in
theorem e172_90 {w : (Nat → Int32) × Nat} {d : Nat} {i1 : Int32} {j4 : Int64} {i6 : Int32} {D : dy_} : k172_90 w (d + 1) i1 j4 i6 D = if i6 ≤ (nI 30) then (mk_inb i1 110 none (k172_116 w (d + 1) i1 j4 i6 (D.1 354 i1.toNatClampNeg) (nI 0) (dI_ D 351 7 i6))) else (some (some (.int (-1)), D)) := by
  refine (q_172_90 sh_ w.1 w.2 d i1 j4 i6 D).trans ?_
  (try simp only [rf_351_3, sf_351, sf_354, reduceIte, Nat.reduceEqDiff, Nat.add_one_ne_zero, Nat.succ_ne_zero, Nat.add_eq_zero_iff, and_false]) <;> rfl
set_option maxRecDepth 100000 in
set_option maxHeartbeats 4000000 in
theorem e172_116 {w : (Nat → Int32) × Nat} {d : Nat} {i1 : Int32} {j4 : Int64} {i6 : Int32} {i7 : Int32} {i8 : Int32} {D : dy_} : k172_116 w (d + 1) i1 j4 i6 i7 i8 D = if i6 ≤ i8 then (some (some (.int i6), D)) else (k172_126 w (d + 1) i1 j4 i6 i7 i8 (nI 0) D) := by
  refine (q_172_116 sh_ w.1 w.2 d i1 j4 i6 i7 i8 D).trans ?_
  (try simp only [reduceIte, Nat.reduceEqDiff, Nat.add_one_ne_zero, Nat.succ_ne_zero, Nat.add_eq_zero_iff, and_false]) <;> rfl
set_option maxRecDepth 100000 in
set_option maxHeartbeats 4000000 in
theorem e172_126 {w : (Nat → Int32) × Nat} {d : Nat} {i1 : Int32} {j4 : Int64} {i6 : Int32} {i7 : Int32} {i8 : Int32} {i9 : Int32} {D : dy_} : k172_126 w (d + 1) i1 j4 i6 i7 i8 i9 D = op_o (k112_0 w d i1 i7 i9 D) none (fun p1 => op_vI p1.1 none (fun n1 => mk_inb (((nI 60) * ((i6 - i8) - (nI 1))) + n1) 1860 none (if (lg_cmp j4 (p1.2.2 383 (((nI 60) * ((i6 - i8) - (nI 1))) + n1).toNatClampNeg)) < (nI 0) then (mk_inb i8 500 none (op_o (k112_0 w d i1 i7 i9 (dI_ p1.2 357 i8.toNatClampNeg (vp_nar .byte (((nI 97) + i9).toInt8.toInt32)))) none (fun p2 => op_vI p2.1 none (fun n2 => k172_116 w (d + 1) i1 j4 i6 n2 (i8 + (nI 1)) p2.2)))) else (op_o (k112_0 w d i1 i7 i9 p1.2) none (fun p3 => op_vI p3.1 none (fun n3 => mk_inb (((nI 60) * ((i6 - i8) - (nI 1))) + n3) 1860 none (k172_126 w (d + 1) i1 (j4 - (p3.2.2 383 (((nI 60) * ((i6 - i8) - (nI 1))) + n3).toNatClampNeg)) i6 i7 i8 (i9 + (nI 1)) p3.2))))))) := by
  refine (q_172_126 sh_ w.1 w.2 d i1 j4 i6 i7 i8 i9 D).trans ?_
  (try simp only [rf_351_46, rf_351_6, sf_351, sf_357, sf_383, reduceIte, Nat.reduceEqDiff, Nat.add_one_ne_zero, Nat.succ_ne_zero, Nat.add_eq_zero_iff, and_false]) <;> rfl
set_option maxRecDepth 100000 in
set_option maxHeartbeats 4000000 in
theorem e173_0 {w : (Nat → Int32) × Nat} {d : Nat} {i1 : Int32} {D : dy_} : k173_0 w (d + 1) i1 D = op_o (k114_0 w d i1 (dI_ D 351 0 (nI 0))) none (fun p1 => op_vI p1.1 none (fun n1 => if n1 = (nI 0) then (k173_21 w (d + 1) i1 (-1) p1.2) else (op_o (k164_0 w d i1 p1.2) none (fun p2 => op_vI p2.1 none (fun n2 => k173_21 w (d + 1) i1 n2 p2.2))))) := by
  refine (q_173_0 sh_ w.1 w.2 d i1 D).trans ?_
  (try simp only [sf_351, reduceIte, Nat.reduceEqDiff, Nat.add_one_ne_zero, Nat.succ_ne_zero, Nat.add_eq_zero_iff, and_false]) <;> rfl
set_option maxRecDepth 100000 in
set_option maxHeartbeats 4000000 in
theorem e173_21 {w : (Nat → Int32) × Nat} {d : Nat} {i1 : Int32} {si0 : Int32} {D : dy_} : k173_21 w (d + 1) i1 si0 D = if si0 = (-1) then (some (some (.long (-1)), D)) else (if (nI 30) < (D.1 351 7) then (some (some (.long (-1)), D)) else (op_o (k113_0 w d i1 si0 D) none (fun p1 => op_vI p1.1 none (fun n1 => if n1 ≠ (nI 0) then (op_o (k170_0 w d i1 p1.2) none (fun p2 => op_vN p2.1 none (k173_59 w (d + 1) i1 (lN 0) (nI 0) p2.2))) else (some (some (.long (-1)), p1.2)))))) := by
  refine (q_173_21 sh_ w.1 w.2 d i1 si0 D).trans ?_
  (try simp only [sf_351, reduceIte, Nat.reduceEqDiff, Nat.add_one_ne_zero, Nat.succ_ne_zero, Nat.add_eq_zero_iff, and_false]) <;> rfl
set_option maxRecDepth 100000 in
set_option maxHeartbeats 4000000 in
theorem e173_59 {w : (Nat → Int32) × Nat} {d : Nat} {i1 : Int32} {j3 : Int64} {i5 : Int32} {D : dy_} : k173_59 w (d + 1) i1 j3 i5 D = if (D.1 351 7) ≤ i5 then (mk_inb i1 110 none (k173_105 w (d + 1) i1 j3 (D.1 354 i1.toNatClampNeg) (nI 0) D)) else (mk_inb i1 110 none (mk_inb (((nI 60) * i5) + (D.1 354 i1.toNatClampNeg)) 1860 none (k173_59 w (d + 1) i1 (j3 + (D.2 383 (((nI 60) * i5) + (D.1 354 i1.toNatClampNeg)).toNatClampNeg)) (i5 + (nI 1)) D))) := by
  refine (q_173_59 sh_ w.1 w.2 d i1 j3 i5 D).trans ?_
  (try simp only [rf_351_3, rf_351_46, sf_351, sf_354, sf_383, reduceIte, Nat.reduceEqDiff, Nat.add_one_ne_zero, Nat.succ_ne_zero, Nat.add_eq_zero_iff, and_false]) <;> rfl
set_option maxRecDepth 100000 in
set_option maxHeartbeats 4000000 in
theorem e173_105 {w : (Nat → Int32) × Nat} {d : Nat} {i1 : Int32} {j3 : Int64} {i5 : Int32} {i6 : Int32} {D : dy_} : k173_105 w (d + 1) i1 j3 i5 i6 D = if (D.1 351 7) ≤ i6 then (some (some (.long j3), D)) else (op_o (k148_0 w d i6 D) none (fun p1 => op_vI p1.1 none (fun n1 => k173_128 w (d + 1) i1 j3 i5 i6 (n1 - (nI 97)) (nI 0) p1.2))) := by
  refine (q_173_105 sh_ w.1 w.2 d i1 j3 i5 i6 D).trans ?_
  (try simp only [sf_351, reduceIte, Nat.reduceEqDiff, Nat.add_one_ne_zero, Nat.succ_ne_zero, Nat.add_eq_zero_iff, and_false]) <;> rfl
set_option maxRecDepth 100000 in
set_option maxHeartbeats 4000000 in
theorem e173_128 {w : (Nat → Int32) × Nat} {d : Nat} {i1 : Int32} {j3 : Int64} {i5 : Int32} {i6 : Int32} {i7 : Int32} {i8 : Int32} {D : dy_} : k173_128 w (d + 1) i1 j3 i5 i6 i7 i8 D = if i7 ≤ i8 then (op_o (k112_0 w d i1 i5 i7 D) none (fun p1 => op_vI p1.1 none (fun n1 => k173_105 w (d + 1) i1 j3 n1 (i6 + (nI 1)) p1.2))) else (op_o (k112_0 w d i1 i5 i8 D) none (fun p2 => op_vI p2.1 none (fun n2 => mk_inb (((nI 60) * (((D.1 351 7) - i6) - (nI 1))) + n2) 1860 none (k173_128 w (d + 1) i1 (j3 + (p2.2.2 383 (((nI 60) * (((D.1 351 7) - i6) - (nI 1))) + n2).toNatClampNeg)) i5 i6 i7 (i8 + (nI 1)) p2.2)))) := by
  refine (q_173_128 sh_ w.1 w.2 d i1 j3 i5 i6 i7 i8 D).trans ?_
  (try simp only [rf_351_46, sf_351, sf_383, reduceIte, Nat.reduceEqDiff, Nat.add_one_ne_zero, Nat.succ_ne_zero, Nat.add_eq_zero_iff, and_false]) <;> rfl
set_option maxRecDepth 100000 in
set_option maxHeartbeats 4000000 in
theorem e174_0 {w : (Nat → Int32) × Nat} {d : Nat} {i1 : Int32} {D : dy_} : k174_0 w (d + 1) i1 D = op_o (k111_0 w d i1.toInt64 (lN 0) ((((dI_ D 351 0 (nI 0)).1 351 7) - (nI 1)).toInt64) (dI_ D 351 0 (nI 0))) none (fun p1 => op_vI p1.1 none (fun n1 => if n1 = (nI 0) then (some (some (.int (-1)), p1.2)) else (mk_inb i1 500 none (some (some (.int ((p1.2.1 357 i1.toNatClampNeg) &&& (nI 255))), p1.2))))) := by
  refine (q_174_0 sh_ w.1 w.2 d i1 D).trans ?_
  (try simp only [rf_351_6, sf_351, sf_357, reduceIte, Nat.reduceEqDiff, Nat.add_one_ne_zero, Nat.succ_ne_zero, Nat.add_eq_zero_iff, and_false]) <;> rfl
set_option maxRecDepth 100000 in
set_option maxHeartbeats 4000000 in
theorem e175_0 {w : (Nat → Int32) × Nat} {d : Nat}  {D : dy_} : k175_0 w (d + 1) D = some (some (.int ((dI_ D 351 0 (nI 0)).1 351 7)), (dI_ D 351 0 (nI 0))) := by
  refine (q_175_0 sh_ w.1 w.2 d  D).trans ?_
  (try simp only [sf_351, reduceIte, Nat.reduceEqDiff, Nat.add_one_ne_zero, Nat.succ_ne_zero, Nat.add_eq_zero_iff, and_false]) <;> rfl
set_option maxRecDepth 100000 in
set_option maxHeartbeats 4000000 in
theorem e176_0 {w : (Nat → Int32) × Nat} {d : Nat} {i1 : Int32} {i2 : Int32} {D : dy_} : k176_0 w (d + 1) i1 i2 D = k176_5 w (d + 1) i1 i2 (nI 1) (nI 0) D := by
  refine (q_176_0 sh_ w.1 w.2 d i1 i2 D).trans ?_
  (try simp only [reduceIte, Nat.reduceEqDiff, Nat.add_one_ne_zero, Nat.succ_ne_zero, Nat.add_eq_zero_iff, and_false]) <;> rfl
set_option maxRecDepth 100000 in
set_option maxHeartbeats 4000000 in
theorem e176_5 {w : (Nat → Int32) × Nat} {d : Nat} {i1 : Int32} {i2 : Int32} {i3 : Int32} {i4 : Int32} {D : dy_} : k176_5 w (d + 1) i1 i2 i3 i4 D = if (D.1 351 48) ≤ i4 then (if i3 = 0 ∨ i3 = 1 then some (some (.int i3), D) else none) else (if i3 = (nI 0) then (k176_49 w (d + 1) i1 i2 i4 D) else (mk_inb (((nI 60) * i1) + i4) 24060 none (mk_inb (((nI 60) * i2) + i4) 24060 none (if (D.1 384 (((nI 60) * i1) + i4).toNatClampNeg) ≠ (D.1 384 (((nI 60) * i2) + i4).toNatClampNeg) then (k176_49 w (d + 1) i1 i2 i4 D) else (k176_50 w (d + 1) i1 i2 i4 (nI 1) D))))) := by
  refine (q_176_5 sh_ w.1 w.2 d i1 i2 i3 i4 D).trans ?_
  (try simp only [rf_351_50, sf_351, sf_384, reduceIte, Nat.reduceEqDiff, Nat.add_one_ne_zero, Nat.succ_ne_zero, Nat.add_eq_zero_iff, and_false]) <;> rfl
set_option maxRecDepth 100000 in
set_option maxHeartbeats 4000000 in
theorem e176_49 {w : (Nat → Int32) × Nat} {d : Nat} {i1 : Int32} {i2 : Int32} {i4 : Int32} {D : dy_} : k176_49 w (d + 1) i1 i2 i4 D = k176_50 w (d + 1) i1 i2 i4 (nI 0) D := by
  refine (q_176_49 sh_ w.1 w.2 d i1 i2 i4 D).trans ?_
  (try simp only [reduceIte, Nat.reduceEqDiff, Nat.add_one_ne_zero, Nat.succ_ne_zero, Nat.add_eq_zero_iff, and_false]) <;> rfl
set_option maxRecDepth 100000 in
set_option maxHeartbeats 4000000 in
theorem e176_50 {w : (Nat → Int32) × Nat} {d : Nat} {i1 : Int32} {i2 : Int32} {i4 : Int32} {si0 : Int32} {D : dy_} : k176_50 w (d + 1) i1 i2 i4 si0 D = k176_5 w (d + 1) i1 i2 si0 (i4 + (nI 1)) D := by
  refine (q_176_50 sh_ w.1 w.2 d i1 i2 i4 si0 D).trans ?_
  (try simp only [reduceIte, Nat.reduceEqDiff, Nat.add_one_ne_zero, Nat.succ_ne_zero, Nat.add_eq_zero_iff, and_false]) <;> rfl
set_option maxRecDepth 100000 in
set_option maxHeartbeats 4000000 in
theorem e177_0 {w : (Nat → Int32) × Nat} {d : Nat} {i1 : Int32} {D : dy_} : k177_0 w (d + 1) i1 D = op_o (k114_0 w d i1 (dI_ D 351 0 (nI 0))) none (fun p1 => op_vI p1.1 none (fun n1 => if n1 ≠ (nI 0) then (op_o (k122_0 w d i1 p1.2) none (fun p2 => op_vN p2.1 none (op_o (k127_0 w d p2.2) none (fun p3 => op_vN p3.1 none (k177_42 w (d + 1) (nI 0) (dI_ (dI_ p3.2 351 48 (p3.2.1 351 9)) 351 49 ((dI_ p3.2 351 48 (p3.2.1 351 9)).1 351 8))))))) else (some (some (.int (-102)), p1.2)))) := by
  refine (q_177_0 sh_ w.1 w.2 d i1 D).trans ?_
  (try simp only [sf_351, reduceIte, Nat.reduceEqDiff, Nat.add_one_ne_zero, Nat.succ_ne_zero, Nat.add_eq_zero_iff, and_false]) <;> rfl
set_option maxRecDepth 100000 in
set_option maxHeartbeats 4000000 in
theorem e177_42 {w : (Nat → Int32) × Nat} {d : Nat} {i2 : Int32} {D : dy_} : k177_42 w (d + 1) i2 D = if (D.1 351 49) ≤ i2 then (k177_100 w (d + 1) (nI 0) (dI_ D 351 47 (nI 1))) else (k177_52 w (d + 1) i2 (nI 0) D) := by
  refine (q_177_42 sh_ w.1 w.2 d i2 D).trans ?_
  (try simp only [sf_351, reduceIte, Nat.reduceEqDiff, Nat.add_one_ne_zero, Nat.succ_ne_zero, Nat.add_eq_zero_iff, and_false]) <;> rfl
set_option maxRecDepth 100000 in
set_option maxHeartbeats 4000000 in
theorem e177_52 {w : (Nat → Int32) × Nat} {d : Nat} {i2 : Int32} {i3 : Int32} {D : dy_} : k177_52 w (d + 1) i2 i3 D = if (D.1 351 9) ≤ i3 then (k177_42 w (d + 1) (i2 + (nI 1)) D) else (mk_inb (((nI 4) * i3) + i2) 14400 none (mk_inb (((nI 60) * i2) + i3) 240 none (k177_52 w (d + 1) i2 (i3 + (nI 1)) (dI_ D 385 (((nI 60) * i2) + i3).toNatClampNeg (D.1 358 (((nI 4) * i3) + i2).toNatClampNeg))))) := by
  refine (q_177_52 sh_ w.1 w.2 d i2 i3 D).trans ?_
  (try simp only [rf_351_10, rf_351_51, sf_351, sf_358, sf_385, reduceIte, Nat.reduceEqDiff, Nat.add_one_ne_zero, Nat.succ_ne_zero, Nat.add_eq_zero_iff, and_false]) <;> rfl
set_option maxRecDepth 100000 in
set_option maxHeartbeats 4000000 in
theorem e177_100 {w : (Nat → Int32) × Nat} {d : Nat} {i2 : Int32} {D : dy_} : k177_100 w (d + 1) i2 D = if (D.1 351 9) ≤ i2 then (k177_123 w (d + 1) (nI 0) D) else (mk_inb i2 24060 none (k177_100 w (d + 1) (i2 + (nI 1)) (dI_ D 384 i2.toNatClampNeg i2))) := by
  refine (q_177_100 sh_ w.1 w.2 d i2 D).trans ?_
  (try simp only [rf_351_50, sf_351, sf_384, reduceIte, Nat.reduceEqDiff, Nat.add_one_ne_zero, Nat.succ_ne_zero, Nat.add_eq_zero_iff, and_false]) <;> rfl
set_option maxRecDepth 100000 in
set_option maxHeartbeats 4000000 in
theorem e177_123 {w : (Nat → Int32) × Nat} {d : Nat} {i2 : Int32} {D : dy_} : k177_123 w (d + 1) i2 D = if (D.1 351 47) ≤ i2 then (some (some (.int (D.1 351 47)), D)) else (k177_133 w (d + 1) i2 (nI 0) D) := by
  refine (q_177_123 sh_ w.1 w.2 d i2 D).trans ?_
  (try simp only [sf_351, reduceIte, Nat.reduceEqDiff, Nat.add_one_ne_zero, Nat.succ_ne_zero, Nat.add_eq_zero_iff, and_false]) <;> rfl
set_option maxRecDepth 100000 in
set_option maxHeartbeats 4000000 in
theorem e177_133 {w : (Nat → Int32) × Nat} {d : Nat} {i2 : Int32} {i3 : Int32} {D : dy_} : k177_133 w (d + 1) i2 i3 D = if (D.1 351 49) ≤ i3 then (k177_123 w (d + 1) (i2 + (nI 1)) D) else (k177_144 w (d + 1) i2 i3 (nI 0) D) := by
  refine (q_177_133 sh_ w.1 w.2 d i2 i3 D).trans ?_
  (try simp only [sf_351, reduceIte, Nat.reduceEqDiff, Nat.add_one_ne_zero, Nat.succ_ne_zero, Nat.add_eq_zero_iff, and_false]) <;> rfl
set_option maxRecDepth 100000 in
set_option maxHeartbeats 4000000 in
theorem e177_144 {w : (Nat → Int32) × Nat} {d : Nat} {i2 : Int32} {i3 : Int32} {i4 : Int32} {D : dy_} : k177_144 w (d + 1) i2 i3 i4 D = if (D.1 351 9) ≤ i4 then (k177_202 w (d + 1) i2 i3 (nI 1) (nI 0) D) else (mk_inb (((nI 60) * i2) + i4) 24060 none (mk_inb (((nI 60) * i3) + (D.1 384 (((nI 60) * i2) + i4).toNatClampNeg)) 240 none (mk_inb (((nI 60) * (D.1 351 47)) + i4) 24060 none (k177_144 w (d + 1) i2 i3 (i4 + (nI 1)) (dI_ D 384 (((nI 60) * (D.1 351 47)) + i4).toNatClampNeg (D.1 385 (((nI 60) * i3) + (D.1 384 (((nI 60) * i2) + i4).toNatClampNeg)).toNatClampNeg)))))) := by
  refine (q_177_144 sh_ w.1 w.2 d i2 i3 i4 D).trans ?_
  (try simp only [rf_351_50, rf_351_51, sf_351, sf_384, sf_385, reduceIte, Nat.reduceEqDiff, Nat.add_one_ne_zero, Nat.succ_ne_zero, Nat.add_eq_zero_iff, and_false]) <;> rfl
set_option maxRecDepth 100000 in
set_option maxHeartbeats 4000000 in
theorem e177_202 {w : (Nat → Int32) × Nat} {d : Nat} {i2 : Int32} {i3 : Int32} {i4 : Int32} {i5 : Int32} {D : dy_} : k177_202 w (d + 1) i2 i3 i4 i5 D = if (D.1 351 47) ≤ i5 then (k177_242 w (d + 1) i2 i3 i4 D) else (if i4 = (nI 0) then (k177_242 w (d + 1) i2 i3 i4 D) else (op_o (k176_0 w d i5 (D.1 351 47) D) none (fun p1 => op_vI p1.1 none (fun n1 => if n1 ≠ (nI 0) then (k177_234 w (d + 1) i2 i3 i5 (nI 0) p1.2) else (k177_234 w (d + 1) i2 i3 i5 (nI 1) p1.2))))) := by
  refine (q_177_202 sh_ w.1 w.2 d i2 i3 i4 i5 D).trans ?_
  (try simp only [sf_351, reduceIte, Nat.reduceEqDiff, Nat.add_one_ne_zero, Nat.succ_ne_zero, Nat.add_eq_zero_iff, and_false]) <;> rfl
set_option maxRecDepth 100000 in
set_option maxHeartbeats 4000000 in
theorem e177_234 {w : (Nat → Int32) × Nat} {d : Nat} {i2 : Int32} {i3 : Int32} {i5 : Int32} {si0 : Int32} {D : dy_} : k177_234 w (d + 1) i2 i3 i5 si0 D = k177_202 w (d + 1) i2 i3 si0 (i5 + (nI 1)) D := by
  refine (q_177_234 sh_ w.1 w.2 d i2 i3 i5 si0 D).trans ?_
  (try simp only [reduceIte, Nat.reduceEqDiff, Nat.add_one_ne_zero, Nat.succ_ne_zero, Nat.add_eq_zero_iff, and_false]) <;> rfl
set_option maxRecDepth 100000 in
set_option maxHeartbeats 4000000 in
theorem e177_242 {w : (Nat → Int32) × Nat} {d : Nat} {i2 : Int32} {i3 : Int32} {i4 : Int32} {D : dy_} : k177_242 w (d + 1) i2 i3 i4 D = if i4 = (nI 0) then (k177_265 w (d + 1) i2 i3 i4 D) else (if (D.1 351 47) ≠ (nI 400) then (k177_265 w (d + 1) i2 i3 i4 D) else (some (some (.int (-104)), (dI_ D 351 47 (nI 0))))) := by
  refine (q_177_242 sh_ w.1 w.2 d i2 i3 i4 D).trans ?_
  (try simp only [sf_351, reduceIte, Nat.reduceEqDiff, Nat.add_one_ne_zero, Nat.succ_ne_zero, Nat.add_eq_zero_iff, and_false]) <;> rfl
set_option maxRecDepth 100000 in
set_option maxHeartbeats 4000000 in
theorem e177_265 {w : (Nat → Int32) × Nat} {d : Nat} {i2 : Int32} {i3 : Int32} {i4 : Int32} {D : dy_} : k177_265 w (d + 1) i2 i3 i4 D = if i4 = (nI 0) then (k177_284 w (d + 1) i2 i3 (D.1 351 47) D) else (k177_284 w (d + 1) i2 i3 ((D.1 351 47) + (nI 1)) D) := by
  refine (q_177_265 sh_ w.1 w.2 d i2 i3 i4 D).trans ?_
  (try simp only [sf_351, reduceIte, Nat.reduceEqDiff, Nat.add_one_ne_zero, Nat.succ_ne_zero, Nat.add_eq_zero_iff, and_false]) <;> rfl
set_option maxRecDepth 100000 in
set_option maxHeartbeats 4000000 in
theorem e177_284 {w : (Nat → Int32) × Nat} {d : Nat} {i2 : Int32} {i3 : Int32} {si1 : Int32} {D : dy_} : k177_284 w (d + 1) i2 i3 si1 D = k177_133 w (d + 1) i2 (i3 + (nI 1)) (dI_ D 351 47 si1) := by
  refine (q_177_284 sh_ w.1 w.2 d i2 i3 si1 D).trans ?_
  (try simp only [sf_351, reduceIte, Nat.reduceEqDiff, Nat.add_one_ne_zero, Nat.succ_ne_zero, Nat.add_eq_zero_iff, and_false]) <;> rfl
set_option maxRecDepth 100000 in
set_option maxHeartbeats 4000000 in
theorem e178_0 {w : (Nat → Int32) × Nat} {d : Nat} {i1 : Int32} {i2 : Int32} {D : dy_} : k178_0 w (d + 1) i1 i2 D = op_o (k111_0 w d i1.toInt64 (lN 0) ((((dI_ D 351 0 (nI 0)).1 351 47) - (nI 1)).toInt64) (dI_ D 351 0 (nI 0))) none (fun p1 => op_vI p1.1 none (fun n1 => if n1 = (nI 0) then (some (some (.int (-102)), p1.2)) else (op_o (k111_0 w d i2.toInt64 (lN 0) (((p1.2.1 351 48) - (nI 1)).toInt64) p1.2) none (fun p2 => op_vI p2.1 none (fun n2 => if n2 = (nI 0) then (some (some (.int (-102)), p2.2)) else (mk_inb (((nI 60) * i1) + i2) 24060 none (some (some (.int (p2.2.1 384 (((nI 60) * i1) + i2).toNatClampNeg)), p2.2)))))))) := by
  refine (q_178_0 sh_ w.1 w.2 d i1 i2 D).trans ?_
  (try simp only [rf_351_50, sf_351, sf_384, reduceIte, Nat.reduceEqDiff, Nat.add_one_ne_zero, Nat.succ_ne_zero, Nat.add_eq_zero_iff, and_false]) <;> rfl
set_option maxRecDepth 100000 in
set_option maxHeartbeats 4000000 in
theorem e179_0 {w : (Nat → Int32) × Nat} {d : Nat} {i1 : Int32} {D : dy_} : k179_0 w (d + 1) i1 D = k179_4 w (d + 1) i1 (nI 1) (nI 0) D := by
  refine (q_179_0 sh_ w.1 w.2 d i1 D).trans ?_
  (try simp only [reduceIte, Nat.reduceEqDiff, Nat.add_one_ne_zero, Nat.succ_ne_zero, Nat.add_eq_zero_iff, and_false]) <;> rfl
set_option maxRecDepth 100000 in
set_option maxHeartbeats 4000000 in
theorem e179_4 {w : (Nat → Int32) × Nat} {d : Nat} {i1 : Int32} {i2 : Int32} {i3 : Int32} {D : dy_} : k179_4 w (d + 1) i1 i2 i3 D = if (D.1 351 48) ≤ i3 then (if i2 = 0 ∨ i2 = 1 then some (some (.int i2), D) else none) else (mk_inb (((nI 60) * i1) + i3) 24060 none (if i2 = (nI 0) then (k179_50 w (d + 1) i1 i3 D) else (mk_inb (((nI 60) * i1) + (D.1 384 (((nI 60) * i1) + i3).toNatClampNeg)) 24060 none (if (D.1 384 (((nI 60) * i1) + (D.1 384 (((nI 60) * i1) + i3).toNatClampNeg)).toNatClampNeg) ≠ (D.1 384 (((nI 60) * i1) + i3).toNatClampNeg) then (k179_50 w (d + 1) i1 i3 D) else (k179_51 w (d + 1) i1 i3 (nI 1) D))))) := by
  refine (q_179_4 sh_ w.1 w.2 d i1 i2 i3 D).trans ?_
  (try simp only [rf_351_50, sf_351, sf_384, reduceIte, Nat.reduceEqDiff, Nat.add_one_ne_zero, Nat.succ_ne_zero, Nat.add_eq_zero_iff, and_false]) <;> rfl
set_option maxRecDepth 100000 in
set_option maxHeartbeats 4000000 in
theorem e179_50 {w : (Nat → Int32) × Nat} {d : Nat} {i1 : Int32} {i3 : Int32} {D : dy_} : k179_50 w (d + 1) i1 i3 D = k179_51 w (d + 1) i1 i3 (nI 0) D := by
  refine (q_179_50 sh_ w.1 w.2 d i1 i3 D).trans ?_
  (try simp only [reduceIte, Nat.reduceEqDiff, Nat.add_one_ne_zero, Nat.succ_ne_zero, Nat.add_eq_zero_iff, and_false]) <;> rfl
set_option maxRecDepth 100000 in
set_option maxHeartbeats 4000000 in
theorem e179_51 {w : (Nat → Int32) × Nat} {d : Nat} {i1 : Int32} {i3 : Int32} {si0 : Int32} {D : dy_} : k179_51 w (d + 1) i1 i3 si0 D = k179_4 w (d + 1) i1 si0 (i3 + (nI 1)) D := by
  refine (q_179_51 sh_ w.1 w.2 d i1 i3 si0 D).trans ?_
  (try simp only [reduceIte, Nat.reduceEqDiff, Nat.add_one_ne_zero, Nat.succ_ne_zero, Nat.add_eq_zero_iff, and_false]) <;> rfl
set_option maxRecDepth 100000 in
set_option maxHeartbeats 4000000 in
theorem e180_0 {w : (Nat → Int32) × Nat} {d : Nat} {i1 : Int32} {D : dy_} : k180_0 w (d + 1) i1 D = k180_4 w (d + 1) i1 (nI 1) (nI 0) D := by
  refine (q_180_0 sh_ w.1 w.2 d i1 D).trans ?_
  (try simp only [reduceIte, Nat.reduceEqDiff, Nat.add_one_ne_zero, Nat.succ_ne_zero, Nat.add_eq_zero_iff, and_false]) <;> rfl
set_option maxRecDepth 100000 in
set_option maxHeartbeats 4000000 in
theorem e180_4 {w : (Nat → Int32) × Nat} {d : Nat} {i1 : Int32} {i2 : Int32} {i3 : Int32} {D : dy_} : k180_4 w (d + 1) i1 i2 i3 D = if (D.1 351 48) ≤ i3 then (if i2 = 0 ∨ i2 = 1 then some (some (.int i2), D) else none) else (k180_18 w (d + 1) i1 i2 i3 i3 (nI 0) D) := by
  refine (q_180_4 sh_ w.1 w.2 d i1 i2 i3 D).trans ?_
  (try simp only [sf_351, reduceIte, Nat.reduceEqDiff, Nat.add_one_ne_zero, Nat.succ_ne_zero, Nat.add_eq_zero_iff, and_false]) <;> rfl
set_option maxRecDepth 100000 in
set_option maxHeartbeats 4000000 in
theorem e180_18 {w : (Nat → Int32) × Nat} {d : Nat} {i1 : Int32} {i2 : Int32} {i3 : Int32} {i4 : Int32} {i5 : Int32} {D : dy_} : k180_18 w (d + 1) i1 i2 i3 i4 i5 D = if (nI 60) ≤ i5 then (if i2 = (nI 0) then (k180_70 w (d + 1) i1 i3 D) else (mk_inb (((nI 60) * i1) + i4) 24060 none (if (D.1 384 (((nI 60) * i1) + i4).toNatClampNeg) ≠ i4 then (k180_70 w (d + 1) i1 i3 D) else (k180_71 w (d + 1) i1 i3 (nI 1) D)))) else (mk_inb (((nI 60) * i1) + i4) 24060 none (k180_18 w (d + 1) i1 i2 i3 (D.1 384 (((nI 60) * i1) + i4).toNatClampNeg) (i5 + (nI 1)) D)) := by
  refine (q_180_18 sh_ w.1 w.2 d i1 i2 i3 i4 i5 D).trans ?_
  (try simp only [rf_351_50, sf_351, sf_384, reduceIte, Nat.reduceEqDiff, Nat.add_one_ne_zero, Nat.succ_ne_zero, Nat.add_eq_zero_iff, and_false]) <;> rfl
set_option maxRecDepth 100000 in
set_option maxHeartbeats 4000000 in
theorem e180_70 {w : (Nat → Int32) × Nat} {d : Nat} {i1 : Int32} {i3 : Int32} {D : dy_} : k180_70 w (d + 1) i1 i3 D = k180_71 w (d + 1) i1 i3 (nI 0) D := by
  refine (q_180_70 sh_ w.1 w.2 d i1 i3 D).trans ?_
  (try simp only [reduceIte, Nat.reduceEqDiff, Nat.add_one_ne_zero, Nat.succ_ne_zero, Nat.add_eq_zero_iff, and_false]) <;> rfl
set_option maxRecDepth 100000 in
set_option maxHeartbeats 4000000 in
theorem e180_71 {w : (Nat → Int32) × Nat} {d : Nat} {i1 : Int32} {i3 : Int32} {si0 : Int32} {D : dy_} : k180_71 w (d + 1) i1 i3 si0 D = k180_4 w (d + 1) i1 si0 (i3 + (nI 1)) D := by
  refine (q_180_71 sh_ w.1 w.2 d i1 i3 si0 D).trans ?_
  (try simp only [reduceIte, Nat.reduceEqDiff, Nat.add_one_ne_zero, Nat.succ_ne_zero, Nat.add_eq_zero_iff, and_false]) <;> rfl
set_option maxRecDepth 100000 in
set_option maxHeartbeats 4000000 in
theorem e181_0 {w : (Nat → Int32) × Nat} {d : Nat}  {D : dy_} : k181_0 w (d + 1) D = k181_4 w (d + 1) (nI 1) (nI 0) D := by
  refine (q_181_0 sh_ w.1 w.2 d  D).trans ?_
  (try simp only [reduceIte, Nat.reduceEqDiff, Nat.add_one_ne_zero, Nat.succ_ne_zero, Nat.add_eq_zero_iff, and_false]) <;> rfl
set_option maxRecDepth 100000 in
set_option maxHeartbeats 4000000 in
theorem e181_4 {w : (Nat → Int32) × Nat} {d : Nat} {i1 : Int32} {i2 : Int32} {D : dy_} : k181_4 w (d + 1) i1 i2 D = if (D.1 351 49) ≤ i2 then (if i1 = 0 ∨ i1 = 1 then some (some (.int i1), D) else none) else (k181_14 w (d + 1) i1 i2 (nI 0) D) := by
  refine (q_181_4 sh_ w.1 w.2 d i1 i2 D).trans ?_
  (try simp only [sf_351, reduceIte, Nat.reduceEqDiff, Nat.add_one_ne_zero, Nat.succ_ne_zero, Nat.add_eq_zero_iff, and_false]) <;> rfl
set_option maxRecDepth 100000 in
set_option maxHeartbeats 4000000 in
theorem e181_14 {w : (Nat → Int32) × Nat} {d : Nat} {i1 : Int32} {i2 : Int32} {i3 : Int32} {D : dy_} : k181_14 w (d + 1) i1 i2 i3 D = if (D.1 351 49) ≤ i3 then (k181_4 w (d + 1) i1 (i2 + (nI 1)) D) else (k181_25 w (d + 1) i1 i2 i3 (nI 0) D) := by
  refine (q_181_14 sh_ w.1 w.2 d i1 i2 i3 D).trans ?_
  (try simp only [sf_351, reduceIte, Nat.reduceEqDiff, Nat.add_one_ne_zero, Nat.succ_ne_zero, Nat.add_eq_zero_iff, and_false]) <;> rfl
set_option maxRecDepth 100000 in
set_option maxHeartbeats 4000000 in
theorem e181_25 {w : (Nat → Int32) × Nat} {d : Nat} {i1 : Int32} {i2 : Int32} {i3 : Int32} {i4 : Int32} {D : dy_} : k181_25 w (d + 1) i1 i2 i3 i4 D = if (D.1 351 48) ≤ i4 then (k181_14 w (d + 1) i1 i2 (i3 + (nI 1)) D) else (if i1 = (nI 0) then (k181_89 w (d + 1) i2 i3 i4 D) else (mk_inb (((nI 60) * i2) + i4) 240 none (mk_inb (((nI 60) * i3) + (D.1 385 (((nI 60) * i2) + i4).toNatClampNeg)) 240 none (mk_inb (((nI 60) * i3) + i4) 240 none (mk_inb (((nI 60) * i2) + (D.1 385 (((nI 60) * i3) + i4).toNatClampNeg)) 240 none (if (D.1 385 (((nI 60) * i3) + (D.1 385 (((nI 60) * i2) + i4).toNatClampNeg)).toNatClampNeg) ≠ (D.1 385 (((nI 60) * i2) + (D.1 385 (((nI 60) * i3) + i4).toNatClampNeg)).toNatClampNeg) then (k181_89 w (d + 1) i2 i3 i4 D) else (k181_90 w (d + 1) i2 i3 i4 (nI 1) D))))))) := by
  refine (q_181_25 sh_ w.1 w.2 d i1 i2 i3 i4 D).trans ?_
  (try simp only [rf_351_51, sf_351, sf_385, reduceIte, Nat.reduceEqDiff, Nat.add_one_ne_zero, Nat.succ_ne_zero, Nat.add_eq_zero_iff, and_false]) <;> rfl
set_option maxRecDepth 100000 in
set_option maxHeartbeats 4000000 in
theorem e181_89 {w : (Nat → Int32) × Nat} {d : Nat} {i2 : Int32} {i3 : Int32} {i4 : Int32} {D : dy_} : k181_89 w (d + 1) i2 i3 i4 D = k181_90 w (d + 1) i2 i3 i4 (nI 0) D := by
  refine (q_181_89 sh_ w.1 w.2 d i2 i3 i4 D).trans ?_
  (try simp only [reduceIte, Nat.reduceEqDiff, Nat.add_one_ne_zero, Nat.succ_ne_zero, Nat.add_eq_zero_iff, and_false]) <;> rfl
set_option maxRecDepth 100000 in
set_option maxHeartbeats 4000000 in
theorem e181_90 {w : (Nat → Int32) × Nat} {d : Nat} {i2 : Int32} {i3 : Int32} {i4 : Int32} {si0 : Int32} {D : dy_} : k181_90 w (d + 1) i2 i3 i4 si0 D = k181_25 w (d + 1) si0 i2 i3 (i4 + (nI 1)) D := by
  refine (q_181_90 sh_ w.1 w.2 d i2 i3 i4 si0 D).trans ?_
  (try simp only [reduceIte, Nat.reduceEqDiff, Nat.add_one_ne_zero, Nat.succ_ne_zero, Nat.add_eq_zero_iff, and_false]) <;> rfl
set_option maxRecDepth 100000 in
set_option maxHeartbeats 4000000 in
theorem e182_0 {w : (Nat → Int32) × Nat} {d : Nat} {i1 : Int32} {D : dy_} : k182_0 w (d + 1) i1 D = k182_7 w (d + 1) i1 (nI 0) (lN 0) (nI 0) D := by
  refine (q_182_0 sh_ w.1 w.2 d i1 D).trans ?_
  (try simp only [reduceIte, Nat.reduceEqDiff, Nat.add_one_ne_zero, Nat.succ_ne_zero, Nat.add_eq_zero_iff, and_false]) <;> rfl
set_option maxRecDepth 100000 in
set_option maxHeartbeats 4000000 in
theorem e182_7 {w : (Nat → Int32) × Nat} {d : Nat} {i1 : Int32} {i2 : Int32} {j3 : Int64} {i5 : Int32} {D : dy_} : k182_7 w (d + 1) i1 i2 j3 i5 D = if (D.1 351 48) ≤ i5 then (some (some (.int i2), D)) else (mk_inb (((nI 60) * i1) + i5) 24060 none (if (lg_cmp (j3 &&& ((lN 1) <<< ((D.1 384 (((nI 60) * i1) + i5).toNatClampNeg).toInt64 &&& 63))) (lN 0)) ≠ (nI 0) then (k182_48 w (d + 1) i1 j3 i5 ((lN 1) <<< ((D.1 384 (((nI 60) * i1) + i5).toNatClampNeg).toInt64 &&& 63)) i2 D) else (k182_48 w (d + 1) i1 j3 i5 ((lN 1) <<< ((D.1 384 (((nI 60) * i1) + i5).toNatClampNeg).toInt64 &&& 63)) (i2 + (nI 1)) D))) := by
  refine (q_182_7 sh_ w.1 w.2 d i1 i2 j3 i5 D).trans ?_
  (try simp only [rf_351_50, sf_351, sf_384, reduceIte, Nat.reduceEqDiff, Nat.add_one_ne_zero, Nat.succ_ne_zero, Nat.add_eq_zero_iff, and_false]) <;> rfl
set_option maxRecDepth 100000 in
set_option maxHeartbeats 4000000 in
theorem e182_48 {w : (Nat → Int32) × Nat} {d : Nat} {i1 : Int32} {j3 : Int64} {i5 : Int32} {j6 : Int64} {si0 : Int32} {D : dy_} : k182_48 w (d + 1) i1 j3 i5 j6 si0 D = k182_7 w (d + 1) i1 si0 (j3 ||| j6) (i5 + (nI 1)) D := by
  refine (q_182_48 sh_ w.1 w.2 d i1 j3 i5 j6 si0 D).trans ?_
  (try simp only [reduceIte, Nat.reduceEqDiff, Nat.add_one_ne_zero, Nat.succ_ne_zero, Nat.add_eq_zero_iff, and_false]) <;> rfl
set_option maxRecDepth 100000 in
set_option maxHeartbeats 4000000 in
theorem e183_0 {w : (Nat → Int32) × Nat} {d : Nat} {i1 : Int32} {D : dy_} : k183_0 w (d + 1) i1 D = op_o (k111_0 w d i1.toInt64 (lN 0) (lN 4) (dI_ D 351 0 (nI 0))) none (fun p1 => op_vI p1.1 none (fun n1 => if n1 ≠ (nI 0) then (if (p1.2.1 351 47) ≠ (nI 0) then (if i1 ≠ (nI 2) then (k183_54 w (d + 1) i1 (nI 0) (nI 1) (nI 0) p1.2) else (op_o (k181_0 w d p1.2) none (fun p2 => op_vI p2.1 none (fun n2 => if n2 = (nI 0) then (some (some (.int (nI 0)), p2.2)) else (some (some (.int (nI 1)), p2.2)))))) else (some (some (.int (-1)), p1.2))) else (some (some (.int (-102)), p1.2)))) := by
  refine (q_183_0 sh_ w.1 w.2 d i1 D).trans ?_
  (try simp only [sf_351, reduceIte, Nat.reduceEqDiff, Nat.add_one_ne_zero, Nat.succ_ne_zero, Nat.add_eq_zero_iff, and_false]) <;> rfl
set_option maxRecDepth 100000 in
set_option maxHeartbeats 4000000 in
theorem e183_54 {w : (Nat → Int32) × Nat} {d : Nat} {i1 : Int32} {i2 : Int32} {i3 : Int32} {i4 : Int32} {D : dy_} : k183_54 w (d + 1) i1 i2 i3 i4 D = if (D.1 351 47) ≤ i4 then (if i1 ≠ (nI 1) then (some (some (.int i2), D)) else (if i3 = (nI 0) then (some (some (.int (nI 0)), D)) else (some (some (.int (nI 1)), D)))) else (if i1 ≠ (nI 0) then (if i1 ≠ (nI 3) then (if i1 ≠ (nI 4) then (k183_121 w (d + 1) i1 i2 i3 i4 D) else (op_o (k182_0 w d i4 D) none (fun p1 => op_vI p1.1 none (fun n1 => if n1 ≠ (p1.2.1 351 48) then (k183_121 w (d + 1) i1 i2 i3 i4 p1.2) else (k183_122 w (d + 1) i1 i2 i3 i4 (nI 1) p1.2))))) else (op_o (k182_0 w d i4 D) none (fun p2 => op_vI p2.1 none (fun n2 => if n2 ≠ (nI 1) then (k183_122 w (d + 1) i1 i2 i3 i4 (nI 0) p2.2) else (k183_122 w (d + 1) i1 i2 i3 i4 (nI 1) p2.2))))) else (op_o (k179_0 w d i4 D) none (fun p3 => op_vI p3.1 none (fun n3 => k183_122 w (d + 1) i1 i2 i3 i4 n3 p3.2)))) := by
  refine (q_183_54 sh_ w.1 w.2 d i1 i2 i3 i4 D).trans ?_
  (try simp only [sf_351, reduceIte, Nat.reduceEqDiff, Nat.add_one_ne_zero, Nat.succ_ne_zero, Nat.add_eq_zero_iff, and_false]) <;> rfl
set_option maxRecDepth 100000 in
set_option maxHeartbeats 4000000 in
theorem e183_121 {w : (Nat → Int32) × Nat} {d : Nat} {i1 : Int32} {i2 : Int32} {i3 : Int32} {i4 : Int32} {D : dy_} : k183_121 w (d + 1) i1 i2 i3 i4 D = k183_122 w (d + 1) i1 i2 i3 i4 (nI 0) D := by
  refine (q_183_121 sh_ w.1 w.2 d i1 i2 i3 i4 D).trans ?_
  (try simp only [reduceIte, Nat.reduceEqDiff, Nat.add_one_ne_zero, Nat.succ_ne_zero, Nat.add_eq_zero_iff, and_false]) <;> rfl
set_option maxRecDepth 100000 in
set_option maxHeartbeats 4000000 in
theorem e183_122 {w : (Nat → Int32) × Nat} {d : Nat} {i1 : Int32} {i2 : Int32} {i3 : Int32} {i4 : Int32} {si0 : Int32} {D : dy_} : k183_122 w (d + 1) i1 i2 i3 i4 si0 D = if si0 = (nI 0) then (k183_136 w (d + 1) i1 i3 i4 i2 D) else (k183_136 w (d + 1) i1 i3 i4 (i2 + (nI 1)) D) := by
  refine (q_183_122 sh_ w.1 w.2 d i1 i2 i3 i4 si0 D).trans ?_
  (try simp only [reduceIte, Nat.reduceEqDiff, Nat.add_one_ne_zero, Nat.succ_ne_zero, Nat.add_eq_zero_iff, and_false]) <;> rfl
set_option maxRecDepth 100000 in
set_option maxHeartbeats 4000000 in
theorem e183_136 {w : (Nat → Int32) × Nat} {d : Nat} {i1 : Int32} {i3 : Int32} {i4 : Int32} {si0 : Int32} {D : dy_} : k183_136 w (d + 1) i1 i3 i4 si0 D = if i3 = (nI 0) then (k183_159 w (d + 1) i1 si0 i4 D) else (if i1 ≠ (nI 1) then (k183_155 w (d + 1) i1 si0 i4 D) else (op_o (k180_0 w d i4 D) none (fun p1 => op_vI p1.1 none (fun n1 => if n1 = (nI 0) then (k183_159 w (d + 1) i1 si0 i4 p1.2) else (k183_155 w (d + 1) i1 si0 i4 p1.2))))) := by
  refine (q_183_136 sh_ w.1 w.2 d i1 i3 i4 si0 D).trans ?_
  (try simp only [sf_351, reduceIte, Nat.reduceEqDiff, Nat.add_one_ne_zero, Nat.succ_ne_zero, Nat.add_eq_zero_iff, and_false]) <;> rfl
set_option maxRecDepth 100000 in
set_option maxHeartbeats 4000000 in
theorem e183_155 {w : (Nat → Int32) × Nat} {d : Nat} {i1 : Int32} {i2 : Int32} {i4 : Int32} {D : dy_} : k183_155 w (d + 1) i1 i2 i4 D = k183_160 w (d + 1) i1 i2 i4 (nI 1) D := by
  refine (q_183_155 sh_ w.1 w.2 d i1 i2 i4 D).trans ?_
  (try simp only [reduceIte, Nat.reduceEqDiff, Nat.add_one_ne_zero, Nat.succ_ne_zero, Nat.add_eq_zero_iff, and_false]) <;> rfl
set_option maxRecDepth 100000 in
set_option maxHeartbeats 4000000 in
theorem e183_159 {w : (Nat → Int32) × Nat} {d : Nat} {i1 : Int32} {i2 : Int32} {i4 : Int32} {D : dy_} : k183_159 w (d + 1) i1 i2 i4 D = k183_160 w (d + 1) i1 i2 i4 (nI 0) D := by
  refine (q_183_159 sh_ w.1 w.2 d i1 i2 i4 D).trans ?_
  (try simp only [reduceIte, Nat.reduceEqDiff, Nat.add_one_ne_zero, Nat.succ_ne_zero, Nat.add_eq_zero_iff, and_false]) <;> rfl
set_option maxRecDepth 100000 in
set_option maxHeartbeats 4000000 in
theorem e183_160 {w : (Nat → Int32) × Nat} {d : Nat} {i1 : Int32} {i2 : Int32} {i4 : Int32} {si0 : Int32} {D : dy_} : k183_160 w (d + 1) i1 i2 i4 si0 D = k183_54 w (d + 1) i1 i2 si0 (i4 + (nI 1)) D := by
  refine (q_183_160 sh_ w.1 w.2 d i1 i2 i4 si0 D).trans ?_
  (try simp only [reduceIte, Nat.reduceEqDiff, Nat.add_one_ne_zero, Nat.succ_ne_zero, Nat.add_eq_zero_iff, and_false]) <;> rfl
set_option maxRecDepth 100000 in
set_option maxHeartbeats 4000000 in
theorem e184_0 {w : (Nat → Int32) × Nat} {d : Nat} {j0 : Int64} {D : dy_} : k184_0 w (d + 1) j0 D = some (some (.int ((((((((((j0 - (((j0.toUInt64 >>> ((nI 1).toInt64.toUInt64 &&& Int64.toUInt64 63)).toInt64) &&& (lN 6148914691236517205))) &&& (lN 3689348814741910323)) + ((((j0 - (((j0.toUInt64 >>> ((nI 1).toInt64.toUInt64 &&& Int64.toUInt64 63)).toInt64) &&& (lN 6148914691236517205))).toUInt64 >>> ((nI 2).toInt64.toUInt64 &&& Int64.toUInt64 63)).toInt64) &&& (lN 3689348814741910323))) + (((((j0 - (((j0.toUInt64 >>> ((nI 1).toInt64.toUInt64 &&& Int64.toUInt64 63)).toInt64) &&& (lN 6148914691236517205))) &&& (lN 3689348814741910323)) + ((((j0 - (((j0.toUInt64 >>> ((nI 1).toInt64.toUInt64 &&& Int64.toUInt64 63)).toInt64) &&& (lN 6148914691236517205))).toUInt64 >>> ((nI 2).toInt64.toUInt64 &&& Int64.toUInt64 63)).toInt64) &&& (lN 3689348814741910323))).toUInt64 >>> ((nI 4).toInt64.toUInt64 &&& Int64.toUInt64 63)).toInt64)) &&& (lN 1085102592571150095)) + (((((((j0 - (((j0.toUInt64 >>> ((nI 1).toInt64.toUInt64 &&& Int64.toUInt64 63)).toInt64) &&& (lN 6148914691236517205))) &&& (lN 3689348814741910323)) + ((((j0 - (((j0.toUInt64 >>> ((nI 1).toInt64.toUInt64 &&& Int64.toUInt64 63)).toInt64) &&& (lN 6148914691236517205))).toUInt64 >>> ((nI 2).toInt64.toUInt64 &&& Int64.toUInt64 63)).toInt64) &&& (lN 3689348814741910323))) + (((((j0 - (((j0.toUInt64 >>> ((nI 1).toInt64.toUInt64 &&& Int64.toUInt64 63)).toInt64) &&& (lN 6148914691236517205))) &&& (lN 3689348814741910323)) + ((((j0 - (((j0.toUInt64 >>> ((nI 1).toInt64.toUInt64 &&& Int64.toUInt64 63)).toInt64) &&& (lN 6148914691236517205))).toUInt64 >>> ((nI 2).toInt64.toUInt64 &&& Int64.toUInt64 63)).toInt64) &&& (lN 3689348814741910323))).toUInt64 >>> ((nI 4).toInt64.toUInt64 &&& Int64.toUInt64 63)).toInt64)) &&& (lN 1085102592571150095)).toUInt64 >>> ((nI 8).toInt64.toUInt64 &&& Int64.toUInt64 63)).toInt64)) + ((((((((j0 - (((j0.toUInt64 >>> ((nI 1).toInt64.toUInt64 &&& Int64.toUInt64 63)).toInt64) &&& (lN 6148914691236517205))) &&& (lN 3689348814741910323)) + ((((j0 - (((j0.toUInt64 >>> ((nI 1).toInt64.toUInt64 &&& Int64.toUInt64 63)).toInt64) &&& (lN 6148914691236517205))).toUInt64 >>> ((nI 2).toInt64.toUInt64 &&& Int64.toUInt64 63)).toInt64) &&& (lN 3689348814741910323))) + (((((j0 - (((j0.toUInt64 >>> ((nI 1).toInt64.toUInt64 &&& Int64.toUInt64 63)).toInt64) &&& (lN 6148914691236517205))) &&& (lN 3689348814741910323)) + ((((j0 - (((j0.toUInt64 >>> ((nI 1).toInt64.toUInt64 &&& Int64.toUInt64 63)).toInt64) &&& (lN 6148914691236517205))).toUInt64 >>> ((nI 2).toInt64.toUInt64 &&& Int64.toUInt64 63)).toInt64) &&& (lN 3689348814741910323))).toUInt64 >>> ((nI 4).toInt64.toUInt64 &&& Int64.toUInt64 63)).toInt64)) &&& (lN 1085102592571150095)) + (((((((j0 - (((j0.toUInt64 >>> ((nI 1).toInt64.toUInt64 &&& Int64.toUInt64 63)).toInt64) &&& (lN 6148914691236517205))) &&& (lN 3689348814741910323)) + ((((j0 - (((j0.toUInt64 >>> ((nI 1).toInt64.toUInt64 &&& Int64.toUInt64 63)).toInt64) &&& (lN 6148914691236517205))).toUInt64 >>> ((nI 2).toInt64.toUInt64 &&& Int64.toUInt64 63)).toInt64) &&& (lN 3689348814741910323))) + (((((j0 - (((j0.toUInt64 >>> ((nI 1).toInt64.toUInt64 &&& Int64.toUInt64 63)).toInt64) &&& (lN 6148914691236517205))) &&& (lN 3689348814741910323)) + ((((j0 - (((j0.toUInt64 >>> ((nI 1).toInt64.toUInt64 &&& Int64.toUInt64 63)).toInt64) &&& (lN 6148914691236517205))).toUInt64 >>> ((nI 2).toInt64.toUInt64 &&& Int64.toUInt64 63)).toInt64) &&& (lN 3689348814741910323))).toUInt64 >>> ((nI 4).toInt64.toUInt64 &&& Int64.toUInt64 63)).toInt64)) &&& (lN 1085102592571150095)).toUInt64 >>> ((nI 8).toInt64.toUInt64 &&& Int64.toUInt64 63)).toInt64)).toUInt64 >>> ((nI 16).toInt64.toUInt64 &&& Int64.toUInt64 63)).toInt64)) + (((((((((j0 - (((j0.toUInt64 >>> ((nI 1).toInt64.toUInt64 &&& Int64.toUInt64 63)).toInt64) &&& (lN 6148914691236517205))) &&& (lN 3689348814741910323)) + ((((j0 - (((j0.toUInt64 >>> ((nI 1).toInt64.toUInt64 &&& Int64.toUInt64 63)).toInt64) &&& (lN 6148914691236517205))).toUInt64 >>> ((nI 2).toInt64.toUInt64 &&& Int64.toUInt64 63)).toInt64) &&& (lN 3689348814741910323))) + (((((j0 - (((j0.toUInt64 >>> ((nI 1).toInt64.toUInt64 &&& Int64.toUInt64 63)).toInt64) &&& (lN 6148914691236517205))) &&& (lN 3689348814741910323)) + ((((j0 - (((j0.toUInt64 >>> ((nI 1).toInt64.toUInt64 &&& Int64.toUInt64 63)).toInt64) &&& (lN 6148914691236517205))).toUInt64 >>> ((nI 2).toInt64.toUInt64 &&& Int64.toUInt64 63)).toInt64) &&& (lN 3689348814741910323))).toUInt64 >>> ((nI 4).toInt64.toUInt64 &&& Int64.toUInt64 63)).toInt64)) &&& (lN 1085102592571150095)) + (((((((j0 - (((j0.toUInt64 >>> ((nI 1).toInt64.toUInt64 &&& Int64.toUInt64 63)).toInt64) &&& (lN 6148914691236517205))) &&& (lN 3689348814741910323)) + ((((j0 - (((j0.toUInt64 >>> ((nI 1).toInt64.toUInt64 &&& Int64.toUInt64 63)).toInt64) &&& (lN 6148914691236517205))).toUInt64 >>> ((nI 2).toInt64.toUInt64 &&& Int64.toUInt64 63)).toInt64) &&& (lN 3689348814741910323))) + (((((j0 - (((j0.toUInt64 >>> ((nI 1).toInt64.toUInt64 &&& Int64.toUInt64 63)).toInt64) &&& (lN 6148914691236517205))) &&& (lN 3689348814741910323)) + ((((j0 - (((j0.toUInt64 >>> ((nI 1).toInt64.toUInt64 &&& Int64.toUInt64 63)).toInt64) &&& (lN 6148914691236517205))).toUInt64 >>> ((nI 2).toInt64.toUInt64 &&& Int64.toUInt64 63)).toInt64) &&& (lN 3689348814741910323))).toUInt64 >>> ((nI 4).toInt64.toUInt64 &&& Int64.toUInt64 63)).toInt64)) &&& (lN 1085102592571150095)).toUInt64 >>> ((nI 8).toInt64.toUInt64 &&& Int64.toUInt64 63)).toInt64)) + ((((((((j0 - (((j0.toUInt64 >>> ((nI 1).toInt64.toUInt64 &&& Int64.toUInt64 63)).toInt64) &&& (lN 6148914691236517205))) &&& (lN 3689348814741910323)) + ((((j0 - (((j0.toUInt64 >>> ((nI 1).toInt64.toUInt64 &&& Int64.toUInt64 63)).toInt64) &&& (lN 6148914691236517205))).toUInt64 >>> ((nI 2).toInt64.toUInt64 &&& Int64.toUInt64 63)).toInt64) &&& (lN 3689348814741910323))) + (((((j0 - (((j0.toUInt64 >>> ((nI 1).toInt64.toUInt64 &&& Int64.toUInt64 63)).toInt64) &&& (lN 6148914691236517205))) &&& (lN 3689348814741910323)) + ((((j0 - (((j0.toUInt64 >>> ((nI 1).toInt64.toUInt64 &&& Int64.toUInt64 63)).toInt64) &&& (lN 6148914691236517205))).toUInt64 >>> ((nI 2).toInt64.toUInt64 &&& Int64.toUInt64 63)).toInt64) &&& (lN 3689348814741910323))).toUInt64 >>> ((nI 4).toInt64.toUInt64 &&& Int64.toUInt64 63)).toInt64)) &&& (lN 1085102592571150095)) + (((((((j0 - (((j0.toUInt64 >>> ((nI 1).toInt64.toUInt64 &&& Int64.toUInt64 63)).toInt64) &&& (lN 6148914691236517205))) &&& (lN 3689348814741910323)) + ((((j0 - (((j0.toUInt64 >>> ((nI 1).toInt64.toUInt64 &&& Int64.toUInt64 63)).toInt64) &&& (lN 6148914691236517205))).toUInt64 >>> ((nI 2).toInt64.toUInt64 &&& Int64.toUInt64 63)).toInt64) &&& (lN 3689348814741910323))) + (((((j0 - (((j0.toUInt64 >>> ((nI 1).toInt64.toUInt64 &&& Int64.toUInt64 63)).toInt64) &&& (lN 6148914691236517205))) &&& (lN 3689348814741910323)) + ((((j0 - (((j0.toUInt64 >>> ((nI 1).toInt64.toUInt64 &&& Int64.toUInt64 63)).toInt64) &&& (lN 6148914691236517205))).toUInt64 >>> ((nI 2).toInt64.toUInt64 &&& Int64.toUInt64 63)).toInt64) &&& (lN 3689348814741910323))).toUInt64 >>> ((nI 4).toInt64.toUInt64 &&& Int64.toUInt64 63)).toInt64)) &&& (lN 1085102592571150095)).toUInt64 >>> ((nI 8).toInt64.toUInt64 &&& Int64.toUInt64 63)).toInt64)).toUInt64 >>> ((nI 16).toInt64.toUInt64 &&& Int64.toUInt64 63)).toInt64)).toUInt64 >>> ((nI 32).toInt64.toUInt64 &&& Int64.toUInt64 63)).toInt64)).toInt32) &&& (nI 127))), D) := by
  refine (q_184_0 sh_ w.1 w.2 d j0 D).trans ?_
  (try simp only [reduceIte, Nat.reduceEqDiff, Nat.add_one_ne_zero, Nat.succ_ne_zero, Nat.add_eq_zero_iff, and_false]) <;> rfl
set_option maxRecDepth 100000 in
set_option maxHeartbeats 4000000 in
theorem e185_0 {w : (Nat → Int32) × Nat} {d : Nat} {r0 : Nat} {j1 : Int64} {D : dy_} : k185_0 w (d + 1) r0 j1 D = if (sh_.1 r0).1 = 4 then (k185_6 w (d + 1) r0 j1 (nI 0) (nI (sh_.1 r0).2) D) else none := by
  refine (q_185_0 sh_ w.1 w.2 d r0 j1 D).trans ?_
  (try simp only [reduceIte, Nat.reduceEqDiff, Nat.add_one_ne_zero, Nat.succ_ne_zero, Nat.add_eq_zero_iff, and_false]) <;> rfl
set_option maxRecDepth 100000 in
set_option maxHeartbeats 4000000 in
theorem e185_6 {w : (Nat → Int32) × Nat} {d : Nat} {r0 : Nat} {j1 : Int64} {i3 : Int32} {i4 : Int32} {D : dy_} : k185_6 w (d + 1) r0 j1 i3 i4 D = if i4 ≤ i3 then (some (none, D)) else (if (sh_.1 r0).1 = 4 then (mk_inb i3 (sh_.1 r0).2 none (k185_6 w (d + 1) r0 j1 (i3 + (nI 1)) i4 (dL_ D r0 i3.toNatClampNeg j1))) else none) := by
  refine (q_185_6 sh_ w.1 w.2 d r0 j1 i3 i4 D).trans ?_
  (try simp only [reduceIte, Nat.reduceEqDiff, Nat.add_one_ne_zero, Nat.succ_ne_zero, Nat.add_eq_zero_iff, and_false]) <;> rfl
set_option maxRecDepth 100000 in
set_option maxHeartbeats 4000000 in
theorem e186_0 {w : (Nat → Int32) × Nat} {d : Nat} {r0 : Nat} {i1 : Int32} {D : dy_} : k186_0 w (d + 1) r0 i1 D = if (sh_.1 r0).1 = 1 then (k186_5 w (d + 1) r0 i1 (nI 0) (nI (sh_.1 r0).2) D) else none := by
  refine (q_186_0 sh_ w.1 w.2 d r0 i1 D).trans ?_
  (try simp only [reduceIte, Nat.reduceEqDiff, Nat.add_one_ne_zero, Nat.succ_ne_zero, Nat.add_eq_zero_iff, and_false]) <;> rfl
set_option maxRecDepth 100000 in
set_option maxHeartbeats 4000000 in
theorem e186_5 {w : (Nat → Int32) × Nat} {d : Nat} {r0 : Nat} {i1 : Int32} {i2 : Int32} {i3 : Int32} {D : dy_} : k186_5 w (d + 1) r0 i1 i2 i3 D = if i3 ≤ i2 then (some (none, D)) else (if (sh_.1 r0).1 = 1 then (mk_inb i2 (sh_.1 r0).2 none (k186_5 w (d + 1) r0 i1 (i2 + (nI 1)) i3 (dI_ D r0 i2.toNatClampNeg i1))) else none) := by
  refine (q_186_5 sh_ w.1 w.2 d r0 i1 i2 i3 D).trans ?_
  (try simp only [reduceIte, Nat.reduceEqDiff, Nat.add_one_ne_zero, Nat.succ_ne_zero, Nat.add_eq_zero_iff, and_false]) <;> rfl
