def zc_kd : List Nat := [10, 4, 7, 20, 9, 20, 20, 20, 21, 20, 20, 20, 20, 3, 20, 20, 20, 21, 20, 20, 20, 20, 8, 23, 20, 20, 20, 5, 20, 20, 20, 5, 20, 20, 20, 5, 20, 20, 20, 21, 20, 20, 20, 20, 2, 9, 20, 20, 20, 21, 20, 20, 20, 20, 20, 9, 20, 20, 20, 21, 20, 20, 20, 20, 24, 1, 20, 20, 21, 6, 20, 20, 20, 20, 20, 20, 9, 20, 20, 20, 21, 20, 20, 20, 20, 6, 20, 20, 20, 20, 20, 20, 9, 20, 20, 20, 21, 20, 20, 20, 20, 6, 20, 20, 20, 20, 20, 20, 9, 20, 20, 20, 21, 20, 20, 20, 20, 6, 20, 20, 20, 20, 20, 20, 9, 20, 20, 20, 21, 20, 20, 20, 20, 6, 20, 20, 20, 20, 20, 20, 9, 20, 20, 20, 21, 20, 20, 20, 20, 6, 20, 20, 20, 20, 20, 20, 9, 20, 20, 20, 21, 20, 20, 20, 20, 6, 20, 20, 20, 20, 20, 20, 9, 20, 20, 20, 21, 20, 20, 20, 20, 6, 20, 20, 20, 20, 20, 20, 9, 20, 20, 20, 21, 20, 20, 20, 20, 6, 20, 20, 20, 20, 20, 20, 9, 20, 20, 20, 21, 20, 20, 20, 20, 6, 20, 20, 20, 20, 20, 20, 9, 20, 20, 20, 21, 20, 20, 20, 20]
def zc_ln : List Nat := [0, 0, 0, 3, 0, 40, 40, 40, 40, 40, 40, 40, 40, 0, 5, 5, 5, 5, 5, 5, 5, 5, 0, 3, 3, 3, 3, 0, 401, 401, 143, 0, 401, 401, 143, 0, 401, 401, 143, 128, 128, 384, 384, 12, 0, 0, 20, 20, 20, 20, 20, 20, 20, 20, 20, 0, 60, 60, 60, 60, 60, 60, 60, 60, 10, 0, 6, 6, 6, 0, 12, 12, 72, 72, 6, 6, 0, 30, 30, 30, 30, 30, 30, 30, 30, 0, 12, 12, 72, 72, 6, 6, 0, 30, 30, 30, 30, 30, 30, 30, 30, 0, 12, 12, 72, 72, 6, 6, 0, 30, 30, 30, 30, 30, 30, 30, 30, 0, 12, 12, 72, 72, 6, 6, 0, 30, 30, 30, 30, 30, 30, 30, 30, 0, 12, 12, 72, 72, 6, 6, 0, 30, 30, 30, 30, 30, 30, 30, 30, 0, 12, 12, 72, 72, 6, 6, 0, 30, 30, 30, 30, 30, 30, 30, 30, 0, 12, 12, 72, 72, 6, 6, 0, 30, 30, 30, 30, 30, 30, 30, 30, 0, 12, 12, 72, 72, 6, 6, 0, 30, 30, 30, 30, 30, 30, 30, 30, 0, 12, 12, 72, 72, 6, 6, 0, 30, 30, 30, 30, 30, 30, 30, 30, 0, 12, 12, 72, 72, 6, 6, 0, 30, 30, 30, 30, 30, 30, 30, 30]
def zc_rf : List (List Nat) := [[2, 3, 5, 14, 45, 56, 65, 66, 0, 0], [3, 5, 14, 23, 40, 41, 42, 43, 44], [4], [], [6, 7, 8, 9, 10, 11, 12, 13, 0], [], [], [], [], [], [], [], [], [15, 16, 17, 18, 19, 20, 21, 22, 0, 0], [], [], [], [], [], [], [], [], [24, 25, 26, 27, 0, 0], [28, 32, 36], [], [], [], [29, 30, 31, 0, 0], [], [], [], [33, 34, 35, 0, 0], [], [], [], [37, 38, 39, 0, 0], [], [], [], [], [], [], [], [], [46, 55], [47, 48, 49, 50, 51, 52, 53, 54, 0], [], [], [], [], [], [], [], [], [], [57, 58, 59, 60, 61, 62, 63, 64, 0], [], [], [], [], [], [], [], [], [70, 86, 102, 118, 134, 150, 166, 182, 198, 214], [67, 68, 69, 0], [], [], [], [71, 72, 73, 74, 75, 76, 77, 0], [], [], [], [], [], [], [78, 79, 80, 81, 82, 83, 84, 85, 0], [], [], [], [], [], [], [], [], [87, 88, 89, 90, 91, 92, 93, 0], [], [], [], [], [], [], [94, 95, 96, 97, 98, 99, 100, 101, 0], [], [], [], [], [], [], [], [], [103, 104, 105, 106, 107, 108, 109, 0], [], [], [], [], [], [], [110, 111, 112, 113, 114, 115, 116, 117, 0], [], [], [], [], [], [], [], [], [119, 120, 121, 122, 123, 124, 125, 0], [], [], [], [], [], [], [126, 127, 128, 129, 130, 131, 132, 133, 0], [], [], [], [], [], [], [], [], [135, 136, 137, 138, 139, 140, 141, 0], [], [], [], [], [], [], [142, 143, 144, 145, 146, 147, 148, 149, 0], [], [], [], [], [], [], [], [], [151, 152, 153, 154, 155, 156, 157, 0], [], [], [], [], [], [], [158, 159, 160, 161, 162, 163, 164, 165, 0], [], [], [], [], [], [], [], [], [167, 168, 169, 170, 171, 172, 173, 0], [], [], [], [], [], [], [174, 175, 176, 177, 178, 179, 180, 181, 0], [], [], [], [], [], [], [], [], [183, 184, 185, 186, 187, 188, 189, 0], [], [], [], [], [], [], [190, 191, 192, 193, 194, 195, 196, 197, 0], [], [], [], [], [], [], [], [], [199, 200, 201, 202, 203, 204, 205, 0], [], [], [], [], [], [], [206, 207, 208, 209, 210, 211, 212, 213, 0], [], [], [], [], [], [], [], [], [215, 216, 217, 218, 219, 220, 221, 0], [], [], [], [], [], [], [222, 223, 224, 225, 226, 227, 228, 229, 0], [], [], [], [], [], [], [], []]
def ZC : gZ := (229, (fun c => zc_kd.getD c 0), (fun c => zc_ln.getD c 0), (fun c k => (zc_rf.getD c []).getD k 0))
theorem zc_lt {c k : Nat} (h : ZC.2.1 c = k + 1) : c < ZC.1 := by
  rcases Nat.lt_or_ge c 229 with h1 | h1
  · exact h1
  · have h2 : zc_kd.getD c 0 = k + 1 := h
    rw [List.getD_eq_getElem?_getD, List.getElem?_eq_none (show zc_kd.length ≤ c from h1)] at h2
    cases h2
theorem zc_k0 : ZC.2.1 0 = 10 := by decide +kernel
theorem zc_b0 : 0 < ZC.1 := by decide +kernel
theorem zc_r0_0 : ZC.2.2.2 0 0 = 1 + 1 := by decide +kernel
theorem zc_r0_1 : ZC.2.2.2 0 1 = 2 + 1 := by decide +kernel
theorem zc_r0_2 : ZC.2.2.2 0 2 = 4 + 1 := by decide +kernel
theorem zc_r0_3 : ZC.2.2.2 0 3 = 13 + 1 := by decide +kernel
theorem zc_r0_4 : ZC.2.2.2 0 4 = 44 + 1 := by decide +kernel
theorem zc_r0_5 : ZC.2.2.2 0 5 = 55 + 1 := by decide +kernel
theorem zc_r0_6 : ZC.2.2.2 0 6 = 64 + 1 := by decide +kernel
theorem zc_r0_7 : ZC.2.2.2 0 7 = 65 + 1 := by decide +kernel
theorem zc_k1 : ZC.2.1 1 = 4 := by decide +kernel
theorem zc_b1 : 1 < ZC.1 := by decide +kernel
theorem zc_r1_0 : ZC.2.2.2 1 0 = 2 + 1 := by decide +kernel
theorem zc_r1_1 : ZC.2.2.2 1 1 = 4 + 1 := by decide +kernel
theorem zc_r1_2 : ZC.2.2.2 1 2 = 13 + 1 := by decide +kernel
theorem zc_r1_3 : ZC.2.2.2 1 3 = 22 + 1 := by decide +kernel
theorem zc_r1_4 : ZC.2.2.2 1 4 = 39 + 1 := by decide +kernel
theorem zc_r1_5 : ZC.2.2.2 1 5 = 40 + 1 := by decide +kernel
theorem zc_r1_6 : ZC.2.2.2 1 6 = 41 + 1 := by decide +kernel
theorem zc_r1_7 : ZC.2.2.2 1 7 = 42 + 1 := by decide +kernel
theorem zc_r1_8 : ZC.2.2.2 1 8 = 43 + 1 := by decide +kernel
theorem zc_k2 : ZC.2.1 2 = 7 := by decide +kernel
theorem zc_b2 : 2 < ZC.1 := by decide +kernel
theorem zc_r2_0 : ZC.2.2.2 2 0 = 3 + 1 := by decide +kernel
theorem zc_k3 : ZC.2.1 3 = 20 := by decide +kernel
theorem zc_b3 : 3 < ZC.1 := by decide +kernel
theorem zc_n3 : ZC.2.2.1 3 = 3 := by decide +kernel
theorem zc_k4 : ZC.2.1 4 = 9 := by decide +kernel
theorem zc_b4 : 4 < ZC.1 := by decide +kernel
theorem zc_r4_0 : ZC.2.2.2 4 0 = 5 + 1 := by decide +kernel
theorem zc_r4_1 : ZC.2.2.2 4 1 = 6 + 1 := by decide +kernel
theorem zc_r4_2 : ZC.2.2.2 4 2 = 7 + 1 := by decide +kernel
theorem zc_r4_3 : ZC.2.2.2 4 3 = 8 + 1 := by decide +kernel
theorem zc_r4_4 : ZC.2.2.2 4 4 = 9 + 1 := by decide +kernel
theorem zc_r4_5 : ZC.2.2.2 4 5 = 10 + 1 := by decide +kernel
theorem zc_r4_6 : ZC.2.2.2 4 6 = 11 + 1 := by decide +kernel
theorem zc_r4_7 : ZC.2.2.2 4 7 = 12 + 1 := by decide +kernel
theorem zc_k5 : ZC.2.1 5 = 20 := by decide +kernel
theorem zc_b5 : 5 < ZC.1 := by decide +kernel
theorem zc_n5 : ZC.2.2.1 5 = 40 := by decide +kernel
theorem zc_k6 : ZC.2.1 6 = 20 := by decide +kernel
theorem zc_b6 : 6 < ZC.1 := by decide +kernel
theorem zc_n6 : ZC.2.2.1 6 = 40 := by decide +kernel
theorem zc_k7 : ZC.2.1 7 = 20 := by decide +kernel
theorem zc_b7 : 7 < ZC.1 := by decide +kernel
theorem zc_n7 : ZC.2.2.1 7 = 40 := by decide +kernel
theorem zc_k8 : ZC.2.1 8 = 21 := by decide +kernel
theorem zc_b8 : 8 < ZC.1 := by decide +kernel
theorem zc_n8 : ZC.2.2.1 8 = 40 := by decide +kernel
theorem zc_k9 : ZC.2.1 9 = 20 := by decide +kernel
theorem zc_b9 : 9 < ZC.1 := by decide +kernel
theorem zc_n9 : ZC.2.2.1 9 = 40 := by decide +kernel
theorem zc_k10 : ZC.2.1 10 = 20 := by decide +kernel
theorem zc_b10 : 10 < ZC.1 := by decide +kernel
theorem zc_n10 : ZC.2.2.1 10 = 40 := by decide +kernel
theorem zc_k11 : ZC.2.1 11 = 20 := by decide +kernel
theorem zc_b11 : 11 < ZC.1 := by decide +kernel
theorem zc_n11 : ZC.2.2.1 11 = 40 := by decide +kernel
theorem zc_k12 : ZC.2.1 12 = 20 := by decide +kernel
theorem zc_b12 : 12 < ZC.1 := by decide +kernel
theorem zc_n12 : ZC.2.2.1 12 = 40 := by decide +kernel
theorem zc_k13 : ZC.2.1 13 = 3 := by decide +kernel
theorem zc_b13 : 13 < ZC.1 := by decide +kernel
theorem zc_r13_0 : ZC.2.2.2 13 0 = 14 + 1 := by decide +kernel
theorem zc_r13_1 : ZC.2.2.2 13 1 = 15 + 1 := by decide +kernel
theorem zc_r13_2 : ZC.2.2.2 13 2 = 16 + 1 := by decide +kernel
theorem zc_r13_3 : ZC.2.2.2 13 3 = 17 + 1 := by decide +kernel
theorem zc_r13_4 : ZC.2.2.2 13 4 = 18 + 1 := by decide +kernel
theorem zc_r13_5 : ZC.2.2.2 13 5 = 19 + 1 := by decide +kernel
theorem zc_r13_6 : ZC.2.2.2 13 6 = 20 + 1 := by decide +kernel
theorem zc_r13_7 : ZC.2.2.2 13 7 = 21 + 1 := by decide +kernel
theorem zc_k14 : ZC.2.1 14 = 20 := by decide +kernel
theorem zc_b14 : 14 < ZC.1 := by decide +kernel
theorem zc_n14 : ZC.2.2.1 14 = 5 := by decide +kernel
theorem zc_k15 : ZC.2.1 15 = 20 := by decide +kernel
theorem zc_b15 : 15 < ZC.1 := by decide +kernel
theorem zc_n15 : ZC.2.2.1 15 = 5 := by decide +kernel
theorem zc_k16 : ZC.2.1 16 = 20 := by decide +kernel
theorem zc_b16 : 16 < ZC.1 := by decide +kernel
theorem zc_n16 : ZC.2.2.1 16 = 5 := by decide +kernel
theorem zc_k17 : ZC.2.1 17 = 21 := by decide +kernel
theorem zc_b17 : 17 < ZC.1 := by decide +kernel
theorem zc_n17 : ZC.2.2.1 17 = 5 := by decide +kernel
theorem zc_k18 : ZC.2.1 18 = 20 := by decide +kernel
theorem zc_b18 : 18 < ZC.1 := by decide +kernel
theorem zc_n18 : ZC.2.2.1 18 = 5 := by decide +kernel
theorem zc_k19 : ZC.2.1 19 = 20 := by decide +kernel
theorem zc_b19 : 19 < ZC.1 := by decide +kernel
theorem zc_n19 : ZC.2.2.1 19 = 5 := by decide +kernel
theorem zc_k20 : ZC.2.1 20 = 20 := by decide +kernel
theorem zc_b20 : 20 < ZC.1 := by decide +kernel
theorem zc_n20 : ZC.2.2.1 20 = 5 := by decide +kernel
theorem zc_k21 : ZC.2.1 21 = 20 := by decide +kernel
theorem zc_b21 : 21 < ZC.1 := by decide +kernel
theorem zc_n21 : ZC.2.2.1 21 = 5 := by decide +kernel
theorem zc_k22 : ZC.2.1 22 = 8 := by decide +kernel
theorem zc_b22 : 22 < ZC.1 := by decide +kernel
theorem zc_r22_0 : ZC.2.2.2 22 0 = 23 + 1 := by decide +kernel
theorem zc_r22_1 : ZC.2.2.2 22 1 = 24 + 1 := by decide +kernel
theorem zc_r22_2 : ZC.2.2.2 22 2 = 25 + 1 := by decide +kernel
theorem zc_r22_3 : ZC.2.2.2 22 3 = 26 + 1 := by decide +kernel
theorem zc_k23 : ZC.2.1 23 = 23 := by decide +kernel
theorem zc_b23 : 23 < ZC.1 := by decide +kernel
theorem zc_n23 : ZC.2.2.1 23 = 3 := by decide +kernel
theorem zc_k24 : ZC.2.1 24 = 20 := by decide +kernel
theorem zc_b24 : 24 < ZC.1 := by decide +kernel
theorem zc_n24 : ZC.2.2.1 24 = 3 := by decide +kernel
theorem zc_k25 : ZC.2.1 25 = 20 := by decide +kernel
theorem zc_b25 : 25 < ZC.1 := by decide +kernel
theorem zc_n25 : ZC.2.2.1 25 = 3 := by decide +kernel
theorem zc_k26 : ZC.2.1 26 = 20 := by decide +kernel
theorem zc_b26 : 26 < ZC.1 := by decide +kernel
theorem zc_n26 : ZC.2.2.1 26 = 3 := by decide +kernel
theorem zc_k27 : ZC.2.1 27 = 5 := by decide +kernel
theorem zc_b27 : 27 < ZC.1 := by decide +kernel
theorem zc_r27_0 : ZC.2.2.2 27 0 = 28 + 1 := by decide +kernel
theorem zc_r27_1 : ZC.2.2.2 27 1 = 29 + 1 := by decide +kernel
theorem zc_r27_2 : ZC.2.2.2 27 2 = 30 + 1 := by decide +kernel
theorem zc_k28 : ZC.2.1 28 = 20 := by decide +kernel
theorem zc_b28 : 28 < ZC.1 := by decide +kernel
theorem zc_n28 : ZC.2.2.1 28 = 401 := by decide +kernel
theorem zc_k29 : ZC.2.1 29 = 20 := by decide +kernel
theorem zc_b29 : 29 < ZC.1 := by decide +kernel
theorem zc_n29 : ZC.2.2.1 29 = 401 := by decide +kernel
theorem zc_k30 : ZC.2.1 30 = 20 := by decide +kernel
theorem zc_b30 : 30 < ZC.1 := by decide +kernel
theorem zc_n30 : ZC.2.2.1 30 = 143 := by decide +kernel
theorem zc_k31 : ZC.2.1 31 = 5 := by decide +kernel
theorem zc_b31 : 31 < ZC.1 := by decide +kernel
theorem zc_r31_0 : ZC.2.2.2 31 0 = 32 + 1 := by decide +kernel
theorem zc_r31_1 : ZC.2.2.2 31 1 = 33 + 1 := by decide +kernel
theorem zc_r31_2 : ZC.2.2.2 31 2 = 34 + 1 := by decide +kernel
theorem zc_k32 : ZC.2.1 32 = 20 := by decide +kernel
theorem zc_b32 : 32 < ZC.1 := by decide +kernel
theorem zc_n32 : ZC.2.2.1 32 = 401 := by decide +kernel
theorem zc_k33 : ZC.2.1 33 = 20 := by decide +kernel
theorem zc_b33 : 33 < ZC.1 := by decide +kernel
theorem zc_n33 : ZC.2.2.1 33 = 401 := by decide +kernel
theorem zc_k34 : ZC.2.1 34 = 20 := by decide +kernel
theorem zc_b34 : 34 < ZC.1 := by decide +kernel
theorem zc_n34 : ZC.2.2.1 34 = 143 := by decide +kernel
theorem zc_k35 : ZC.2.1 35 = 5 := by decide +kernel
theorem zc_b35 : 35 < ZC.1 := by decide +kernel
theorem zc_r35_0 : ZC.2.2.2 35 0 = 36 + 1 := by decide +kernel
theorem zc_r35_1 : ZC.2.2.2 35 1 = 37 + 1 := by decide +kernel
theorem zc_r35_2 : ZC.2.2.2 35 2 = 38 + 1 := by decide +kernel
theorem zc_k36 : ZC.2.1 36 = 20 := by decide +kernel
theorem zc_b36 : 36 < ZC.1 := by decide +kernel
theorem zc_n36 : ZC.2.2.1 36 = 401 := by decide +kernel
theorem zc_k37 : ZC.2.1 37 = 20 := by decide +kernel
theorem zc_b37 : 37 < ZC.1 := by decide +kernel
theorem zc_n37 : ZC.2.2.1 37 = 401 := by decide +kernel
theorem zc_k38 : ZC.2.1 38 = 20 := by decide +kernel
theorem zc_b38 : 38 < ZC.1 := by decide +kernel
theorem zc_n38 : ZC.2.2.1 38 = 143 := by decide +kernel
theorem zc_k39 : ZC.2.1 39 = 21 := by decide +kernel
theorem zc_b39 : 39 < ZC.1 := by decide +kernel
theorem zc_n39 : ZC.2.2.1 39 = 128 := by decide +kernel
theorem zc_k40 : ZC.2.1 40 = 20 := by decide +kernel
theorem zc_b40 : 40 < ZC.1 := by decide +kernel
theorem zc_n40 : ZC.2.2.1 40 = 128 := by decide +kernel
theorem zc_k41 : ZC.2.1 41 = 20 := by decide +kernel
theorem zc_b41 : 41 < ZC.1 := by decide +kernel
theorem zc_n41 : ZC.2.2.1 41 = 384 := by decide +kernel
theorem zc_k42 : ZC.2.1 42 = 20 := by decide +kernel
theorem zc_b42 : 42 < ZC.1 := by decide +kernel
theorem zc_n42 : ZC.2.2.1 42 = 384 := by decide +kernel
theorem zc_k43 : ZC.2.1 43 = 20 := by decide +kernel
theorem zc_b43 : 43 < ZC.1 := by decide +kernel
theorem zc_n43 : ZC.2.2.1 43 = 12 := by decide +kernel
theorem zc_k44 : ZC.2.1 44 = 2 := by decide +kernel
theorem zc_b44 : 44 < ZC.1 := by decide +kernel
theorem zc_r44_0 : ZC.2.2.2 44 0 = 45 + 1 := by decide +kernel
theorem zc_r44_1 : ZC.2.2.2 44 1 = 54 + 1 := by decide +kernel
theorem zc_k45 : ZC.2.1 45 = 9 := by decide +kernel
theorem zc_b45 : 45 < ZC.1 := by decide +kernel
theorem zc_r45_0 : ZC.2.2.2 45 0 = 46 + 1 := by decide +kernel
theorem zc_r45_1 : ZC.2.2.2 45 1 = 47 + 1 := by decide +kernel
theorem zc_r45_2 : ZC.2.2.2 45 2 = 48 + 1 := by decide +kernel
theorem zc_r45_3 : ZC.2.2.2 45 3 = 49 + 1 := by decide +kernel
theorem zc_r45_4 : ZC.2.2.2 45 4 = 50 + 1 := by decide +kernel
theorem zc_r45_5 : ZC.2.2.2 45 5 = 51 + 1 := by decide +kernel
theorem zc_r45_6 : ZC.2.2.2 45 6 = 52 + 1 := by decide +kernel
theorem zc_r45_7 : ZC.2.2.2 45 7 = 53 + 1 := by decide +kernel
theorem zc_k46 : ZC.2.1 46 = 20 := by decide +kernel
theorem zc_b46 : 46 < ZC.1 := by decide +kernel
theorem zc_n46 : ZC.2.2.1 46 = 20 := by decide +kernel
theorem zc_k47 : ZC.2.1 47 = 20 := by decide +kernel
theorem zc_b47 : 47 < ZC.1 := by decide +kernel
theorem zc_n47 : ZC.2.2.1 47 = 20 := by decide +kernel
theorem zc_k48 : ZC.2.1 48 = 20 := by decide +kernel
theorem zc_b48 : 48 < ZC.1 := by decide +kernel
theorem zc_n48 : ZC.2.2.1 48 = 20 := by decide +kernel
theorem zc_k49 : ZC.2.1 49 = 21 := by decide +kernel
theorem zc_b49 : 49 < ZC.1 := by decide +kernel
theorem zc_n49 : ZC.2.2.1 49 = 20 := by decide +kernel
theorem zc_k50 : ZC.2.1 50 = 20 := by decide +kernel
theorem zc_b50 : 50 < ZC.1 := by decide +kernel
theorem zc_n50 : ZC.2.2.1 50 = 20 := by decide +kernel
theorem zc_k51 : ZC.2.1 51 = 20 := by decide +kernel
theorem zc_b51 : 51 < ZC.1 := by decide +kernel
theorem zc_n51 : ZC.2.2.1 51 = 20 := by decide +kernel
theorem zc_k52 : ZC.2.1 52 = 20 := by decide +kernel
theorem zc_b52 : 52 < ZC.1 := by decide +kernel
theorem zc_n52 : ZC.2.2.1 52 = 20 := by decide +kernel
theorem zc_k53 : ZC.2.1 53 = 20 := by decide +kernel
theorem zc_b53 : 53 < ZC.1 := by decide +kernel
theorem zc_n53 : ZC.2.2.1 53 = 20 := by decide +kernel
theorem zc_k54 : ZC.2.1 54 = 20 := by decide +kernel
theorem zc_b54 : 54 < ZC.1 := by decide +kernel
theorem zc_n54 : ZC.2.2.1 54 = 20 := by decide +kernel
theorem zc_k55 : ZC.2.1 55 = 9 := by decide +kernel
theorem zc_b55 : 55 < ZC.1 := by decide +kernel
theorem zc_r55_0 : ZC.2.2.2 55 0 = 56 + 1 := by decide +kernel
theorem zc_r55_1 : ZC.2.2.2 55 1 = 57 + 1 := by decide +kernel
theorem zc_r55_2 : ZC.2.2.2 55 2 = 58 + 1 := by decide +kernel
theorem zc_r55_3 : ZC.2.2.2 55 3 = 59 + 1 := by decide +kernel
theorem zc_r55_4 : ZC.2.2.2 55 4 = 60 + 1 := by decide +kernel
theorem zc_r55_5 : ZC.2.2.2 55 5 = 61 + 1 := by decide +kernel
theorem zc_r55_6 : ZC.2.2.2 55 6 = 62 + 1 := by decide +kernel
theorem zc_r55_7 : ZC.2.2.2 55 7 = 63 + 1 := by decide +kernel
theorem zc_k56 : ZC.2.1 56 = 20 := by decide +kernel
theorem zc_b56 : 56 < ZC.1 := by decide +kernel
theorem zc_n56 : ZC.2.2.1 56 = 60 := by decide +kernel
theorem zc_k57 : ZC.2.1 57 = 20 := by decide +kernel
theorem zc_b57 : 57 < ZC.1 := by decide +kernel
theorem zc_n57 : ZC.2.2.1 57 = 60 := by decide +kernel
theorem zc_k58 : ZC.2.1 58 = 20 := by decide +kernel
theorem zc_b58 : 58 < ZC.1 := by decide +kernel
theorem zc_n58 : ZC.2.2.1 58 = 60 := by decide +kernel
theorem zc_k59 : ZC.2.1 59 = 21 := by decide +kernel
theorem zc_b59 : 59 < ZC.1 := by decide +kernel
theorem zc_n59 : ZC.2.2.1 59 = 60 := by decide +kernel
theorem zc_k60 : ZC.2.1 60 = 20 := by decide +kernel
theorem zc_b60 : 60 < ZC.1 := by decide +kernel
theorem zc_n60 : ZC.2.2.1 60 = 60 := by decide +kernel
theorem zc_k61 : ZC.2.1 61 = 20 := by decide +kernel
theorem zc_b61 : 61 < ZC.1 := by decide +kernel
theorem zc_n61 : ZC.2.2.1 61 = 60 := by decide +kernel
theorem zc_k62 : ZC.2.1 62 = 20 := by decide +kernel
theorem zc_b62 : 62 < ZC.1 := by decide +kernel
theorem zc_n62 : ZC.2.2.1 62 = 60 := by decide +kernel
theorem zc_k63 : ZC.2.1 63 = 20 := by decide +kernel
theorem zc_b63 : 63 < ZC.1 := by decide +kernel
theorem zc_n63 : ZC.2.2.1 63 = 60 := by decide +kernel
theorem zc_k64 : ZC.2.1 64 = 24 := by decide +kernel
theorem zc_b64 : 64 < ZC.1 := by decide +kernel
theorem zc_n64 : ZC.2.2.1 64 = 10 := by decide +kernel
theorem zc_k65 : ZC.2.1 65 = 1 := by decide +kernel
theorem zc_b65 : 65 < ZC.1 := by decide +kernel
theorem zc_r65_0 : ZC.2.2.2 65 0 = 66 + 1 := by decide +kernel
theorem zc_r65_1 : ZC.2.2.2 65 1 = 67 + 1 := by decide +kernel
theorem zc_r65_2 : ZC.2.2.2 65 2 = 68 + 1 := by decide +kernel
theorem zc_k66 : ZC.2.1 66 = 20 := by decide +kernel
theorem zc_b66 : 66 < ZC.1 := by decide +kernel
theorem zc_n66 : ZC.2.2.1 66 = 6 := by decide +kernel
theorem zc_k67 : ZC.2.1 67 = 20 := by decide +kernel
theorem zc_b67 : 67 < ZC.1 := by decide +kernel
theorem zc_n67 : ZC.2.2.1 67 = 6 := by decide +kernel
theorem zc_k68 : ZC.2.1 68 = 21 := by decide +kernel
theorem zc_b68 : 68 < ZC.1 := by decide +kernel
theorem zc_n68 : ZC.2.2.1 68 = 6 := by decide +kernel
theorem zc_k69 : ZC.2.1 69 = 6 := by decide +kernel
theorem zc_b69 : 69 < ZC.1 := by decide +kernel
theorem zc_r69_0 : ZC.2.2.2 69 0 = 70 + 1 := by decide +kernel
theorem zc_r69_1 : ZC.2.2.2 69 1 = 71 + 1 := by decide +kernel
theorem zc_r69_2 : ZC.2.2.2 69 2 = 72 + 1 := by decide +kernel
theorem zc_r69_3 : ZC.2.2.2 69 3 = 73 + 1 := by decide +kernel
theorem zc_r69_4 : ZC.2.2.2 69 4 = 74 + 1 := by decide +kernel
theorem zc_r69_5 : ZC.2.2.2 69 5 = 75 + 1 := by decide +kernel
theorem zc_r69_6 : ZC.2.2.2 69 6 = 76 + 1 := by decide +kernel
theorem zc_k70 : ZC.2.1 70 = 20 := by decide +kernel
theorem zc_b70 : 70 < ZC.1 := by decide +kernel
theorem zc_n70 : ZC.2.2.1 70 = 12 := by decide +kernel
theorem zc_k71 : ZC.2.1 71 = 20 := by decide +kernel
theorem zc_b71 : 71 < ZC.1 := by decide +kernel
theorem zc_n71 : ZC.2.2.1 71 = 12 := by decide +kernel
theorem zc_k72 : ZC.2.1 72 = 20 := by decide +kernel
theorem zc_b72 : 72 < ZC.1 := by decide +kernel
theorem zc_n72 : ZC.2.2.1 72 = 72 := by decide +kernel
theorem zc_k73 : ZC.2.1 73 = 20 := by decide +kernel
theorem zc_b73 : 73 < ZC.1 := by decide +kernel
theorem zc_n73 : ZC.2.2.1 73 = 72 := by decide +kernel
theorem zc_k74 : ZC.2.1 74 = 20 := by decide +kernel
theorem zc_b74 : 74 < ZC.1 := by decide +kernel
theorem zc_n74 : ZC.2.2.1 74 = 6 := by decide +kernel
theorem zc_k75 : ZC.2.1 75 = 20 := by decide +kernel
theorem zc_b75 : 75 < ZC.1 := by decide +kernel
theorem zc_n75 : ZC.2.2.1 75 = 6 := by decide +kernel
theorem zc_k76 : ZC.2.1 76 = 9 := by decide +kernel
theorem zc_b76 : 76 < ZC.1 := by decide +kernel
theorem zc_r76_0 : ZC.2.2.2 76 0 = 77 + 1 := by decide +kernel
theorem zc_r76_1 : ZC.2.2.2 76 1 = 78 + 1 := by decide +kernel
theorem zc_r76_2 : ZC.2.2.2 76 2 = 79 + 1 := by decide +kernel
theorem zc_r76_3 : ZC.2.2.2 76 3 = 80 + 1 := by decide +kernel
theorem zc_r76_4 : ZC.2.2.2 76 4 = 81 + 1 := by decide +kernel
theorem zc_r76_5 : ZC.2.2.2 76 5 = 82 + 1 := by decide +kernel
theorem zc_r76_6 : ZC.2.2.2 76 6 = 83 + 1 := by decide +kernel
theorem zc_r76_7 : ZC.2.2.2 76 7 = 84 + 1 := by decide +kernel
theorem zc_k77 : ZC.2.1 77 = 20 := by decide +kernel
theorem zc_b77 : 77 < ZC.1 := by decide +kernel
theorem zc_n77 : ZC.2.2.1 77 = 30 := by decide +kernel
theorem zc_k78 : ZC.2.1 78 = 20 := by decide +kernel
theorem zc_b78 : 78 < ZC.1 := by decide +kernel
theorem zc_n78 : ZC.2.2.1 78 = 30 := by decide +kernel
theorem zc_k79 : ZC.2.1 79 = 20 := by decide +kernel
theorem zc_b79 : 79 < ZC.1 := by decide +kernel
theorem zc_n79 : ZC.2.2.1 79 = 30 := by decide +kernel
theorem zc_k80 : ZC.2.1 80 = 21 := by decide +kernel
theorem zc_b80 : 80 < ZC.1 := by decide +kernel
theorem zc_n80 : ZC.2.2.1 80 = 30 := by decide +kernel
theorem zc_k81 : ZC.2.1 81 = 20 := by decide +kernel
theorem zc_b81 : 81 < ZC.1 := by decide +kernel
theorem zc_n81 : ZC.2.2.1 81 = 30 := by decide +kernel
theorem zc_k82 : ZC.2.1 82 = 20 := by decide +kernel
theorem zc_b82 : 82 < ZC.1 := by decide +kernel
theorem zc_n82 : ZC.2.2.1 82 = 30 := by decide +kernel
theorem zc_k83 : ZC.2.1 83 = 20 := by decide +kernel
theorem zc_b83 : 83 < ZC.1 := by decide +kernel
theorem zc_n83 : ZC.2.2.1 83 = 30 := by decide +kernel
theorem zc_k84 : ZC.2.1 84 = 20 := by decide +kernel
theorem zc_b84 : 84 < ZC.1 := by decide +kernel
theorem zc_n84 : ZC.2.2.1 84 = 30 := by decide +kernel
theorem zc_k85 : ZC.2.1 85 = 6 := by decide +kernel
theorem zc_b85 : 85 < ZC.1 := by decide +kernel
theorem zc_r85_0 : ZC.2.2.2 85 0 = 86 + 1 := by decide +kernel
theorem zc_r85_1 : ZC.2.2.2 85 1 = 87 + 1 := by decide +kernel
theorem zc_r85_2 : ZC.2.2.2 85 2 = 88 + 1 := by decide +kernel
theorem zc_r85_3 : ZC.2.2.2 85 3 = 89 + 1 := by decide +kernel
theorem zc_r85_4 : ZC.2.2.2 85 4 = 90 + 1 := by decide +kernel
theorem zc_r85_5 : ZC.2.2.2 85 5 = 91 + 1 := by decide +kernel
theorem zc_r85_6 : ZC.2.2.2 85 6 = 92 + 1 := by decide +kernel
theorem zc_k86 : ZC.2.1 86 = 20 := by decide +kernel
theorem zc_b86 : 86 < ZC.1 := by decide +kernel
theorem zc_n86 : ZC.2.2.1 86 = 12 := by decide +kernel
theorem zc_k87 : ZC.2.1 87 = 20 := by decide +kernel
theorem zc_b87 : 87 < ZC.1 := by decide +kernel
theorem zc_n87 : ZC.2.2.1 87 = 12 := by decide +kernel
theorem zc_k88 : ZC.2.1 88 = 20 := by decide +kernel
theorem zc_b88 : 88 < ZC.1 := by decide +kernel
theorem zc_n88 : ZC.2.2.1 88 = 72 := by decide +kernel
theorem zc_k89 : ZC.2.1 89 = 20 := by decide +kernel
theorem zc_b89 : 89 < ZC.1 := by decide +kernel
theorem zc_n89 : ZC.2.2.1 89 = 72 := by decide +kernel
theorem zc_k90 : ZC.2.1 90 = 20 := by decide +kernel
theorem zc_b90 : 90 < ZC.1 := by decide +kernel
theorem zc_n90 : ZC.2.2.1 90 = 6 := by decide +kernel
theorem zc_k91 : ZC.2.1 91 = 20 := by decide +kernel
theorem zc_b91 : 91 < ZC.1 := by decide +kernel
theorem zc_n91 : ZC.2.2.1 91 = 6 := by decide +kernel
theorem zc_k92 : ZC.2.1 92 = 9 := by decide +kernel
theorem zc_b92 : 92 < ZC.1 := by decide +kernel
theorem zc_r92_0 : ZC.2.2.2 92 0 = 93 + 1 := by decide +kernel
theorem zc_r92_1 : ZC.2.2.2 92 1 = 94 + 1 := by decide +kernel
theorem zc_r92_2 : ZC.2.2.2 92 2 = 95 + 1 := by decide +kernel
theorem zc_r92_3 : ZC.2.2.2 92 3 = 96 + 1 := by decide +kernel
theorem zc_r92_4 : ZC.2.2.2 92 4 = 97 + 1 := by decide +kernel
theorem zc_r92_5 : ZC.2.2.2 92 5 = 98 + 1 := by decide +kernel
theorem zc_r92_6 : ZC.2.2.2 92 6 = 99 + 1 := by decide +kernel
theorem zc_r92_7 : ZC.2.2.2 92 7 = 100 + 1 := by decide +kernel
theorem zc_k93 : ZC.2.1 93 = 20 := by decide +kernel
theorem zc_b93 : 93 < ZC.1 := by decide +kernel
theorem zc_n93 : ZC.2.2.1 93 = 30 := by decide +kernel
theorem zc_k94 : ZC.2.1 94 = 20 := by decide +kernel
theorem zc_b94 : 94 < ZC.1 := by decide +kernel
theorem zc_n94 : ZC.2.2.1 94 = 30 := by decide +kernel
theorem zc_k95 : ZC.2.1 95 = 20 := by decide +kernel
theorem zc_b95 : 95 < ZC.1 := by decide +kernel
theorem zc_n95 : ZC.2.2.1 95 = 30 := by decide +kernel
theorem zc_k96 : ZC.2.1 96 = 21 := by decide +kernel
theorem zc_b96 : 96 < ZC.1 := by decide +kernel
theorem zc_n96 : ZC.2.2.1 96 = 30 := by decide +kernel
theorem zc_k97 : ZC.2.1 97 = 20 := by decide +kernel
theorem zc_b97 : 97 < ZC.1 := by decide +kernel
theorem zc_n97 : ZC.2.2.1 97 = 30 := by decide +kernel
theorem zc_k98 : ZC.2.1 98 = 20 := by decide +kernel
theorem zc_b98 : 98 < ZC.1 := by decide +kernel
theorem zc_n98 : ZC.2.2.1 98 = 30 := by decide +kernel
theorem zc_k99 : ZC.2.1 99 = 20 := by decide +kernel
theorem zc_b99 : 99 < ZC.1 := by decide +kernel
theorem zc_n99 : ZC.2.2.1 99 = 30 := by decide +kernel
theorem zc_k100 : ZC.2.1 100 = 20 := by decide +kernel
theorem zc_b100 : 100 < ZC.1 := by decide +kernel
theorem zc_n100 : ZC.2.2.1 100 = 30 := by decide +kernel
theorem zc_k101 : ZC.2.1 101 = 6 := by decide +kernel
theorem zc_b101 : 101 < ZC.1 := by decide +kernel
theorem zc_r101_0 : ZC.2.2.2 101 0 = 102 + 1 := by decide +kernel
theorem zc_r101_1 : ZC.2.2.2 101 1 = 103 + 1 := by decide +kernel
theorem zc_r101_2 : ZC.2.2.2 101 2 = 104 + 1 := by decide +kernel
theorem zc_r101_3 : ZC.2.2.2 101 3 = 105 + 1 := by decide +kernel
theorem zc_r101_4 : ZC.2.2.2 101 4 = 106 + 1 := by decide +kernel
theorem zc_r101_5 : ZC.2.2.2 101 5 = 107 + 1 := by decide +kernel
theorem zc_r101_6 : ZC.2.2.2 101 6 = 108 + 1 := by decide +kernel
theorem zc_k102 : ZC.2.1 102 = 20 := by decide +kernel
theorem zc_b102 : 102 < ZC.1 := by decide +kernel
theorem zc_n102 : ZC.2.2.1 102 = 12 := by decide +kernel
theorem zc_k103 : ZC.2.1 103 = 20 := by decide +kernel
theorem zc_b103 : 103 < ZC.1 := by decide +kernel
theorem zc_n103 : ZC.2.2.1 103 = 12 := by decide +kernel
theorem zc_k104 : ZC.2.1 104 = 20 := by decide +kernel
theorem zc_b104 : 104 < ZC.1 := by decide +kernel
theorem zc_n104 : ZC.2.2.1 104 = 72 := by decide +kernel
theorem zc_k105 : ZC.2.1 105 = 20 := by decide +kernel
theorem zc_b105 : 105 < ZC.1 := by decide +kernel
theorem zc_n105 : ZC.2.2.1 105 = 72 := by decide +kernel
theorem zc_k106 : ZC.2.1 106 = 20 := by decide +kernel
theorem zc_b106 : 106 < ZC.1 := by decide +kernel
theorem zc_n106 : ZC.2.2.1 106 = 6 := by decide +kernel
theorem zc_k107 : ZC.2.1 107 = 20 := by decide +kernel
theorem zc_b107 : 107 < ZC.1 := by decide +kernel
theorem zc_n107 : ZC.2.2.1 107 = 6 := by decide +kernel
theorem zc_k108 : ZC.2.1 108 = 9 := by decide +kernel
theorem zc_b108 : 108 < ZC.1 := by decide +kernel
theorem zc_r108_0 : ZC.2.2.2 108 0 = 109 + 1 := by decide +kernel
theorem zc_r108_1 : ZC.2.2.2 108 1 = 110 + 1 := by decide +kernel
theorem zc_r108_2 : ZC.2.2.2 108 2 = 111 + 1 := by decide +kernel
theorem zc_r108_3 : ZC.2.2.2 108 3 = 112 + 1 := by decide +kernel
theorem zc_r108_4 : ZC.2.2.2 108 4 = 113 + 1 := by decide +kernel
theorem zc_r108_5 : ZC.2.2.2 108 5 = 114 + 1 := by decide +kernel
theorem zc_r108_6 : ZC.2.2.2 108 6 = 115 + 1 := by decide +kernel
theorem zc_r108_7 : ZC.2.2.2 108 7 = 116 + 1 := by decide +kernel
theorem zc_k109 : ZC.2.1 109 = 20 := by decide +kernel
theorem zc_b109 : 109 < ZC.1 := by decide +kernel
theorem zc_n109 : ZC.2.2.1 109 = 30 := by decide +kernel
theorem zc_k110 : ZC.2.1 110 = 20 := by decide +kernel
theorem zc_b110 : 110 < ZC.1 := by decide +kernel
theorem zc_n110 : ZC.2.2.1 110 = 30 := by decide +kernel
theorem zc_k111 : ZC.2.1 111 = 20 := by decide +kernel
theorem zc_b111 : 111 < ZC.1 := by decide +kernel
theorem zc_n111 : ZC.2.2.1 111 = 30 := by decide +kernel
theorem zc_k112 : ZC.2.1 112 = 21 := by decide +kernel
theorem zc_b112 : 112 < ZC.1 := by decide +kernel
theorem zc_n112 : ZC.2.2.1 112 = 30 := by decide +kernel
theorem zc_k113 : ZC.2.1 113 = 20 := by decide +kernel
theorem zc_b113 : 113 < ZC.1 := by decide +kernel
theorem zc_n113 : ZC.2.2.1 113 = 30 := by decide +kernel
theorem zc_k114 : ZC.2.1 114 = 20 := by decide +kernel
theorem zc_b114 : 114 < ZC.1 := by decide +kernel
theorem zc_n114 : ZC.2.2.1 114 = 30 := by decide +kernel
theorem zc_k115 : ZC.2.1 115 = 20 := by decide +kernel
theorem zc_b115 : 115 < ZC.1 := by decide +kernel
theorem zc_n115 : ZC.2.2.1 115 = 30 := by decide +kernel
theorem zc_k116 : ZC.2.1 116 = 20 := by decide +kernel
theorem zc_b116 : 116 < ZC.1 := by decide +kernel
theorem zc_n116 : ZC.2.2.1 116 = 30 := by decide +kernel
theorem zc_k117 : ZC.2.1 117 = 6 := by decide +kernel
theorem zc_b117 : 117 < ZC.1 := by decide +kernel
theorem zc_r117_0 : ZC.2.2.2 117 0 = 118 + 1 := by decide +kernel
theorem zc_r117_1 : ZC.2.2.2 117 1 = 119 + 1 := by decide +kernel
theorem zc_r117_2 : ZC.2.2.2 117 2 = 120 + 1 := by decide +kernel
theorem zc_r117_3 : ZC.2.2.2 117 3 = 121 + 1 := by decide +kernel
theorem zc_r117_4 : ZC.2.2.2 117 4 = 122 + 1 := by decide +kernel
theorem zc_r117_5 : ZC.2.2.2 117 5 = 123 + 1 := by decide +kernel
theorem zc_r117_6 : ZC.2.2.2 117 6 = 124 + 1 := by decide +kernel
theorem zc_k118 : ZC.2.1 118 = 20 := by decide +kernel
theorem zc_b118 : 118 < ZC.1 := by decide +kernel
theorem zc_n118 : ZC.2.2.1 118 = 12 := by decide +kernel
theorem zc_k119 : ZC.2.1 119 = 20 := by decide +kernel
theorem zc_b119 : 119 < ZC.1 := by decide +kernel
theorem zc_n119 : ZC.2.2.1 119 = 12 := by decide +kernel
theorem zc_k120 : ZC.2.1 120 = 20 := by decide +kernel
theorem zc_b120 : 120 < ZC.1 := by decide +kernel
theorem zc_n120 : ZC.2.2.1 120 = 72 := by decide +kernel
theorem zc_k121 : ZC.2.1 121 = 20 := by decide +kernel
theorem zc_b121 : 121 < ZC.1 := by decide +kernel
theorem zc_n121 : ZC.2.2.1 121 = 72 := by decide +kernel
theorem zc_k122 : ZC.2.1 122 = 20 := by decide +kernel
theorem zc_b122 : 122 < ZC.1 := by decide +kernel
theorem zc_n122 : ZC.2.2.1 122 = 6 := by decide +kernel
theorem zc_k123 : ZC.2.1 123 = 20 := by decide +kernel
theorem zc_b123 : 123 < ZC.1 := by decide +kernel
theorem zc_n123 : ZC.2.2.1 123 = 6 := by decide +kernel
theorem zc_k124 : ZC.2.1 124 = 9 := by decide +kernel
theorem zc_b124 : 124 < ZC.1 := by decide +kernel
theorem zc_r124_0 : ZC.2.2.2 124 0 = 125 + 1 := by decide +kernel
theorem zc_r124_1 : ZC.2.2.2 124 1 = 126 + 1 := by decide +kernel
theorem zc_r124_2 : ZC.2.2.2 124 2 = 127 + 1 := by decide +kernel
theorem zc_r124_3 : ZC.2.2.2 124 3 = 128 + 1 := by decide +kernel
theorem zc_r124_4 : ZC.2.2.2 124 4 = 129 + 1 := by decide +kernel
theorem zc_r124_5 : ZC.2.2.2 124 5 = 130 + 1 := by decide +kernel
theorem zc_r124_6 : ZC.2.2.2 124 6 = 131 + 1 := by decide +kernel
theorem zc_r124_7 : ZC.2.2.2 124 7 = 132 + 1 := by decide +kernel
theorem zc_k125 : ZC.2.1 125 = 20 := by decide +kernel
theorem zc_b125 : 125 < ZC.1 := by decide +kernel
theorem zc_n125 : ZC.2.2.1 125 = 30 := by decide +kernel
theorem zc_k126 : ZC.2.1 126 = 20 := by decide +kernel
theorem zc_b126 : 126 < ZC.1 := by decide +kernel
theorem zc_n126 : ZC.2.2.1 126 = 30 := by decide +kernel
theorem zc_k127 : ZC.2.1 127 = 20 := by decide +kernel
theorem zc_b127 : 127 < ZC.1 := by decide +kernel
theorem zc_n127 : ZC.2.2.1 127 = 30 := by decide +kernel
theorem zc_k128 : ZC.2.1 128 = 21 := by decide +kernel
theorem zc_b128 : 128 < ZC.1 := by decide +kernel
theorem zc_n128 : ZC.2.2.1 128 = 30 := by decide +kernel
theorem zc_k129 : ZC.2.1 129 = 20 := by decide +kernel
theorem zc_b129 : 129 < ZC.1 := by decide +kernel
theorem zc_n129 : ZC.2.2.1 129 = 30 := by decide +kernel
theorem zc_k130 : ZC.2.1 130 = 20 := by decide +kernel
theorem zc_b130 : 130 < ZC.1 := by decide +kernel
theorem zc_n130 : ZC.2.2.1 130 = 30 := by decide +kernel
theorem zc_k131 : ZC.2.1 131 = 20 := by decide +kernel
theorem zc_b131 : 131 < ZC.1 := by decide +kernel
theorem zc_n131 : ZC.2.2.1 131 = 30 := by decide +kernel
theorem zc_k132 : ZC.2.1 132 = 20 := by decide +kernel
theorem zc_b132 : 132 < ZC.1 := by decide +kernel
theorem zc_n132 : ZC.2.2.1 132 = 30 := by decide +kernel
theorem zc_k133 : ZC.2.1 133 = 6 := by decide +kernel
theorem zc_b133 : 133 < ZC.1 := by decide +kernel
theorem zc_r133_0 : ZC.2.2.2 133 0 = 134 + 1 := by decide +kernel
theorem zc_r133_1 : ZC.2.2.2 133 1 = 135 + 1 := by decide +kernel
theorem zc_r133_2 : ZC.2.2.2 133 2 = 136 + 1 := by decide +kernel
theorem zc_r133_3 : ZC.2.2.2 133 3 = 137 + 1 := by decide +kernel
theorem zc_r133_4 : ZC.2.2.2 133 4 = 138 + 1 := by decide +kernel
theorem zc_r133_5 : ZC.2.2.2 133 5 = 139 + 1 := by decide +kernel
theorem zc_r133_6 : ZC.2.2.2 133 6 = 140 + 1 := by decide +kernel
theorem zc_k134 : ZC.2.1 134 = 20 := by decide +kernel
theorem zc_b134 : 134 < ZC.1 := by decide +kernel
theorem zc_n134 : ZC.2.2.1 134 = 12 := by decide +kernel
theorem zc_k135 : ZC.2.1 135 = 20 := by decide +kernel
theorem zc_b135 : 135 < ZC.1 := by decide +kernel
theorem zc_n135 : ZC.2.2.1 135 = 12 := by decide +kernel
theorem zc_k136 : ZC.2.1 136 = 20 := by decide +kernel
theorem zc_b136 : 136 < ZC.1 := by decide +kernel
theorem zc_n136 : ZC.2.2.1 136 = 72 := by decide +kernel
theorem zc_k137 : ZC.2.1 137 = 20 := by decide +kernel
theorem zc_b137 : 137 < ZC.1 := by decide +kernel
theorem zc_n137 : ZC.2.2.1 137 = 72 := by decide +kernel
theorem zc_k138 : ZC.2.1 138 = 20 := by decide +kernel
theorem zc_b138 : 138 < ZC.1 := by decide +kernel
theorem zc_n138 : ZC.2.2.1 138 = 6 := by decide +kernel
theorem zc_k139 : ZC.2.1 139 = 20 := by decide +kernel
theorem zc_b139 : 139 < ZC.1 := by decide +kernel
theorem zc_n139 : ZC.2.2.1 139 = 6 := by decide +kernel
theorem zc_k140 : ZC.2.1 140 = 9 := by decide +kernel
theorem zc_b140 : 140 < ZC.1 := by decide +kernel
theorem zc_r140_0 : ZC.2.2.2 140 0 = 141 + 1 := by decide +kernel
theorem zc_r140_1 : ZC.2.2.2 140 1 = 142 + 1 := by decide +kernel
theorem zc_r140_2 : ZC.2.2.2 140 2 = 143 + 1 := by decide +kernel
theorem zc_r140_3 : ZC.2.2.2 140 3 = 144 + 1 := by decide +kernel
theorem zc_r140_4 : ZC.2.2.2 140 4 = 145 + 1 := by decide +kernel
theorem zc_r140_5 : ZC.2.2.2 140 5 = 146 + 1 := by decide +kernel
theorem zc_r140_6 : ZC.2.2.2 140 6 = 147 + 1 := by decide +kernel
theorem zc_r140_7 : ZC.2.2.2 140 7 = 148 + 1 := by decide +kernel
theorem zc_k141 : ZC.2.1 141 = 20 := by decide +kernel
theorem zc_b141 : 141 < ZC.1 := by decide +kernel
theorem zc_n141 : ZC.2.2.1 141 = 30 := by decide +kernel
theorem zc_k142 : ZC.2.1 142 = 20 := by decide +kernel
theorem zc_b142 : 142 < ZC.1 := by decide +kernel
theorem zc_n142 : ZC.2.2.1 142 = 30 := by decide +kernel
theorem zc_k143 : ZC.2.1 143 = 20 := by decide +kernel
theorem zc_b143 : 143 < ZC.1 := by decide +kernel
theorem zc_n143 : ZC.2.2.1 143 = 30 := by decide +kernel
theorem zc_k144 : ZC.2.1 144 = 21 := by decide +kernel
theorem zc_b144 : 144 < ZC.1 := by decide +kernel
theorem zc_n144 : ZC.2.2.1 144 = 30 := by decide +kernel
theorem zc_k145 : ZC.2.1 145 = 20 := by decide +kernel
theorem zc_b145 : 145 < ZC.1 := by decide +kernel
theorem zc_n145 : ZC.2.2.1 145 = 30 := by decide +kernel
theorem zc_k146 : ZC.2.1 146 = 20 := by decide +kernel
theorem zc_b146 : 146 < ZC.1 := by decide +kernel
theorem zc_n146 : ZC.2.2.1 146 = 30 := by decide +kernel
theorem zc_k147 : ZC.2.1 147 = 20 := by decide +kernel
theorem zc_b147 : 147 < ZC.1 := by decide +kernel
theorem zc_n147 : ZC.2.2.1 147 = 30 := by decide +kernel
theorem zc_k148 : ZC.2.1 148 = 20 := by decide +kernel
theorem zc_b148 : 148 < ZC.1 := by decide +kernel
theorem zc_n148 : ZC.2.2.1 148 = 30 := by decide +kernel
theorem zc_k149 : ZC.2.1 149 = 6 := by decide +kernel
theorem zc_b149 : 149 < ZC.1 := by decide +kernel
theorem zc_r149_0 : ZC.2.2.2 149 0 = 150 + 1 := by decide +kernel
theorem zc_r149_1 : ZC.2.2.2 149 1 = 151 + 1 := by decide +kernel
theorem zc_r149_2 : ZC.2.2.2 149 2 = 152 + 1 := by decide +kernel
theorem zc_r149_3 : ZC.2.2.2 149 3 = 153 + 1 := by decide +kernel
theorem zc_r149_4 : ZC.2.2.2 149 4 = 154 + 1 := by decide +kernel
theorem zc_r149_5 : ZC.2.2.2 149 5 = 155 + 1 := by decide +kernel
theorem zc_r149_6 : ZC.2.2.2 149 6 = 156 + 1 := by decide +kernel
theorem zc_k150 : ZC.2.1 150 = 20 := by decide +kernel
theorem zc_b150 : 150 < ZC.1 := by decide +kernel
theorem zc_n150 : ZC.2.2.1 150 = 12 := by decide +kernel
theorem zc_k151 : ZC.2.1 151 = 20 := by decide +kernel
theorem zc_b151 : 151 < ZC.1 := by decide +kernel
theorem zc_n151 : ZC.2.2.1 151 = 12 := by decide +kernel
theorem zc_k152 : ZC.2.1 152 = 20 := by decide +kernel
theorem zc_b152 : 152 < ZC.1 := by decide +kernel
theorem zc_n152 : ZC.2.2.1 152 = 72 := by decide +kernel
theorem zc_k153 : ZC.2.1 153 = 20 := by decide +kernel
theorem zc_b153 : 153 < ZC.1 := by decide +kernel
theorem zc_n153 : ZC.2.2.1 153 = 72 := by decide +kernel
theorem zc_k154 : ZC.2.1 154 = 20 := by decide +kernel
theorem zc_b154 : 154 < ZC.1 := by decide +kernel
theorem zc_n154 : ZC.2.2.1 154 = 6 := by decide +kernel
theorem zc_k155 : ZC.2.1 155 = 20 := by decide +kernel
theorem zc_b155 : 155 < ZC.1 := by decide +kernel
theorem zc_n155 : ZC.2.2.1 155 = 6 := by decide +kernel
theorem zc_k156 : ZC.2.1 156 = 9 := by decide +kernel
theorem zc_b156 : 156 < ZC.1 := by decide +kernel
theorem zc_r156_0 : ZC.2.2.2 156 0 = 157 + 1 := by decide +kernel
theorem zc_r156_1 : ZC.2.2.2 156 1 = 158 + 1 := by decide +kernel
theorem zc_r156_2 : ZC.2.2.2 156 2 = 159 + 1 := by decide +kernel
theorem zc_r156_3 : ZC.2.2.2 156 3 = 160 + 1 := by decide +kernel
theorem zc_r156_4 : ZC.2.2.2 156 4 = 161 + 1 := by decide +kernel
theorem zc_r156_5 : ZC.2.2.2 156 5 = 162 + 1 := by decide +kernel
theorem zc_r156_6 : ZC.2.2.2 156 6 = 163 + 1 := by decide +kernel
theorem zc_r156_7 : ZC.2.2.2 156 7 = 164 + 1 := by decide +kernel
theorem zc_k157 : ZC.2.1 157 = 20 := by decide +kernel
theorem zc_b157 : 157 < ZC.1 := by decide +kernel
theorem zc_n157 : ZC.2.2.1 157 = 30 := by decide +kernel
theorem zc_k158 : ZC.2.1 158 = 20 := by decide +kernel
theorem zc_b158 : 158 < ZC.1 := by decide +kernel
theorem zc_n158 : ZC.2.2.1 158 = 30 := by decide +kernel
theorem zc_k159 : ZC.2.1 159 = 20 := by decide +kernel
theorem zc_b159 : 159 < ZC.1 := by decide +kernel
theorem zc_n159 : ZC.2.2.1 159 = 30 := by decide +kernel
theorem zc_k160 : ZC.2.1 160 = 21 := by decide +kernel
theorem zc_b160 : 160 < ZC.1 := by decide +kernel
theorem zc_n160 : ZC.2.2.1 160 = 30 := by decide +kernel
theorem zc_k161 : ZC.2.1 161 = 20 := by decide +kernel
theorem zc_b161 : 161 < ZC.1 := by decide +kernel
theorem zc_n161 : ZC.2.2.1 161 = 30 := by decide +kernel
theorem zc_k162 : ZC.2.1 162 = 20 := by decide +kernel
theorem zc_b162 : 162 < ZC.1 := by decide +kernel
theorem zc_n162 : ZC.2.2.1 162 = 30 := by decide +kernel
theorem zc_k163 : ZC.2.1 163 = 20 := by decide +kernel
theorem zc_b163 : 163 < ZC.1 := by decide +kernel
theorem zc_n163 : ZC.2.2.1 163 = 30 := by decide +kernel
theorem zc_k164 : ZC.2.1 164 = 20 := by decide +kernel
theorem zc_b164 : 164 < ZC.1 := by decide +kernel
theorem zc_n164 : ZC.2.2.1 164 = 30 := by decide +kernel
theorem zc_k165 : ZC.2.1 165 = 6 := by decide +kernel
theorem zc_b165 : 165 < ZC.1 := by decide +kernel
theorem zc_r165_0 : ZC.2.2.2 165 0 = 166 + 1 := by decide +kernel
theorem zc_r165_1 : ZC.2.2.2 165 1 = 167 + 1 := by decide +kernel
theorem zc_r165_2 : ZC.2.2.2 165 2 = 168 + 1 := by decide +kernel
theorem zc_r165_3 : ZC.2.2.2 165 3 = 169 + 1 := by decide +kernel
theorem zc_r165_4 : ZC.2.2.2 165 4 = 170 + 1 := by decide +kernel
theorem zc_r165_5 : ZC.2.2.2 165 5 = 171 + 1 := by decide +kernel
theorem zc_r165_6 : ZC.2.2.2 165 6 = 172 + 1 := by decide +kernel
theorem zc_k166 : ZC.2.1 166 = 20 := by decide +kernel
theorem zc_b166 : 166 < ZC.1 := by decide +kernel
theorem zc_n166 : ZC.2.2.1 166 = 12 := by decide +kernel
theorem zc_k167 : ZC.2.1 167 = 20 := by decide +kernel
theorem zc_b167 : 167 < ZC.1 := by decide +kernel
theorem zc_n167 : ZC.2.2.1 167 = 12 := by decide +kernel
theorem zc_k168 : ZC.2.1 168 = 20 := by decide +kernel
theorem zc_b168 : 168 < ZC.1 := by decide +kernel
theorem zc_n168 : ZC.2.2.1 168 = 72 := by decide +kernel
theorem zc_k169 : ZC.2.1 169 = 20 := by decide +kernel
theorem zc_b169 : 169 < ZC.1 := by decide +kernel
theorem zc_n169 : ZC.2.2.1 169 = 72 := by decide +kernel
theorem zc_k170 : ZC.2.1 170 = 20 := by decide +kernel
theorem zc_b170 : 170 < ZC.1 := by decide +kernel
theorem zc_n170 : ZC.2.2.1 170 = 6 := by decide +kernel
theorem zc_k171 : ZC.2.1 171 = 20 := by decide +kernel
theorem zc_b171 : 171 < ZC.1 := by decide +kernel
theorem zc_n171 : ZC.2.2.1 171 = 6 := by decide +kernel
theorem zc_k172 : ZC.2.1 172 = 9 := by decide +kernel
theorem zc_b172 : 172 < ZC.1 := by decide +kernel
theorem zc_r172_0 : ZC.2.2.2 172 0 = 173 + 1 := by decide +kernel
theorem zc_r172_1 : ZC.2.2.2 172 1 = 174 + 1 := by decide +kernel
theorem zc_r172_2 : ZC.2.2.2 172 2 = 175 + 1 := by decide +kernel
theorem zc_r172_3 : ZC.2.2.2 172 3 = 176 + 1 := by decide +kernel
theorem zc_r172_4 : ZC.2.2.2 172 4 = 177 + 1 := by decide +kernel
theorem zc_r172_5 : ZC.2.2.2 172 5 = 178 + 1 := by decide +kernel
theorem zc_r172_6 : ZC.2.2.2 172 6 = 179 + 1 := by decide +kernel
theorem zc_r172_7 : ZC.2.2.2 172 7 = 180 + 1 := by decide +kernel
theorem zc_k173 : ZC.2.1 173 = 20 := by decide +kernel
theorem zc_b173 : 173 < ZC.1 := by decide +kernel
theorem zc_n173 : ZC.2.2.1 173 = 30 := by decide +kernel
theorem zc_k174 : ZC.2.1 174 = 20 := by decide +kernel
theorem zc_b174 : 174 < ZC.1 := by decide +kernel
theorem zc_n174 : ZC.2.2.1 174 = 30 := by decide +kernel
theorem zc_k175 : ZC.2.1 175 = 20 := by decide +kernel
theorem zc_b175 : 175 < ZC.1 := by decide +kernel
theorem zc_n175 : ZC.2.2.1 175 = 30 := by decide +kernel
theorem zc_k176 : ZC.2.1 176 = 21 := by decide +kernel
theorem zc_b176 : 176 < ZC.1 := by decide +kernel
theorem zc_n176 : ZC.2.2.1 176 = 30 := by decide +kernel
theorem zc_k177 : ZC.2.1 177 = 20 := by decide +kernel
theorem zc_b177 : 177 < ZC.1 := by decide +kernel
theorem zc_n177 : ZC.2.2.1 177 = 30 := by decide +kernel
theorem zc_k178 : ZC.2.1 178 = 20 := by decide +kernel
theorem zc_b178 : 178 < ZC.1 := by decide +kernel
theorem zc_n178 : ZC.2.2.1 178 = 30 := by decide +kernel
theorem zc_k179 : ZC.2.1 179 = 20 := by decide +kernel
theorem zc_b179 : 179 < ZC.1 := by decide +kernel
theorem zc_n179 : ZC.2.2.1 179 = 30 := by decide +kernel
theorem zc_k180 : ZC.2.1 180 = 20 := by decide +kernel
theorem zc_b180 : 180 < ZC.1 := by decide +kernel
theorem zc_n180 : ZC.2.2.1 180 = 30 := by decide +kernel
theorem zc_k181 : ZC.2.1 181 = 6 := by decide +kernel
theorem zc_b181 : 181 < ZC.1 := by decide +kernel
theorem zc_r181_0 : ZC.2.2.2 181 0 = 182 + 1 := by decide +kernel
theorem zc_r181_1 : ZC.2.2.2 181 1 = 183 + 1 := by decide +kernel
theorem zc_r181_2 : ZC.2.2.2 181 2 = 184 + 1 := by decide +kernel
theorem zc_r181_3 : ZC.2.2.2 181 3 = 185 + 1 := by decide +kernel
theorem zc_r181_4 : ZC.2.2.2 181 4 = 186 + 1 := by decide +kernel
theorem zc_r181_5 : ZC.2.2.2 181 5 = 187 + 1 := by decide +kernel
theorem zc_r181_6 : ZC.2.2.2 181 6 = 188 + 1 := by decide +kernel
theorem zc_k182 : ZC.2.1 182 = 20 := by decide +kernel
theorem zc_b182 : 182 < ZC.1 := by decide +kernel
theorem zc_n182 : ZC.2.2.1 182 = 12 := by decide +kernel
theorem zc_k183 : ZC.2.1 183 = 20 := by decide +kernel
theorem zc_b183 : 183 < ZC.1 := by decide +kernel
theorem zc_n183 : ZC.2.2.1 183 = 12 := by decide +kernel
theorem zc_k184 : ZC.2.1 184 = 20 := by decide +kernel
theorem zc_b184 : 184 < ZC.1 := by decide +kernel
theorem zc_n184 : ZC.2.2.1 184 = 72 := by decide +kernel
theorem zc_k185 : ZC.2.1 185 = 20 := by decide +kernel
theorem zc_b185 : 185 < ZC.1 := by decide +kernel
theorem zc_n185 : ZC.2.2.1 185 = 72 := by decide +kernel
theorem zc_k186 : ZC.2.1 186 = 20 := by decide +kernel
theorem zc_b186 : 186 < ZC.1 := by decide +kernel
theorem zc_n186 : ZC.2.2.1 186 = 6 := by decide +kernel
theorem zc_k187 : ZC.2.1 187 = 20 := by decide +kernel
theorem zc_b187 : 187 < ZC.1 := by decide +kernel
theorem zc_n187 : ZC.2.2.1 187 = 6 := by decide +kernel
theorem zc_k188 : ZC.2.1 188 = 9 := by decide +kernel
theorem zc_b188 : 188 < ZC.1 := by decide +kernel
theorem zc_r188_0 : ZC.2.2.2 188 0 = 189 + 1 := by decide +kernel
theorem zc_r188_1 : ZC.2.2.2 188 1 = 190 + 1 := by decide +kernel
theorem zc_r188_2 : ZC.2.2.2 188 2 = 191 + 1 := by decide +kernel
theorem zc_r188_3 : ZC.2.2.2 188 3 = 192 + 1 := by decide +kernel
theorem zc_r188_4 : ZC.2.2.2 188 4 = 193 + 1 := by decide +kernel
theorem zc_r188_5 : ZC.2.2.2 188 5 = 194 + 1 := by decide +kernel
theorem zc_r188_6 : ZC.2.2.2 188 6 = 195 + 1 := by decide +kernel
theorem zc_r188_7 : ZC.2.2.2 188 7 = 196 + 1 := by decide +kernel
theorem zc_k189 : ZC.2.1 189 = 20 := by decide +kernel
theorem zc_b189 : 189 < ZC.1 := by decide +kernel
theorem zc_n189 : ZC.2.2.1 189 = 30 := by decide +kernel
theorem zc_k190 : ZC.2.1 190 = 20 := by decide +kernel
theorem zc_b190 : 190 < ZC.1 := by decide +kernel
theorem zc_n190 : ZC.2.2.1 190 = 30 := by decide +kernel
theorem zc_k191 : ZC.2.1 191 = 20 := by decide +kernel
theorem zc_b191 : 191 < ZC.1 := by decide +kernel
theorem zc_n191 : ZC.2.2.1 191 = 30 := by decide +kernel
theorem zc_k192 : ZC.2.1 192 = 21 := by decide +kernel
theorem zc_b192 : 192 < ZC.1 := by decide +kernel
theorem zc_n192 : ZC.2.2.1 192 = 30 := by decide +kernel
theorem zc_k193 : ZC.2.1 193 = 20 := by decide +kernel
theorem zc_b193 : 193 < ZC.1 := by decide +kernel
theorem zc_n193 : ZC.2.2.1 193 = 30 := by decide +kernel
theorem zc_k194 : ZC.2.1 194 = 20 := by decide +kernel
theorem zc_b194 : 194 < ZC.1 := by decide +kernel
theorem zc_n194 : ZC.2.2.1 194 = 30 := by decide +kernel
theorem zc_k195 : ZC.2.1 195 = 20 := by decide +kernel
theorem zc_b195 : 195 < ZC.1 := by decide +kernel
theorem zc_n195 : ZC.2.2.1 195 = 30 := by decide +kernel
theorem zc_k196 : ZC.2.1 196 = 20 := by decide +kernel
theorem zc_b196 : 196 < ZC.1 := by decide +kernel
theorem zc_n196 : ZC.2.2.1 196 = 30 := by decide +kernel
theorem zc_k197 : ZC.2.1 197 = 6 := by decide +kernel
theorem zc_b197 : 197 < ZC.1 := by decide +kernel
theorem zc_r197_0 : ZC.2.2.2 197 0 = 198 + 1 := by decide +kernel
theorem zc_r197_1 : ZC.2.2.2 197 1 = 199 + 1 := by decide +kernel
theorem zc_r197_2 : ZC.2.2.2 197 2 = 200 + 1 := by decide +kernel
theorem zc_r197_3 : ZC.2.2.2 197 3 = 201 + 1 := by decide +kernel
theorem zc_r197_4 : ZC.2.2.2 197 4 = 202 + 1 := by decide +kernel
theorem zc_r197_5 : ZC.2.2.2 197 5 = 203 + 1 := by decide +kernel
theorem zc_r197_6 : ZC.2.2.2 197 6 = 204 + 1 := by decide +kernel
theorem zc_k198 : ZC.2.1 198 = 20 := by decide +kernel
theorem zc_b198 : 198 < ZC.1 := by decide +kernel
theorem zc_n198 : ZC.2.2.1 198 = 12 := by decide +kernel
theorem zc_k199 : ZC.2.1 199 = 20 := by decide +kernel
theorem zc_b199 : 199 < ZC.1 := by decide +kernel
theorem zc_n199 : ZC.2.2.1 199 = 12 := by decide +kernel
theorem zc_k200 : ZC.2.1 200 = 20 := by decide +kernel
theorem zc_b200 : 200 < ZC.1 := by decide +kernel
theorem zc_n200 : ZC.2.2.1 200 = 72 := by decide +kernel
theorem zc_k201 : ZC.2.1 201 = 20 := by decide +kernel
theorem zc_b201 : 201 < ZC.1 := by decide +kernel
theorem zc_n201 : ZC.2.2.1 201 = 72 := by decide +kernel
theorem zc_k202 : ZC.2.1 202 = 20 := by decide +kernel
theorem zc_b202 : 202 < ZC.1 := by decide +kernel
theorem zc_n202 : ZC.2.2.1 202 = 6 := by decide +kernel
theorem zc_k203 : ZC.2.1 203 = 20 := by decide +kernel
theorem zc_b203 : 203 < ZC.1 := by decide +kernel
theorem zc_n203 : ZC.2.2.1 203 = 6 := by decide +kernel
theorem zc_k204 : ZC.2.1 204 = 9 := by decide +kernel
theorem zc_b204 : 204 < ZC.1 := by decide +kernel
theorem zc_r204_0 : ZC.2.2.2 204 0 = 205 + 1 := by decide +kernel
theorem zc_r204_1 : ZC.2.2.2 204 1 = 206 + 1 := by decide +kernel
theorem zc_r204_2 : ZC.2.2.2 204 2 = 207 + 1 := by decide +kernel
theorem zc_r204_3 : ZC.2.2.2 204 3 = 208 + 1 := by decide +kernel
theorem zc_r204_4 : ZC.2.2.2 204 4 = 209 + 1 := by decide +kernel
theorem zc_r204_5 : ZC.2.2.2 204 5 = 210 + 1 := by decide +kernel
theorem zc_r204_6 : ZC.2.2.2 204 6 = 211 + 1 := by decide +kernel
theorem zc_r204_7 : ZC.2.2.2 204 7 = 212 + 1 := by decide +kernel
theorem zc_k205 : ZC.2.1 205 = 20 := by decide +kernel
theorem zc_b205 : 205 < ZC.1 := by decide +kernel
theorem zc_n205 : ZC.2.2.1 205 = 30 := by decide +kernel
theorem zc_k206 : ZC.2.1 206 = 20 := by decide +kernel
theorem zc_b206 : 206 < ZC.1 := by decide +kernel
theorem zc_n206 : ZC.2.2.1 206 = 30 := by decide +kernel
theorem zc_k207 : ZC.2.1 207 = 20 := by decide +kernel
theorem zc_b207 : 207 < ZC.1 := by decide +kernel
theorem zc_n207 : ZC.2.2.1 207 = 30 := by decide +kernel
theorem zc_k208 : ZC.2.1 208 = 21 := by decide +kernel
theorem zc_b208 : 208 < ZC.1 := by decide +kernel
theorem zc_n208 : ZC.2.2.1 208 = 30 := by decide +kernel
theorem zc_k209 : ZC.2.1 209 = 20 := by decide +kernel
theorem zc_b209 : 209 < ZC.1 := by decide +kernel
theorem zc_n209 : ZC.2.2.1 209 = 30 := by decide +kernel
theorem zc_k210 : ZC.2.1 210 = 20 := by decide +kernel
theorem zc_b210 : 210 < ZC.1 := by decide +kernel
theorem zc_n210 : ZC.2.2.1 210 = 30 := by decide +kernel
theorem zc_k211 : ZC.2.1 211 = 20 := by decide +kernel
theorem zc_b211 : 211 < ZC.1 := by decide +kernel
theorem zc_n211 : ZC.2.2.1 211 = 30 := by decide +kernel
theorem zc_k212 : ZC.2.1 212 = 20 := by decide +kernel
theorem zc_b212 : 212 < ZC.1 := by decide +kernel
theorem zc_n212 : ZC.2.2.1 212 = 30 := by decide +kernel
theorem zc_k213 : ZC.2.1 213 = 6 := by decide +kernel
theorem zc_b213 : 213 < ZC.1 := by decide +kernel
theorem zc_r213_0 : ZC.2.2.2 213 0 = 214 + 1 := by decide +kernel
theorem zc_r213_1 : ZC.2.2.2 213 1 = 215 + 1 := by decide +kernel
theorem zc_r213_2 : ZC.2.2.2 213 2 = 216 + 1 := by decide +kernel
theorem zc_r213_3 : ZC.2.2.2 213 3 = 217 + 1 := by decide +kernel
theorem zc_r213_4 : ZC.2.2.2 213 4 = 218 + 1 := by decide +kernel
theorem zc_r213_5 : ZC.2.2.2 213 5 = 219 + 1 := by decide +kernel
theorem zc_r213_6 : ZC.2.2.2 213 6 = 220 + 1 := by decide +kernel
theorem zc_k214 : ZC.2.1 214 = 20 := by decide +kernel
theorem zc_b214 : 214 < ZC.1 := by decide +kernel
theorem zc_n214 : ZC.2.2.1 214 = 12 := by decide +kernel
theorem zc_k215 : ZC.2.1 215 = 20 := by decide +kernel
theorem zc_b215 : 215 < ZC.1 := by decide +kernel
theorem zc_n215 : ZC.2.2.1 215 = 12 := by decide +kernel
theorem zc_k216 : ZC.2.1 216 = 20 := by decide +kernel
theorem zc_b216 : 216 < ZC.1 := by decide +kernel
theorem zc_n216 : ZC.2.2.1 216 = 72 := by decide +kernel
theorem zc_k217 : ZC.2.1 217 = 20 := by decide +kernel
theorem zc_b217 : 217 < ZC.1 := by decide +kernel
theorem zc_n217 : ZC.2.2.1 217 = 72 := by decide +kernel
theorem zc_k218 : ZC.2.1 218 = 20 := by decide +kernel
theorem zc_b218 : 218 < ZC.1 := by decide +kernel
theorem zc_n218 : ZC.2.2.1 218 = 6 := by decide +kernel
theorem zc_k219 : ZC.2.1 219 = 20 := by decide +kernel
theorem zc_b219 : 219 < ZC.1 := by decide +kernel
theorem zc_n219 : ZC.2.2.1 219 = 6 := by decide +kernel
theorem zc_k220 : ZC.2.1 220 = 9 := by decide +kernel
theorem zc_b220 : 220 < ZC.1 := by decide +kernel
theorem zc_r220_0 : ZC.2.2.2 220 0 = 221 + 1 := by decide +kernel
theorem zc_r220_1 : ZC.2.2.2 220 1 = 222 + 1 := by decide +kernel
theorem zc_r220_2 : ZC.2.2.2 220 2 = 223 + 1 := by decide +kernel
theorem zc_r220_3 : ZC.2.2.2 220 3 = 224 + 1 := by decide +kernel
theorem zc_r220_4 : ZC.2.2.2 220 4 = 225 + 1 := by decide +kernel
theorem zc_r220_5 : ZC.2.2.2 220 5 = 226 + 1 := by decide +kernel
theorem zc_r220_6 : ZC.2.2.2 220 6 = 227 + 1 := by decide +kernel
theorem zc_r220_7 : ZC.2.2.2 220 7 = 228 + 1 := by decide +kernel
theorem zc_k221 : ZC.2.1 221 = 20 := by decide +kernel
theorem zc_b221 : 221 < ZC.1 := by decide +kernel
theorem zc_n221 : ZC.2.2.1 221 = 30 := by decide +kernel
theorem zc_k222 : ZC.2.1 222 = 20 := by decide +kernel
theorem zc_b222 : 222 < ZC.1 := by decide +kernel
theorem zc_n222 : ZC.2.2.1 222 = 30 := by decide +kernel
theorem zc_k223 : ZC.2.1 223 = 20 := by decide +kernel
theorem zc_b223 : 223 < ZC.1 := by decide +kernel
theorem zc_n223 : ZC.2.2.1 223 = 30 := by decide +kernel
theorem zc_k224 : ZC.2.1 224 = 21 := by decide +kernel
theorem zc_b224 : 224 < ZC.1 := by decide +kernel
theorem zc_n224 : ZC.2.2.1 224 = 30 := by decide +kernel
theorem zc_k225 : ZC.2.1 225 = 20 := by decide +kernel
theorem zc_b225 : 225 < ZC.1 := by decide +kernel
theorem zc_n225 : ZC.2.2.1 225 = 30 := by decide +kernel
theorem zc_k226 : ZC.2.1 226 = 20 := by decide +kernel
theorem zc_b226 : 226 < ZC.1 := by decide +kernel
theorem zc_n226 : ZC.2.2.1 226 = 30 := by decide +kernel
theorem zc_k227 : ZC.2.1 227 = 20 := by decide +kernel
theorem zc_b227 : 227 < ZC.1 := by decide +kernel
theorem zc_n227 : ZC.2.2.1 227 = 30 := by decide +kernel
theorem zc_k228 : ZC.2.1 228 = 20 := by decide +kernel
theorem zc_b228 : 228 < ZC.1 := by decide +kernel
theorem zc_n228 : ZC.2.2.1 228 = 30 := by decide +kernel
def f_oln (o : Nat) : Nat := ZC.2.2.1 (o + 1)
theorem zc_oo4_0 : ∀ o, o < 229 → ZC.2.1 o = 5 → ZC.2.2.2 o 0 = (o + 1) + 1 ∧ ZC.2.1 (o + 1) = 20 ∧ o + 1 < ZC.1 ∧ ZC.2.2.1 (o + 1) = 401 := by decide +kernel
theorem zc_o4_0 {o : Nat} (h : ZC.2.1 o = 5) : ZC.2.2.2 o 0 = (o + 1) + 1 ∧ ZC.2.1 (o + 1) = 20 ∧ o + 1 < ZC.1 ∧ ZC.2.2.1 (o + 1) = 401 := zc_oo4_0 o (zc_lt h) h
theorem zc_oo4_1 : ∀ o, o < 229 → ZC.2.1 o = 5 → ZC.2.2.2 o 1 = (o + 2) + 1 ∧ ZC.2.1 (o + 2) = 20 ∧ o + 2 < ZC.1 ∧ ZC.2.2.1 (o + 2) = 401 := by decide +kernel
theorem zc_o4_1 {o : Nat} (h : ZC.2.1 o = 5) : ZC.2.2.2 o 1 = (o + 2) + 1 ∧ ZC.2.1 (o + 2) = 20 ∧ o + 2 < ZC.1 ∧ ZC.2.2.1 (o + 2) = 401 := zc_oo4_1 o (zc_lt h) h
theorem zc_oo4_2 : ∀ o, o < 229 → ZC.2.1 o = 5 → ZC.2.2.2 o 2 = (o + 3) + 1 ∧ ZC.2.1 (o + 3) = 20 ∧ o + 3 < ZC.1 ∧ ZC.2.2.1 (o + 3) = 143 := by decide +kernel
theorem zc_o4_2 {o : Nat} (h : ZC.2.1 o = 5) : ZC.2.2.2 o 2 = (o + 3) + 1 ∧ ZC.2.1 (o + 3) = 20 ∧ o + 3 < ZC.1 ∧ ZC.2.2.1 (o + 3) = 143 := zc_oo4_2 o (zc_lt h) h
theorem zc_oo5_0 : ∀ o, o < 229 → ZC.2.1 o = 6 → ZC.2.2.2 o 0 = (o + 1) + 1 ∧ ZC.2.1 (o + 1) = 20 ∧ o + 1 < ZC.1 ∧ ZC.2.2.1 (o + 1) = 12 := by decide +kernel
theorem zc_o5_0 {o : Nat} (h : ZC.2.1 o = 6) : ZC.2.2.2 o 0 = (o + 1) + 1 ∧ ZC.2.1 (o + 1) = 20 ∧ o + 1 < ZC.1 ∧ ZC.2.2.1 (o + 1) = 12 := zc_oo5_0 o (zc_lt h) h
theorem zc_oo5_1 : ∀ o, o < 229 → ZC.2.1 o = 6 → ZC.2.2.2 o 1 = (o + 2) + 1 ∧ ZC.2.1 (o + 2) = 20 ∧ o + 2 < ZC.1 ∧ ZC.2.2.1 (o + 2) = 12 := by decide +kernel
theorem zc_o5_1 {o : Nat} (h : ZC.2.1 o = 6) : ZC.2.2.2 o 1 = (o + 2) + 1 ∧ ZC.2.1 (o + 2) = 20 ∧ o + 2 < ZC.1 ∧ ZC.2.2.1 (o + 2) = 12 := zc_oo5_1 o (zc_lt h) h
theorem zc_oo5_2 : ∀ o, o < 229 → ZC.2.1 o = 6 → ZC.2.2.2 o 2 = (o + 3) + 1 ∧ ZC.2.1 (o + 3) = 20 ∧ o + 3 < ZC.1 ∧ ZC.2.2.1 (o + 3) = 72 := by decide +kernel
theorem zc_o5_2 {o : Nat} (h : ZC.2.1 o = 6) : ZC.2.2.2 o 2 = (o + 3) + 1 ∧ ZC.2.1 (o + 3) = 20 ∧ o + 3 < ZC.1 ∧ ZC.2.2.1 (o + 3) = 72 := zc_oo5_2 o (zc_lt h) h
theorem zc_oo5_3 : ∀ o, o < 229 → ZC.2.1 o = 6 → ZC.2.2.2 o 3 = (o + 4) + 1 ∧ ZC.2.1 (o + 4) = 20 ∧ o + 4 < ZC.1 ∧ ZC.2.2.1 (o + 4) = 72 := by decide +kernel
theorem zc_o5_3 {o : Nat} (h : ZC.2.1 o = 6) : ZC.2.2.2 o 3 = (o + 4) + 1 ∧ ZC.2.1 (o + 4) = 20 ∧ o + 4 < ZC.1 ∧ ZC.2.2.1 (o + 4) = 72 := zc_oo5_3 o (zc_lt h) h
theorem zc_oo5_4 : ∀ o, o < 229 → ZC.2.1 o = 6 → ZC.2.2.2 o 4 = (o + 5) + 1 ∧ ZC.2.1 (o + 5) = 20 ∧ o + 5 < ZC.1 ∧ ZC.2.2.1 (o + 5) = 6 := by decide +kernel
theorem zc_o5_4 {o : Nat} (h : ZC.2.1 o = 6) : ZC.2.2.2 o 4 = (o + 5) + 1 ∧ ZC.2.1 (o + 5) = 20 ∧ o + 5 < ZC.1 ∧ ZC.2.2.1 (o + 5) = 6 := zc_oo5_4 o (zc_lt h) h
theorem zc_oo5_5 : ∀ o, o < 229 → ZC.2.1 o = 6 → ZC.2.2.2 o 5 = (o + 6) + 1 ∧ ZC.2.1 (o + 6) = 20 ∧ o + 6 < ZC.1 ∧ ZC.2.2.1 (o + 6) = 6 := by decide +kernel
theorem zc_o5_5 {o : Nat} (h : ZC.2.1 o = 6) : ZC.2.2.2 o 5 = (o + 6) + 1 ∧ ZC.2.1 (o + 6) = 20 ∧ o + 6 < ZC.1 ∧ ZC.2.2.1 (o + 6) = 6 := zc_oo5_5 o (zc_lt h) h
theorem zc_oo5_6 : ∀ o, o < 229 → ZC.2.1 o = 6 → ZC.2.2.2 o 6 = (o + 7) + 1 ∧ ZC.2.1 (o + 7) = 9 ∧ o + 7 < ZC.1 := by decide +kernel
theorem zc_o5_6 {o : Nat} (h : ZC.2.1 o = 6) : ZC.2.2.2 o 6 = (o + 7) + 1 ∧ ZC.2.1 (o + 7) = 9 ∧ o + 7 < ZC.1 := zc_oo5_6 o (zc_lt h) h
theorem zc_oo8_0 : ∀ o, o < 229 → ZC.2.1 o = 9 → ZC.2.2.2 o 0 = (o + 1) + 1 ∧ ZC.2.1 (o + 1) = 20 ∧ o + 1 < ZC.1 ∧ ZC.2.2.1 (o + 1) = f_oln o := by decide +kernel
theorem zc_o8_0 {o : Nat} (h : ZC.2.1 o = 9) : ZC.2.2.2 o 0 = (o + 1) + 1 ∧ ZC.2.1 (o + 1) = 20 ∧ o + 1 < ZC.1 ∧ ZC.2.2.1 (o + 1) = f_oln o := zc_oo8_0 o (zc_lt h) h
theorem zc_oo8_1 : ∀ o, o < 229 → ZC.2.1 o = 9 → ZC.2.2.2 o 1 = (o + 2) + 1 ∧ ZC.2.1 (o + 2) = 20 ∧ o + 2 < ZC.1 ∧ ZC.2.2.1 (o + 2) = f_oln o := by decide +kernel
theorem zc_o8_1 {o : Nat} (h : ZC.2.1 o = 9) : ZC.2.2.2 o 1 = (o + 2) + 1 ∧ ZC.2.1 (o + 2) = 20 ∧ o + 2 < ZC.1 ∧ ZC.2.2.1 (o + 2) = f_oln o := zc_oo8_1 o (zc_lt h) h
theorem zc_oo8_2 : ∀ o, o < 229 → ZC.2.1 o = 9 → ZC.2.2.2 o 2 = (o + 3) + 1 ∧ ZC.2.1 (o + 3) = 20 ∧ o + 3 < ZC.1 ∧ ZC.2.2.1 (o + 3) = f_oln o := by decide +kernel
theorem zc_o8_2 {o : Nat} (h : ZC.2.1 o = 9) : ZC.2.2.2 o 2 = (o + 3) + 1 ∧ ZC.2.1 (o + 3) = 20 ∧ o + 3 < ZC.1 ∧ ZC.2.2.1 (o + 3) = f_oln o := zc_oo8_2 o (zc_lt h) h
theorem zc_oo8_3 : ∀ o, o < 229 → ZC.2.1 o = 9 → ZC.2.2.2 o 3 = (o + 4) + 1 ∧ ZC.2.1 (o + 4) = 21 ∧ o + 4 < ZC.1 ∧ ZC.2.2.1 (o + 4) = f_oln o := by decide +kernel
theorem zc_o8_3 {o : Nat} (h : ZC.2.1 o = 9) : ZC.2.2.2 o 3 = (o + 4) + 1 ∧ ZC.2.1 (o + 4) = 21 ∧ o + 4 < ZC.1 ∧ ZC.2.2.1 (o + 4) = f_oln o := zc_oo8_3 o (zc_lt h) h
theorem zc_oo8_4 : ∀ o, o < 229 → ZC.2.1 o = 9 → ZC.2.2.2 o 4 = (o + 5) + 1 ∧ ZC.2.1 (o + 5) = 20 ∧ o + 5 < ZC.1 ∧ ZC.2.2.1 (o + 5) = f_oln o := by decide +kernel
theorem zc_o8_4 {o : Nat} (h : ZC.2.1 o = 9) : ZC.2.2.2 o 4 = (o + 5) + 1 ∧ ZC.2.1 (o + 5) = 20 ∧ o + 5 < ZC.1 ∧ ZC.2.2.1 (o + 5) = f_oln o := zc_oo8_4 o (zc_lt h) h
theorem zc_oo8_5 : ∀ o, o < 229 → ZC.2.1 o = 9 → ZC.2.2.2 o 5 = (o + 6) + 1 ∧ ZC.2.1 (o + 6) = 20 ∧ o + 6 < ZC.1 ∧ ZC.2.2.1 (o + 6) = f_oln o := by decide +kernel
theorem zc_o8_5 {o : Nat} (h : ZC.2.1 o = 9) : ZC.2.2.2 o 5 = (o + 6) + 1 ∧ ZC.2.1 (o + 6) = 20 ∧ o + 6 < ZC.1 ∧ ZC.2.2.1 (o + 6) = f_oln o := zc_oo8_5 o (zc_lt h) h
theorem zc_oo8_6 : ∀ o, o < 229 → ZC.2.1 o = 9 → ZC.2.2.2 o 6 = (o + 7) + 1 ∧ ZC.2.1 (o + 7) = 20 ∧ o + 7 < ZC.1 ∧ ZC.2.2.1 (o + 7) = f_oln o := by decide +kernel
theorem zc_o8_6 {o : Nat} (h : ZC.2.1 o = 9) : ZC.2.2.2 o 6 = (o + 7) + 1 ∧ ZC.2.1 (o + 7) = 20 ∧ o + 7 < ZC.1 ∧ ZC.2.2.1 (o + 7) = f_oln o := zc_oo8_6 o (zc_lt h) h
theorem zc_oo8_7 : ∀ o, o < 229 → ZC.2.1 o = 9 → ZC.2.2.2 o 7 = (o + 8) + 1 ∧ ZC.2.1 (o + 8) = 20 ∧ o + 8 < ZC.1 ∧ ZC.2.2.1 (o + 8) = f_oln o := by decide +kernel
theorem zc_o8_7 {o : Nat} (h : ZC.2.1 o = 9) : ZC.2.2.2 o 7 = (o + 8) + 1 ∧ ZC.2.1 (o + 8) = 20 ∧ o + 8 < ZC.1 ∧ ZC.2.2.1 (o + 8) = f_oln o := zc_oo8_7 o (zc_lt h) h
theorem zc_rr5 : ∀ j, j < 10 → ZC.2.2.2 64 j = 69 + 16 * j + 1 := by decide +kernel
theorem zc_rq5 : ∀ j, j < 10 → ZC.2.1 (69 + 16 * j) = 6 := by decide +kernel
theorem zc_rk5 {i : Int32} {d : Nat} (h : a_rf 10 69 16 i = some d) : ZC.2.1 d = 6 := by
  obtain ⟨_, h2, h3⟩ := a_rf_inv h
  rw [h2]
  exact zc_rq5 _ h3
theorem zc_rr4 : ∀ j, j < 3 → ZC.2.2.2 23 j = 27 + 4 * j + 1 := by decide +kernel
theorem zc_rq4 : ∀ j, j < 3 → ZC.2.1 (27 + 4 * j) = 5 := by decide +kernel
theorem zc_rk4 {i : Int32} {d : Nat} (h : a_rf 3 27 4 i = some d) : ZC.2.1 d = 5 := by
  obtain ⟨_, h2, h3⟩ := a_rf_inv h
  rw [h2]
  exact zc_rq4 _ h3
