section JX
def tb_0 : List (List jx_Op) := [
  [o_al 0 1, o_obj 4, o_bad, o_bad, o_al 0 5, o_ic 20 7, o_bad, o_na 111 .null 10, o_bad, o_bad, o_pA 0 0 111 13, o_bad, o_bad, o_al 0 14, o_ic 64 16, o_bad],
  [o_na 111 .null 19, o_bad, o_bad, o_pA 0 1 111 22, o_bad, o_bad, o_ic 0 23, o_is 1 24, o_il 1 25, o_ic 20 27, o_bad, o_cge 49 30, o_bad, o_bad, o_al 0 31, o_gA 0 0 34],
  [o_bad, o_bad, o_il 1 35, o_new 2 [.int 0, .int 0, .null, .int 0, .int 0] 38, o_bad, o_bad, o_dup 39, o_cV 20 1 3 42, o_bad, o_bad, o_sA 111 2 43, o_inc 1 1 46, o_bad, o_bad, o_go 24, o_bad],
  [o_bad, o_rV]]
def tb_1 : List (List jx_Op) := [
  [o_al 0 1, o_al 1 2, o_gI 0 2 5, o_bad, o_bad, o_pI 0 2 8, o_bad, o_bad, o_al 0 9, o_al 1 10, o_gI 0 3 13, o_bad, o_bad, o_pI 0 3 16, o_bad, o_bad],
  [o_ic 0 17, o_is 2 18, o_il 2 19, o_ic 64 21, o_bad, o_cge 37 24, o_bad, o_bad, o_al 0 25, o_gA 0 1 28, o_bad, o_bad, o_il 2 29, o_nc 30, o_sA 111 2 31, o_inc 2 1 34],
  [o_bad, o_bad, o_go 18, o_bad, o_bad, o_ic 0 38, o_is 2 39, o_il 2 40, o_al 0 41, o_gI 0 2 44, o_bad, o_bad, o_cge 87 47, o_bad, o_bad, o_al 0 48],
  [o_gA 0 0 51, o_bad, o_bad, o_il 2 52, o_lA 111 53, o_as 3 54, o_al 3 55, o_al 1 56, o_gA 0 0 59, o_bad, o_bad, o_il 2 60, o_lA 111 61, o_cV 23 2 3 64, o_bad, o_bad],
  [o_al 3 65, o_cI 21 1 3 68, o_bad, o_bad, o_eq 81 71, o_bad, o_bad, o_al 0 72, o_gA 0 1 75, o_bad, o_bad, o_al 3 76, o_gI 2 4 79, o_bad, o_bad, o_al 3 80],
  [o_sA 111 2 81, o_inc 2 1 84, o_bad, o_bad, o_go 39, o_bad, o_bad, o_rV]]
def tb_2 : List (List jx_Op) := [
  [o_ic 0 1, o_is 2 2, o_il 2 3, o_al 0 4, o_gI 0 2 7, o_bad, o_bad, o_cge 31 10, o_bad, o_bad, o_al 0 11, o_gA 0 0 14, o_bad, o_bad, o_il 2 15, o_lA 111 16],
  [o_gI 2 0 19, o_bad, o_bad, o_il 1 20, o_cne 25 23, o_bad, o_bad, o_il 2 24, o_rI, o_inc 2 1 28, o_bad, o_bad, o_go 2, o_bad, o_bad, o_ic (-1) 32],
  [o_rI]]
def tb_3 : List (List jx_Op) := [
  [o_al 0 1, o_il 1 2, o_cI 2 2 1 5, o_bad, o_bad, o_is 2 6, o_il 2 7, o_ic (-1) 8, o_cne 15 11, o_bad, o_bad, o_nc 12, o_go 21, o_bad, o_bad, o_al 0 16],
  [o_gA 0 0 19, o_bad, o_bad, o_il 2 20, o_lA 111 21, o_rA]]
def tb_4 : List (List jx_Op) := [
  [o_ic 0 1, o_is 1 2, o_ic 0 3, o_is 2 4, o_il 2 5, o_al 0 6, o_gI 0 2 9, o_bad, o_bad, o_cge 33 12, o_bad, o_bad, o_al 0 13, o_gA 0 0 16, o_bad, o_bad],
  [o_il 2 17, o_lA 111 18, o_cI 21 1 3 21, o_bad, o_bad, o_eq 27 24, o_bad, o_bad, o_inc 1 1 27, o_bad, o_bad, o_inc 2 1 30, o_bad, o_bad, o_go 4, o_bad],
  [o_bad, o_il 1 34, o_rI]]
def tb_5 : List (List jx_Op) := [
  [o_ic 0 1, o_is 2 2, o_ic 0 3, o_is 3 4, o_il 3 5, o_al 0 6, o_gI 0 2 9, o_bad, o_bad, o_cge 48 12, o_bad, o_bad, o_al 0 13, o_gA 0 0 16, o_bad, o_bad],
  [o_il 3 17, o_lA 111 18, o_cI 21 1 3 21, o_bad, o_bad, o_eq 27 24, o_bad, o_bad, o_go 42, o_bad, o_bad, o_il 2 28, o_il 1 29, o_cne 39 32, o_bad, o_bad],
  [o_al 0 33, o_gA 0 0 36, o_bad, o_bad, o_il 3 37, o_lA 111 38, o_rA, o_inc 2 1 42, o_bad, o_bad, o_inc 3 1 45, o_bad, o_bad, o_go 4, o_bad, o_bad],
  [o_nc 49, o_rA]]
def tb_6 : List (List jx_Op) := [
  [o_il 1 1, o_cI 127 1 0 4, o_bad, o_bad, o_eq 45 7, o_bad, o_bad, o_il 2 8, o_ic 15 10, o_bad, o_cI 126 2 0 13, o_bad, o_bad, o_eq 45 16, o_bad, o_bad],
  [o_il 3 17, o_ic 15 19, o_bad, o_cI 126 2 0 22, o_bad, o_bad, o_eq 45 25, o_bad, o_bad, o_il 4 27, o_bad, o_ic 15 29, o_bad, o_cI 126 2 0 32, o_bad, o_bad],
  [o_eq 45 35, o_bad, o_bad, o_il 5 37, o_bad, o_ic 15 39, o_bad, o_cI 126 2 0 42, o_bad, o_bad, o_ne 48 45, o_bad, o_bad, o_ic (-3) 47, o_bad, o_rI],
  [o_al 0 49, o_gI 0 2 52, o_bad, o_bad, o_ic 20 54, o_bad, o_clt 60 57, o_bad, o_bad, o_ic (-4) 59, o_bad, o_rI, o_al 0 61, o_gA 0 0 64, o_bad, o_bad],
  [o_al 0 65, o_gI 0 2 68, o_bad, o_bad, o_lA 111 69, o_as 6 71, o_bad, o_al 6 73, o_bad, o_al 0 74, o_gI 0 3 77, o_bad, o_bad, o_pI 2 0 80, o_bad, o_bad],
  [o_al 6 82, o_bad, o_il 1 83, o_pC 2 1 86, o_bad, o_bad, o_al 6 88, o_bad, o_gA 2 2 91, o_bad, o_bad, o_ic 0 92, o_il 2 93, o_sI 100 94, o_al 6 96, o_bad],
  [o_gA 2 2 99, o_bad, o_bad, o_ic 1 100, o_il 3 101, o_sI 100 102, o_al 6 104, o_bad, o_gA 2 2 107, o_bad, o_bad, o_ic 2 108, o_il 4 110, o_bad, o_sI 100 111, o_al 6 113],
  [o_bad, o_gA 2 2 116, o_bad, o_bad, o_ic 3 117, o_il 5 119, o_bad, o_sI 100 120, o_al 6 122, o_bad, o_ic 0 123, o_pI 2 3 126, o_bad, o_bad, o_al 6 128, o_bad],
  [o_ic (-1) 129, o_pI 2 4 132, o_bad, o_bad, o_al 0 133, o_dup 134, o_gI 0 2 137, o_bad, o_bad, o_ic 1 138, o_b2 (fun x y => x + y) 139, o_pI 0 2 142, o_bad, o_bad, o_al 0 143, o_dup 144],
  [o_gI 0 3 147, o_bad, o_bad, o_ic 1 148, o_b2 (fun x y => x + y) 149, o_pI 0 3 152, o_bad, o_bad, o_al 6 154, o_bad, o_gI 2 0 157, o_bad, o_bad, o_rI]]
def tb_7 : List (List jx_Op) := [
  [o_al 0 1, o_il 1 2, o_cI 2 2 1 5, o_bad, o_bad, o_is 2 6, o_il 2 7, o_ic (-1) 8, o_cne 13 11, o_bad, o_bad, o_ic (-1) 12, o_rI, o_al 0 14, o_gA 0 0 17, o_bad],
  [o_bad, o_il 2 18, o_lA 111 19, o_as 3 20, o_al 3 21, o_cI 21 1 3 24, o_bad, o_bad, o_eq 30 27, o_bad, o_bad, o_ic (-4) 29, o_bad, o_rI, o_al 0 31, o_dup 32],
  [o_gI 0 2 35, o_bad, o_bad, o_ic 1 36, o_b2 (fun x y => x - y) 37, o_pI 0 2 40, o_bad, o_bad, o_il 2 41, o_is 4 43, o_bad, o_il 4 45, o_bad, o_al 0 46, o_gI 0 2 49, o_bad],
  [o_bad, o_cge 74 52, o_bad, o_bad, o_al 0 53, o_gA 0 0 56, o_bad, o_bad, o_il 4 58, o_bad, o_al 0 59, o_gA 0 0 62, o_bad, o_bad, o_il 4 64, o_bad],
  [o_ic 1 65, o_b2 (fun x y => x + y) 66, o_lA 111 67, o_sA 111 2 68, o_inc 4 1 71, o_bad, o_bad, o_go 43, o_bad, o_bad, o_al 0 75, o_gA 0 0 78, o_bad, o_bad, o_al 0 79, o_gI 0 2 82],
  [o_bad, o_bad, o_al 3 83, o_sA 111 2 84, o_al 0 85, o_gI 0 2 88, o_bad, o_bad, o_rI]]
def tb_8 : List (List jx_Op) := [
  [o_al 0 1, o_il 1 2, o_cN 3 2 1 5, o_bad, o_bad, o_as 4 7, o_bad, o_al 4 9, o_bad, o_nnl 14 12, o_bad, o_bad, o_ic (-1) 13, o_rI, o_il 2 15, o_ic 7 17],
  [o_bad, o_cI 126 2 0 20, o_bad, o_bad, o_eq 32 23, o_bad, o_bad, o_il 3 24, o_ic 7 26, o_bad, o_cI 126 2 0 29, o_bad, o_bad, o_ne 35 32, o_bad, o_bad],
  [o_ic (-2) 34, o_bad, o_rI, o_ic 8 37, o_bad, o_il 2 38, o_b2 (fun x y => x * y) 39, o_il 3 40, o_b2 (fun x y => x + y) 41, o_is 5 43, o_bad, o_al 4 45, o_bad, o_cI 21 1 3 48, o_bad, o_bad],
  [o_ne 61 51, o_bad, o_bad, o_al 0 52, o_gA 0 1 55, o_bad, o_bad, o_il 5 57, o_bad, o_lN 111 58, o_nul 64 61, o_bad, o_bad, o_ic (-4) 63, o_bad, o_rI],
  [o_al 0 65, o_al 4 67, o_bad, o_il 5 69, o_bad, o_cV 9 3 1 72, o_bad, o_bad, o_al 0 73, o_al 4 75, o_bad, o_ic 1 76, o_cI 17 3 1 79, o_bad, o_bad, o_rI]]
def tb_9 : List (List jx_Op) := [
  [o_al 1 1, o_il 2 2, o_pI 2 4 5, o_bad, o_bad, o_al 0 6, o_gA 0 1 9, o_bad, o_bad, o_il 2 10, o_al 1 11, o_sA 111 2 12, o_rV]]
def tb_10 : List (List jx_Op) := [
  [o_al 0 1, o_il 1 2, o_cN 3 2 1 5, o_bad, o_bad, o_as 2 6, o_al 2 7, o_nnl 12 10, o_bad, o_bad, o_ic (-1) 11, o_rI, o_al 2 13, o_cI 21 1 3 16, o_bad, o_bad],
  [o_ne 22 19, o_bad, o_bad, o_ic (-4) 21, o_bad, o_rI, o_al 0 23, o_al 2 24, o_ic 1 25, o_cI 17 3 1 28, o_bad, o_bad, o_is 3 29, o_al 0 30, o_gA 0 1 33, o_bad],
  [o_bad, o_al 2 34, o_gI 2 4 37, o_bad, o_bad, o_nc 38, o_sA 111 2 39, o_al 2 40, o_ic (-1) 41, o_pI 2 4 44, o_bad, o_bad, o_il 3 45, o_rI]]
def tb_11 : List (List jx_Op) := [
  [o_al 0 1, o_il 1 2, o_cN 3 2 1 5, o_bad, o_bad, o_as 3 6, o_al 3 7, o_nnl 12 10, o_bad, o_bad, o_ic (-1) 11, o_rI, o_il 2 13, o_ic 3 14, o_cI 126 2 0 17, o_bad],
  [o_bad, o_ne 23 20, o_bad, o_bad, o_ic (-3) 22, o_bad, o_rI, o_al 3 24, o_gI 2 3 27, o_bad, o_bad, o_is 4 29, o_bad, o_al 3 30, o_il 2 31, o_pI 2 3 34],
  [o_bad, o_bad, o_il 4 36, o_bad, o_rI]]
def tb_12 : List (List jx_Op) := [
  [o_al 0 1, o_il 1 2, o_cN 3 2 1 5, o_bad, o_bad, o_as 3 6, o_al 0 7, o_il 2 8, o_cN 3 2 1 11, o_bad, o_bad, o_as 4 13, o_bad, o_al 3 14, o_nul 22 17, o_bad],
  [o_bad, o_al 4 19, o_bad, o_nnl 24 22, o_bad, o_bad, o_ic (-1) 23, o_rI, o_al 3 25, o_al 4 27, o_bad, o_ane 33 30, o_bad, o_bad, o_ic (-3) 32, o_bad],
  [o_rI, o_al 3 34, o_cI 21 1 3 37, o_bad, o_bad, o_eq 48 40, o_bad, o_bad, o_al 4 42, o_bad, o_cI 21 1 3 45, o_bad, o_bad, o_ne 51 48, o_bad, o_bad],
  [o_ic (-4) 50, o_bad, o_rI, o_al 3 52, o_gI 2 4 55, o_bad, o_bad, o_is 5 57, o_bad, o_al 0 58, o_al 3 59, o_al 4 61, o_bad, o_gI 2 4 64, o_bad, o_bad],
  [o_cV 9 3 1 67, o_bad, o_bad, o_al 0 68, o_al 4 70, o_bad, o_il 5 72, o_bad, o_cV 9 3 1 75, o_bad, o_bad, o_al 0 76, o_ic 1 77, o_cI 18 2 1 80, o_bad, o_bad],
  [o_rI]]
def tb_13 : List (List jx_Op) := [
  [o_il 1 1, o_ic 8 3, o_bad, o_div 4, o_rc 1 7, o_bad, o_bad, o_il 2 8, o_lI 100 9, o_b2 (fun x y => x + y) 10, o_is 3 11, o_il 1 12, o_ic 8 14, o_bad, o_rem 15, o_rc 2 18],
  [o_bad, o_bad, o_il 2 19, o_lI 100 20, o_b2 (fun x y => x + y) 21, o_is 4 23, o_bad, o_il 3 24, o_lt 45 27, o_bad, o_bad, o_il 3 28, o_ic 7 30, o_bad, o_cgt 45 33, o_bad],
  [o_bad, o_il 4 35, o_bad, o_lt 45 38, o_bad, o_bad, o_il 4 40, o_bad, o_ic 7 42, o_bad, o_cle 49 45, o_bad, o_bad, o_ic 1 46, o_go 50, o_bad],
  [o_bad, o_ic 0 50, o_is 5 52, o_bad, o_il 5 54, o_bad, o_eq 61 57, o_bad, o_bad, o_nc 58, o_go 73, o_bad, o_bad, o_al 0 62, o_gA 0 1 65, o_bad],
  [o_bad, o_ic 8 67, o_bad, o_il 3 68, o_b2 (fun x y => x * y) 69, o_il 4 71, o_bad, o_b2 (fun x y => x + y) 72, o_lN 111 73, o_rA]]
def tb_14 : List (List jx_Op) := [
  [o_ic 0 1, o_is 2 2, o_ic 0 3, o_is 3 4, o_il 3 5, o_ic 4 6, o_cge 27 9, o_bad, o_bad, o_al 0 10, o_il 1 11, o_il 3 12, o_cN 13 3 1 15, o_bad, o_bad, o_nul 21 18],
  [o_bad, o_bad, o_inc 2 1 21, o_bad, o_bad, o_inc 3 1 24, o_bad, o_bad, o_go 4, o_bad, o_bad, o_il 2 28, o_rI]]
def tb_15 : List (List jx_Op) := [
  [o_al 0 1, o_gA 0 1 4, o_bad, o_bad, o_il 1 5, o_lN 111 6, o_nnl 21 9, o_bad, o_bad, o_al 0 10, o_il 1 11, o_cI 14 2 1 14, o_bad, o_bad, o_le 21 17, o_bad],
  [o_bad, o_ic 1 18, o_go 22, o_bad, o_bad, o_ic 0 22, o_rZ]]
def tb_16 : List (List jx_Op) := [
  [o_al 0 1, o_al 1 2, o_gI 2 4 5, o_bad, o_bad, o_il 2 6, o_cN 13 3 1 9, o_bad, o_bad, o_as 4 11, o_bad, o_al 4 13, o_bad, o_nnl 18 16, o_bad, o_bad],
  [o_ic 0 17, o_rZ, o_al 1 19, o_il 2 20, o_cI 22 2 3 23, o_bad, o_bad, o_ic 15 25, o_bad, o_al 4 27, o_bad, o_il 2 28, o_cI 128 1 0 31, o_bad, o_bad, o_cI 22 2 3 34],
  [o_bad, o_bad, o_b2 (fun x y => x - y) 35, o_cne 42 38, o_bad, o_bad, o_ic 1 39, o_go 43, o_bad, o_bad, o_ic 0 43, o_is 5 45, o_bad, o_il 5 47, o_bad, o_il 3 48],
  [o_cne 55 51, o_bad, o_bad, o_ic 1 52, o_go 56, o_bad, o_bad, o_ic 0 56, o_rZ]]
def tb_17 : List (List jx_Op) := [
  [o_ic 0 1, o_is 3 2, o_ic 0 3, o_is 4 5, o_bad, o_il 4 7, o_bad, o_ic 4 8, o_cge 31 11, o_bad, o_bad, o_al 0 12, o_al 1 13, o_il 4 15, o_bad, o_il 2 16],
  [o_cI 16 4 1 19, o_bad, o_bad, o_eq 25 22, o_bad, o_bad, o_inc 3 1 25, o_bad, o_bad, o_inc 4 1 28, o_bad, o_bad, o_go 5, o_bad, o_bad, o_il 3 32],
  [o_rI]]
def tb_18 : List (List jx_Op) := [
  [o_ic 0 1, o_is 2 2, o_ic 0 3, o_is 3 4, o_il 3 5, o_al 0 6, o_gI 0 2 9, o_bad, o_bad, o_cge 65 12, o_bad, o_bad, o_al 0 13, o_gA 0 0 16, o_bad, o_bad],
  [o_il 3 17, o_lA 111 18, o_as 4 20, o_bad, o_al 4 22, o_bad, o_cI 21 1 3 25, o_bad, o_bad, o_ne 31 28, o_bad, o_bad, o_go 59, o_bad, o_bad, o_al 0 32],
  [o_al 4 34, o_bad, o_ic 1 35, o_il 1 36, o_cI 16 4 1 39, o_bad, o_bad, o_eq 45 42, o_bad, o_bad, o_inc 2 1 45, o_bad, o_bad, o_al 0 46, o_al 4 48, o_bad],
  [o_ic 2 49, o_il 1 50, o_cI 16 4 1 53, o_bad, o_bad, o_eq 59 56, o_bad, o_bad, o_inc 2 1 59, o_bad, o_bad, o_inc 3 1 62, o_bad, o_bad, o_go 4, o_bad],
  [o_bad, o_il 2 66, o_rI]]
def tb_19 : List (List jx_Op) := [
  [o_al 0 1, o_obj 4, o_bad, o_bad, o_al 0 5, o_rc 9 8, o_bad, o_bad, o_pA 1 0 21 11, o_bad, o_bad, o_al 0 12, o_ic 5 13, o_na 100 (.int 0) 15, o_bad, o_pA 1 1 100 18],
  [o_bad, o_bad, o_rV]]
def tb_20 : List (List jx_Op) := [
  [o_al 0 1, o_obj 4, o_bad, o_bad, o_al 0 5, o_ic 4 6, o_na 100 (.int 0) 8, o_bad, o_pA 2 2 100 11, o_bad, o_bad, o_al 0 12, o_ic (-1) 13, o_pI 2 4 16, o_bad, o_bad],
  [o_rV]]
def tb_21 : List (List jx_Op) := [
  [o_al 0 1, o_gI 2 4 4, o_bad, o_bad, o_ic (-1) 5, o_ceq 12 8, o_bad, o_bad, o_ic 1 9, o_go 13, o_bad, o_bad, o_ic 0 13, o_rZ]]
def tb_22 : List (List jx_Op) := [
  [o_al 0 1, o_gA 2 2 4, o_bad, o_bad, o_il 1 5, o_al 0 6, o_gI 2 3 9, o_bad, o_bad, o_b2 (fun x y => x - y) 10, o_ic 3 11, o_b2 (fun x y => x &&& y) 12, o_lI 100 13, o_rI]]
def tb_23 : List (List jx_Op) := [
  [o_al 0 1, o_al 1 2, o_gI 2 0 5, o_bad, o_bad, o_pI 2 0 8, o_bad, o_bad, o_al 0 9, o_al 1 10, o_gI 2 1 13, o_bad, o_bad, o_pC 2 1 16, o_bad, o_bad],
  [o_al 1 17, o_gA 2 2 20, o_bad, o_bad, o_ic 0 21, o_al 0 22, o_gA 2 2 25, o_bad, o_bad, o_ic 0 26, o_ic 4 27, o_cp 100 30, o_bad, o_bad, o_al 0 31, o_al 1 32],
  [o_gI 2 3 35, o_bad, o_bad, o_pI 2 3 38, o_bad, o_bad, o_al 0 39, o_al 1 40, o_gI 2 4 43, o_bad, o_bad, o_pI 2 4 46, o_bad, o_bad, o_rV]]
def tb_24 : List (List jx_Op) := [
  [o_al 0 1, o_obj 4, o_bad, o_bad, o_al 0 5, o_ic 20 7, o_bad, o_na 111 .null 10, o_bad, o_bad, o_pA 3 0 111 13, o_bad, o_bad, o_al 0 14, o_ic 64 16, o_bad],
  [o_na 100 (.int 0) 18, o_bad, o_pA 3 1 100 21, o_bad, o_bad, o_rV]]
def tb_25 : List (List jx_Op) := [
  [o_al 2 1, o_gI 2 4 4, o_bad, o_bad, o_cL 129 1 0 7, o_bad, o_bad, o_ls 3 8, o_al 0 9, o_gA 3 0 12, o_bad, o_bad, o_ic 0 13, o_al 2 14, o_sA 111 2 15, o_ic 1 16],
  [o_is 5 18, o_bad, o_ic 0 19, o_is 6 21, o_bad, o_il 6 23, o_bad, o_il 5 25, o_bad, o_cge 136 28, o_bad, o_bad, o_al 0 29, o_gA 3 0 32, o_bad, o_bad],
  [o_il 6 34, o_bad, o_lA 111 35, o_as 7 37, o_bad, o_ic 0 38, o_is 8 40, o_bad, o_il 8 42, o_bad, o_ic 4 43, o_cge 130 46, o_bad, o_bad, o_al 1 47, o_al 7 49],
  [o_bad, o_gI 2 4 52, o_bad, o_bad, o_il 8 54, o_bad, o_cN 13 3 1 57, o_bad, o_bad, o_as 9 59, o_bad, o_al 9 61, o_bad, o_nul 124 64, o_bad, o_bad],
  [o_al 1 65, o_al 7 67, o_bad, o_il 8 69, o_bad, o_ic 1 70, o_cI 16 4 1 73, o_bad, o_bad, o_ne 79 76, o_bad, o_bad, o_go 124, o_bad, o_bad, o_ll 3 80],
  [o_al 9 82, o_bad, o_gI 2 4 85, o_bad, o_bad, o_cL 129 1 0 88, o_bad, o_bad, o_B2 (fun x y => x &&& y) 89, o_lc 0 90, o_lcmp 91, o_ne 124 94, o_bad, o_bad, o_il 5 96, o_bad],
  [o_ic 20 98, o_bad, o_cge 124 101, o_bad, o_bad, o_ll 3 102, o_al 9 104, o_bad, o_gI 2 4 107, o_bad, o_bad, o_cL 129 1 0 110, o_bad, o_bad, o_B2 (fun x y => x ||| y) 111, o_ls 3 112],
  [o_al 0 113, o_gA 3 0 116, o_bad, o_bad, o_il 5 118, o_bad, o_al 9 120, o_bad, o_sA 111 2 121, o_inc 5 1 124, o_bad, o_bad, o_inc 8 1 127, o_bad, o_bad, o_go 40],
  [o_bad, o_bad, o_inc 6 1 133, o_bad, o_bad, o_go 21, o_bad, o_bad, o_ll 3 137, o_rL]]
def tb_26 : List (List jx_Op) := [
  [o_lc 0 1, o_ls 2 2, o_ic 0 3, o_is 4 5, o_bad, o_ic 0 6, o_is 5 8, o_bad, o_il 5 10, o_bad, o_al 1 11, o_gI 0 2 14, o_bad, o_bad, o_cge 68 17, o_bad],
  [o_bad, o_al 1 18, o_gA 0 0 21, o_bad, o_bad, o_il 5 23, o_bad, o_lA 111 24, o_as 6 26, o_bad, o_al 6 28, o_bad, o_cI 21 1 3 31, o_bad, o_bad, o_eq 62 34],
  [o_bad, o_bad, o_ll 2 35, o_al 6 37, o_bad, o_gI 2 4 40, o_bad, o_bad, o_cL 129 1 0 43, o_bad, o_bad, o_B2 (fun x y => x &&& y) 44, o_lc 0 45, o_lcmp 46, o_ne 62 49, o_bad],
  [o_bad, o_ll 2 50, o_al 0 51, o_al 1 52, o_al 6 54, o_bad, o_cL 25 3 4 57, o_bad, o_bad, o_B2 (fun x y => x ||| y) 58, o_ls 2 59, o_inc 4 1 62, o_bad, o_bad, o_inc 5 1 65, o_bad],
  [o_bad, o_go 8, o_bad, o_bad, o_il 4 70, o_bad, o_rI]]
def tb_27 : List (List jx_Op) := [
  [o_ic 0 1, o_is 2 2, o_ic 0 3, o_is 3 4, o_il 3 5, o_al 1 6, o_gI 0 2 9, o_bad, o_bad, o_cge 49 12, o_bad, o_bad, o_al 1 13, o_gA 0 0 16, o_bad, o_bad],
  [o_il 3 17, o_lA 111 18, o_as 4 20, o_bad, o_al 4 22, o_bad, o_cI 21 1 3 25, o_bad, o_bad, o_eq 43 28, o_bad, o_bad, o_il 2 29, o_al 0 30, o_al 1 31, o_al 4 33],
  [o_bad, o_cL 25 3 4 36, o_bad, o_bad, o_cI 245 1 0 39, o_bad, o_bad, o_cI 246 2 0 42, o_bad, o_bad, o_is 2 43, o_inc 3 1 46, o_bad, o_bad, o_go 4, o_bad],
  [o_bad, o_il 2 50, o_rI]]
def tb_28 : List (List jx_Op) := [
  [o_ic 0 1, o_is 2 2, o_il 2 3, o_ic 64 5, o_bad, o_cge 21 8, o_bad, o_bad, o_al 0 9, o_gA 3 1 12, o_bad, o_bad, o_il 2 13, o_il 2 14, o_sI 100 15, o_inc 2 1 18],
  [o_bad, o_bad, o_go 2, o_bad, o_bad, o_al 1 22, o_cI 4 1 1 25, o_bad, o_bad, o_is 2 26, o_ic 0 27, o_is 3 28, o_il 3 29, o_al 1 30, o_gI 0 2 33, o_bad],
  [o_bad, o_cge 78 36, o_bad, o_bad, o_al 1 37, o_gA 0 0 40, o_bad, o_bad, o_il 3 41, o_lA 111 42, o_as 4 44, o_bad, o_al 4 46, o_bad, o_cI 21 1 3 49, o_bad],
  [o_bad, o_eq 72 52, o_bad, o_bad, o_il 2 53, o_al 0 54, o_al 1 55, o_al 4 57, o_bad, o_ic 1 58, o_cI 29 4 4 61, o_bad, o_bad, o_al 0 62, o_al 1 63, o_al 4 65],
  [o_bad, o_ic 2 66, o_cI 29 4 4 69, o_bad, o_bad, o_b2 (fun x y => x + y) 70, o_b2 (fun x y => x - y) 71, o_is 2 72, o_inc 3 1 75, o_bad, o_bad, o_go 28, o_bad, o_bad, o_il 2 79, o_rI]]
def tb_29 : List (List jx_Op) := [
  [o_al 1 1, o_al 2 2, o_gI 2 4 5, o_bad, o_bad, o_il 3 6, o_cN 13 3 1 9, o_bad, o_bad, o_as 4 11, o_bad, o_al 4 13, o_bad, o_nul 26 16, o_bad, o_bad],
  [o_al 1 17, o_al 2 18, o_il 3 19, o_ic 1 20, o_cI 16 4 1 23, o_bad, o_bad, o_ne 28 26, o_bad, o_bad, o_ic 0 27, o_rI, o_al 0 29, o_al 2 30, o_gI 2 4 33, o_bad],
  [o_bad, o_cI 30 2 4 36, o_bad, o_bad, o_is 5 38, o_bad, o_al 0 39, o_al 4 41, o_bad, o_gI 2 4 44, o_bad, o_bad, o_cI 30 2 4 47, o_bad, o_bad, o_is 6 49],
  [o_bad, o_al 0 50, o_gA 3 1 53, o_bad, o_bad, o_il 6 55, o_bad, o_il 5 57, o_bad, o_sI 100 58, o_il 5 60, o_bad, o_il 6 62, o_bad, o_cne 69 65, o_bad],
  [o_bad, o_ic 0 66, o_go 70, o_bad, o_bad, o_ic 1 70, o_rI]]
def tb_30 : List (List jx_Op) := [
  [o_il 1 1, o_is 2 2, o_ic 0 3, o_is 3 4, o_il 3 5, o_ic 64 7, o_bad, o_cge 33 10, o_bad, o_bad, o_al 0 11, o_gA 3 1 14, o_bad, o_bad, o_il 2 15, o_lI 100 16],
  [o_il 2 17, o_ceq 33 20, o_bad, o_bad, o_al 0 21, o_gA 3 1 24, o_bad, o_bad, o_il 2 25, o_lI 100 26, o_is 2 27, o_inc 3 1 30, o_bad, o_bad, o_go 4, o_bad],
  [o_bad, o_il 2 34, o_rI]]
def tb_31 : List (List jx_Op) := [
  [o_al 0 1, o_obj 4, o_bad, o_bad, o_al 0 5, o_ic 4 6, o_na 100 (.int 0) 8, o_bad, o_pA 4 0 100 11, o_bad, o_bad, o_al 0 12, o_ic 4 13, o_na 101 (.int 0) 15, o_bad, o_pA 4 1 101 18],
  [o_bad, o_bad, o_al 0 19, o_ic 20 21, o_bad, o_na 100 (.int 0) 23, o_bad, o_pA 4 2 100 26, o_bad, o_bad, o_rV]]
def tb_32 : List (List jx_Op) := [
  [o_al 0 1, o_il 2 2, o_pI 4 3 5, o_bad, o_bad, o_ic 0 6, o_is 3 7, o_il 3 8, o_ic 4 9, o_cge 70 12, o_bad, o_bad, o_al 1 13, o_il 2 14, o_il 3 15, o_cN 13 3 1 18],
  [o_bad, o_bad, o_as 4 20, o_bad, o_al 4 22, o_bad, o_nnl 35 25, o_bad, o_bad, o_al 0 26, o_gA 4 0 29, o_bad, o_bad, o_il 3 30, o_ic (-1) 31, o_sI 100 32],
  [o_go 64, o_bad, o_bad, o_al 0 36, o_gA 4 0 39, o_bad, o_bad, o_il 3 40, o_ic 15 42, o_bad, o_al 4 44, o_bad, o_il 3 45, o_cI 128 1 0 48, o_bad, o_bad],
  [o_cI 22 2 3 51, o_bad, o_bad, o_b2 (fun x y => x - y) 52, o_sI 100 53, o_al 0 54, o_gA 4 1 57, o_bad, o_bad, o_il 3 58, o_al 4 60, o_bad, o_gI 2 1 63, o_bad, o_bad, o_sC 101 64],
  [o_inc 3 1 67, o_bad, o_bad, o_go 7, o_bad, o_bad, o_rV]]
def tb_33 : List (List jx_Op) := [
  [o_ic 0 1, o_is 3 2, o_ic 0 3, o_is 4 5, o_bad, o_il 4 7, o_bad, o_ic 4 8, o_cge 78 11, o_bad, o_bad, o_al 0 12, o_gA 4 0 15, o_bad, o_bad, o_il 4 17],
  [o_bad, o_lI 100 18, o_ic (-1) 19, o_cne 25 22, o_bad, o_bad, o_go 72, o_bad, o_bad, o_il 3 26, o_al 1 27, o_gA 2 2 30, o_bad, o_bad, o_il 4 32, o_bad],
  [o_il 2 33, o_b2 (fun x y => x - y) 34, o_ic 3 35, o_b2 (fun x y => x &&& y) 36, o_lI 100 37, o_al 0 38, o_gA 4 0 41, o_bad, o_bad, o_il 4 43, o_bad, o_lI 100 44, o_cne 51 47, o_bad, o_bad, o_ic 4 48],
  [o_go 53, o_bad, o_bad, o_ic (-3) 53, o_bad, o_b2 (fun x y => x + y) 54, o_is 3 55, o_al 1 56, o_gI 2 1 59, o_bad, o_bad, o_al 0 60, o_gA 4 1 63, o_bad, o_bad, o_il 4 65],
  [o_bad, o_lI 101 66, o_cne 72 69, o_bad, o_bad, o_inc 3 1 72, o_bad, o_bad, o_inc 4 1 75, o_bad, o_bad, o_go 5, o_bad, o_bad, o_il 3 79, o_rI]]
def tb_34 : List (List jx_Op) := [
  [o_ic 0 1, o_is 2 2, o_al 0 3, o_al 1 4, o_ic 0 5, o_cI 33 3 5 8, o_bad, o_bad, o_is 3 9, o_ic 1 10, o_is 4 12, o_bad, o_il 4 14, o_bad, o_ic 3 15, o_cgt 45 18],
  [o_bad, o_bad, o_al 0 19, o_al 1 20, o_il 4 22, o_bad, o_cI 33 3 5 25, o_bad, o_bad, o_is 5 27, o_bad, o_il 5 29, o_bad, o_il 3 30, o_cle 39 33, o_bad],
  [o_bad, o_il 4 35, o_bad, o_is 2 36, o_il 5 38, o_bad, o_is 3 39, o_inc 4 1 42, o_bad, o_bad, o_go 12, o_bad, o_bad, o_il 2 46, o_rI]]
def tb_35 : List (List jx_Op) := [
  [o_al 0 1, o_al 1 2, o_ic 0 3, o_cI 33 3 5 6, o_bad, o_bad, o_is 2 7, o_ic 1 8, o_is 3 9, o_il 3 10, o_ic 3 11, o_cgt 31 14, o_bad, o_bad, o_il 2 15, o_al 0 16],
  [o_al 1 17, o_il 3 18, o_cI 33 3 5 21, o_bad, o_bad, o_cI 246 2 0 24, o_bad, o_bad, o_is 2 25, o_inc 3 1 28, o_bad, o_bad, o_go 9, o_bad, o_bad, o_il 2 32],
  [o_rI]]
def tb_36 : List (List jx_Op) := [
  [o_ic 0 1, o_is 3 2, o_il 3 3, o_al 1 4, o_gI 0 2 7, o_bad, o_bad, o_cge 32 10, o_bad, o_bad, o_al 0 11, o_gA 4 2 14, o_bad, o_bad, o_il 3 15, o_al 0 16],
  [o_al 1 17, o_gA 0 0 20, o_bad, o_bad, o_il 3 21, o_lA 111 22, o_cI 35 2 5 25, o_bad, o_bad, o_sI 100 26, o_inc 3 1 29, o_bad, o_bad, o_go 2, o_bad, o_bad],
  [o_ic 0 33, o_is 3 34, o_il 3 35, o_al 1 36, o_gI 0 2 39, o_bad, o_bad, o_cge 77 42, o_bad, o_bad, o_al 1 43, o_gA 0 0 46, o_bad, o_bad, o_il 3 47, o_lA 111 48],
  [o_cI 21 1 3 51, o_bad, o_bad, o_ne 71 54, o_bad, o_bad, o_al 0 55, o_al 1 56, o_il 3 57, o_cI 37 3 5 60, o_bad, o_bad, o_il 2 61, o_cne 71 64, o_bad, o_bad],
  [o_al 1 65, o_gA 0 0 68, o_bad, o_bad, o_il 3 69, o_lA 111 70, o_rA, o_inc 3 1 74, o_bad, o_bad, o_go 34, o_bad, o_bad, o_nc 78, o_rA]]
def tb_37 : List (List jx_Op) := [
  [o_ic 0 1, o_is 3 2, o_ic 0 3, o_is 4 5, o_bad, o_il 4 7, o_bad, o_al 1 8, o_gI 0 2 11, o_bad, o_bad, o_cge 86 14, o_bad, o_bad, o_al 0 15, o_gA 4 2 18],
  [o_bad, o_bad, o_il 4 20, o_bad, o_lI 100 21, o_al 0 22, o_gA 4 2 25, o_bad, o_bad, o_il 2 26, o_lI 100 27, o_cgt 52 30, o_bad, o_bad, o_al 0 31, o_gA 4 2 34],
  [o_bad, o_bad, o_il 4 36, o_bad, o_lI 100 37, o_al 0 38, o_gA 4 2 41, o_bad, o_bad, o_il 2 42, o_lI 100 43, o_cne 56 46, o_bad, o_bad, o_il 4 48, o_bad],
  [o_il 2 49, o_cge 56 52, o_bad, o_bad, o_ic 1 53, o_go 57, o_bad, o_bad, o_ic 0 57, o_is 5 59, o_bad, o_il 5 61, o_bad, o_eq 80 64, o_bad, o_bad],
  [o_al 1 65, o_gA 0 0 68, o_bad, o_bad, o_il 4 70, o_bad, o_lA 111 71, o_cI 21 1 3 74, o_bad, o_bad, o_ne 80 77, o_bad, o_bad, o_inc 3 1 80, o_bad, o_bad],
  [o_inc 4 1 83, o_bad, o_bad, o_go 5, o_bad, o_bad, o_il 3 87, o_rI]]
def tb_38 : List (List jx_Op) := [
  [o_al 2 1, o_al 0 2, o_al 2 3, o_cI 34 2 5 6, o_bad, o_bad, o_pI 2 3 9, o_bad, o_bad, o_al 1 10, o_al 2 11, o_al 0 12, o_gI 4 3 15, o_bad, o_bad, o_cV 9 3 1 18],
  [o_bad, o_bad, o_rV]]
def tb_39 : List (List jx_Op) := [
  [o_il 1 1, o_is 3 2, o_ic 0 3, o_is 4 5, o_bad, o_il 4 7, o_bad, o_al 2 8, o_gI 0 2 11, o_bad, o_bad, o_cge 49 14, o_bad, o_bad, o_al 2 15, o_gA 0 0 18],
  [o_bad, o_bad, o_il 4 20, o_bad, o_lA 111 21, o_cI 21 1 3 24, o_bad, o_bad, o_ne 43 27, o_bad, o_bad, o_il 3 28, o_al 0 29, o_al 2 30, o_gA 0 0 33, o_bad],
  [o_bad, o_il 4 35, o_bad, o_lA 111 36, o_cI 35 2 5 39, o_bad, o_bad, o_cI 246 2 0 42, o_bad, o_bad, o_is 3 43, o_inc 4 1 46, o_bad, o_bad, o_go 5, o_bad],
  [o_bad, o_il 3 50, o_rI]]
def tb_40 : List (List jx_Op) := [
  [o_ic (-1) 1, o_is 2 2, o_ic 0 3, o_is 3 4, o_ic 0 5, o_is 4 7, o_bad, o_il 4 9, o_bad, o_ic 64 11, o_bad, o_cge 59 14, o_bad, o_bad, o_al 1 15, o_il 4 17],
  [o_bad, o_cI 15 2 1 20, o_bad, o_bad, o_ne 26 23, o_bad, o_bad, o_go 53, o_bad, o_bad, o_al 0 27, o_al 1 28, o_il 4 30, o_bad, o_cV 32 3 5 33, o_bad],
  [o_bad, o_al 0 34, o_il 3 35, o_al 1 36, o_cI 39 3 5 39, o_bad, o_bad, o_is 5 41, o_bad, o_il 5 43, o_bad, o_il 3 44, o_cle 53 47, o_bad, o_bad, o_il 4 49],
  [o_bad, o_is 2 50, o_il 5 52, o_bad, o_is 3 53, o_inc 4 1 56, o_bad, o_bad, o_go 7, o_bad, o_bad, o_il 2 60, o_rI]]
def tb_41 : List (List jx_Op) := [
  [o_ic 0 1, o_is 2 2, o_il 2 3, o_ic 20 5, o_bad, o_cge 55 8, o_bad, o_bad, o_al 0 9, o_al 1 10, o_cI 40 2 5 13, o_bad, o_bad, o_is 3 14, o_il 3 15, o_ic (-1) 16],
  [o_cne 21 19, o_bad, o_bad, o_il 2 20, o_rI, o_al 0 22, o_al 1 23, o_il 3 24, o_cV 32 3 5 27, o_bad, o_bad, o_al 0 28, o_al 1 29, o_ic 0 30, o_cN 36 3 5 33, o_bad],
  [o_bad, o_as 4 35, o_bad, o_al 4 37, o_bad, o_nnl 42 40, o_bad, o_bad, o_il 2 41, o_rI, o_al 0 43, o_al 1 44, o_al 4 46, o_bad, o_cV 38 3 5 49, o_bad],
  [o_bad, o_inc 2 1 52, o_bad, o_bad, o_go 2, o_bad, o_bad, o_ic 20 57, o_bad, o_rI]]
def tb_42 : List (List jx_Op) := [
  [o_al 0 1, o_obj 4, o_bad, o_bad, o_al 0 5, o_ic 9 7, o_bad, o_na 110 .null 10, o_bad, o_bad, o_pA 5 0 110 13, o_bad, o_bad, o_ic 0 14, o_is 1 15, o_il 1 16],
  [o_ic 9 18, o_bad, o_cge 40 21, o_bad, o_bad, o_al 0 22, o_gA 5 0 25, o_bad, o_bad, o_il 1 26, o_new 0 [.null, .null, .int 0, .int 0] 29, o_bad, o_bad, o_dup 30, o_cV 0 1 1 33, o_bad],
  [o_bad, o_sA 110 0 34, o_inc 1 1 37, o_bad, o_bad, o_go 15, o_bad, o_bad, o_rV]]
def tb_43 : List (List jx_Op) := [
  [o_al 0 1, o_cA 44 1 6 4, o_bad, o_bad, o_al 1 5, o_cV 1 2 1 8, o_bad, o_bad, o_rV]]
def tb_44 : List (List jx_Op) := [
  [o_al 0 1, o_gA 5 0 4, o_bad, o_bad, o_al 0 5, o_gI 5 1 8, o_bad, o_bad, o_lA 110 9, o_rA]]
def tb_45 : List (List jx_Op) := [
  [o_al 0 1, o_al 0 2, o_gI 5 1 5, o_bad, o_bad, o_ic 1 6, o_b2 (fun x y => x + y) 7, o_ic 9 9, o_bad, o_rem 10, o_pI 5 1 13, o_bad, o_bad, o_al 0 14, o_al 0 15, o_gI 5 2 18],
  [o_bad, o_bad, o_ic 1 19, o_b2 (fun x y => x + y) 20, o_ic 8 22, o_bad, o_cI 247 2 0 25, o_bad, o_bad, o_pI 5 2 28, o_bad, o_bad, o_rV]]
def tb_46 : List (List jx_Op) := [
  [o_al 0 1, o_al 0 2, o_gI 5 1 5, o_bad, o_bad, o_ic 9 7, o_bad, o_b2 (fun x y => x + y) 8, o_ic 1 9, o_b2 (fun x y => x - y) 10, o_ic 9 12, o_bad, o_rem 13, o_pI 5 1 16, o_bad, o_bad],
  [o_al 0 17, o_dup 18, o_gI 5 2 21, o_bad, o_bad, o_ic 1 22, o_b2 (fun x y => x - y) 23, o_pI 5 2 26, o_bad, o_bad, o_al 0 27, o_gA 5 0 30, o_bad, o_bad, o_al 0 31, o_gI 5 1 34],
  [o_bad, o_bad, o_lA 110 35, o_rA]]
def tb_47 : List (List jx_Op) := [
  [o_al 0 1, o_ic 0 2, o_pI 5 2 5, o_bad, o_bad, o_rV]]
def tb_48 : List (List jx_Op) := [
  [o_al 0 1, o_obj 4, o_bad, o_bad, o_al 0 5, o_ic 60 7, o_bad, o_na 101 (.int 0) 9, o_bad, o_pA 6 0 101 12, o_bad, o_bad, o_al 0 13, o_ic 12 15, o_bad, o_na 112 .null 18],
  [o_bad, o_bad, o_pA 6 3 112 21, o_bad, o_bad, o_ic 0 22, o_is 1 23, o_il 1 24, o_ic 12 26, o_bad, o_cge 48 29, o_bad, o_bad, o_al 0 30, o_gA 6 3 33, o_bad],
  [o_bad, o_il 1 34, o_new 1 [.null, .null] 37, o_bad, o_bad, o_dup 38, o_cV 19 1 2 41, o_bad, o_bad, o_sA 112 1 42, o_inc 1 1 45, o_bad, o_bad, o_go 23, o_bad, o_bad],
  [o_rV]]
def tb_49 : List (List jx_Op) := [
  [o_al 0 1, o_gI 6 1 4, o_bad, o_bad, o_ic 60 6, o_bad, o_clt 13 9, o_bad, o_bad, o_ic 1 10, o_go 14, o_bad, o_bad, o_ic 0 14, o_rZ]]
def tb_50 : List (List jx_Op) := [
  [o_al 0 1, o_gA 6 0 4, o_bad, o_bad, o_al 0 5, o_gI 6 1 8, o_bad, o_bad, o_il 1 9, o_sC 101 10, o_al 0 11, o_dup 12, o_gI 6 1 15, o_bad, o_bad, o_ic 1 16],
  [o_b2 (fun x y => x + y) 17, o_pI 6 1 20, o_bad, o_bad, o_al 0 21, o_gI 6 1 24, o_bad, o_bad, o_rI]]
def tb_51 : List (List jx_Op) := [
  [o_al 0 1, o_ic 0 2, o_pI 6 1 5, o_bad, o_bad, o_rV]]
def tb_52 : List (List jx_Op) := [
  [o_al 0 1, o_ic 0 2, o_pI 6 2 5, o_bad, o_bad, o_ic 0 6, o_is 1 7, o_il 1 8, o_ic 12 10, o_bad, o_cge 66 13, o_bad, o_bad, o_al 0 14, o_al 0 15, o_gA 6 3 18],
  [o_bad, o_bad, o_il 1 19, o_lA 112 20, o_cI 53 2 7 23, o_bad, o_bad, o_ne 28 26, o_bad, o_bad, o_ic 0 27, o_rZ, o_al 0 29, o_gI 6 2 32, o_bad, o_bad],
  [o_al 0 33, o_gI 6 1 36, o_bad, o_bad, o_cne 48 39, o_bad, o_bad, o_al 0 40, o_il 1 41, o_ic 1 42, o_b2 (fun x y => x + y) 43, o_pI 6 4 46, o_bad, o_bad, o_ic 1 47, o_rZ],
  [o_al 0 49, o_ic 59 51, o_bad, o_cI 57 2 7 54, o_bad, o_bad, o_ic (-1) 55, o_cne 60 58, o_bad, o_bad, o_ic 0 59, o_rZ, o_inc 1 1 63, o_bad, o_bad, o_go 7],
  [o_bad, o_bad, o_ic 0 67, o_rZ]]
def tb_53 : List (List jx_Op) := [
  [o_al 0 1, o_cN 54 1 7 4, o_bad, o_bad, o_as 2 5, o_al 2 6, o_nnl 11 9, o_bad, o_bad, o_ic 0 10, o_rZ, o_al 1 12, o_al 2 13, o_pA 1 0 21 16, o_bad, o_bad],
  [o_ic 0 17, o_is 3 18, o_il 3 19, o_al 2 20, o_gA 21 2 23, o_bad, o_bad, o_cI 248 1 21 26, o_bad, o_bad, o_cge 88 29, o_bad, o_bad, o_il 3 30, o_ic 5 31, o_cge 88 34],
  [o_bad, o_bad, o_al 2 35, o_gA 21 2 38, o_bad, o_bad, o_il 3 39, o_cI 249 2 21 42, o_bad, o_bad, o_is 4 44, o_bad, o_il 4 46, o_bad, o_ic 110 48, o_bad],
  [o_cne 58 51, o_bad, o_bad, o_al 0 52, o_cI 56 1 7 55, o_bad, o_bad, o_go 64, o_bad, o_bad, o_al 0 59, o_il 4 61, o_bad, o_cI 57 2 7 64, o_bad, o_bad],
  [o_is 5 66, o_bad, o_il 5 68, o_bad, o_ic (-1) 69, o_cne 74 72, o_bad, o_bad, o_ic 0 73, o_rZ, o_al 1 75, o_gA 1 1 78, o_bad, o_bad, o_il 3 79, o_il 5 81],
  [o_bad, o_sI 100 82, o_inc 3 1 85, o_bad, o_bad, o_go 18, o_bad, o_bad, o_ic 1 89, o_rZ]]
def tb_54 : List (List jx_Op) := [
  [o_ic 0 1, o_is 1 2, o_ic 0 3, o_is 2 4, o_il 2 5, o_rc 3 8, o_bad, o_bad, o_len 9, o_cge 67 12, o_bad, o_bad, o_rc 3 15, o_bad, o_bad, o_il 2 16],
  [o_lA 113 17, o_gA 21 1 20, o_bad, o_bad, o_as 3 21, o_al 0 22, o_al 3 23, o_cI 55 2 7 26, o_bad, o_bad, o_is 4 28, o_bad, o_il 4 30, o_bad, o_al 3 31, o_cI 248 1 21 34],
  [o_bad, o_bad, o_cne 54 37, o_bad, o_bad, o_al 0 38, o_dup 39, o_gI 6 2 42, o_bad, o_bad, o_il 4 44, o_bad, o_b2 (fun x y => x + y) 45, o_pI 6 2 48, o_bad, o_bad],
  [o_rc 3 51, o_bad, o_bad, o_il 2 52, o_lA 113 53, o_rA, o_il 1 55, o_il 4 57, o_bad, o_cI 246 2 0 60, o_bad, o_bad, o_is 1 61, o_inc 2 1 64, o_bad, o_bad],
  [o_go 4, o_bad, o_bad, o_al 0 68, o_dup 69, o_gI 6 2 72, o_bad, o_bad, o_il 1 73, o_b2 (fun x y => x + y) 74, o_pI 6 2 77, o_bad, o_bad, o_nc 78, o_rA]]
def tb_55 : List (List jx_Op) := [
  [o_ic 0 1, o_is 2 2, o_il 2 3, o_al 1 4, o_cI 248 1 21 7, o_bad, o_bad, o_cge 48 10, o_bad, o_bad, o_al 0 11, o_gI 6 2 14, o_bad, o_bad, o_il 2 15, o_b2 (fun x y => x + y) 16],
  [o_al 0 17, o_gI 6 1 20, o_bad, o_bad, o_cge 48 23, o_bad, o_bad, o_al 0 24, o_gA 6 0 27, o_bad, o_bad, o_al 0 28, o_gI 6 2 31, o_bad, o_bad, o_il 2 32],
  [o_b2 (fun x y => x + y) 33, o_lI 101 34, o_al 1 35, o_il 2 36, o_cI 249 2 21 39, o_bad, o_bad, o_cne 48 42, o_bad, o_bad, o_inc 2 1 45, o_bad, o_bad, o_go 2, o_bad, o_bad],
  [o_il 2 49, o_rI]]
def tb_56 : List (List jx_Op) := [
  [o_al 0 1, o_ic 100 3, o_bad, o_cI 57 2 7 6, o_bad, o_bad, o_is 1 7, o_il 1 8, o_ic (-1) 9, o_cne 14 12, o_bad, o_bad, o_ic (-1) 13, o_rI, o_al 0 15, o_ic 100 17],
  [o_bad, o_cI 57 2 7 20, o_bad, o_bad, o_is 2 21, o_il 2 22, o_ic (-1) 23, o_cne 30 26, o_bad, o_bad, o_il 1 27, o_go 36, o_bad, o_bad, o_ic 10 32, o_bad],
  [o_il 1 33, o_b2 (fun x y => x * y) 34, o_il 2 35, o_b2 (fun x y => x + y) 36, o_rI]]
def tb_57 : List (List jx_Op) := [
  [o_al 0 1, o_gI 6 2 4, o_bad, o_bad, o_al 0 5, o_gI 6 1 8, o_bad, o_bad, o_clt 13 11, o_bad, o_bad, o_ic (-1) 12, o_rI, o_il 1 14, o_al 0 15, o_gA 6 0 18],
  [o_bad, o_bad, o_al 0 19, o_gI 6 2 22, o_bad, o_bad, o_lI 101 23, o_cI 58 2 0 26, o_bad, o_bad, o_is 2 27, o_il 2 28, o_ic (-1) 29, o_ceq 42 32, o_bad, o_bad],
  [o_al 0 33, o_dup 34, o_gI 6 2 37, o_bad, o_bad, o_ic 1 38, o_b2 (fun x y => x + y) 39, o_pI 6 2 42, o_bad, o_bad, o_il 2 43, o_rI]]
def tb_58 : List (List jx_Op) := [
  [o_il 0 1, o_ic 99 3, o_bad, o_cne 19 6, o_bad, o_bad, o_il 1 7, o_cI 127 1 0 10, o_bad, o_bad, o_eq 17 13, o_bad, o_bad, o_il 1 14, o_go 18, o_bad],
  [o_bad, o_ic (-1) 18, o_rI, o_il 0 20, o_ic 104 22, o_bad, o_cne 52 25, o_bad, o_bad, o_il 1 26, o_ic 97 28, o_bad, o_clt 47 31, o_bad, o_bad, o_il 1 32],
  [o_ic 102 34, o_bad, o_cgt 47 37, o_bad, o_bad, o_il 1 38, o_ic 97 40, o_bad, o_b2 (fun x y => x - y) 41, o_ic 10 43, o_bad, o_b2 (fun x y => x + y) 44, o_go 51, o_bad, o_bad, o_il 1 48],
  [o_cI 131 1 0 51, o_bad, o_bad, o_rI, o_il 0 53, o_ic 100 55, o_bad, o_cne 63 58, o_bad, o_bad, o_il 1 59, o_cI 131 1 0 62, o_bad, o_bad, o_rI, o_il 1 64],
  [o_il 0 65, o_cne 72 68, o_bad, o_bad, o_il 1 69, o_go 73, o_bad, o_bad, o_ic (-1) 73, o_rI]]
def tb_59 : List (List jx_Op) := [
  [o_al 0 1, o_obj 4, o_bad, o_bad, o_al 0 5, o_new 0 [.null, .null, .int 0, .int 0] 8, o_bad, o_bad, o_dup 9, o_cV 0 1 1 12, o_bad, o_bad, o_pA 7 0 0 15, o_bad, o_bad, o_al 0 16],
  [o_new 0 [.null, .null, .int 0, .int 0] 19, o_bad, o_bad, o_dup 20, o_cV 0 1 1 23, o_bad, o_bad, o_pA 7 1 0 26, o_bad, o_bad, o_al 0 27, o_new 5 [.null, .int 0, .int 0] 30, o_bad, o_bad, o_dup 31, o_cV 42 1 6 34],
  [o_bad, o_bad, o_pA 7 3 5 37, o_bad, o_bad, o_al 0 38, o_new 4 [.null, .null, .null, .int 0] 41, o_bad, o_bad, o_dup 42, o_cV 31 1 5 45, o_bad, o_bad, o_pA 7 4 4 48, o_bad, o_bad],
  [o_al 0 49, o_new 3 [.null, .null] 52, o_bad, o_bad, o_dup 53, o_cV 24 1 4 56, o_bad, o_bad, o_pA 7 5 3 59, o_bad, o_bad, o_al 0 60, o_new 6 [.null, .int 0, .int 0, .null, .int 0] 63, o_bad, o_bad, o_dup 64],
  [o_cV 48 1 7 67, o_bad, o_bad, o_pA 7 6 6 70, o_bad, o_bad, o_al 0 71, o_ic 8 73, o_bad, o_na 101 (.int 0) 75, o_bad, o_pA 7 7 101 78, o_bad, o_bad, o_al 0 79, o_ic (-1) 80],
  [o_pI 7 9 83, o_bad, o_bad, o_al 0 84, o_ic (-1) 85, o_pI 7 10 88, o_bad, o_bad, o_rV]]
def tb_60 : List (List jx_Op) := [
  [o_al 0 1, o_gA 7 3 4, o_bad, o_bad, o_al 0 5, o_gA 7 0 8, o_bad, o_bad, o_cV 43 2 6 11, o_bad, o_bad, o_al 0 12, o_al 0 13, o_gA 7 0 16, o_bad, o_bad],
  [o_il 1 17, o_il 2 18, o_il 3 19, o_il 4 21, o_bad, o_il 5 23, o_bad, o_cI 6 6 1 26, o_bad, o_bad, o_cI 114 2 8 29, o_bad, o_bad, o_rI]]
def tb_61 : List (List jx_Op) := [
  [o_al 0 1, o_gA 7 3 4, o_bad, o_bad, o_al 0 5, o_gA 7 0 8, o_bad, o_bad, o_cV 43 2 6 11, o_bad, o_bad, o_al 0 12, o_al 0 13, o_gA 7 0 16, o_bad, o_bad],
  [o_il 1 17, o_cI 7 2 1 20, o_bad, o_bad, o_cI 114 2 8 23, o_bad, o_bad, o_rI]]
def tb_62 : List (List jx_Op) := [
  [o_al 0 1, o_gA 7 0 4, o_bad, o_bad, o_gI 0 2 7, o_bad, o_bad, o_rI]]
def tb_63 : List (List jx_Op) := [
  [o_al 0 1, o_gA 7 0 4, o_bad, o_bad, o_gI 0 2 7, o_bad, o_bad, o_al 0 8, o_gA 7 0 11, o_bad, o_bad, o_cI 4 1 1 14, o_bad, o_bad, o_b2 (fun x y => x - y) 15, o_rI]]
def tb_64 : List (List jx_Op) := [
  [o_al 0 1, o_gA 7 0 4, o_bad, o_bad, o_il 1 5, o_cN 5 2 1 8, o_bad, o_bad, o_as 2 9, o_al 2 10, o_nnl 23 13, o_bad, o_bad, o_th "java/lang/IndexOutOfBoundsException", o_bad, o_bad],
  [o_bad, o_bad, o_bad, o_bad, o_bad, o_bad, o_bad, o_al 2 24, o_gI 2 0 27, o_bad, o_bad, o_rI]]
def tb_65 : List (List jx_Op) := [
  [o_al 0 1, o_gA 7 0 4, o_bad, o_bad, o_il 1 5, o_cN 3 2 1 8, o_bad, o_bad, o_nul 15 11, o_bad, o_bad, o_ic 1 12, o_go 16, o_bad, o_bad, o_ic 0 16],
  [o_rZ]]
def tb_66 : List (List jx_Op) := [
  [o_al 0 1, o_il 1 2, o_cA 116 2 8 5, o_bad, o_bad, o_gI 2 1 8, o_bad, o_bad, o_rC]]
def tb_67 : List (List jx_Op) := [
  [o_al 0 1, o_il 1 2, o_cA 116 2 8 5, o_bad, o_bad, o_gI 2 3 8, o_bad, o_bad, o_rI]]
def tb_68 : List (List jx_Op) := [
  [o_al 0 1, o_il 1 2, o_cA 116 2 8 5, o_bad, o_bad, o_as 3 6, o_il 2 7, o_cV 122 1 0 10, o_bad, o_bad, o_al 3 11, o_il 2 12, o_cI 22 2 3 15, o_bad, o_bad, o_rI]]
def tb_69 : List (List jx_Op) := [
  [o_al 0 1, o_il 1 2, o_cA 116 2 8 5, o_bad, o_bad, o_cI 21 1 3 8, o_bad, o_bad, o_rZ]]
def tb_70 : List (List jx_Op) := [
  [o_al 0 1, o_il 1 2, o_cA 117 2 8 5, o_bad, o_bad, o_gI 2 4 8, o_bad, o_bad, o_rI]]
def tb_71 : List (List jx_Op) := [
  [o_ic 0 1, o_is 1 2, o_ic 0 3, o_is 2 4, o_il 2 5, o_al 0 6, o_gA 7 0 9, o_bad, o_bad, o_gI 0 2 12, o_bad, o_bad, o_cge 52 15, o_bad, o_bad, o_ic 0 16],
  [o_is 3 17, o_il 3 18, o_ic 4 19, o_cge 46 22, o_bad, o_bad, o_il 1 23, o_ic 1 24, o_al 0 25, o_gA 7 0 28, o_bad, o_bad, o_gA 0 0 31, o_bad, o_bad, o_il 2 32],
  [o_lA 111 33, o_il 3 34, o_cI 22 2 3 37, o_bad, o_bad, o_b2 (fun x y => x <<< (y &&& 31)) 38, o_b2 (fun x y => x ||| y) 39, o_is 1 40, o_inc 3 1 43, o_bad, o_bad, o_go 17, o_bad, o_bad, o_inc 2 1 49, o_bad],
  [o_bad, o_go 4, o_bad, o_bad, o_il 1 53, o_cI 244 1 0 56, o_bad, o_bad, o_rI]]
def tb_72 : List (List jx_Op) := [
  [o_al 0 1, o_gA 7 3 4, o_bad, o_bad, o_al 0 5, o_gA 7 0 8, o_bad, o_bad, o_cV 43 2 6 11, o_bad, o_bad, o_al 0 12, o_al 0 13, o_gA 7 0 16, o_bad, o_bad],
  [o_il 1 17, o_il 2 18, o_il 3 19, o_cI 8 4 1 22, o_bad, o_bad, o_cI 114 2 8 25, o_bad, o_bad, o_rI]]
def tb_73 : List (List jx_Op) := [
  [o_al 0 1, o_gA 7 3 4, o_bad, o_bad, o_al 0 5, o_gA 7 0 8, o_bad, o_bad, o_cV 43 2 6 11, o_bad, o_bad, o_al 0 12, o_al 0 13, o_gA 7 0 16, o_bad, o_bad],
  [o_il 1 17, o_cI 10 2 1 20, o_bad, o_bad, o_cI 114 2 8 23, o_bad, o_bad, o_rI]]
def tb_74 : List (List jx_Op) := [
  [o_al 0 1, o_gA 7 3 4, o_bad, o_bad, o_al 0 5, o_gA 7 0 8, o_bad, o_bad, o_cV 43 2 6 11, o_bad, o_bad, o_al 0 12, o_al 0 13, o_gA 7 0 16, o_bad, o_bad],
  [o_il 1 17, o_il 2 18, o_cI 11 3 1 21, o_bad, o_bad, o_cI 114 2 8 24, o_bad, o_bad, o_rI]]
def tb_75 : List (List jx_Op) := [
  [o_al 0 1, o_gA 7 3 4, o_bad, o_bad, o_al 0 5, o_gA 7 0 8, o_bad, o_bad, o_cV 43 2 6 11, o_bad, o_bad, o_al 0 12, o_al 0 13, o_gA 7 0 16, o_bad, o_bad],
  [o_il 1 17, o_il 2 18, o_cI 12 3 1 21, o_bad, o_bad, o_cI 114 2 8 24, o_bad, o_bad, o_rI]]
def tb_76 : List (List jx_Op) := [
  [o_al 0 1, o_al 0 2, o_il 1 3, o_il 2 4, o_cI 119 3 8 7, o_bad, o_bad, o_ic 0 8, o_cA 121 3 8 11, o_bad, o_bad, o_as 3 12, o_al 0 13, o_gA 7 3 16, o_bad, o_bad],
  [o_al 0 17, o_gA 7 0 20, o_bad, o_bad, o_cV 43 2 6 23, o_bad, o_bad, o_al 0 24, o_gA 7 4 27, o_bad, o_bad, o_al 0 28, o_gA 7 0 31, o_bad, o_bad, o_al 3 32],
  [o_cV 38 3 5 35, o_bad, o_bad, o_al 0 36, o_al 3 37, o_gI 2 0 40, o_bad, o_bad, o_cI 114 2 8 43, o_bad, o_bad, o_rI]]
def tb_77 : List (List jx_Op) := [
  [o_al 0 1, o_gA 7 3 4, o_bad, o_bad, o_al 0 5, o_gA 7 0 8, o_bad, o_bad, o_cV 43 2 6 11, o_bad, o_bad, o_al 0 12, o_al 0 13, o_gA 7 4 16, o_bad, o_bad],
  [o_al 0 17, o_gA 7 0 20, o_bad, o_bad, o_cI 41 2 5 23, o_bad, o_bad, o_cI 114 2 8 26, o_bad, o_bad, o_rI]]
def tb_78 : List (List jx_Op) := [
  [o_al 0 1, o_gA 7 0 4, o_bad, o_bad, o_gA 0 1 7, o_bad, o_bad, o_il 1 8, o_il 2 9, o_cI 118 2 0 12, o_bad, o_bad, o_lN 111 13, o_nnl 20 16, o_bad, o_bad],
  [o_ic 1 17, o_go 21, o_bad, o_bad, o_ic 0 21, o_rZ]]
def tb_79 : List (List jx_Op) := [
  [o_al 0 1, o_gA 7 0 4, o_bad, o_bad, o_gA 0 1 7, o_bad, o_bad, o_il 1 8, o_il 2 9, o_cI 118 2 0 12, o_bad, o_bad, o_lN 111 13, o_as 3 14, o_al 3 15, o_nnl 28 18],
  [o_bad, o_bad, o_th "java/util/NoSuchElementException", o_bad, o_bad, o_bad, o_bad, o_bad, o_bad, o_bad, o_bad, o_bad, o_al 3 29, o_gI 2 0 32, o_bad, o_bad],
  [o_rI]]
def tb_80 : List (List jx_Op) := [
  [o_lc 0 1, o_ls 1 2, o_ic 0 3, o_is 3 4, o_il 3 5, o_ic 64 7, o_bad, o_cge 35 10, o_bad, o_bad, o_al 0 11, o_gA 7 0 14, o_bad, o_bad, o_gA 0 1 17, o_bad],
  [o_bad, o_il 3 18, o_lN 111 19, o_nul 29 22, o_bad, o_bad, o_ll 1 23, o_il 3 24, o_cL 129 1 0 27, o_bad, o_bad, o_B2 (fun x y => x ||| y) 28, o_ls 1 29, o_inc 3 1 32, o_bad, o_bad],
  [o_go 4, o_bad, o_bad, o_ll 1 36, o_rL]]
def tb_81 : List (List jx_Op) := [
  [o_il 1 1, o_cI 127 1 0 4, o_bad, o_bad, o_ne 17 7, o_bad, o_bad, o_th "java/lang/IllegalArgumentException", o_bad, o_bad, o_bad, o_bad, o_bad, o_bad, o_bad, o_bad],
  [o_bad, o_lc 0 18, o_ls 2 19, o_ic 0 20, o_is 4 22, o_bad, o_il 4 24, o_bad, o_ic 64 26, o_bad, o_cge 69 29, o_bad, o_bad, o_al 0 30, o_gA 7 0 33, o_bad],
  [o_bad, o_gA 0 1 36, o_bad, o_bad, o_il 4 38, o_bad, o_lN 111 39, o_as 5 41, o_bad, o_al 5 43, o_bad, o_nul 63 46, o_bad, o_bad, o_al 5 48, o_bad],
  [o_gI 2 1 51, o_bad, o_bad, o_il 1 52, o_cne 63 55, o_bad, o_bad, o_ll 2 56, o_il 4 58, o_bad, o_cL 129 1 0 61, o_bad, o_bad, o_B2 (fun x y => x ||| y) 62, o_ls 2 63, o_inc 4 1 66],
  [o_bad, o_bad, o_go 22, o_bad, o_bad, o_ll 2 70, o_rL]]
def tb_82 : List (List jx_Op) := [
  [o_lc 0 1, o_ls 1 2, o_ic 0 3, o_is 3 4, o_il 3 5, o_ic 64 7, o_bad, o_cge 34 10, o_bad, o_bad, o_al 0 11, o_gA 7 0 14, o_bad, o_bad, o_il 3 15, o_cI 15 2 1 18],
  [o_bad, o_bad, o_eq 28 21, o_bad, o_bad, o_ll 1 22, o_il 3 23, o_cL 129 1 0 26, o_bad, o_bad, o_B2 (fun x y => x ||| y) 27, o_ls 1 28, o_inc 3 1 31, o_bad, o_bad, o_go 4],
  [o_bad, o_bad, o_ll 1 35, o_rL]]
def tb_83 : List (List jx_Op) := [
  [o_al 0 1, o_cL 80 1 8 4, o_bad, o_bad, o_ls 1 5, o_ll 1 6, o_ic 8 8, o_bad, o_Sh (fun x y => x <<< (y.toInt64 &&& 63)) 9, o_ll 1 10, o_ic 8 12, o_bad, o_Sh (fun x y => (x.toUInt64 >>> (y.toInt64.toUInt64 &&& Int64.toUInt64 63)).toInt64) 13, o_B2 (fun x y => x ||| y) 14, o_ls 3 15, o_ll 3 16],
  [o_ll 1 17, o_lc 9187201950435737471 20, o_bad, o_bad, o_B2 (fun x y => x &&& y) 21, o_ic 1 22, o_Sh (fun x y => x <<< (y.toInt64 &&& 63)) 23, o_ll 1 24, o_lc (-72340172838076674) 27, o_bad, o_bad, o_B2 (fun x y => x &&& y) 28, o_ic 1 29, o_Sh (fun x y => (x.toUInt64 >>> (y.toInt64.toUInt64 &&& Int64.toUInt64 63)).toInt64) 30, o_B2 (fun x y => x ||| y) 31, o_B2 (fun x y => x ||| y) 32],
  [o_ls 3 33, o_ll 3 34, o_ll 1 35, o_lc (-1) 38, o_bad, o_bad, o_B2 (fun x y => x ^^^ y) 39, o_B2 (fun x y => x &&& y) 40, o_rL]]
def tb_84 : List (List jx_Op) := [
  [o_al 0 1, o_cL 82 1 8 4, o_bad, o_bad, o_cI 245 1 0 7, o_bad, o_bad, o_rI]]
def tb_85 : List (List jx_Op) := [
  [o_al 0 1, o_gA 7 0 4, o_bad, o_bad, o_ic 1 5, o_cI 18 2 1 8, o_bad, o_bad, o_rI]]
def tb_86 : List (List jx_Op) := [
  [o_al 0 1, o_gA 7 0 4, o_bad, o_bad, o_ic 0 5, o_cI 18 2 1 8, o_bad, o_bad, o_rI]]
def tb_87 : List (List jx_Op) := [
  [o_al 0 1, o_il 1 2, o_cA 117 2 8 5, o_bad, o_bad, o_as 3 6, o_il 2 7, o_cV 122 1 0 10, o_bad, o_bad, o_al 0 11, o_gA 7 0 14, o_bad, o_bad, o_al 3 15, o_il 2 16],
  [o_ic 1 17, o_cI 16 4 1 20, o_bad, o_bad, o_rZ]]
def tb_88 : List (List jx_Op) := [
  [o_al 0 1, o_gA 7 0 4, o_bad, o_bad, o_al 0 5, o_il 1 6, o_cA 117 2 8 9, o_bad, o_bad, o_ic 0 10, o_cI 17 3 1 13, o_bad, o_bad, o_rI]]
def tb_89 : List (List jx_Op) := [
  [o_al 0 1, o_gA 7 0 4, o_bad, o_bad, o_al 0 5, o_il 1 6, o_il 2 7, o_cI 119 3 8 10, o_bad, o_bad, o_cI 14 2 1 13, o_bad, o_bad, o_rI]]
def tb_90 : List (List jx_Op) := [
  [o_al 0 1, o_il 1 2, o_cA 116 2 8 5, o_bad, o_bad, o_as 5 7, o_bad, o_il 2 8, o_il 3 9, o_cI 118 2 0 12, o_bad, o_bad, o_is 6 14, o_bad, o_il 4 16, o_bad],
  [o_ic 3 17, o_cI 126 2 0 20, o_bad, o_bad, o_ne 33 23, o_bad, o_bad, o_th "java/lang/IllegalArgumentException", o_bad, o_bad, o_bad, o_bad, o_bad, o_bad, o_bad, o_bad],
  [o_bad, o_al 5 35, o_bad, o_cV 123 1 0 38, o_bad, o_bad, o_al 0 39, o_il 6 41, o_bad, o_cV 120 2 8 44, o_bad, o_bad, o_al 0 45, o_gA 7 4 48, o_bad, o_bad],
  [o_al 0 49, o_gA 7 0 52, o_bad, o_bad, o_il 6 54, o_bad, o_cV 32 3 5 57, o_bad, o_bad, o_al 0 58, o_gA 7 4 61, o_bad, o_bad, o_al 5 63, o_bad, o_il 4 65],
  [o_bad, o_cI 33 3 5 68, o_bad, o_bad, o_rI]]
def tb_91 : List (List jx_Op) := [
  [o_al 0 1, o_il 1 2, o_cA 116 2 8 5, o_bad, o_bad, o_as 4 7, o_bad, o_il 2 8, o_il 3 9, o_cI 118 2 0 12, o_bad, o_bad, o_is 5 14, o_bad, o_al 4 16, o_bad],
  [o_cV 123 1 0 19, o_bad, o_bad, o_al 0 20, o_il 5 22, o_bad, o_cV 120 2 8 25, o_bad, o_bad, o_al 0 26, o_gA 7 4 29, o_bad, o_bad, o_al 0 30, o_gA 7 0 33, o_bad],
  [o_bad, o_il 5 35, o_bad, o_cV 32 3 5 38, o_bad, o_bad, o_al 0 39, o_gA 7 4 42, o_bad, o_bad, o_al 4 44, o_bad, o_cI 34 2 5 47, o_bad, o_bad, o_rI]]
def tb_92 : List (List jx_Op) := [
  [o_al 0 1, o_al 0 2, o_il 1 3, o_il 2 4, o_cI 119 3 8 7, o_bad, o_bad, o_ic 0 8, o_cA 121 3 8 11, o_bad, o_bad, o_gI 2 0 14, o_bad, o_bad, o_rI]]
def tb_93 : List (List jx_Op) := [
  [o_al 0 1, o_al 0 2, o_il 1 3, o_il 2 4, o_cI 119 3 8 7, o_bad, o_bad, o_il 3 8, o_cA 121 3 8 11, o_bad, o_bad, o_gI 2 0 14, o_bad, o_bad, o_rI]]
def tb_94 : List (List jx_Op) := [
  [o_al 0 1, o_gA 7 5 4, o_bad, o_bad, o_al 0 5, o_gA 7 0 8, o_bad, o_bad, o_cI 26 2 4 11, o_bad, o_bad, o_rI]]
def tb_95 : List (List jx_Op) := [
  [o_al 0 1, o_gA 7 5 4, o_bad, o_bad, o_al 0 5, o_gA 7 0 8, o_bad, o_bad, o_cI 28 2 4 11, o_bad, o_bad, o_rI]]
def tb_96 : List (List jx_Op) := [
  [o_al 0 1, o_il 1 2, o_cL 97 2 8 5, o_bad, o_bad, o_cI 245 1 0 8, o_bad, o_bad, o_rI]]
def tb_97 : List (List jx_Op) := [
  [o_al 0 1, o_gA 7 5 4, o_bad, o_bad, o_al 0 5, o_gA 7 0 8, o_bad, o_bad, o_al 0 9, o_il 1 10, o_cA 117 2 8 13, o_bad, o_bad, o_cL 25 3 4 16, o_bad, o_bad],
  [o_rL]]
def tb_98 : List (List jx_Op) := [
  [o_al 0 1, o_gA 7 5 4, o_bad, o_bad, o_al 0 5, o_gA 7 0 8, o_bad, o_bad, o_cI 27 2 4 11, o_bad, o_bad, o_is 1 12, o_il 1 13, o_ne 27 16, o_bad, o_bad],
  [o_th "java/util/NoSuchElementException", o_bad, o_bad, o_bad, o_bad, o_bad, o_bad, o_bad, o_bad, o_bad, o_bad, o_il 1 28, o_rI]]
def tb_99 : List (List jx_Op) := [
  [o_al 0 1, o_gA 7 0 4, o_bad, o_bad, o_ic 1 5, o_cI 18 2 1 8, o_bad, o_bad, o_is 1 9, o_il 1 10, o_al 0 11, o_gA 7 0 14, o_bad, o_bad, o_ic 0 15, o_cI 18 2 1 18],
  [o_bad, o_bad, o_b2 (fun x y => x + y) 19, o_is 2 20, o_il 2 21, o_ne 35 24, o_bad, o_bad, o_th "java/lang/ArithmeticException", o_bad, o_bad, o_bad, o_bad, o_bad, o_bad, o_bad],
  [o_bad, o_bad, o_bad, o_il 1 36, o_i2f 37, o_il 2 38, o_i2f 39, o_F2 FP.fdiv 40, o_rF]]
def tb_100 : List (List jx_Op) := [
  [o_al 0 1, o_cF 99 1 8 4, o_bad, o_bad, o_cI 132 1 0 7, o_bad, o_bad, o_rI]]
def tb_101 : List (List jx_Op) := [
  [o_al 0 1, o_gA 7 0 4, o_bad, o_bad, o_cI 4 1 1 7, o_bad, o_bad, o_is 1 8, o_il 1 9, o_ne 23 12, o_bad, o_bad, o_th "java/lang/ArithmeticException", o_bad, o_bad, o_bad],
  [o_bad, o_bad, o_bad, o_bad, o_bad, o_bad, o_bad, o_ic 2 24, o_al 0 25, o_gA 7 0 28, o_bad, o_bad, o_ic 1 29, o_cI 18 2 1 32, o_bad, o_bad],
  [o_b2 (fun x y => x * y) 33, o_i2d 34, o_il 1 35, o_i2d 36, o_D2 FP.ddiv 37, o_rD]]
def tb_102 : List (List jx_Op) := [
  [o_al 0 1, o_cL 82 1 8 4, o_bad, o_bad, o_al 0 5, o_cL 83 1 8 8, o_bad, o_bad, o_lcmp 9, o_ne 27 12, o_bad, o_bad, o_al 0 13, o_cI 94 1 8 16, o_bad, o_bad],
  [o_al 0 17, o_cI 95 1 8 20, o_bad, o_bad, o_cne 27 23, o_bad, o_bad, o_ic 1 24, o_go 28, o_bad, o_bad, o_ic 0 28, o_rZ]]
def tb_103 : List (List jx_Op) := [
  [o_il 1 1, o_ic 0 2, o_cI 118 2 0 5, o_bad, o_bad, o_is 2 6, o_ic 0 7, o_is 3 8, o_il 3 9, o_ic 8 11, o_bad, o_cge 33 14, o_bad, o_bad, o_al 0 15, o_gA 7 7 18],
  [o_bad, o_bad, o_il 3 19, o_al 0 20, o_il 2 21, o_il 3 22, o_b2 (fun x y => x + y) 23, o_cI 124 2 8 26, o_bad, o_bad, o_sC 101 27, o_inc 3 1 30, o_bad, o_bad, o_go 8, o_bad],
  [o_bad, o_al 0 34, o_ic 8 36, o_bad, o_pI 7 8 39, o_bad, o_bad, o_al 0 40, o_gI 7 8 43, o_bad, o_bad, o_rI]]
def tb_104 : List (List jx_Op) := [
  [o_al 0 1, o_il 1 2, o_cA 116 2 8 5, o_bad, o_bad, o_as 2 6, o_al 0 7, o_gA 7 7 10, o_bad, o_bad, o_ic 0 11, o_al 2 12, o_gI 2 1 15, o_bad, o_bad, o_sC 101 16],
  [o_ic 0 17, o_is 3 18, o_il 3 19, o_ic 4 20, o_cge 45 23, o_bad, o_bad, o_al 0 24, o_gA 7 7 27, o_bad, o_bad, o_ic 1 28, o_il 3 29, o_b2 (fun x y => x + y) 30, o_al 2 31, o_il 3 32],
  [o_cI 22 2 3 35, o_bad, o_bad, o_cI 130 1 0 38, o_bad, o_bad, o_sC 101 39, o_inc 3 1 42, o_bad, o_bad, o_go 18, o_bad, o_bad, o_al 0 46, o_ic 5 47, o_pI 7 8 50],
  [o_bad, o_bad, o_al 2 51, o_cI 21 1 3 54, o_bad, o_bad, o_eq 105 57, o_bad, o_bad, o_al 0 58, o_gA 7 7 61, o_bad, o_bad, o_ic 5 62, o_ic 64 64, o_bad],
  [o_sC 101 65, o_al 0 66, o_gA 7 7 69, o_bad, o_bad, o_ic 6 71, o_bad, o_al 2 72, o_gI 2 4 75, o_bad, o_bad, o_ic 8 77, o_bad, o_div 78, o_cI 130 1 0 81, o_bad],
  [o_bad, o_sC 101 82, o_al 0 83, o_gA 7 7 86, o_bad, o_bad, o_ic 7 88, o_bad, o_al 2 89, o_gI 2 4 92, o_bad, o_bad, o_ic 8 94, o_bad, o_rem 95, o_cI 130 1 0 98],
  [o_bad, o_bad, o_sC 101 99, o_al 0 100, o_ic 8 102, o_bad, o_pI 7 8 105, o_bad, o_bad, o_al 0 106, o_gI 7 8 109, o_bad, o_bad, o_rI]]
def tb_105 : List (List jx_Op) := [
  [o_il 1 1, o_lt 12 4, o_bad, o_bad, o_il 1 5, o_al 0 6, o_gI 7 8 9, o_bad, o_bad, o_clt 23 12, o_bad, o_bad, o_th "java/lang/IndexOutOfBoundsException", o_bad, o_bad, o_bad],
  [o_bad, o_bad, o_bad, o_bad, o_bad, o_bad, o_bad, o_al 0 24, o_gA 7 7 27, o_bad, o_bad, o_il 1 28, o_lI 101 29, o_rC]]
def tb_106 : List (List jx_Op) := [
  [o_al 0 1, o_gA 7 6 4, o_bad, o_bad, o_cI 49 1 7 7, o_bad, o_bad, o_eq 21 10, o_bad, o_bad, o_th "java/lang/IllegalStateException", o_bad, o_bad, o_bad, o_bad, o_bad],
  [o_bad, o_bad, o_bad, o_bad, o_bad, o_al 0 22, o_gA 7 6 25, o_bad, o_bad, o_il 1 26, o_cI 50 2 7 29, o_bad, o_bad, o_rI]]
def tb_107 : List (List jx_Op) := [
  [o_al 0 1, o_gA 7 6 4, o_bad, o_bad, o_cI 52 1 7 7, o_bad, o_bad, o_is 1 8, o_al 0 9, o_gA 7 6 12, o_bad, o_bad, o_cV 51 1 7 15, o_bad, o_bad, o_il 1 16],
  [o_ne 41 19, o_bad, o_bad, o_al 0 20, o_al 0 21, o_gA 7 6 24, o_bad, o_bad, o_gI 6 2 27, o_bad, o_bad, o_pI 7 9 30, o_bad, o_bad, o_th "java/lang/IllegalArgumentException", o_bad],
  [o_bad, o_bad, o_bad, o_bad, o_bad, o_bad, o_bad, o_bad, o_bad, o_al 0 42, o_gA 7 3 45, o_bad, o_bad, o_al 0 46, o_gA 7 0 49, o_bad],
  [o_bad, o_cV 43 2 6 52, o_bad, o_bad, o_ic 0 53, o_is 2 54, o_il 2 55, o_al 0 56, o_gA 7 6 59, o_bad, o_bad, o_gI 6 4 62, o_bad, o_bad, o_cge 117 65, o_bad],
  [o_bad, o_al 0 66, o_al 0 67, o_gA 7 6 70, o_bad, o_bad, o_gA 6 3 73, o_bad, o_bad, o_il 2 74, o_lA 112 75, o_cI 125 2 8 78, o_bad, o_bad, o_ge 111 81, o_bad],
  [o_bad, o_al 0 82, o_gA 7 0 85, o_bad, o_bad, o_al 0 86, o_gA 7 3 89, o_bad, o_bad, o_cA 44 1 6 92, o_bad, o_bad, o_cV 1 2 1 95, o_bad, o_bad, o_al 0 96],
  [o_il 2 97, o_pI 7 10 100, o_bad, o_bad, o_th "java/lang/UnsupportedOperationException", o_bad, o_bad, o_bad, o_bad, o_bad, o_bad, o_bad, o_bad, o_bad, o_bad, o_inc 2 1 114],
  [o_bad, o_bad, o_go 54, o_bad, o_bad, o_al 0 118, o_al 0 119, o_gA 7 6 122, o_bad, o_bad, o_gI 6 4 125, o_bad, o_bad, o_cI 114 2 8 128, o_bad, o_bad],
  [o_rI]]
def tb_108 : List (List jx_Op) := [
  [o_al 0 1, o_gI 7 9 4, o_bad, o_bad, o_ic (-1) 5, o_cne 19 8, o_bad, o_bad, o_th "java/util/NoSuchElementException", o_bad, o_bad, o_bad, o_bad, o_bad, o_bad, o_bad],
  [o_bad, o_bad, o_bad, o_al 0 20, o_gI 7 9 23, o_bad, o_bad, o_rI]]
def tb_109 : List (List jx_Op) := [
  [o_al 0 1, o_gI 7 10 4, o_bad, o_bad, o_ic (-1) 5, o_cne 19 8, o_bad, o_bad, o_th "java/util/NoSuchElementException", o_bad, o_bad, o_bad, o_bad, o_bad, o_bad, o_bad],
  [o_bad, o_bad, o_bad, o_al 0 20, o_gI 7 10 23, o_bad, o_bad, o_rI]]
def tb_110 : List (List jx_Op) := [
  [o_al 0 1, o_gA 7 3 4, o_bad, o_bad, o_gI 5 2 7, o_bad, o_bad, o_ne 21 10, o_bad, o_bad, o_th "java/lang/IllegalStateException", o_bad, o_bad, o_bad, o_bad, o_bad],
  [o_bad, o_bad, o_bad, o_bad, o_bad, o_al 0 22, o_gA 7 0 25, o_bad, o_bad, o_al 0 26, o_gA 7 3 29, o_bad, o_bad, o_cA 46 1 6 32, o_bad, o_bad],
  [o_cV 1 2 1 35, o_bad, o_bad, o_al 0 36, o_gA 7 3 39, o_bad, o_bad, o_gI 5 2 42, o_bad, o_bad, o_rI]]
def tb_111 : List (List jx_Op) := [
  [o_al 0 1, o_gA 7 3 4, o_bad, o_bad, o_gI 5 2 7, o_bad, o_bad, o_rI]]
def tb_112 : List (List jx_Op) := [
  [o_al 0 1, o_gA 7 1 4, o_bad, o_bad, o_al 0 5, o_gA 7 0 8, o_bad, o_bad, o_cV 1 2 1 11, o_bad, o_bad, o_al 0 12, o_ic 1 13, o_pZ 7 2 16, o_bad, o_bad],
  [o_al 0 17, o_gA 7 0 20, o_bad, o_bad, o_gI 0 2 23, o_bad, o_bad, o_rI]]
def tb_113 : List (List jx_Op) := [
  [o_al 0 1, o_gI 7 2 4, o_bad, o_bad, o_ne 18 7, o_bad, o_bad, o_th "java/lang/IllegalStateException", o_bad, o_bad, o_bad, o_bad, o_bad, o_bad, o_bad, o_bad],
  [o_bad, o_bad, o_al 0 19, o_gA 7 0 22, o_bad, o_bad, o_al 0 23, o_gA 7 1 26, o_bad, o_bad, o_cV 1 2 1 29, o_bad, o_bad, o_al 0 30, o_gA 7 3 33, o_bad],
  [o_bad, o_cV 47 1 6 36, o_bad, o_bad, o_al 0 37, o_gA 7 0 40, o_bad, o_bad, o_gI 0 2 43, o_bad, o_bad, o_rI]]
def tb_114 : List (List jx_Op) := [
  [o_il 1 1, o_cV 115 1 0 4, o_bad, o_bad, o_al 0 5, o_gA 7 3 8, o_bad, o_bad, o_cV 45 1 6 11, o_bad, o_bad, o_il 1 12, o_rI]]
def tb_115 : List (List jx_Op) := [
  [o_il 0 1, o_sw 76 [(-4, 65), (-3, 54), (-2, 43), (-1, 32)], o_bad, o_bad, o_bad, o_bad, o_bad, o_bad, o_bad, o_bad, o_bad, o_bad, o_bad, o_bad, o_bad, o_bad],
  [o_bad, o_bad, o_bad, o_bad, o_bad, o_bad, o_bad, o_bad, o_bad, o_bad, o_bad, o_bad, o_bad, o_bad, o_bad, o_bad],
  [o_th "java/util/NoSuchElementException", o_bad, o_bad, o_bad, o_bad, o_bad, o_bad, o_bad, o_bad, o_bad, o_bad, o_th "java/lang/IndexOutOfBoundsException", o_bad, o_bad, o_bad, o_bad],
  [o_bad, o_bad, o_bad, o_bad, o_bad, o_bad, o_th "java/lang/IllegalArgumentException", o_bad, o_bad, o_bad, o_bad, o_bad, o_bad, o_bad, o_bad, o_bad],
  [o_bad, o_th "java/lang/IllegalStateException", o_bad, o_bad, o_bad, o_bad, o_bad, o_bad, o_bad, o_bad, o_bad, o_bad, o_rV]]
def tb_116 : List (List jx_Op) := [
  [o_al 0 1, o_gA 7 0 4, o_bad, o_bad, o_il 1 5, o_cN 3 2 1 8, o_bad, o_bad, o_as 2 9, o_al 2 10, o_nnl 24 13, o_bad, o_bad, o_th "java/util/NoSuchElementException", o_bad, o_bad],
  [o_bad, o_bad, o_bad, o_bad, o_bad, o_bad, o_bad, o_bad, o_al 2 25, o_rA]]
def tb_117 : List (List jx_Op) := [
  [o_al 0 1, o_il 1 2, o_cA 116 2 8 5, o_bad, o_bad, o_as 2 6, o_al 2 7, o_cI 21 1 3 10, o_bad, o_bad, o_ne 24 13, o_bad, o_bad, o_th "java/util/NoSuchElementException", o_bad, o_bad],
  [o_bad, o_bad, o_bad, o_bad, o_bad, o_bad, o_bad, o_bad, o_al 2 25, o_rA]]
def tb_118 : List (List jx_Op) := [
  [o_il 0 1, o_ic 7 3, o_bad, o_cI 126 2 0 6, o_bad, o_bad, o_eq 18 9, o_bad, o_bad, o_il 1 10, o_ic 7 12, o_bad, o_cI 126 2 0 15, o_bad, o_bad, o_ne 29 18],
  [o_bad, o_bad, o_th "java/lang/IndexOutOfBoundsException", o_bad, o_bad, o_bad, o_bad, o_bad, o_bad, o_bad, o_bad, o_bad, o_bad, o_ic 8 31, o_bad, o_il 0 32],
  [o_b2 (fun x y => x * y) 33, o_il 1 34, o_b2 (fun x y => x + y) 35, o_rI]]
def tb_119 : List (List jx_Op) := [
  [o_il 1 1, o_il 2 2, o_cI 118 2 0 5, o_bad, o_bad, o_is 3 6, o_al 0 7, o_il 3 8, o_cV 120 2 8 11, o_bad, o_bad, o_il 3 12, o_rI]]
def tb_120 : List (List jx_Op) := [
  [o_al 0 1, o_gA 7 0 4, o_bad, o_bad, o_il 1 5, o_cI 15 2 1 8, o_bad, o_bad, o_ne 22 11, o_bad, o_bad, o_th "java/lang/UnsupportedOperationException", o_bad, o_bad, o_bad, o_bad],
  [o_bad, o_bad, o_bad, o_bad, o_bad, o_bad, o_rV]]
def tb_121 : List (List jx_Op) := [
  [o_al 0 1, o_gA 7 4 4, o_bad, o_bad, o_al 0 5, o_gA 7 0 8, o_bad, o_bad, o_il 1 9, o_cV 32 3 5 12, o_bad, o_bad, o_al 0 13, o_gA 7 4 16, o_bad, o_bad],
  [o_al 0 17, o_gA 7 0 20, o_bad, o_bad, o_il 2 21, o_cN 36 3 5 24, o_bad, o_bad, o_as 3 25, o_al 3 26, o_nnl 40 29, o_bad, o_bad, o_th "java/util/NoSuchElementException", o_bad, o_bad],
  [o_bad, o_bad, o_bad, o_bad, o_bad, o_bad, o_bad, o_bad, o_al 3 41, o_rA]]
def tb_122 : List (List jx_Op) := [
  [o_il 0 1, o_ic 3 2, o_cI 126 2 0 5, o_bad, o_bad, o_ne 19 8, o_bad, o_bad, o_th "java/lang/IllegalArgumentException", o_bad, o_bad, o_bad, o_bad, o_bad, o_bad, o_bad],
  [o_bad, o_bad, o_bad, o_rV]]
def tb_123 : List (List jx_Op) := [
  [o_al 0 1, o_cI 21 1 3 4, o_bad, o_bad, o_eq 18 7, o_bad, o_bad, o_th "java/lang/IllegalStateException", o_bad, o_bad, o_bad, o_bad, o_bad, o_bad, o_bad, o_bad],
  [o_bad, o_bad, o_rV]]
def tb_124 : List (List jx_Op) := [
  [o_al 0 1, o_gA 7 0 4, o_bad, o_bad, o_gA 0 1 7, o_bad, o_bad, o_il 1 8, o_lN 111 9, o_as 2 10, o_al 2 11, o_nul 19 14, o_bad, o_bad, o_al 2 15, o_gI 2 1 18],
  [o_bad, o_bad, o_rC, o_al 0 20, o_gA 7 0 23, o_bad, o_bad, o_il 1 24, o_cI 15 2 1 27, o_bad, o_bad, o_eq 35 30, o_bad, o_bad, o_ic 43 32, o_bad],
  [o_go 37, o_bad, o_bad, o_ic 46 37, o_bad, o_rC]]
def tb_125 : List (List jx_Op) := [
  [o_al 1 1, o_gA 1 1 4, o_bad, o_bad, o_as 2 5, o_rc 0 8, o_bad, o_bad, o_al 1 9, o_gA 1 0 12, o_bad, o_bad, o_cI 241 1 22 15, o_bad, o_bad, o_lI 100 16],
  [o_sw 147 [(1, 56), (2, 80), (3, 97), (4, 108), (5, 122), (6, 136)], o_bad, o_bad, o_bad, o_bad, o_bad, o_bad, o_bad, o_bad, o_bad, o_bad, o_bad, o_bad, o_bad, o_bad, o_bad],
  [o_bad, o_bad, o_bad, o_bad, o_bad, o_bad, o_bad, o_bad, o_bad, o_bad, o_bad, o_bad, o_bad, o_bad, o_bad, o_bad],
  [o_bad, o_bad, o_bad, o_bad, o_bad, o_bad, o_bad, o_bad, o_al 0 57, o_gA 7 0 60, o_bad, o_bad, o_al 2 61, o_ic 0 62, o_lI 100 63, o_u (fun x => (x.toUInt32 % 65536).toInt32) 64],
  [o_al 2 65, o_ic 1 66, o_lI 100 67, o_al 2 68, o_ic 2 69, o_lI 100 70, o_al 2 71, o_ic 3 72, o_lI 100 73, o_al 2 74, o_ic 4 75, o_lI 100 76, o_cI 6 6 1 79, o_bad, o_bad, o_rI],
  [o_al 0 81, o_gA 7 0 84, o_bad, o_bad, o_al 2 85, o_ic 0 86, o_lI 100 87, o_al 2 88, o_ic 2 89, o_lI 100 90, o_al 2 91, o_ic 3 92, o_lI 100 93, o_cI 8 4 1 96, o_bad, o_bad],
  [o_rI, o_al 0 98, o_gA 7 0 101, o_bad, o_bad, o_al 2 102, o_ic 0 103, o_lI 100 104, o_cI 10 2 1 107, o_bad, o_bad, o_rI, o_al 0 109, o_gA 7 0 112, o_bad, o_bad],
  [o_al 2 113, o_ic 0 114, o_lI 100 115, o_al 2 116, o_ic 2 117, o_lI 100 118, o_cI 11 3 1 121, o_bad, o_bad, o_rI, o_al 0 123, o_gA 7 0 126, o_bad, o_bad, o_al 2 127, o_ic 0 128],
  [o_lI 100 129, o_al 2 130, o_ic 2 131, o_lI 100 132, o_cI 12 3 1 135, o_bad, o_bad, o_rI, o_al 0 137, o_gA 7 0 140, o_bad, o_bad, o_al 2 141, o_ic 0 142, o_lI 100 143, o_cI 7 2 1 146],
  [o_bad, o_bad, o_rI, o_al 0 148, o_gA 7 4 151, o_bad, o_bad, o_al 0 152, o_gA 7 0 155, o_bad, o_bad, o_cI 41 2 5 158, o_bad, o_bad, o_rI]]
def tb_126 : List (List jx_Op) := [
  [o_il 0 1, o_lt 13 4, o_bad, o_bad, o_il 0 5, o_il 1 6, o_cgt 13 9, o_bad, o_bad, o_ic 1 10, o_go 14, o_bad, o_bad, o_ic 0 14, o_rZ]]
def tb_127 : List (List jx_Op) := [
  [o_il 0 1, o_ic 97 3, o_bad, o_clt 16 6, o_bad, o_bad, o_il 0 7, o_ic 102 9, o_bad, o_cgt 16 12, o_bad, o_bad, o_ic 1 13, o_go 17, o_bad, o_bad],
  [o_ic 0 17, o_rZ]]
def tb_128 : List (List jx_Op) := [
  [o_il 0 1, o_ic 2 2, o_b2 (fun x y => x + y) 3, o_ic 3 4, o_b2 (fun x y => x &&& y) 5, o_rI]]
def tb_129 : List (List jx_Op) := [
  [o_lc 1 1, o_il 0 2, o_Sh (fun x y => x <<< (y.toInt64 &&& 63)) 3, o_rL]]
def tb_130 : List (List jx_Op) := [
  [o_il 0 1, o_ic 10 3, o_bad, o_cge 13 6, o_bad, o_bad, o_ic 48 8, o_bad, o_il 0 9, o_b2 (fun x y => x + y) 10, o_go 20, o_bad, o_bad, o_ic 97 15, o_bad, o_il 0 16],
  [o_b2 (fun x y => x + y) 17, o_ic 10 19, o_bad, o_b2 (fun x y => x - y) 20, o_u (fun x => (x.toUInt32 % 65536).toInt32) 21, o_rC]]
def tb_131 : List (List jx_Op) := [
  [o_il 0 1, o_ic 48 3, o_bad, o_clt 19 6, o_bad, o_bad, o_il 0 7, o_ic 57 9, o_bad, o_cgt 19 12, o_bad, o_bad, o_il 0 13, o_ic 48 15, o_bad, o_b2 (fun x y => x - y) 16],
  [o_go 20, o_bad, o_bad, o_ic (-1) 20, o_rI]]
def tb_132 : List (List jx_Op) := [
  [o_fl 0 1, o_fc FP.fconst0 2, o_fcmp .g 3, o_gt 8 6, o_bad, o_bad, o_ic 0 7, o_rI, o_fl 0 9, o_fs 1 10, o_ic 127 12, o_bad, o_is 2 13, o_ic 0 14, o_is 3 15, o_il 3 16],
  [o_ic 126 18, o_bad, o_cge 40 21, o_bad, o_bad, o_fl 1 22, o_fc FP.fconst1 23, o_fcmp .g 24, o_ge 40 27, o_bad, o_bad, o_fl 1 28, o_fc FP.fconst2 29, o_F2 FP.fmul 30, o_fs 1 31, o_inc 2 (-1) 34],
  [o_bad, o_bad, o_inc 3 1 37, o_bad, o_bad, o_go 15, o_bad, o_bad, o_il 2 41, o_ic 23 43, o_bad, o_b2 (fun x y => x <<< (y &&& 31)) 44, o_fl 1 45, o_fc FP.fconst1 46, o_F2 FP.fsub 47, o_fc 1258291200 50],
  [o_bad, o_bad, o_F2 FP.fmul 51, o_f2i 52, o_b2 (fun x y => x ||| y) 53, o_rI]]
def tb_133 : List (List jx_Op) := [
  [o_al 0 1, o_il 1 2, o_il 2 3, o_il 3 4, o_il 4 6, o_bad, o_il 5 8, o_bad, o_hI 60 6 8 [("java/lang/IllegalArgumentException", 12), ("java/lang/IllegalStateException", 16)] 11, o_bad, o_bad, o_rI, o_aj 6 14, o_bad, o_ic (-1) 15, o_rI],
  [o_aj 6 18, o_bad, o_ic (-2) 20, o_bad, o_rI]]
def tb_134 : List (List jx_Op) := [
  [o_al 0 1, o_il 1 2, o_hI 61 2 8 [("java/util/NoSuchElementException", 6), ("java/lang/IllegalStateException", 9)] 5, o_bad, o_bad, o_rI, o_aj 2 7, o_ic (-1) 8, o_rI, o_aj 2 10, o_ic (-2) 12, o_bad, o_rI]]
def tb_135 : List (List jx_Op) := [
  [o_al 0 1, o_il 1 2, o_hI 64 2 8 [("java/lang/IndexOutOfBoundsException", 6)] 5, o_bad, o_bad, o_rI, o_aj 2 7, o_ic (-11) 9, o_bad, o_rI]]
def tb_136 : List (List jx_Op) := [
  [o_al 0 1, o_il 1 2, o_hI 66 2 8 [("java/util/NoSuchElementException", 6)] 5, o_bad, o_bad, o_rI, o_aj 2 7, o_ic (-13) 9, o_bad, o_rI]]
def tb_137 : List (List jx_Op) := [
  [o_al 0 1, o_il 1 2, o_hI 67 2 8 [("java/util/NoSuchElementException", 6)] 5, o_bad, o_bad, o_rI, o_aj 2 7, o_ic (-13) 9, o_bad, o_rI]]
def tb_138 : List (List jx_Op) := [
  [o_al 0 1, o_il 1 2, o_il 2 3, o_hI 68 3 8 [("java/util/NoSuchElementException", 7), ("java/lang/IllegalArgumentException", 11)] 6, o_bad, o_bad, o_rI, o_aj 3 8, o_ic (-13) 10, o_bad, o_rI, o_aj 3 12, o_ic (-12) 14, o_bad, o_rI]]
def tb_139 : List (List jx_Op) := [
  [o_al 0 1, o_il 1 2, o_hI 69 2 8 [("java/util/NoSuchElementException", 14)] 5, o_bad, o_bad, o_eq 12 8, o_bad, o_bad, o_ic 1 9, o_go 13, o_bad, o_bad, o_ic 0 13, o_rI, o_aj 2 15, o_ic (-13) 17],
  [o_bad, o_rI]]
def tb_140 : List (List jx_Op) := [
  [o_al 0 1, o_il 1 2, o_hI 70 2 8 [("java/util/NoSuchElementException", 6)] 5, o_bad, o_bad, o_rI, o_aj 2 7, o_ic (-13) 9, o_bad, o_rI]]
def tb_141 : List (List jx_Op) := [
  [o_al 0 1, o_il 1 2, o_il 2 3, o_il 3 4, o_hI 72 4 8 [("java/util/NoSuchElementException", 8), ("java/lang/IndexOutOfBoundsException", 12), ("java/lang/IllegalStateException", 17)] 7, o_bad, o_bad, o_rI, o_aj 4 10, o_bad, o_ic (-1) 11, o_rI, o_aj 4 14, o_bad, o_ic (-2) 16, o_bad],
  [o_rI, o_aj 4 19, o_bad, o_ic (-3) 21, o_bad, o_rI]]
def tb_142 : List (List jx_Op) := [
  [o_al 0 1, o_il 1 2, o_hI 73 2 8 [("java/util/NoSuchElementException", 6), ("java/lang/IllegalStateException", 9)] 5, o_bad, o_bad, o_rI, o_aj 2 7, o_ic (-1) 8, o_rI, o_aj 2 10, o_ic (-2) 12, o_bad, o_rI]]
def tb_143 : List (List jx_Op) := [
  [o_al 0 1, o_il 1 2, o_il 2 3, o_hI 74 3 8 [("java/util/NoSuchElementException", 7), ("java/lang/IllegalArgumentException", 10)] 6, o_bad, o_bad, o_rI, o_aj 3 8, o_ic (-1) 9, o_rI, o_aj 3 11, o_ic (-2) 13, o_bad, o_rI]]
def tb_144 : List (List jx_Op) := [
  [o_al 0 1, o_il 1 2, o_il 2 3, o_hI 75 3 8 [("java/util/NoSuchElementException", 7), ("java/lang/IllegalArgumentException", 10), ("java/lang/IllegalStateException", 14)] 6, o_bad, o_bad, o_rI, o_aj 3 8, o_ic (-1) 9, o_rI, o_aj 3 11, o_ic (-2) 13, o_bad, o_rI, o_aj 3 15, o_ic (-3) 17],
  [o_bad, o_rI]]
def tb_145 : List (List jx_Op) := [
  [o_al 0 1, o_il 1 2, o_il 2 3, o_hI 76 3 8 [("java/lang/IndexOutOfBoundsException", 7), ("java/lang/UnsupportedOperationException", 10), ("java/util/NoSuchElementException", 14)] 6, o_bad, o_bad, o_rI, o_aj 3 8, o_ic (-1) 9, o_rI, o_aj 3 11, o_ic (-2) 13, o_bad, o_rI, o_aj 3 15, o_ic (-3) 17],
  [o_bad, o_rI]]
def tb_146 : List (List jx_Op) := [
  [o_al 0 1, o_il 1 2, o_il 2 3, o_hI 78 3 8 [("java/lang/IndexOutOfBoundsException", 15)] 6, o_bad, o_bad, o_eq 13 9, o_bad, o_bad, o_ic 1 10, o_go 14, o_bad, o_bad, o_ic 0 14, o_rI, o_aj 3 16],
  [o_ic (-11) 18, o_bad, o_rI]]
def tb_147 : List (List jx_Op) := [
  [o_al 0 1, o_il 1 2, o_il 2 3, o_hI 79 3 8 [("java/lang/IndexOutOfBoundsException", 7), ("java/util/NoSuchElementException", 11)] 6, o_bad, o_bad, o_rI, o_aj 3 8, o_ic (-11) 10, o_bad, o_rI, o_aj 3 12, o_ic (-13) 14, o_bad, o_rI]]
def tb_148 : List (List jx_Op) := [
  [o_al 0 1, o_il 1 2, o_il 2 3, o_hI 87 3 8 [("java/util/NoSuchElementException", 15), ("java/lang/IllegalArgumentException", 19)] 6, o_bad, o_bad, o_eq 13 9, o_bad, o_bad, o_ic 1 10, o_go 14, o_bad, o_bad, o_ic 0 14, o_rI, o_aj 3 16],
  [o_ic (-13) 18, o_bad, o_rI, o_aj 3 20, o_ic (-12) 22, o_bad, o_rI]]
def tb_149 : List (List jx_Op) := [
  [o_al 0 1, o_il 1 2, o_hI 88 2 8 [("java/util/NoSuchElementException", 6)] 5, o_bad, o_bad, o_rI, o_aj 2 7, o_ic (-13) 9, o_bad, o_rI]]
def tb_150 : List (List jx_Op) := [
  [o_al 0 1, o_il 1 2, o_il 2 3, o_hI 89 3 8 [("java/lang/IndexOutOfBoundsException", 7), ("java/lang/UnsupportedOperationException", 11)] 6, o_bad, o_bad, o_rI, o_aj 3 8, o_ic (-11) 10, o_bad, o_rI, o_aj 3 12, o_ic (-15) 14, o_bad, o_rI]]
def tb_151 : List (List jx_Op) := [
  [o_al 0 1, o_il 1 2, o_il 2 3, o_il 3 4, o_il 4 6, o_bad, o_hI 90 5 8 [("java/util/NoSuchElementException", 10), ("java/lang/IndexOutOfBoundsException", 15), ("java/lang/IllegalArgumentException", 20), ("java/lang/IllegalStateException", 25), ("java/lang/UnsupportedOperationException", 30)] 9, o_bad, o_bad, o_rI, o_aj 5 12, o_bad, o_ic (-113) 14, o_bad, o_rI, o_aj 5 17],
  [o_bad, o_ic (-111) 19, o_bad, o_rI, o_aj 5 22, o_bad, o_ic (-112) 24, o_bad, o_rI, o_aj 5 27, o_bad, o_ic (-114) 29, o_bad, o_rI, o_aj 5 32, o_bad],
  [o_ic (-115) 34, o_bad, o_rI]]
def tb_152 : List (List jx_Op) := [
  [o_al 0 1, o_il 1 2, o_il 2 3, o_il 3 4, o_hI 91 4 8 [("java/util/NoSuchElementException", 8), ("java/lang/IndexOutOfBoundsException", 13), ("java/lang/IllegalStateException", 18), ("java/lang/UnsupportedOperationException", 23)] 7, o_bad, o_bad, o_rI, o_aj 4 10, o_bad, o_ic (-13) 12, o_bad, o_rI, o_aj 4 15, o_bad, o_ic (-11) 17],
  [o_bad, o_rI, o_aj 4 20, o_bad, o_ic (-14) 22, o_bad, o_rI, o_aj 4 25, o_bad, o_ic (-15) 27, o_bad, o_rI]]
def tb_153 : List (List jx_Op) := [
  [o_al 0 1, o_il 1 2, o_il 2 3, o_hI 92 3 8 [("java/lang/IndexOutOfBoundsException", 7), ("java/lang/UnsupportedOperationException", 11), ("java/util/NoSuchElementException", 15)] 6, o_bad, o_bad, o_rI, o_aj 3 8, o_ic (-11) 10, o_bad, o_rI, o_aj 3 12, o_ic (-15) 14, o_bad, o_rI, o_aj 3 16],
  [o_ic (-13) 18, o_bad, o_rI]]
def tb_154 : List (List jx_Op) := [
  [o_al 0 1, o_il 1 2, o_il 2 3, o_il 3 4, o_hI 93 4 8 [("java/lang/IndexOutOfBoundsException", 8), ("java/lang/UnsupportedOperationException", 13), ("java/util/NoSuchElementException", 18)] 7, o_bad, o_bad, o_rI, o_aj 4 10, o_bad, o_ic (-11) 12, o_bad, o_rI, o_aj 4 15, o_bad, o_ic (-15) 17],
  [o_bad, o_rI, o_aj 4 20, o_bad, o_ic (-13) 22, o_bad, o_rI]]
def tb_155 : List (List jx_Op) := [
  [o_al 0 1, o_il 1 2, o_hI 96 2 8 [("java/util/NoSuchElementException", 6)] 5, o_bad, o_bad, o_rI, o_aj 2 7, o_ic (-13) 9, o_bad, o_rI]]
def tb_156 : List (List jx_Op) := [
  [o_al 0 1, o_hI 98 1 8 [("java/util/NoSuchElementException", 5)] 4, o_bad, o_bad, o_rI, o_aj 1 6, o_ic (-13) 8, o_bad, o_rI]]
def tb_157 : List (List jx_Op) := [
  [o_al 0 1, o_il 1 2, o_hI 103 2 8 [("java/lang/IndexOutOfBoundsException", 6)] 5, o_bad, o_bad, o_rI, o_aj 2 7, o_ic (-11) 9, o_bad, o_rI]]
def tb_158 : List (List jx_Op) := [
  [o_al 0 1, o_il 1 2, o_hI 104 2 8 [("java/util/NoSuchElementException", 6)] 5, o_bad, o_bad, o_rI, o_aj 2 7, o_ic (-13) 9, o_bad, o_rI]]
def tb_159 : List (List jx_Op) := [
  [o_al 0 1, o_il 1 2, o_hI 105 2 8 [("java/lang/IndexOutOfBoundsException", 6)] 5, o_bad, o_bad, o_rI, o_aj 2 7, o_ic (-11) 9, o_bad, o_rI]]
def tb_160 : List (List jx_Op) := [
  [o_al 0 1, o_il 1 2, o_hI 106 2 8 [("java/lang/IllegalStateException", 6)] 5, o_bad, o_bad, o_rI, o_aj 2 7, o_ic (-14) 9, o_bad, o_rI]]
def tb_161 : List (List jx_Op) := [
  [o_al 0 1, o_hI 107 1 8 [("java/lang/IllegalArgumentException", 5), ("java/lang/UnsupportedOperationException", 8)] 4, o_bad, o_bad, o_rI, o_aj 1 6, o_ic (-1) 7, o_rI, o_aj 1 9, o_ic (-2) 11, o_bad, o_rI]]
def tb_162 : List (List jx_Op) := [
  [o_al 0 1, o_hI 110 1 8 [("java/lang/IllegalStateException", 5)] 4, o_bad, o_bad, o_rI, o_aj 1 6, o_ic (-1) 7, o_rI]]
def tb_163 : List (List jx_Op) := [
  [o_al 0 1, o_il 1 2, o_hL 81 2 8 [("java/lang/IllegalArgumentException", 6)] 5, o_bad, o_bad, o_rL, o_aj 2 7, o_lc (-2) 10, o_bad, o_bad, o_rL]]
def tb_164 : List (List jx_Op) := [
  [o_al 0 1, o_il 1 2, o_hL 97 2 8 [("java/util/NoSuchElementException", 6)] 5, o_bad, o_bad, o_rL, o_aj 2 7, o_lc (-2) 10, o_bad, o_bad, o_rL]]
def tb_165 : List (List jx_Op) := [
  [o_il 1 1, o_al 0 2, o_len 3, o_cge 12 6, o_bad, o_bad, o_al 0 7, o_il 1 8, o_lI 100 9, o_go 16, o_bad, o_bad, o_ic 40503 14, o_bad, o_il 1 15, o_b2 (fun x y => x * y) 16],
  [o_rI]]
def tb_166 : List (List jx_Op) := [
  [o_ic 0 1, o_is 2 2, o_il 2 3, o_al 1 4, o_cI 248 1 21 7, o_bad, o_bad, o_cge 34 10, o_bad, o_bad, o_al 0 11, o_al 1 12, o_il 2 13, o_cI 249 2 21 16, o_bad, o_bad],
  [o_cI 160 2 0 19, o_bad, o_bad, o_il 2 20, o_ic 1 21, o_b2 (fun x y => x + y) 22, o_ceq 28 25, o_bad, o_bad, o_ic (-9) 27, o_bad, o_rI, o_inc 2 1 31, o_bad, o_bad, o_go 2],
  [o_bad, o_bad, o_al 0 35, o_cI 161 1 0 38, o_bad, o_bad, o_rI]]
def tb_167 : List (List jx_Op) := [
  [o_il 0 1, o_ic 6 3, o_bad, o_rem 4, o_sw 52 [(0, 40), (1, 42), (2, 45), (3, 47), (4, 50)], o_bad, o_bad, o_bad, o_bad, o_bad, o_bad, o_bad, o_bad, o_bad, o_bad, o_bad],
  [o_bad, o_bad, o_bad, o_bad, o_bad, o_bad, o_bad, o_bad, o_bad, o_bad, o_bad, o_bad, o_bad, o_bad, o_bad, o_bad],
  [o_bad, o_bad, o_bad, o_bad, o_bad, o_bad, o_bad, o_bad, o_ic 3 41, o_rI, o_ic 12 44, o_bad, o_rI, o_ic 5 46, o_rI, o_ic 10 49],
  [o_bad, o_rI, o_ic 0 51, o_rI, o_il 0 53, o_ic 3 54, o_b2 (fun x y => (x.toUInt32 >>> (y.toUInt32 &&& Int32.toUInt32 31)).toInt32) 55, o_ic 16 57, o_bad, o_rem 58, o_rI]]
def tb_168 : List (List jx_Op) := [
  [o_new 7 [.null, .null, .int 0, .null, .null, .null, .null, .null, .int 0, .int 0, .int 0] 3, o_bad, o_bad, o_dup 4, o_cV 59 1 8 7, o_bad, o_bad, o_as 1 8, o_al 0 9, o_ic 0 10, o_cI 165 2 0 13, o_bad, o_bad, o_ic 1 14, o_b2 (fun x y => (x.toUInt32 >>> (y.toUInt32 &&& Int32.toUInt32 31)).toInt32) 15, o_is 2 16],
  [o_ic 4 17, o_il 2 18, o_ic 9 20, o_bad, o_rem 21, o_b2 (fun x y => x + y) 22, o_is 3 23, o_ic 0 24, o_is 4 26, o_bad, o_il 4 28, o_bad, o_il 3 29, o_cge 100 32, o_bad, o_bad],
  [o_al 0 33, o_ic 1 34, o_il 4 36, o_bad, o_b2 (fun x y => x + y) 37, o_cI 165 2 0 40, o_bad, o_bad, o_ic 1 41, o_b2 (fun x y => (x.toUInt32 >>> (y.toUInt32 &&& Int32.toUInt32 31)).toInt32) 42, o_is 5 44, o_bad, o_al 1 45, o_ic 97 47, o_bad, o_il 5 49],
  [o_bad, o_ic 3 50, o_rem 51, o_b2 (fun x y => x + y) 52, o_u (fun x => (x.toUInt32 % 65536).toInt32) 53, o_il 5 55, o_bad, o_ic 2 56, o_b2 (fun x y => (x.toUInt32 >>> (y.toUInt32 &&& Int32.toUInt32 31)).toInt32) 57, o_cI 167 1 0 60, o_bad, o_bad, o_il 5 62, o_bad, o_ic 8 64, o_bad],
  [o_b2 (fun x y => (x.toUInt32 >>> (y.toUInt32 &&& Int32.toUInt32 31)).toInt32) 65, o_cI 167 1 0 68, o_bad, o_bad, o_il 5 70, o_bad, o_ic 14 72, o_bad, o_b2 (fun x y => (x.toUInt32 >>> (y.toUInt32 &&& Int32.toUInt32 31)).toInt32) 73, o_cI 167 1 0 76, o_bad, o_bad, o_il 5 78, o_bad, o_ic 20 80, o_bad],
  [o_b2 (fun x y => (x.toUInt32 >>> (y.toUInt32 &&& Int32.toUInt32 31)).toInt32) 81, o_cI 167 1 0 84, o_bad, o_bad, o_cI 133 6 0 87, o_bad, o_bad, o_il 4 89, o_bad, o_ceq 94 92, o_bad, o_bad, o_nc 93, o_rA, o_inc 4 1 97, o_bad],
  [o_bad, o_go 26, o_bad, o_bad, o_ic 0 101, o_is 4 103, o_bad, o_il 4 105, o_bad, o_ic 9 107, o_bad, o_cge 233 110, o_bad, o_bad, o_al 0 111, o_ic 13 113],
  [o_bad, o_il 4 115, o_bad, o_b2 (fun x y => x + y) 116, o_cI 165 2 0 119, o_bad, o_bad, o_ic 1 120, o_b2 (fun x y => (x.toUInt32 >>> (y.toUInt32 &&& Int32.toUInt32 31)).toInt32) 121, o_is 5 123, o_bad, o_il 2 124, o_ic 4 125, o_b2 (fun x y => (x.toUInt32 >>> (y.toUInt32 &&& Int32.toUInt32 31)).toInt32) 126, o_ic 6 128, o_bad],
  [o_rem 129, o_il 5 131, o_bad, o_ic 4 132, o_b2 (fun x y => (x.toUInt32 >>> (y.toUInt32 &&& Int32.toUInt32 31)).toInt32) 133, o_ic 3 134, o_rem 135, o_b2 (fun x y => x + y) 136, o_is 6 138, o_bad, o_il 2 139, o_ic 7 141, o_bad, o_b2 (fun x y => (x.toUInt32 >>> (y.toUInt32 &&& Int32.toUInt32 31)).toInt32) 142, o_ic 6 144, o_bad],
  [o_rem 145, o_il 5 147, o_bad, o_ic 6 149, o_bad, o_b2 (fun x y => (x.toUInt32 >>> (y.toUInt32 &&& Int32.toUInt32 31)).toInt32) 150, o_ic 3 151, o_rem 152, o_b2 (fun x y => x + y) 153, o_is 7 155, o_bad, o_il 5 157, o_bad, o_ic 4 158, o_rem 159, o_ne 183 162],
  [o_bad, o_bad, o_al 1 163, o_il 5 165, o_bad, o_ic 9 167, o_bad, o_b2 (fun x y => (x.toUInt32 >>> (y.toUInt32 &&& Int32.toUInt32 31)).toInt32) 168, o_il 3 169, o_rem 170, o_il 5 172, o_bad, o_ic 13 174, o_bad, o_b2 (fun x y => (x.toUInt32 >>> (y.toUInt32 &&& Int32.toUInt32 31)).toInt32) 175, o_ic 4 176],
  [o_rem 177, o_cI 143 3 0 180, o_bad, o_bad, o_go 217, o_bad, o_bad, o_il 5 185, o_bad, o_ic 4 186, o_rem 187, o_ic 1 188, o_cne 202 191, o_bad, o_bad, o_al 1 192],
  [o_il 6 194, o_bad, o_il 7 196, o_bad, o_cI 145 3 0 199, o_bad, o_bad, o_go 217, o_bad, o_bad, o_al 1 203, o_il 5 205, o_bad, o_ic 9 207, o_bad, o_b2 (fun x y => (x.toUInt32 >>> (y.toUInt32 &&& Int32.toUInt32 31)).toInt32) 208],
  [o_il 3 209, o_rem 210, o_il 6 212, o_bad, o_il 7 214, o_bad, o_cI 141 4 0 217, o_bad, o_bad, o_is 8 219, o_bad, o_il 8 221, o_bad, o_ic (-1) 222, o_cne 227 225, o_bad],
  [o_bad, o_nc 226, o_rA, o_inc 4 1 230, o_bad, o_bad, o_go 103, o_bad, o_bad, o_il 2 234, o_ic 11 236, o_bad, o_b2 (fun x y => (x.toUInt32 >>> (y.toUInt32 &&& Int32.toUInt32 31)).toInt32) 237, o_ic 4 238, o_rem 239, o_ne 260 242],
  [o_bad, o_bad, o_al 1 243, o_il 2 244, o_ic 13 246, o_bad, o_b2 (fun x y => (x.toUInt32 >>> (y.toUInt32 &&& Int32.toUInt32 31)).toInt32) 247, o_il 3 248, o_rem 249, o_cI 142 2 0 252, o_bad, o_bad, o_ic (-1) 253, o_cne 260 256, o_bad, o_bad],
  [o_nc 257, o_go 261, o_bad, o_bad, o_al 1 261, o_rA]]
def tb_169 : List (List jx_Op) := [
  [o_al 0 1, o_il 1 2, o_il 3 3, o_ic 1 4, o_b2 (fun x y => x - y) 5, o_ic 2 6, o_rem 7, o_b2 (fun x y => x + y) 8, o_il 2 9, o_ic 2 10, o_il 3 11, o_b2 (fun x y => x - y) 12, o_ic 2 13, o_rem 14, o_b2 (fun x y => x + y) 15, o_cI 147 3 0 18],
  [o_bad, o_bad, o_rI]]
def tb_170 : List (List jx_Op) := [
  [o_ic 0 1, o_is 3 2, o_ic 0 3, o_is 4 5, o_bad, o_il 4 7, o_bad, o_ic 4 8, o_cge 38 11, o_bad, o_bad, o_il 3 12, o_ne 26 15, o_bad, o_bad, o_al 0 16],
  [o_il 1 17, o_il 2 18, o_il 4 20, o_bad, o_cI 169 4 0 23, o_bad, o_bad, o_lt 30 26, o_bad, o_bad, o_ic 1 27, o_go 31, o_bad, o_bad, o_ic 0 31, o_is 3 32],
  [o_inc 4 1 35, o_bad, o_bad, o_go 5, o_bad, o_bad, o_il 3 39, o_eq 56 42, o_bad, o_bad, o_al 0 43, o_il 1 44, o_il 2 45, o_cI 146 3 0 48, o_bad, o_bad],
  [o_ic 1 49, o_cne 56 52, o_bad, o_bad, o_ic 1 53, o_go 57, o_bad, o_bad, o_ic 0 57, o_rZ]]
def tb_171 : List (List jx_Op) := [
  [o_al 0 1, o_il 1 2, o_il 2 3, o_il 3 4, o_b2 (fun x y => x - y) 5, o_al 0 6, o_il 1 7, o_cI 67 2 8 10, o_bad, o_bad, o_b2 (fun x y => x + y) 11, o_ic 4 12, o_b2 (fun x y => x + y) 13, o_ic 4 14, o_rem 15, o_cI 68 3 8 18],
  [o_bad, o_bad, o_rI]]
def tb_172 : List (List jx_Op) := [
  [o_ic 0 1, o_is 5 3, o_bad, o_ic 0 4, o_is 6 6, o_bad, o_il 6 8, o_bad, o_ic 4 9, o_cge 99 12, o_bad, o_bad, o_al 0 13, o_il 2 14, o_il 3 15, o_il 6 17],
  [o_bad, o_cI 169 4 0 20, o_bad, o_bad, o_is 7 22, o_bad, o_il 7 24, o_bad, o_lt 93 27, o_bad, o_bad, o_al 0 28, o_il 7 30, o_bad, o_il 6 32, o_bad],
  [o_ic 2 33, o_b2 (fun x y => x + y) 34, o_ic 4 35, o_rem 36, o_cI 68 3 8 39, o_bad, o_bad, o_is 8 41, o_bad, o_il 5 43, o_bad, o_al 0 44, o_il 1 45, o_il 6 47, o_bad, o_il 4 49],
  [o_bad, o_cI 171 4 0 52, o_bad, o_bad, o_il 8 54, o_bad, o_b2 (fun x y => x ^^^ y) 55, o_ic 15 57, o_bad, o_cne 64 60, o_bad, o_bad, o_ic 4 61, o_go 66, o_bad, o_bad],
  [o_ic (-3) 66, o_bad, o_b2 (fun x y => x + y) 67, o_is 5 69, o_bad, o_il 5 71, o_bad, o_al 0 72, o_il 7 74, o_bad, o_cI 66 2 8 77, o_bad, o_bad, o_al 0 78, o_il 1 79, o_cI 66 2 8 82],
  [o_bad, o_bad, o_cne 89 85, o_bad, o_bad, o_ic 1 86, o_go 90, o_bad, o_bad, o_ic 0 90, o_b2 (fun x y => x + y) 91, o_is 5 93, o_bad, o_inc 6 1 96, o_bad, o_bad],
  [o_go 6, o_bad, o_bad, o_il 5 101, o_bad, o_rI]]
def tb_173 : List (List jx_Op) := [
  [o_ic 0 1, o_is 4 3, o_bad, o_ic 1 4, o_is 5 6, o_bad, o_il 5 8, o_bad, o_ic 4 9, o_cge 48 12, o_bad, o_bad, o_al 0 13, o_il 1 14, o_il 2 15, o_il 3 16],
  [o_il 5 18, o_bad, o_cI 172 5 0 21, o_bad, o_bad, o_al 0 22, o_il 1 23, o_il 2 24, o_il 3 25, o_il 4 27, o_bad, o_cI 172 5 0 30, o_bad, o_bad, o_cle 38 33, o_bad],
  [o_bad, o_il 5 35, o_bad, o_go 40, o_bad, o_bad, o_il 4 40, o_bad, o_is 4 42, o_bad, o_inc 5 1 45, o_bad, o_bad, o_go 6, o_bad, o_bad],
  [o_il 4 50, o_bad, o_rI]]
def tb_174 : List (List jx_Op) := [
  [o_al 0 1, o_il 1 2, o_il 2 3, o_il 3 4, o_al 0 5, o_il 1 6, o_il 2 7, o_il 3 8, o_cI 173 4 0 11, o_bad, o_bad, o_cI 172 5 0 14, o_bad, o_bad, o_rI]]
def tb_175 : List (List jx_Op) := [
  [o_ic (-13) 2, o_bad, o_is 3 3, o_ic 0 4, o_is 4 6, o_bad, o_il 4 8, o_bad, o_al 0 9, o_cI 63 1 8 12, o_bad, o_bad, o_cge 58 15, o_bad, o_bad, o_al 0 16],
  [o_il 4 18, o_bad, o_cI 64 2 8 21, o_bad, o_bad, o_is 5 23, o_bad, o_il 3 24, o_lt 45 27, o_bad, o_bad, o_al 0 28, o_il 5 30, o_bad, o_il 1 31, o_il 2 32],
  [o_cI 174 4 0 35, o_bad, o_bad, o_al 0 36, o_il 3 37, o_il 1 38, o_il 2 39, o_cI 174 4 0 42, o_bad, o_bad, o_cle 50 45, o_bad, o_bad, o_il 5 47, o_bad, o_go 51],
  [o_bad, o_bad, o_il 3 51, o_is 3 52, o_inc 4 1 55, o_bad, o_bad, o_go 6, o_bad, o_bad, o_il 3 59, o_rI]]
def tb_176 : List (List jx_Op) := [
  [o_al 0 1, o_il 1 2, o_il 2 3, o_cI 147 3 0 6, o_bad, o_bad, o_is 4 8, o_bad, o_al 0 9, o_il 1 10, o_il 2 11, o_il 3 12, o_cI 169 4 0 15, o_bad, o_bad, o_is 5 17],
  [o_bad, o_il 4 19, o_bad, o_lt 27 22, o_bad, o_bad, o_il 5 24, o_bad, o_ge 31 27, o_bad, o_bad, o_ic 0 28, o_go 60, o_bad, o_bad, o_al 0 32],
  [o_il 4 34, o_bad, o_il 3 35, o_cI 68 3 8 38, o_bad, o_bad, o_al 0 39, o_il 5 41, o_bad, o_il 3 42, o_ic 2 43, o_b2 (fun x y => x + y) 44, o_ic 4 45, o_rem 46, o_cI 68 3 8 49, o_bad],
  [o_bad, o_b2 (fun x y => x ^^^ y) 50, o_ic 15 52, o_bad, o_cne 59 55, o_bad, o_bad, o_ic 1 56, o_go 60, o_bad, o_bad, o_ic (-1) 60, o_rI]]
def tb_177 : List (List jx_Op) := [
  [o_ic 0 1, o_is 4 3, o_bad, o_ic 0 4, o_is 5 6, o_bad, o_il 5 8, o_bad, o_ic 4 9, o_cge 40 12, o_bad, o_bad, o_il 4 14, o_bad, o_al 0 15, o_il 1 16],
  [o_il 2 17, o_il 5 19, o_bad, o_cI 176 4 0 22, o_bad, o_bad, o_il 3 23, o_cne 30 26, o_bad, o_bad, o_ic 1 27, o_go 31, o_bad, o_bad, o_ic 0 31, o_b2 (fun x y => x + y) 32],
  [o_is 4 34, o_bad, o_inc 5 1 37, o_bad, o_bad, o_go 6, o_bad, o_bad, o_il 4 42, o_bad, o_rI]]
def tb_178 : List (List jx_Op) := [
  [o_ic 0 1, o_is 2 2, o_ic 0 3, o_is 3 4, o_il 3 5, o_ic 64 7, o_bad, o_cge 66 10, o_bad, o_bad, o_il 2 11, o_al 0 12, o_il 3 13, o_ic 8 15, o_bad, o_div 16],
  [o_il 3 17, o_ic 8 19, o_bad, o_rem 20, o_ic 1 21, o_cI 176 4 0 24, o_bad, o_bad, o_il 1 25, o_cne 32 28, o_bad, o_bad, o_ic 1 29, o_go 33, o_bad, o_bad],
  [o_ic 0 33, o_b2 (fun x y => x + y) 34, o_is 2 35, o_il 2 36, o_al 0 37, o_il 3 38, o_ic 8 40, o_bad, o_div 41, o_il 3 42, o_ic 8 44, o_bad, o_rem 45, o_ic 2 46, o_cI 176 4 0 49, o_bad],
  [o_bad, o_il 1 50, o_cne 57 53, o_bad, o_bad, o_ic 1 54, o_go 58, o_bad, o_bad, o_ic 0 58, o_b2 (fun x y => x + y) 59, o_is 2 60, o_inc 3 1 63, o_bad, o_bad, o_go 4],
  [o_bad, o_bad, o_il 2 67, o_rI]]
set_option maxRecDepth 20000 in
def tb_179 : List (List jx_Op) := [
  [o_ic 16 2, o_bad, o_na 105 (.int 0) 4, o_bad, o_as 1 5, o_ic 0 6, o_is 2 7, o_ic 0 8, o_is 3 9, o_ic 0 10, o_is 4 12, o_bad, o_ic (-1) 13, o_is 5 15, o_bad, o_il 5 17],
  [o_bad, o_ic 30 19, o_bad, o_cge 328 22, o_bad, o_bad, o_al 0 23, o_il 5 25, o_bad, o_cI 65 2 8 28, o_bad, o_bad, o_is 6 30, o_bad, o_il 3 31, o_il 6 33],
  [o_bad, o_eq 40 36, o_bad, o_bad, o_ic 1 37, o_go 41, o_bad, o_bad, o_ic 0 41, o_b2 (fun x y => x + y) 42, o_is 3 43, o_il 6 45, o_bad, o_al 0 46, o_il 5 48, o_bad],
  [o_cI 136 2 0 51, o_bad, o_bad, o_lt 58 54, o_bad, o_bad, o_ic 1 55, o_go 59, o_bad, o_bad, o_ic 0 59, o_cne 120 62, o_bad, o_bad, o_il 6 64, o_bad],
  [o_al 0 65, o_il 5 67, o_bad, o_cI 137 2 0 70, o_bad, o_bad, o_lt 77 73, o_bad, o_bad, o_ic 1 74, o_go 78, o_bad, o_bad, o_ic 0 78, o_cne 120 81, o_bad],
  [o_bad, o_il 6 83, o_bad, o_al 0 84, o_il 5 86, o_bad, o_cI 139 2 0 89, o_bad, o_bad, o_lt 96 92, o_bad, o_bad, o_ic 1 93, o_go 97, o_bad, o_bad],
  [o_ic 0 97, o_cne 120 100, o_bad, o_bad, o_il 6 102, o_bad, o_al 0 103, o_il 5 105, o_bad, o_ic 0 106, o_cI 138 3 0 109, o_bad, o_bad, o_lt 116 112, o_bad, o_bad],
  [o_ic 1 113, o_go 117, o_bad, o_bad, o_ic 0 117, o_ceq 122 120, o_bad, o_bad, o_ic 0 121, o_rZ, o_ic 0 123, o_is 7 125, o_bad, o_il 7 127, o_bad, o_ic 4 128],
  [o_cge 174 131, o_bad, o_bad, o_il 6 133, o_bad, o_eq 174 136, o_bad, o_bad, o_al 0 137, o_il 5 139, o_bad, o_il 7 141, o_bad, o_cI 138 3 0 144, o_bad, o_bad],
  [o_is 8 146, o_bad, o_il 4 148, o_bad, o_al 1 149, o_il 8 151, o_bad, o_lI 105 152, o_eq 159 155, o_bad, o_bad, o_ic 0 156, o_go 160, o_bad, o_bad, o_ic 1 160],
  [o_b2 (fun x y => x + y) 161, o_is 4 163, o_bad, o_al 1 164, o_il 8 166, o_bad, o_ic 1 167, o_sZ 105 168, o_inc 7 1 171, o_bad, o_bad, o_go 125, o_bad, o_bad, o_il 6 176, o_bad],
  [o_eq 264 179, o_bad, o_bad, o_al 0 180, o_il 5 182, o_bad, o_cI 69 2 8 185, o_bad, o_bad, o_ne 264 188, o_bad, o_bad, o_al 0 189, o_il 2 190, o_cI 135 2 0 193, o_bad],
  [o_bad, o_il 5 195, o_bad, o_cne 256 198, o_bad, o_bad, o_al 0 199, o_il 5 201, o_bad, o_cI 140 2 0 204, o_bad, o_bad, o_ic (-13) 206, o_bad, o_cne 256 209, o_bad],
  [o_bad, o_al 0 210, o_il 5 212, o_bad, o_ic 0 213, o_cI 148 3 0 216, o_bad, o_bad, o_ic (-13) 218, o_bad, o_cne 256 221, o_bad, o_bad, o_al 0 222, o_il 5 224, o_bad],
  [o_cI 149 2 0 227, o_bad, o_bad, o_ic (-13) 229, o_bad, o_cne 256 232, o_bad, o_bad, o_al 0 233, o_il 5 235, o_bad, o_cI 155 2 0 238, o_bad, o_bad, o_ic (-13) 240, o_bad],
  [o_cne 256 243, o_bad, o_bad, o_al 0 244, o_il 5 246, o_bad, o_cL 164 2 0 249, o_bad, o_bad, o_lc (-2) 252, o_bad, o_bad, o_lcmp 253, o_eq 258 256, o_bad, o_bad],
  [o_ic 0 257, o_rZ, o_inc 2 1 261, o_bad, o_bad, o_go 322, o_bad, o_bad, o_il 6 266, o_bad, o_eq 322 269, o_bad, o_bad, o_al 0 270, o_al 0 271, o_il 5 273],
  [o_bad, o_cI 140 2 0 276, o_bad, o_bad, o_ic 8 278, o_bad, o_div 279, o_al 0 280, o_il 5 282, o_bad, o_cI 140 2 0 285, o_bad, o_bad, o_ic 8 287, o_bad, o_rem 288],
  [o_cI 147 3 0 291, o_bad, o_bad, o_il 5 293, o_bad, o_cne 320 296, o_bad, o_bad, o_al 0 297, o_il 5 299, o_bad, o_ic 4 300, o_cI 138 3 0 303, o_bad, o_bad, o_ic (-12) 305],
  [o_bad, o_cne 320 308, o_bad, o_bad, o_al 0 309, o_il 5 311, o_bad, o_ic (-1) 312, o_cI 138 3 0 315, o_bad, o_bad, o_ic (-12) 317, o_bad, o_ceq 322 320, o_bad, o_bad],
  [o_ic 0 321, o_rZ, o_inc 5 1 325, o_bad, o_bad, o_go 15, o_bad, o_bad, o_al 0 329, o_cI 62 1 8 332, o_bad, o_bad, o_il 3 333, o_cne 389 336, o_bad, o_bad],
  [o_al 0 337, o_cI 63 1 8 340, o_bad, o_bad, o_il 2 341, o_cne 389 344, o_bad, o_bad, o_al 0 345, o_il 2 346, o_cI 135 2 0 349, o_bad, o_bad, o_ic (-11) 351, o_bad, o_cne 389 354],
  [o_bad, o_bad, o_al 0 355, o_ic (-1) 356, o_cI 135 2 0 359, o_bad, o_bad, o_ic (-11) 361, o_bad, o_cne 389 364, o_bad, o_bad, o_al 0 365, o_cI 71 1 8 368, o_bad, o_bad],
  [o_il 4 370, o_bad, o_cne 389 373, o_bad, o_bad, o_al 0 374, o_ic (-1) 375, o_ic 9 377, o_bad, o_cI 138 3 0 380, o_bad, o_bad, o_ic (-13) 382, o_bad, o_cne 389 385, o_bad],
  [o_bad, o_ic 1 386, o_go 390, o_bad, o_bad, o_ic 0 390, o_rZ]]
set_option maxRecDepth 20000 in
def tb_180 : List (List jx_Op) := [
  [o_lc 0 1, o_ls 1 2, o_lc 0 3, o_ls 3 4, o_ic 0 5, o_is 5 7, o_bad, o_ic 6 9, o_bad, o_na 102 (.long 0) 11, o_bad, o_as 6 13, o_bad, o_ic 0 14, o_is 7 16, o_bad],
  [o_il 7 18, o_bad, o_ic 64 20, o_bad, o_cge 285 23, o_bad, o_bad, o_il 7 25, o_bad, o_ic 8 27, o_bad, o_div 28, o_is 8 30, o_bad, o_il 7 32, o_bad],
  [o_ic 8 34, o_bad, o_rem 35, o_is 9 37, o_bad, o_al 0 38, o_il 8 40, o_bad, o_il 9 42, o_bad, o_cI 147 3 0 45, o_bad, o_bad, o_is 10 47, o_bad, o_al 0 48],
  [o_il 8 50, o_bad, o_il 9 52, o_bad, o_cI 170 3 0 55, o_bad, o_bad, o_is 11 57, o_bad, o_ll 1 58, o_il 10 60, o_bad, o_lt 70 63, o_bad, o_bad, o_lc 1 64],
  [o_il 7 66, o_bad, o_Sh (fun x y => x <<< (y.toInt64 &&& 63)) 67, o_go 71, o_bad, o_bad, o_lc 0 71, o_B2 (fun x y => x ||| y) 72, o_ls 1 73, o_ll 3 74, o_il 11 76, o_bad, o_eq 86 79, o_bad, o_bad, o_lc 1 80],
  [o_il 7 82, o_bad, o_Sh (fun x y => x <<< (y.toInt64 &&& 63)) 83, o_go 87, o_bad, o_bad, o_lc 0 87, o_B2 (fun x y => x ||| y) 88, o_ls 3 89, o_il 5 91, o_bad, o_il 11 93, o_bad, o_eq 100 96, o_bad, o_bad],
  [o_ic 1 97, o_go 101, o_bad, o_bad, o_ic 0 101, o_b2 (fun x y => x + y) 102, o_is 5 104, o_bad, o_il 10 106, o_bad, o_lt 175 109, o_bad, o_bad, o_al 6 111, o_bad, o_al 0 112],
  [o_il 10 114, o_bad, o_cI 136 2 0 117, o_bad, o_bad, o_ic 97 119, o_bad, o_b2 (fun x y => x - y) 120, o_d11 121, o_lL 102 122, o_lc 1 123, o_il 7 125, o_bad, o_Sh (fun x y => x <<< (y.toInt64 &&& 63)) 126, o_B2 (fun x y => x ||| y) 127, o_sL 102 128],
  [o_ic 0 129, o_is 12 131, o_bad, o_il 12 133, o_bad, o_ic 4 134, o_cge 175 137, o_bad, o_bad, o_al 0 138, o_il 10 140, o_bad, o_il 12 142, o_bad, o_cI 148 3 0 145, o_bad],
  [o_bad, o_al 0 146, o_il 8 148, o_bad, o_il 9 150, o_bad, o_il 12 152, o_bad, o_cI 176 4 0 155, o_bad, o_bad, o_ic 1 156, o_cne 163 159, o_bad, o_bad, o_ic 1 160],
  [o_go 164, o_bad, o_bad, o_ic 0 164, o_ceq 169 167, o_bad, o_bad, o_ic 0 168, o_rZ, o_inc 12 1 172, o_bad, o_bad, o_go 131, o_bad, o_bad, o_al 0 176],
  [o_il 8 178, o_bad, o_il 9 180, o_bad, o_ic 1 181, o_cI 177 4 0 184, o_bad, o_bad, o_al 0 185, o_il 8 187, o_bad, o_il 9 189, o_bad, o_ic (-1) 190, o_cI 177 4 0 193, o_bad],
  [o_bad, o_b2 (fun x y => x + y) 194, o_is 12 196, o_bad, o_al 0 197, o_il 8 199, o_bad, o_il 9 201, o_bad, o_cI 146 3 0 204, o_bad, o_bad, o_il 10 206, o_bad, o_ge 213 209, o_bad],
  [o_bad, o_ic 1 210, o_go 214, o_bad, o_bad, o_ic 0 214, o_cne 277 217, o_bad, o_bad, o_il 10 219, o_bad, o_lt 253 222, o_bad, o_bad, o_al 0 223, o_il 10 225],
  [o_bad, o_cI 149 2 0 228, o_bad, o_bad, o_al 0 229, o_il 8 231, o_bad, o_il 9 233, o_bad, o_ic (-1) 234, o_cI 177 4 0 237, o_bad, o_bad, o_cne 277 240, o_bad, o_bad],
  [o_al 0 241, o_il 8 243, o_bad, o_il 9 245, o_bad, o_cI 150 3 0 248, o_bad, o_bad, o_ic (-15) 250, o_bad, o_cne 277 253, o_bad, o_bad, o_il 11 255, o_bad, o_ne 271 258],
  [o_bad, o_bad, o_al 0 259, o_il 8 261, o_bad, o_il 9 263, o_bad, o_cI 150 3 0 266, o_bad, o_bad, o_ic (-15) 268, o_bad, o_cne 277 271, o_bad, o_bad, o_il 12 273],
  [o_bad, o_ic 4 274, o_cle 279 277, o_bad, o_bad, o_ic 0 278, o_rZ, o_inc 7 1 282, o_bad, o_bad, o_go 16, o_bad, o_bad, o_ic 0 286, o_is 7 288, o_bad],
  [o_il 7 290, o_bad, o_ic 6 292, o_bad, o_cge 322 295, o_bad, o_bad, o_al 0 296, o_ic 97 298, o_bad, o_il 7 300, o_bad, o_b2 (fun x y => x + y) 301, o_u (fun x => (x.toUInt32 % 65536).toInt32) 302, o_cL 163 2 0 305, o_bad],
  [o_bad, o_al 6 307, o_bad, o_il 7 309, o_bad, o_lL 102 310, o_lcmp 311, o_eq 316 314, o_bad, o_bad, o_ic 0 315, o_rZ, o_inc 7 1 319, o_bad, o_bad, o_go 288],
  [o_bad, o_bad, o_al 0 323, o_ic 1 324, o_cI 178 2 0 327, o_bad, o_bad, o_is 7 329, o_bad, o_al 0 330, o_ic (-1) 331, o_cI 178 2 0 334, o_bad, o_bad, o_is 8 336, o_bad],
  [o_al 0 337, o_cI 62 1 8 340, o_bad, o_bad, o_al 0 341, o_cI 63 1 8 344, o_bad, o_bad, o_b2 (fun x y => x - y) 345, o_is 9 347, o_bad, o_il 7 349, o_bad, o_il 8 351, o_bad, o_b2 (fun x y => x + y) 352],
  [o_eq 393 355, o_bad, o_bad, o_al 0 356, o_cF 99 1 8 359, o_bad, o_bad, o_il 7 361, o_bad, o_i2f 362, o_il 7 364, o_bad, o_il 8 366, o_bad, o_b2 (fun x y => x + y) 367, o_i2f 368],
  [o_F2 FP.fdiv 369, o_fcmp .l 370, o_ne 397 373, o_bad, o_bad, o_al 0 374, o_cI 100 1 8 377, o_bad, o_bad, o_il 7 379, o_bad, o_i2f 380, o_il 7 382, o_bad, o_il 8 384, o_bad],
  [o_b2 (fun x y => x + y) 385, o_i2f 386, o_F2 FP.fdiv 387, o_cI 243 1 0 390, o_bad, o_bad, o_cne 397 393, o_bad, o_bad, o_ic 1 394, o_go 398, o_bad, o_bad, o_ic 0 398, o_is 10 400, o_bad],
  [o_il 9 402, o_bad, o_eq 422 405, o_bad, o_bad, o_al 0 406, o_cD 101 1 8 409, o_bad, o_bad, o_ic 2 410, o_il 7 412, o_bad, o_b2 (fun x y => x * y) 413, o_i2d 414, o_il 9 416, o_bad],
  [o_i2d 417, o_D2 FP.ddiv 418, o_dcmp .l 419, o_ne 426 422, o_bad, o_bad, o_ic 1 423, o_go 427, o_bad, o_bad, o_ic 0 427, o_is 11 429, o_bad, o_il 10 431, o_bad, o_eq 556 434],
  [o_bad, o_bad, o_il 11 436, o_bad, o_eq 556 439, o_bad, o_bad, o_al 0 440, o_cL 80 1 8 443, o_bad, o_bad, o_ll 1 444, o_lcmp 445, o_ne 556 448, o_bad, o_bad],
  [o_al 0 449, o_cL 82 1 8 452, o_bad, o_bad, o_ll 3 453, o_lcmp 454, o_ne 556 457, o_bad, o_bad, o_al 0 458, o_cL 83 1 8 461, o_bad, o_bad, o_ll 3 462, o_lcmp 463, o_ne 556 466],
  [o_bad, o_bad, o_al 0 467, o_cI 84 1 8 470, o_bad, o_bad, o_il 5 472, o_bad, o_cne 556 475, o_bad, o_bad, o_al 0 476, o_cI 85 1 8 479, o_bad, o_bad, o_il 7 481],
  [o_bad, o_cne 556 484, o_bad, o_bad, o_al 0 485, o_cI 86 1 8 488, o_bad, o_bad, o_il 8 490, o_bad, o_cne 556 493, o_bad, o_bad, o_al 0 494, o_ic 103 496, o_bad],
  [o_cL 163 2 0 499, o_bad, o_bad, o_lc (-2) 502, o_bad, o_bad, o_lcmp 503, o_ne 556 506, o_bad, o_bad, o_al 0 507, o_ic 8 509, o_bad, o_ic 0 510, o_cI 147 3 0 513, o_bad],
  [o_bad, o_ic (-11) 515, o_bad, o_cne 556 518, o_bad, o_bad, o_al 0 519, o_ic 0 520, o_ic (-1) 521, o_cI 147 3 0 524, o_bad, o_bad, o_ic (-11) 526, o_bad, o_cne 556 529, o_bad],
  [o_bad, o_al 0 530, o_ic (-1) 531, o_ic 0 532, o_cI 146 3 0 535, o_bad, o_bad, o_ic (-11) 537, o_bad, o_cne 556 540, o_bad, o_bad, o_al 0 541, o_ic 0 542, o_ic 8 544, o_bad],
  [o_cI 150 3 0 547, o_bad, o_bad, o_ic (-11) 549, o_bad, o_cne 556 552, o_bad, o_bad, o_ic 1 553, o_go 557, o_bad, o_bad, o_ic 0 557, o_rZ]]
def tb_181 : List (List jx_Op) := [
  [o_ic 0 1, o_is 1 2, o_il 1 3, o_ic 64 5, o_bad, o_cge 69 8, o_bad, o_bad, o_il 1 9, o_ic 8 11, o_bad, o_div 12, o_is 2 13, o_il 1 14, o_ic 8 16, o_bad],
  [o_rem 17, o_is 3 18, o_al 0 19, o_il 2 20, o_il 3 21, o_cI 170 3 0 24, o_bad, o_bad, o_ne 52 27, o_bad, o_bad, o_al 0 28, o_il 2 29, o_il 3 30, o_cI 153 3 0 33, o_bad],
  [o_bad, o_ic (-15) 35, o_bad, o_cne 50 38, o_bad, o_bad, o_al 0 39, o_il 2 40, o_il 3 41, o_ic 0 42, o_cI 154 4 0 45, o_bad, o_bad, o_ic (-15) 47, o_bad, o_ceq 63 50],
  [o_bad, o_bad, o_ic 0 51, o_rZ, o_al 0 53, o_il 2 54, o_il 3 55, o_cI 182 3 0 58, o_bad, o_bad, o_ne 63 61, o_bad, o_bad, o_ic 0 62, o_rZ, o_inc 1 1 66],
  [o_bad, o_bad, o_go 2, o_bad, o_bad, o_al 0 70, o_ic (-1) 71, o_ic 9 73, o_bad, o_ic 0 74, o_ic 9 76, o_bad, o_cI 151 5 0 79, o_bad, o_bad, o_ic (-113) 81],
  [o_bad, o_cne 125 84, o_bad, o_bad, o_al 0 85, o_ic (-1) 86, o_ic 9 88, o_bad, o_ic 0 89, o_cI 152 4 0 92, o_bad, o_bad, o_ic (-13) 94, o_bad, o_cne 125 97, o_bad],
  [o_bad, o_al 0 98, o_ic 8 100, o_bad, o_ic 0 101, o_cI 153 3 0 104, o_bad, o_bad, o_ic (-11) 106, o_bad, o_cne 125 109, o_bad, o_bad, o_al 0 110, o_ic 0 111, o_ic (-1) 112],
  [o_ic 0 113, o_cI 154 4 0 116, o_bad, o_bad, o_ic (-11) 118, o_bad, o_cne 125 121, o_bad, o_bad, o_ic 1 122, o_go 126, o_bad, o_bad, o_ic 0 126, o_rZ]]
def tb_182 : List (List jx_Op) := [
  [o_ic 0 1, o_is 3 2, o_ic 0 3, o_is 4 5, o_bad, o_il 4 7, o_bad, o_ic 4 8, o_cge 36 11, o_bad, o_bad, o_il 3 12, o_al 0 13, o_il 1 14, o_il 2 15, o_il 4 17],
  [o_bad, o_cI 169 4 0 20, o_bad, o_bad, o_lt 27 23, o_bad, o_bad, o_ic 1 24, o_go 28, o_bad, o_bad, o_ic 0 28, o_b2 (fun x y => x + y) 29, o_is 3 30, o_inc 4 1 33, o_bad],
  [o_bad, o_go 5, o_bad, o_bad, o_al 0 37, o_cI 63 1 8 40, o_bad, o_bad, o_is 4 42, o_bad, o_ic 0 43, o_is 5 45, o_bad, o_il 5 47, o_bad, o_il 4 49],
  [o_bad, o_cge 222 52, o_bad, o_bad, o_al 0 53, o_il 5 55, o_bad, o_cI 64 2 8 58, o_bad, o_bad, o_is 6 60, o_bad, o_ic 0 61, o_is 7 63, o_bad, o_il 7 65],
  [o_bad, o_ic 4 66, o_cge 100 69, o_bad, o_bad, o_al 0 70, o_il 6 72, o_bad, o_il 1 73, o_il 2 74, o_il 7 76, o_bad, o_cI 151 5 0 79, o_bad, o_bad, o_al 0 80],
  [o_il 6 82, o_bad, o_il 1 83, o_il 2 84, o_il 7 86, o_bad, o_cI 172 5 0 89, o_bad, o_bad, o_ceq 94 92, o_bad, o_bad, o_ic 0 93, o_rZ, o_inc 7 1 97, o_bad],
  [o_bad, o_go 63, o_bad, o_bad, o_al 0 101, o_il 1 102, o_il 2 103, o_il 5 105, o_bad, o_cI 154 4 0 108, o_bad, o_bad, o_is 7 110, o_bad, o_il 5 112, o_bad],
  [o_ne 119 115, o_bad, o_bad, o_ic (-1) 116, o_go 129, o_bad, o_bad, o_al 0 120, o_il 1 121, o_il 2 122, o_il 5 124, o_bad, o_ic 1 125, o_b2 (fun x y => x - y) 126, o_cI 154 4 0 129, o_bad],
  [o_bad, o_is 8 131, o_bad, o_il 5 133, o_bad, o_ne 140 136, o_bad, o_bad, o_ic 1 137, o_go 157, o_bad, o_bad, o_al 0 141, o_il 8 143, o_bad, o_il 1 144],
  [o_il 2 145, o_cI 174 4 0 148, o_bad, o_bad, o_al 0 149, o_il 7 151, o_bad, o_il 1 152, o_il 2 153, o_cI 174 4 0 156, o_bad, o_bad, o_b2 (fun x y => x - y) 157, o_is 9 159, o_bad, o_al 0 160],
  [o_il 6 162, o_bad, o_il 1 163, o_il 2 164, o_cI 152 4 0 167, o_bad, o_bad, o_al 0 168, o_il 6 170, o_bad, o_il 1 171, o_il 2 172, o_cI 173 4 0 175, o_bad, o_bad, o_cne 214 178],
  [o_bad, o_bad, o_il 7 180, o_bad, o_lt 214 183, o_bad, o_bad, o_il 9 185, o_bad, o_lt 214 188, o_bad, o_bad, o_il 9 190, o_bad, o_ne 200 193, o_bad],
  [o_bad, o_il 8 195, o_bad, o_il 7 197, o_bad, o_cgt 214 200, o_bad, o_bad, o_al 0 201, o_il 6 203, o_bad, o_il 1 204, o_il 2 205, o_ic 4 206, o_cI 151 5 0 209, o_bad],
  [o_bad, o_ic (-112) 211, o_bad, o_ceq 216 214, o_bad, o_bad, o_ic 0 215, o_rZ, o_inc 5 1 219, o_bad, o_bad, o_go 45, o_bad, o_bad, o_al 0 223, o_il 1 224],
  [o_il 2 225, o_cI 150 3 0 228, o_bad, o_bad, o_il 3 229, o_cne 276 232, o_bad, o_bad, o_al 0 233, o_il 1 234, o_il 2 235, o_cI 153 3 0 238, o_bad, o_bad, o_al 0 239, o_il 1 240],
  [o_il 2 241, o_cI 175 3 0 244, o_bad, o_bad, o_cne 276 247, o_bad, o_bad, o_al 0 248, o_il 1 249, o_il 2 250, o_il 4 252, o_bad, o_cI 154 4 0 255, o_bad, o_bad, o_ic (-13) 257],
  [o_bad, o_cne 276 260, o_bad, o_bad, o_al 0 261, o_il 1 262, o_il 2 263, o_ic (-1) 264, o_cI 154 4 0 267, o_bad, o_bad, o_ic (-13) 269, o_bad, o_cne 276 272, o_bad, o_bad],
  [o_ic 1 273, o_go 277, o_bad, o_bad, o_ic 0 277, o_rZ]]
def tb_183 : List (List jx_Op) := [
  [o_lc 0 1, o_ls 1 2, o_ic 0 3, o_is 3 4, o_ic (-13) 6, o_bad, o_is 4 8, o_bad, o_ic 0 9, o_is 5 11, o_bad, o_il 5 13, o_bad, o_ic 64 15, o_bad, o_cge 120 18],
  [o_bad, o_bad, o_al 0 19, o_il 5 21, o_bad, o_ic 8 23, o_bad, o_div 24, o_il 5 26, o_bad, o_ic 8 28, o_bad, o_rem 29, o_cI 147 3 0 32, o_bad, o_bad],
  [o_is 6 34, o_bad, o_il 6 36, o_bad, o_lt 114 39, o_bad, o_bad, o_al 0 40, o_lc 1 41, o_il 5 43, o_bad, o_Sh (fun x y => x <<< (y.toInt64 &&& 63)) 44, o_cL 300 2 0 47, o_bad, o_bad, o_ls 7 49],
  [o_bad, o_ll 7 51, o_bad, o_cI 245 1 0 54, o_bad, o_bad, o_is 9 56, o_bad, o_il 3 57, o_ll 1 58, o_il 5 60, o_bad, o_Sh (fun x y => (x.toUInt64 >>> (y.toInt64.toUInt64 &&& Int64.toUInt64 63)).toInt64) 61, o_lc 1 62, o_B2 (fun x y => x &&& y) 63, o_lc 0 64],
  [o_lcmp 65, o_ne 72 68, o_bad, o_bad, o_ic 1 69, o_go 73, o_bad, o_bad, o_ic 0 73, o_b2 (fun x y => x + y) 74, o_is 3 75, o_ll 1 76, o_ll 7 78, o_bad, o_B2 (fun x y => x ||| y) 79, o_ls 1 80],
  [o_il 4 82, o_bad, o_il 9 84, o_bad, o_cI 246 2 0 87, o_bad, o_bad, o_is 4 89, o_bad, o_al 0 90, o_il 6 92, o_bad, o_cL 164 2 0 95, o_bad, o_bad, o_ll 7 97],
  [o_bad, o_lcmp 98, o_ne 112 101, o_bad, o_bad, o_al 0 102, o_il 6 104, o_bad, o_cI 155 2 0 107, o_bad, o_bad, o_il 9 109, o_bad, o_ceq 114 112, o_bad, o_bad],
  [o_ic 0 113, o_rZ, o_inc 5 1 117, o_bad, o_bad, o_go 11, o_bad, o_bad, o_al 0 121, o_cI 94 1 8 124, o_bad, o_bad, o_il 3 125, o_cne 179 128, o_bad, o_bad],
  [o_al 0 129, o_cI 95 1 8 132, o_bad, o_bad, o_il 3 133, o_cne 179 136, o_bad, o_bad, o_al 0 137, o_cI 156 1 0 140, o_bad, o_bad, o_il 4 142, o_bad, o_cne 179 145, o_bad],
  [o_bad, o_al 0 146, o_cI 102 1 8 149, o_bad, o_bad, o_eq 179 152, o_bad, o_bad, o_al 0 153, o_ic (-1) 154, o_cI 155 2 0 157, o_bad, o_bad, o_ic (-13) 159, o_bad, o_cne 179 162],
  [o_bad, o_bad, o_al 0 163, o_ic 99 165, o_bad, o_cL 164 2 0 168, o_bad, o_bad, o_lc (-2) 171, o_bad, o_bad, o_lcmp 172, o_ne 179 175, o_bad, o_bad, o_ic 1 176],
  [o_go 180, o_bad, o_bad, o_ic 0 180, o_rZ]]
def tb_184 : List (List jx_Op) := [
  [o_il 1 1, o_al 2 2, o_cI 248 1 21 5, o_bad, o_bad, o_cne 12 8, o_bad, o_bad, o_ic 1 9, o_go 13, o_bad, o_bad, o_ic 0 13, o_is 3 14, o_ic 0 15, o_is 4 17],
  [o_bad, o_il 4 19, o_bad, o_al 2 20, o_cI 248 1 21 23, o_bad, o_bad, o_cge 57 26, o_bad, o_bad, o_il 3 27, o_eq 57 30, o_bad, o_bad, o_al 0 31, o_il 4 33],
  [o_bad, o_cI 159 2 0 36, o_bad, o_bad, o_al 2 37, o_il 4 39, o_bad, o_cI 249 2 21 42, o_bad, o_bad, o_cne 49 45, o_bad, o_bad, o_ic 1 46, o_go 50, o_bad],
  [o_bad, o_ic 0 50, o_is 3 51, o_inc 4 1 54, o_bad, o_bad, o_go 17, o_bad, o_bad, o_il 3 58, o_eq 75 61, o_bad, o_bad, o_al 0 62, o_il 1 63, o_cI 159 2 0 66],
  [o_bad, o_bad, o_ic (-11) 68, o_bad, o_cne 75 71, o_bad, o_bad, o_ic 1 72, o_go 76, o_bad, o_bad, o_ic 0 76, o_rZ]]
def tb_185 : List (List jx_Op) := [
  [o_ic 0 1, o_is 1 2, o_il 1 3, o_ic 8 5, o_bad, o_cge 103 8, o_bad, o_bad, o_rc 30 11, o_bad, o_bad, o_as 2 12, o_ic 0 13, o_is 3 14, o_il 3 15, o_ic 8 17],
  [o_bad, o_cge 82 20, o_bad, o_bad, o_al 0 21, o_il 1 22, o_il 3 23, o_cI 147 3 0 26, o_bad, o_bad, o_is 4 28, o_bad, o_new 8 [.null, .int 0, .int 0, .int 0] 31, o_bad, o_bad, o_dup 32],
  [o_cV 255 1 9 35, o_bad, o_bad, o_al 2 36, o_cA 257 2 9 39, o_bad, o_bad, o_il 4 41, o_bad, o_lt 53 44, o_bad, o_bad, o_al 0 45, o_il 4 47, o_bad, o_cI 66 2 8 50],
  [o_bad, o_bad, o_go 69, o_bad, o_bad, o_al 0 54, o_il 1 55, o_il 3 56, o_cI 170 3 0 59, o_bad, o_bad, o_eq 67 62, o_bad, o_bad, o_ic 43 64, o_bad],
  [o_go 69, o_bad, o_bad, o_ic 46 69, o_bad, o_cA 258 2 9 72, o_bad, o_bad, o_cA 260 1 9 75, o_bad, o_bad, o_as 2 76, o_inc 3 1 79, o_bad, o_bad, o_go 14],
  [o_bad, o_bad, o_al 0 83, o_al 0 84, o_il 1 85, o_cI 157 2 0 88, o_bad, o_bad, o_al 2 89, o_cI 184 3 0 92, o_bad, o_bad, o_ne 97 95, o_bad, o_bad, o_ic 0 96],
  [o_rZ, o_inc 1 1 100, o_bad, o_bad, o_go 2, o_bad, o_bad, o_ic 0 104, o_is 1 105, o_il 1 106, o_ic 30 108, o_bad, o_cge 270 111, o_bad, o_bad, o_al 0 112],
  [o_il 1 113, o_cI 65 2 8 116, o_bad, o_bad, o_eq 264 119, o_bad, o_bad, o_new 8 [.null, .int 0, .int 0, .int 0] 122, o_bad, o_bad, o_dup 123, o_cV 255 1 9 126, o_bad, o_bad, o_rc 30 129, o_bad],
  [o_bad, o_cA 257 2 9 132, o_bad, o_bad, o_al 0 133, o_il 1 134, o_cI 66 2 8 137, o_bad, o_bad, o_cA 258 2 9 140, o_bad, o_bad, o_cA 260 1 9 143, o_bad, o_bad, o_as 2 144],
  [o_ic 0 145, o_is 3 146, o_il 3 147, o_ic 4 148, o_cge 187 151, o_bad, o_bad, o_new 8 [.null, .int 0, .int 0, .int 0] 154, o_bad, o_bad, o_dup 155, o_cV 255 1 9 158, o_bad, o_bad, o_al 2 159, o_cA 257 2 9 162],
  [o_bad, o_bad, o_rc 31 165, o_bad, o_bad, o_al 0 166, o_il 1 167, o_il 3 168, o_cI 68 3 8 171, o_bad, o_bad, o_cI 249 2 21 174, o_bad, o_bad, o_cA 258 2 9 177, o_bad],
  [o_bad, o_cA 260 1 9 180, o_bad, o_bad, o_as 2 181, o_inc 3 1 184, o_bad, o_bad, o_go 146, o_bad, o_bad, o_al 0 188, o_il 1 189, o_cI 140 2 0 192, o_bad, o_bad],
  [o_is 3 193, o_al 0 194, o_al 0 195, o_il 1 196, o_cI 158 2 0 199, o_bad, o_bad, o_new 8 [.null, .int 0, .int 0, .int 0] 202, o_bad, o_bad, o_dup 203, o_cV 255 1 9 206, o_bad, o_bad, o_al 2 207, o_cA 257 2 9 210],
  [o_bad, o_bad, o_il 3 211, o_ge 220 214, o_bad, o_bad, o_rc 30 217, o_bad, o_bad, o_go 250, o_bad, o_bad, o_new 8 [.null, .int 0, .int 0, .int 0] 223, o_bad, o_bad, o_dup 224],
  [o_cV 255 1 9 227, o_bad, o_bad, o_rc 32 230, o_bad, o_bad, o_cA 257 2 9 233, o_bad, o_bad, o_il 3 234, o_ic 8 236, o_bad, o_div 237, o_cA 259 2 9 240, o_bad, o_bad],
  [o_il 3 241, o_ic 8 243, o_bad, o_rem 244, o_cA 259 2 9 247, o_bad, o_bad, o_cA 260 1 9 250, o_bad, o_bad, o_cA 257 2 9 253, o_bad, o_bad, o_cA 260 1 9 256, o_bad, o_bad],
  [o_cI 184 3 0 259, o_bad, o_bad, o_ne 264 262, o_bad, o_bad, o_ic 0 263, o_rZ, o_inc 1 1 267, o_bad, o_bad, o_go 105, o_bad, o_bad, o_al 0 271, o_ic 8 273],
  [o_bad, o_cI 157 2 0 276, o_bad, o_bad, o_ic (-11) 278, o_bad, o_cne 305 281, o_bad, o_bad, o_al 0 282, o_ic (-1) 283, o_cI 157 2 0 286, o_bad, o_bad, o_ic (-11) 288, o_bad],
  [o_cne 305 291, o_bad, o_bad, o_al 0 292, o_ic (-1) 293, o_cI 158 2 0 296, o_bad, o_bad, o_ic (-13) 298, o_bad, o_cne 305 301, o_bad, o_bad, o_ic 1 302, o_go 306, o_bad],
  [o_bad, o_ic 0 306, o_rZ]]
def tb_186 : List (List jx_Op) := [
  [o_al 0 1, o_cL 80 1 8 4, o_bad, o_bad, o_ls 1 5, o_ic 0 6, o_is 3 7, o_il 3 8, o_ic 40 10, o_bad, o_cge 102 13, o_bad, o_bad, o_al 0 14, o_il 3 15, o_cI 65 2 8 18],
  [o_bad, o_bad, o_eq 96 21, o_bad, o_bad, o_lc 31 24, o_bad, o_bad, o_ll 1 25, o_B2 (fun x y => x * y) 26, o_il 3 27, o_i2l 28, o_B2 (fun x y => x + y) 29, o_ls 1 30, o_lc 37 33, o_bad],
  [o_bad, o_ll 1 34, o_B2 (fun x y => x * y) 35, o_ic 10 37, o_bad, o_al 0 38, o_il 3 39, o_cI 66 2 8 42, o_bad, o_bad, o_b2 (fun x y => x * y) 43, o_i2l 44, o_B2 (fun x y => x + y) 45, o_al 0 46, o_il 3 47, o_cI 67 2 8 50],
  [o_bad, o_bad, o_i2l 51, o_B2 (fun x y => x + y) 52, o_ls 1 53, o_lc 41 56, o_bad, o_bad, o_ll 1 57, o_B2 (fun x y => x * y) 58, o_al 0 59, o_il 3 60, o_cI 140 2 0 63, o_bad, o_bad, o_i2l 64],
  [o_B2 (fun x y => x + y) 65, o_ls 1 66, o_ic 0 67, o_is 4 69, o_bad, o_il 4 71, o_bad, o_ic 4 72, o_cge 96 75, o_bad, o_bad, o_lc 17 78, o_bad, o_bad, o_ll 1 79, o_B2 (fun x y => x * y) 80],
  [o_al 0 81, o_il 3 82, o_il 4 84, o_bad, o_cI 68 3 8 87, o_bad, o_bad, o_i2l 88, o_B2 (fun x y => x + y) 89, o_ls 1 90, o_inc 4 1 93, o_bad, o_bad, o_go 69, o_bad, o_bad],
  [o_inc 3 1 99, o_bad, o_bad, o_go 7, o_bad, o_bad, o_ll 1 103, o_rL]]
set_option maxRecDepth 20000 in
def tb_187 : List (List jx_Op) := [
  [o_ic 9 2, o_bad, o_na 102 (.long 0) 4, o_bad, o_as 2 5, o_ic 0 6, o_is 3 7, o_ic 0 8, o_is 4 10, o_bad, o_il 4 12, o_bad, o_ic 7 14, o_bad, o_cge 406 17, o_bad],
  [o_bad, o_al 0 18, o_ic 22 20, o_bad, o_il 4 22, o_bad, o_b2 (fun x y => x + y) 23, o_cI 165 2 0 26, o_bad, o_bad, o_ic 1 27, o_b2 (fun x y => (x.toUInt32 >>> (y.toUInt32 &&& Int32.toUInt32 31)).toInt32) 28, o_is 5 30, o_bad, o_il 5 32, o_bad],
  [o_ic 4 33, o_b2 (fun x y => (x.toUInt32 >>> (y.toUInt32 &&& Int32.toUInt32 31)).toInt32) 34, o_is 6 36, o_bad, o_al 2 37, o_il 3 38, o_al 1 39, o_cL 186 1 0 42, o_bad, o_bad, o_sL 102 43, o_il 5 45, o_bad, o_ic 10 47, o_bad, o_rem 48],
  [o_sw 273 [(0, 100), (1, 145), (2, 159), (3, 159), (4, 188), (5, 202), (6, 222), (7, 243), (8, 264)], o_bad, o_bad, o_bad, o_bad, o_bad, o_bad, o_bad, o_bad, o_bad, o_bad, o_bad, o_bad, o_bad, o_bad, o_bad],
  [o_bad, o_bad, o_bad, o_bad, o_bad, o_bad, o_bad, o_bad, o_bad, o_bad, o_bad, o_bad, o_bad, o_bad, o_bad, o_bad],
  [o_bad, o_bad, o_bad, o_bad, o_bad, o_bad, o_bad, o_bad, o_bad, o_bad, o_bad, o_bad, o_bad, o_bad, o_bad, o_bad],
  [o_bad, o_bad, o_bad, o_bad, o_al 1 101, o_ic 97 103, o_bad, o_il 6 105, o_bad, o_ic 7 107, o_bad, o_rem 108, o_b2 (fun x y => x + y) 109, o_u (fun x => (x.toUInt32 % 65536).toInt32) 110, o_il 6 112, o_bad],
  [o_ic 17 114, o_bad, o_rem 115, o_il 6 117, o_bad, o_ic 3 118, o_b2 (fun x y => (x.toUInt32 >>> (y.toUInt32 &&& Int32.toUInt32 31)).toInt32) 119, o_ic 16 121, o_bad, o_rem 122, o_il 6 124, o_bad, o_ic 5 125, o_b2 (fun x y => (x.toUInt32 >>> (y.toUInt32 &&& Int32.toUInt32 31)).toInt32) 126, o_ic 16 128, o_bad],
  [o_rem 129, o_il 6 131, o_bad, o_ic 7 133, o_bad, o_b2 (fun x y => (x.toUInt32 >>> (y.toUInt32 &&& Int32.toUInt32 31)).toInt32) 134, o_ic 16 136, o_bad, o_rem 137, o_cI 133 6 0 140, o_bad, o_bad, o_is 7 142, o_bad, o_go 369, o_bad],
  [o_bad, o_al 1 146, o_il 6 148, o_bad, o_ic 14 150, o_bad, o_rem 151, o_cI 134 2 0 154, o_bad, o_bad, o_is 7 156, o_bad, o_go 369, o_bad, o_bad, o_al 1 160],
  [o_il 6 162, o_bad, o_ic 14 164, o_bad, o_rem 165, o_il 6 167, o_bad, o_ic 4 168, o_b2 (fun x y => (x.toUInt32 >>> (y.toUInt32 &&& Int32.toUInt32 31)).toInt32) 169, o_ic 9 171, o_bad, o_rem 172, o_il 6 174, o_bad, o_ic 8 176, o_bad],
  [o_b2 (fun x y => (x.toUInt32 >>> (y.toUInt32 &&& Int32.toUInt32 31)).toInt32) 177, o_ic 9 179, o_bad, o_rem 180, o_cI 141 4 0 183, o_bad, o_bad, o_is 7 185, o_bad, o_go 369, o_bad, o_bad, o_al 1 189, o_il 6 191, o_bad, o_ic 14 193],
  [o_bad, o_rem 194, o_cI 142 2 0 197, o_bad, o_bad, o_is 7 199, o_bad, o_go 369, o_bad, o_bad, o_al 1 203, o_il 6 205, o_bad, o_ic 14 207, o_bad, o_rem 208],
  [o_il 6 210, o_bad, o_ic 4 211, o_b2 (fun x y => (x.toUInt32 >>> (y.toUInt32 &&& Int32.toUInt32 31)).toInt32) 212, o_ic 5 213, o_rem 214, o_cI 143 3 0 217, o_bad, o_bad, o_is 7 219, o_bad, o_go 369, o_bad, o_bad, o_al 1 223, o_il 6 225],
  [o_bad, o_ic 14 227, o_bad, o_rem 228, o_il 6 230, o_bad, o_ic 4 231, o_b2 (fun x y => (x.toUInt32 >>> (y.toUInt32 &&& Int32.toUInt32 31)).toInt32) 232, o_ic 14 234, o_bad, o_rem 235, o_cI 144 3 0 238, o_bad, o_bad, o_is 7 240, o_bad],
  [o_go 369, o_bad, o_bad, o_al 1 244, o_il 6 246, o_bad, o_ic 9 248, o_bad, o_rem 249, o_il 6 251, o_bad, o_ic 4 252, o_b2 (fun x y => (x.toUInt32 >>> (y.toUInt32 &&& Int32.toUInt32 31)).toInt32) 253, o_ic 9 255, o_bad, o_rem 256],
  [o_cI 145 3 0 259, o_bad, o_bad, o_is 7 261, o_bad, o_go 369, o_bad, o_bad, o_al 1 265, o_cI 77 1 8 268, o_bad, o_bad, o_is 7 270, o_bad, o_go 369, o_bad],
  [o_bad, o_al 1 274, o_new 8 [.null, .int 0, .int 0, .int 0] 277, o_bad, o_bad, o_dup 278, o_cV 255 1 9 281, o_bad, o_bad, o_rc 33 284, o_bad, o_bad, o_cA 257 2 9 287, o_bad, o_bad, o_il 6 289],
  [o_bad, o_ic 13 291, o_bad, o_rem 292, o_cA 259 2 9 295, o_bad, o_bad, o_rc 34 298, o_bad, o_bad, o_cA 257 2 9 301, o_bad, o_bad, o_il 6 303, o_bad, o_ic 4 304],
  [o_b2 (fun x y => (x.toUInt32 >>> (y.toUInt32 &&& Int32.toUInt32 31)).toInt32) 305, o_ic 5 306, o_rem 307, o_cA 259 2 9 310, o_bad, o_bad, o_rc 35 313, o_bad, o_bad, o_cA 257 2 9 316, o_bad, o_bad, o_il 6 318, o_bad, o_ic 7 320, o_bad],
  [o_b2 (fun x y => (x.toUInt32 >>> (y.toUInt32 &&& Int32.toUInt32 31)).toInt32) 321, o_ic 13 323, o_bad, o_rem 324, o_cA 259 2 9 327, o_bad, o_bad, o_rc 32 330, o_bad, o_bad, o_cA 257 2 9 333, o_bad, o_bad, o_il 6 335, o_bad, o_ic 11 337],
  [o_bad, o_b2 (fun x y => (x.toUInt32 >>> (y.toUInt32 &&& Int32.toUInt32 31)).toInt32) 338, o_ic 9 340, o_bad, o_rem 341, o_cA 259 2 9 344, o_bad, o_bad, o_il 6 346, o_bad, o_ic 15 348, o_bad, o_b2 (fun x y => (x.toUInt32 >>> (y.toUInt32 &&& Int32.toUInt32 31)).toInt32) 349, o_ic 8 351, o_bad, o_rem 352],
  [o_cA 259 2 9 355, o_bad, o_bad, o_rc 36 358, o_bad, o_bad, o_cA 257 2 9 361, o_bad, o_bad, o_cA 260 1 9 364, o_bad, o_bad, o_cI 166 2 0 367, o_bad, o_bad, o_is 7 369],
  [o_bad, o_il 7 371, o_bad, o_ge 387 374, o_bad, o_bad, o_al 1 375, o_cL 186 1 0 378, o_bad, o_bad, o_al 2 379, o_il 3 380, o_lL 102 381, o_lcmp 382, o_eq 387 385, o_bad],
  [o_bad, o_ic 0 386, o_rZ, o_il 3 388, o_il 7 390, o_bad, o_ge 397 393, o_bad, o_bad, o_ic 0 394, o_go 398, o_bad, o_bad, o_ic 1 398, o_b2 (fun x y => x + y) 399, o_is 3 400],
  [o_inc 4 1 403, o_bad, o_bad, o_go 10, o_bad, o_bad, o_al 1 407, o_cI 111 1 8 410, o_bad, o_bad, o_is 4 412, o_bad, o_il 3 413, o_ic 1 414, o_b2 (fun x y => x - y) 415, o_is 5 417],
  [o_bad, o_il 5 419, o_bad, o_lt 454 422, o_bad, o_bad, o_inc 4 (-1) 425, o_bad, o_bad, o_al 1 426, o_cI 162 1 0 429, o_bad, o_bad, o_il 4 431, o_bad, o_cne 446 434],
  [o_bad, o_bad, o_al 1 435, o_cL 186 1 0 438, o_bad, o_bad, o_al 2 439, o_il 5 441, o_bad, o_lL 102 442, o_lcmp 443, o_eq 448 446, o_bad, o_bad, o_ic 0 447, o_rZ],
  [o_inc 5 (-1) 451, o_bad, o_bad, o_go 417, o_bad, o_bad, o_ic 1 455, o_rZ]]
def tb_188 : List (List jx_Op) := [
  [o_al 0 1, o_cN 168 1 0 4, o_bad, o_bad, o_as 1 5, o_al 1 6, o_nul 56 9, o_bad, o_bad, o_al 1 10, o_cI 179 1 0 13, o_bad, o_bad, o_eq 56 16, o_bad, o_bad],
  [o_al 1 17, o_cI 180 1 0 20, o_bad, o_bad, o_eq 56 23, o_bad, o_bad, o_al 1 24, o_cI 181 1 0 27, o_bad, o_bad, o_eq 56 30, o_bad, o_bad, o_al 1 31, o_cI 183 1 0 34],
  [o_bad, o_bad, o_eq 56 37, o_bad, o_bad, o_al 1 38, o_cI 185 1 0 41, o_bad, o_bad, o_eq 56 44, o_bad, o_bad, o_al 0 45, o_al 1 46, o_cI 187 2 0 49, o_bad],
  [o_bad, o_eq 56 52, o_bad, o_bad, o_ic 1 53, o_go 57, o_bad, o_bad, o_ic 0 57, o_rZ]]
def tb_241 : List (List jx_Op) := [
  [o_al 0 1, o_gI 21 0 4, o_bad, o_bad, o_rI]]
def tb_242 : List (List jx_Op) := [
  [o_fl 0 1, o_fl 0 2, o_fcmp .l 3, o_eq 10 6, o_bad, o_bad, o_ic 1 7, o_go 11, o_bad, o_bad, o_ic 0 11, o_rZ]]
def tb_243 : List (List jx_Op) := [
  [o_fl 0 1, o_cI 242 1 0 4, o_bad, o_bad, o_ne 12 7, o_bad, o_bad, o_fl 0 8, o_raw 11, o_bad, o_bad, o_rI, o_ic 2143289344 14, o_bad, o_rI]]
def tb_244 : List (List jx_Op) := [
  [o_il 0 1, o_il 0 2, o_ic 1 3, o_b2 (fun x y => (x.toUInt32 >>> (y.toUInt32 &&& Int32.toUInt32 31)).toInt32) 4, o_ic 1431655765 7, o_bad, o_bad, o_b2 (fun x y => x &&& y) 8, o_b2 (fun x y => x - y) 9, o_is 0 10, o_il 0 11, o_ic 858993459 14, o_bad, o_bad, o_b2 (fun x y => x &&& y) 15, o_il 0 16],
  [o_ic 2 17, o_b2 (fun x y => (x.toUInt32 >>> (y.toUInt32 &&& Int32.toUInt32 31)).toInt32) 18, o_ic 858993459 21, o_bad, o_bad, o_b2 (fun x y => x &&& y) 22, o_b2 (fun x y => x + y) 23, o_is 0 24, o_il 0 25, o_il 0 26, o_ic 4 27, o_b2 (fun x y => (x.toUInt32 >>> (y.toUInt32 &&& Int32.toUInt32 31)).toInt32) 28, o_b2 (fun x y => x + y) 29, o_ic 252645135 32, o_bad, o_bad],
  [o_b2 (fun x y => x &&& y) 33, o_is 0 34, o_il 0 35, o_il 0 36, o_ic 8 38, o_bad, o_b2 (fun x y => (x.toUInt32 >>> (y.toUInt32 &&& Int32.toUInt32 31)).toInt32) 39, o_b2 (fun x y => x + y) 40, o_is 0 41, o_il 0 42, o_il 0 43, o_ic 16 45, o_bad, o_b2 (fun x y => (x.toUInt32 >>> (y.toUInt32 &&& Int32.toUInt32 31)).toInt32) 46, o_b2 (fun x y => x + y) 47, o_is 0 48],
  [o_il 0 49, o_ic 63 51, o_bad, o_b2 (fun x y => x &&& y) 52, o_rI]]
def tb_245 : List (List jx_Op) := [
  [o_ll 0 1, o_ll 0 2, o_ic 1 3, o_Sh (fun x y => (x.toUInt64 >>> (y.toInt64.toUInt64 &&& Int64.toUInt64 63)).toInt64) 4, o_lc 6148914691236517205 7, o_bad, o_bad, o_B2 (fun x y => x &&& y) 8, o_B2 (fun x y => x - y) 9, o_ls 0 10, o_ll 0 11, o_lc 3689348814741910323 14, o_bad, o_bad, o_B2 (fun x y => x &&& y) 15, o_ll 0 16],
  [o_ic 2 17, o_Sh (fun x y => (x.toUInt64 >>> (y.toInt64.toUInt64 &&& Int64.toUInt64 63)).toInt64) 18, o_lc 3689348814741910323 21, o_bad, o_bad, o_B2 (fun x y => x &&& y) 22, o_B2 (fun x y => x + y) 23, o_ls 0 24, o_ll 0 25, o_ll 0 26, o_ic 4 27, o_Sh (fun x y => (x.toUInt64 >>> (y.toInt64.toUInt64 &&& Int64.toUInt64 63)).toInt64) 28, o_B2 (fun x y => x + y) 29, o_lc 1085102592571150095 32, o_bad, o_bad],
  [o_B2 (fun x y => x &&& y) 33, o_ls 0 34, o_ll 0 35, o_ll 0 36, o_ic 8 38, o_bad, o_Sh (fun x y => (x.toUInt64 >>> (y.toInt64.toUInt64 &&& Int64.toUInt64 63)).toInt64) 39, o_B2 (fun x y => x + y) 40, o_ls 0 41, o_ll 0 42, o_ll 0 43, o_ic 16 45, o_bad, o_Sh (fun x y => (x.toUInt64 >>> (y.toInt64.toUInt64 &&& Int64.toUInt64 63)).toInt64) 46, o_B2 (fun x y => x + y) 47, o_ls 0 48],
  [o_ll 0 49, o_ll 0 50, o_ic 32 52, o_bad, o_Sh (fun x y => (x.toUInt64 >>> (y.toInt64.toUInt64 &&& Int64.toUInt64 63)).toInt64) 53, o_B2 (fun x y => x + y) 54, o_ls 0 55, o_ll 0 56, o_l2i 57, o_ic 127 59, o_bad, o_b2 (fun x y => x &&& y) 60, o_rI]]
def tb_246 : List (List jx_Op) := [
  [o_il 0 1, o_il 1 2, o_clt 9 5, o_bad, o_bad, o_il 0 6, o_go 10, o_bad, o_bad, o_il 1 10, o_rI]]
def tb_247 : List (List jx_Op) := [
  [o_il 0 1, o_il 1 2, o_cgt 9 5, o_bad, o_bad, o_il 0 6, o_go 10, o_bad, o_bad, o_il 1 10, o_rI]]
def tb_248 : List (List jx_Op) := [
  [o_al 0 1, o_gA 20 0 4, o_bad, o_bad, o_len 5, o_al 0 6, o_cI 250 1 21 9, o_bad, o_bad, o_b2 (fun x y => x >>> (y &&& 31)) 10, o_rI]]
def tb_249 : List (List jx_Op) := [
  [o_al 0 1, o_cI 251 1 21 4, o_bad, o_bad, o_eq 16 7, o_bad, o_bad, o_al 0 8, o_gA 20 0 11, o_bad, o_bad, o_il 1 12, o_cI 253 2 0 15, o_bad, o_bad, o_rC],
  [o_al 0 17, o_gA 20 0 20, o_bad, o_bad, o_il 1 21, o_bad, o_bad, o_bad, o_bad]]
def tb_250 : List (List jx_Op) := [
  [o_ic 1 3, o_bad, o_bad, o_eq 13 6, o_bad, o_bad, o_al 0 7, o_gI 20 1 10, o_bad, o_bad, o_go 14, o_bad, o_bad, o_ic 1 14, o_rB]]
def tb_251 : List (List jx_Op) := [
  [o_ic 1 3, o_bad, o_bad, o_eq 17 6, o_bad, o_bad, o_al 0 7, o_gI 20 1 10, o_bad, o_bad, o_ne 17 13, o_bad, o_bad, o_ic 1 14, o_go 18, o_bad],
  [o_bad, o_ic 0 18, o_rZ]]
def tb_252 : List (List jx_Op) := [
  [o_il 0 1, o_il 1 2, o_jc 5, o_bad, o_bad, o_cI 254 3 0 8, o_bad, o_bad, o_pop 9, o_rV]]
def tb_253 : List (List jx_Op) := [
  [o_il 1 1, o_al 0 2, o_len 3, o_cV 252 2 0 6, o_bad, o_bad, o_al 0 7, o_il 1 8, o_lI 104 9, o_ic 255 12, o_bad, o_bad, o_b2 (fun x y => x &&& y) 13, o_u (fun x => (x.toUInt32 % 65536).toInt32) 14, o_rC]]
def tb_254 : List (List jx_Op) := [
  [o_il 0 1, o_lt 9 4, o_bad, o_bad, o_il 0 5, o_il 1 6, o_clt 16 9, o_bad, o_bad, o_al 2 10, o_il 0 11, o_il 1 12, o_bad, o_bad, o_bad, o_bad],
  [o_il 0 17, o_rI]]
def tb_255 : List (List jx_Op) := [
  [o_al 0 1, o_ic 16 3, o_bad, o_cV 256 2 9 6, o_bad, o_bad, o_rV]]
def tb_256 : List (List jx_Op) := [
  [o_al 0 1, o_obj 4, o_bad, o_bad, o_ic 1 7, o_bad, o_bad, o_eq 25 10, o_bad, o_bad, o_al 0 11, o_il 1 12, o_na 104 (.int 0) 14, o_bad, o_pA 8 0 104 17, o_bad],
  [o_bad, o_al 0 18, o_ic 0 19, o_pB 8 1 22, o_bad, o_bad, o_go 38, o_bad, o_bad, o_al 0 26, o_il 1 27, o_bad, o_bad, o_bad, o_bad, o_bad],
  [o_bad, o_bad, o_bad, o_bad, o_bad, o_bad, o_rV]]
def tb_257 : List (List jx_Op) := [
  [o_al 0 1, o_al 1 2, o_cA 261 2 9 5, o_bad, o_bad, o_pop 6, o_al 0 7, o_rA]]
def tb_258 : List (List jx_Op) := [
  [o_al 0 1, o_il 1 2, o_cA 262 2 9 5, o_bad, o_bad, o_pop 6, o_al 0 7, o_rA]]
def tb_259 : List (List jx_Op) := [
  [o_al 0 1, o_il 1 2, o_cA 263 2 9 5, o_bad, o_bad, o_pop 6, o_al 0 7, o_rA]]
def tb_260 : List (List jx_Op) := [
  [o_new 20 [.null, .int 0, .int 0, .int 0] 3, o_bad, o_bad, o_dup 4, o_al 0 5, o_cV 274 2 21 8, o_bad, o_bad, o_rA]]
def tb_261 : List (List jx_Op) := [
  [o_al 1 1, o_nnl 9 4, o_bad, o_bad, o_al 0 5, o_bad, o_bad, o_bad, o_bad, o_al 1 10, o_cI 248 1 21 13, o_bad, o_bad, o_is 2 14, o_al 0 15, o_al 0 16],
  [o_gI 8 3 19, o_bad, o_bad, o_il 2 20, o_b2 (fun x y => x + y) 21, o_cV 264 2 9 24, o_bad, o_bad, o_al 0 25, o_al 0 26, o_gI 8 3 29, o_bad, o_bad, o_al 1 30, o_cV 271 3 9 33, o_bad],
  [o_bad, o_al 0 34, o_dup 35, o_gI 8 3 38, o_bad, o_bad, o_il 2 39, o_b2 (fun x y => x + y) 40, o_pI 8 3 43, o_bad, o_bad, o_al 0 44, o_rA]]
def tb_262 : List (List jx_Op) := [
  [o_al 0 1, o_al 0 2, o_gI 8 3 5, o_bad, o_bad, o_ic 1 6, o_b2 (fun x y => x + y) 7, o_cV 264 2 9 10, o_bad, o_bad, o_al 0 11, o_cI 266 1 9 14, o_bad, o_bad, o_eq 45 17, o_bad],
  [o_bad, o_il 1 18, o_cI 277 1 0 21, o_bad, o_bad, o_eq 45 24, o_bad, o_bad, o_al 0 25, o_gA 8 0 28, o_bad, o_bad, o_al 0 29, o_dup 30, o_gI 8 3 33, o_bad],
  [o_bad, o_dx1 34, o_ic 1 35, o_b2 (fun x y => x + y) 36, o_pI 8 3 39, o_bad, o_bad, o_il 1 40, o_u (fun x => x.toInt8.toInt32) 41, o_sB 104 42, o_go 75, o_bad, o_bad, o_al 0 46, o_cI 266 1 9 49, o_bad],
  [o_bad, o_eq 56 52, o_bad, o_bad, o_al 0 53, o_bad, o_bad, o_bad, o_al 0 57, o_gA 8 0 60, o_bad, o_bad, o_al 0 61, o_dup 62, o_gI 8 3 65, o_bad],
  [o_bad, o_dx1 66, o_ic 1 67, o_b2 (fun x y => x + y) 68, o_pI 8 3 71, o_bad, o_bad, o_il 1 72, o_bad, o_bad, o_bad, o_al 0 76, o_rA]]
def tb_263 : List (List jx_Op) := [
  [o_al 0 1, o_gI 8 3 4, o_bad, o_bad, o_is 2 5, o_il 2 6, o_il 1 7, o_cI 272 1 0 10, o_bad, o_bad, o_b2 (fun x y => x + y) 11, o_is 3 12, o_al 0 13, o_il 3 14, o_cV 264 2 9 17, o_bad],
  [o_bad, o_al 0 18, o_cI 266 1 9 21, o_bad, o_bad, o_eq 37 24, o_bad, o_bad, o_il 1 25, o_il 3 26, o_al 0 27, o_gA 8 0 30, o_bad, o_bad, o_cI 273 3 0 33, o_bad],
  [o_bad, o_pop 34, o_go 48, o_bad, o_bad, o_il 1 38, o_il 2 39, o_il 3 40, o_al 0 41, o_gA 8 0 44, o_bad, o_bad, o_bad, o_bad, o_bad, o_bad],
  [o_al 0 49, o_il 3 50, o_pI 8 3 53, o_bad, o_bad, o_al 0 54, o_rA]]
def tb_264 : List (List jx_Op) := [
  [o_al 0 1, o_gA 8 0 4, o_bad, o_bad, o_len 5, o_al 0 6, o_gI 8 1 9, o_bad, o_bad, o_b2 (fun x y => x >>> (y &&& 31)) 10, o_is 2 11, o_il 1 12, o_il 2 13, o_b2 (fun x y => x - y) 14, o_le 38 17, o_bad],
  [o_bad, o_al 0 18, o_al 0 19, o_gA 8 0 22, o_bad, o_bad, o_al 0 23, o_il 1 24, o_cI 265 2 9 27, o_bad, o_bad, o_al 0 28, o_gI 8 1 31, o_bad, o_bad, o_b2 (fun x y => x <<< (y &&& 31)) 32],
  [o_cA 278 2 0 35, o_bad, o_bad, o_pA 8 0 104 38, o_bad, o_bad, o_rV]]
def tb_265 : List (List jx_Op) := [
  [o_al 0 1, o_gA 8 0 4, o_bad, o_bad, o_len 5, o_is 2 6, o_il 1 7, o_al 0 8, o_gI 8 1 11, o_bad, o_bad, o_b2 (fun x y => x <<< (y &&& 31)) 12, o_is 3 13, o_il 3 14, o_il 2 15, o_b2 (fun x y => x - y) 16],
  [o_is 4 18, o_bad, o_il 2 19, o_il 4 21, o_bad, o_il 2 22, o_ic 2 23, o_al 0 24, o_gI 8 1 27, o_bad, o_bad, o_b2 (fun x y => x <<< (y &&& 31)) 28, o_b2 (fun x y => x + y) 29, o_cI 282 3 0 32, o_bad, o_bad],
  [o_is 5 34, o_bad, o_il 5 36, o_bad, o_ic 2147483647 38, o_bad, o_cne 51 41, o_bad, o_bad, o_bad, o_bad, o_bad, o_bad, o_bad, o_bad, o_bad],
  [o_bad, o_bad, o_bad, o_il 5 53, o_bad, o_al 0 54, o_gI 8 1 57, o_bad, o_bad, o_b2 (fun x y => x >>> (y &&& 31)) 58, o_rI]]
def tb_266 : List (List jx_Op) := [
  [o_ic 1 3, o_bad, o_bad, o_eq 17 6, o_bad, o_bad, o_al 0 7, o_gI 8 1 10, o_bad, o_bad, o_ne 17 13, o_bad, o_bad, o_ic 1 14, o_go 18, o_bad],
  [o_bad, o_ic 0 18, o_rZ]]
def tb_267 : List (List jx_Op) := [
  [o_al 0 1, o_gA 8 0 4, o_bad, o_bad, o_rA]]
def tb_268 : List (List jx_Op) := [
  [o_al 0 1, o_gI 8 3 4, o_bad, o_bad, o_rI]]
def tb_269 : List (List jx_Op) := [
  [o_al 0 1, o_cI 268 1 9 4, o_bad, o_bad, o_rI]]
def tb_270 : List (List jx_Op) := [
  [o_ic 1 3, o_bad, o_bad, o_eq 21 6, o_bad, o_bad, o_al 0 7, o_gI 8 1 10, o_bad, o_bad, o_al 1 11, o_cI 250 1 21 14, o_bad, o_bad, o_ceq 21 17, o_bad],
  [o_bad, o_al 0 18, o_bad, o_bad, o_bad, o_rV]]
def tb_271 : List (List jx_Op) := [
  [o_al 0 1, o_al 2 2, o_cV 270 2 9 5, o_bad, o_bad, o_al 2 6, o_al 0 7, o_gA 8 0 10, o_bad, o_bad, o_il 1 11, o_al 0 12, o_gI 8 1 15, o_bad, o_bad, o_cV 276 4 21 18],
  [o_bad, o_bad, o_rV]]
def tb_272 : List (List jx_Op) := [
  [o_ic 1 1, o_is 1 2, o_il 0 3, o_lt 11 6, o_bad, o_bad, o_ic 0 7, o_is 1 8, o_il 0 9, o_u (fun x => -x) 10, o_is 0 11, o_ic (-10) 13, o_bad, o_is 2 14, o_ic 1 15, o_is 3 16],
  [o_il 3 17, o_ic 10 19, o_bad, o_cge 42 22, o_bad, o_bad, o_il 0 23, o_il 2 24, o_cle 31 27, o_bad, o_bad, o_il 3 28, o_il 1 29, o_b2 (fun x y => x + y) 30, o_rI, o_ic 10 33],
  [o_bad, o_il 2 34, o_b2 (fun x y => x * y) 35, o_is 2 36, o_inc 3 1 39, o_bad, o_bad, o_go 16, o_bad, o_bad, o_ic 10 44, o_bad, o_il 1 45, o_b2 (fun x y => x + y) 46, o_rI]]
def tb_273 : List (List jx_Op) := [
  [o_il 1 1, o_is 5 3, o_bad, o_il 0 4, o_ge 11 7, o_bad, o_bad, o_ic 1 8, o_go 12, o_bad, o_bad, o_ic 0 12, o_is 6 14, o_bad, o_il 6 16, o_bad],
  [o_ne 22 19, o_bad, o_bad, o_il 0 20, o_u (fun x => -x) 21, o_is 0 22, o_il 0 23, o_ic (-100) 25, o_bad, o_cgt 72 28, o_bad, o_bad, o_il 0 29, o_ic 100 31, o_bad, o_div 32],
  [o_is 3 33, o_il 3 34, o_ic 100 36, o_bad, o_b2 (fun x y => x * y) 37, o_il 0 38, o_b2 (fun x y => x - y) 39, o_is 4 41, o_bad, o_il 3 42, o_is 0 43, o_al 2 44, o_inc 5 (-1) 47, o_bad, o_bad, o_il 5 49],
  [o_bad, o_rc 26 52, o_bad, o_bad, o_il 4 54, o_bad, o_lI 104 55, o_sB 104 56, o_al 2 57, o_inc 5 (-1) 60, o_bad, o_bad, o_il 5 62, o_bad, o_rc 27 65, o_bad],
  [o_bad, o_il 4 67, o_bad, o_lI 104 68, o_sB 104 69, o_go 22, o_bad, o_bad, o_al 2 73, o_inc 5 (-1) 76, o_bad, o_bad, o_il 5 78, o_bad, o_rc 26 81, o_bad],
  [o_bad, o_il 0 82, o_u (fun x => -x) 83, o_lI 104 84, o_sB 104 85, o_il 0 86, o_ic (-9) 88, o_bad, o_cge 104 91, o_bad, o_bad, o_al 2 92, o_inc 5 (-1) 95, o_bad, o_bad, o_il 5 97],
  [o_bad, o_rc 27 100, o_bad, o_bad, o_il 0 101, o_u (fun x => -x) 102, o_lI 104 103, o_sB 104 104, o_il 6 106, o_bad, o_eq 118 109, o_bad, o_bad, o_al 2 110, o_inc 5 (-1) 113, o_bad],
  [o_bad, o_il 5 115, o_bad, o_ic 45 117, o_bad, o_sB 104 118, o_il 5 120, o_bad, o_rI]]
def tb_274 : List (List jx_Op) := [
  [o_al 0 1, o_al 1 2, o_nc 3, o_cV 275 3 21 6, o_bad, o_bad, o_rV]]
def tb_275 : List (List jx_Op) := [
  [o_al 0 1, o_obj 4, o_bad, o_bad, o_al 1 5, o_cA 267 1 9 8, o_bad, o_bad, o_as 3 9, o_al 1 10, o_cI 269 1 9 13, o_bad, o_bad, o_is 4 15, o_bad, o_al 1 16],
  [o_cI 266 1 9 19, o_bad, o_bad, o_eq 41 22, o_bad, o_bad, o_al 0 23, o_ic 0 24, o_pB 20 1 27, o_bad, o_bad, o_al 0 28, o_al 3 29, o_ic 0 30, o_il 4 32, o_bad],
  [o_cA 279 3 0 35, o_bad, o_bad, o_pA 20 0 104 38, o_bad, o_bad, o_go 97, o_bad, o_bad, o_ic 1 44, o_bad, o_bad, o_eq 79 47, o_bad, o_bad, o_al 1 48],
  [o_gI 8 2 51, o_bad, o_bad, o_eq 79 54, o_bad, o_bad, o_al 0 55, o_al 3 56, o_ic 0 57, o_il 4 59, o_bad, o_bad, o_bad, o_bad, o_bad, o_bad],
  [o_bad, o_bad, o_bad, o_bad, o_bad, o_bad, o_bad, o_bad, o_bad, o_bad, o_bad, o_bad, o_bad, o_bad, o_bad, o_al 0 80],
  [o_ic 1 81, o_pB 20 1 84, o_bad, o_bad, o_al 0 85, o_al 3 86, o_ic 0 87, o_il 4 89, o_bad, o_ic 1 90, o_b2 (fun x y => x <<< (y &&& 31)) 91, o_cA 279 3 0 94, o_bad, o_bad, o_pA 20 0 104 97, o_bad],
  [o_bad, o_rV]]
def tb_276 : List (List jx_Op) := [
  [o_al 0 1, o_cI 250 1 21 4, o_bad, o_bad, o_il 3 5, o_cne 28 8, o_bad, o_bad, o_al 0 9, o_gA 20 0 12, o_bad, o_bad, o_ic 0 13, o_al 1 14, o_il 2 15, o_il 3 16],
  [o_b2 (fun x y => x <<< (y &&& 31)) 17, o_al 0 18, o_gA 20 0 21, o_bad, o_bad, o_len 22, o_cp 104 25, o_bad, o_bad, o_go 43, o_bad, o_bad, o_al 0 29, o_gA 20 0 32, o_bad, o_bad],
  [o_ic 0 33, o_al 1 34, o_il 2 35, o_al 0 36, o_gA 20 0 39, o_bad, o_bad, o_len 40, o_bad, o_bad, o_bad, o_rV]]
def tb_277 : List (List jx_Op) := [
  [o_il 0 1, o_ic 255 4, o_bad, o_bad, o_cgt 11 7, o_bad, o_bad, o_ic 1 8, o_go 12, o_bad, o_bad, o_ic 0 12, o_rZ]]
def tb_278 : List (List jx_Op) := [
  [o_il 1 1, o_al 0 2, o_len 3, o_cne 14 6, o_bad, o_bad, o_al 0 7, o_cl 104 10, o_bad, o_bad, o_ca 104 13, o_bad, o_bad, o_rA, o_il 1 15, o_na 104 (.int 0) 17],
  [o_bad, o_as 2 18, o_al 0 19, o_ic 0 20, o_al 2 21, o_ic 0 22, o_al 0 23, o_len 24, o_il 1 25, o_cI 247 2 0 28, o_bad, o_bad, o_cp 104 31, o_bad, o_bad, o_al 2 32],
  [o_rA]]
def tb_279 : List (List jx_Op) := [
  [o_il 1 1, o_ne 10 4, o_bad, o_bad, o_il 2 5, o_al 0 6, o_len 7, o_ceq 17 10, o_bad, o_bad, o_al 0 11, o_il 1 12, o_il 2 13, o_cA 280 3 0 16, o_bad, o_bad],
  [o_rA, o_al 0 18, o_cl 104 21, o_bad, o_bad, o_ca 104 24, o_bad, o_bad, o_rA]]
def tb_280 : List (List jx_Op) := [
  [o_il 1 1, o_il 2 2, o_cV 281 2 0 5, o_bad, o_bad, o_il 2 6, o_il 1 7, o_b2 (fun x y => x - y) 8, o_is 3 9, o_il 3 10, o_na 104 (.int 0) 12, o_bad, o_as 4 14, o_bad, o_al 0 15, o_il 1 16],
  [o_al 4 18, o_bad, o_ic 0 19, o_al 0 20, o_len 21, o_il 1 22, o_b2 (fun x y => x - y) 23, o_il 3 24, o_cI 247 2 0 27, o_bad, o_bad, o_cp 104 30, o_bad, o_bad, o_al 4 32, o_bad],
  [o_rA]]
def tb_281 : List (List jx_Op) := [
  [o_il 1 1, o_il 0 2, o_cge 37 5, o_bad, o_bad, o_bad, o_bad, o_bad, o_bad, o_bad, o_bad, o_bad, o_bad, o_bad, o_bad, o_bad],
  [o_bad, o_bad, o_bad, o_bad, o_bad, o_bad, o_bad, o_bad, o_bad, o_bad, o_bad, o_bad, o_bad, o_bad, o_bad, o_bad],
  [o_bad, o_bad, o_bad, o_bad, o_bad, o_rV]]
def tb_282 : List (List jx_Op) := [
  [o_il 0 1, o_il 1 2, o_il 2 3, o_cI 246 2 0 6, o_bad, o_bad, o_b2 (fun x y => x + y) 7, o_is 3 8, o_ic 0 9, o_il 3 10, o_cge 21 13, o_bad, o_bad, o_il 3 14, o_ic 2147483639 16, o_bad],
  [o_cgt 21 19, o_bad, o_bad, o_il 3 20, o_rI, o_il 0 22, o_il 1 23, o_bad, o_bad, o_bad, o_bad]]
/-- the recursive one: each depth a method of its own -/
def tb_G (m : Nat) : List (List jx_Op) := [
  [o_ll 1 1, o_ls 3 2, o_ic 0 3, o_is 5 5, o_bad, o_il 5 7, o_bad, o_ic 64 9, o_bad, o_cge 159 12, o_bad, o_bad, o_ll 1 13, o_il 5 15, o_bad, o_Sh (fun x y => (x.toUInt64 >>> (y.toInt64.toUInt64 &&& Int64.toUInt64 63)).toInt64) 16],
  [o_lc 1 17, o_B2 (fun x y => x &&& y) 18, o_lc 1 19, o_lcmp 20, o_ne 153 23, o_bad, o_bad, o_ll 3 24, o_al 0 25, o_il 5 27, o_bad, o_ic 8 29, o_bad, o_div 30, o_il 5 32, o_bad],
  [o_ic 8 34, o_bad, o_rem 35, o_ic 0 36, o_cI 176 4 0 39, o_bad, o_bad, o_ic 1 40, o_cne 53 43, o_bad, o_bad, o_lc 1 44, o_il 5 46, o_bad, o_ic 8 48, o_bad],
  [o_b2 (fun x y => x - y) 49, o_Sh (fun x y => x <<< (y.toInt64 &&& 63)) 50, o_go 54, o_bad, o_bad, o_lc 0 54, o_B2 (fun x y => x ||| y) 55, o_ls 3 56, o_ll 3 57, o_al 0 58, o_il 5 60, o_bad, o_ic 8 62, o_bad, o_div 63, o_il 5 65],
  [o_bad, o_ic 8 67, o_bad, o_rem 68, o_ic 1 69, o_cI 176 4 0 72, o_bad, o_bad, o_ic 1 73, o_cne 85 76, o_bad, o_bad, o_lc 1 77, o_il 5 79, o_bad, o_ic 1 80],
  [o_b2 (fun x y => x + y) 81, o_Sh (fun x y => x <<< (y.toInt64 &&& 63)) 82, o_go 86, o_bad, o_bad, o_lc 0 86, o_B2 (fun x y => x ||| y) 87, o_ls 3 88, o_ll 3 89, o_al 0 90, o_il 5 92, o_bad, o_ic 8 94, o_bad, o_div 95, o_il 5 97],
  [o_bad, o_ic 8 99, o_bad, o_rem 100, o_ic 2 101, o_cI 176 4 0 104, o_bad, o_bad, o_ic 1 105, o_cne 118 108, o_bad, o_bad, o_lc 1 109, o_il 5 111, o_bad, o_ic 8 113],
  [o_bad, o_b2 (fun x y => x + y) 114, o_Sh (fun x y => x <<< (y.toInt64 &&& 63)) 115, o_go 119, o_bad, o_bad, o_lc 0 119, o_B2 (fun x y => x ||| y) 120, o_ls 3 121, o_ll 3 122, o_al 0 123, o_il 5 125, o_bad, o_ic 8 127, o_bad, o_div 128],
  [o_il 5 130, o_bad, o_ic 8 132, o_bad, o_rem 133, o_ic 3 134, o_cI 176 4 0 137, o_bad, o_bad, o_ic 1 138, o_cne 150 141, o_bad, o_bad, o_lc 1 142, o_il 5 144, o_bad],
  [o_ic 1 145, o_b2 (fun x y => x - y) 146, o_Sh (fun x y => x <<< (y.toInt64 &&& 63)) 147, o_go 151, o_bad, o_bad, o_lc 0 151, o_B2 (fun x y => x ||| y) 152, o_ls 3 153, o_inc 5 1 156, o_bad, o_bad, o_go 5, o_bad, o_bad, o_ll 3 160],
  [o_ll 1 161, o_lcmp 162, o_ne 169 165, o_bad, o_bad, o_ll 1 166, o_go 174, o_bad, o_bad, o_al 0 170, o_ll 3 171, o_cL (m + 1) 2 0 174, o_bad, o_bad, o_rL]]
set_option maxRecDepth 20000 in
def jx_PL : List (List (List jx_Op)) := [tb_0, tb_1, tb_2, tb_3, tb_4, tb_5, tb_6, tb_7, tb_8, tb_9, tb_10, tb_11, tb_12, tb_13, tb_14, tb_15, tb_16, tb_17, tb_18, tb_19, tb_20, tb_21, tb_22, tb_23, tb_24, tb_25, tb_26, tb_27, tb_28, tb_29, tb_30, tb_31, tb_32, tb_33, tb_34, tb_35, tb_36, tb_37, tb_38, tb_39, tb_40, tb_41, tb_42, tb_43, tb_44, tb_45, tb_46, tb_47, tb_48, tb_49, tb_50, tb_51, tb_52, tb_53, tb_54, tb_55, tb_56, tb_57, tb_58, tb_59, tb_60, tb_61, tb_62, tb_63, tb_64, tb_65, tb_66, tb_67, tb_68, tb_69, tb_70, tb_71, tb_72, tb_73, tb_74, tb_75, tb_76, tb_77, tb_78, tb_79, tb_80, tb_81, tb_82, tb_83, tb_84, tb_85, tb_86, tb_87, tb_88, tb_89, tb_90, tb_91, tb_92, tb_93, tb_94, tb_95, tb_96, tb_97, tb_98, tb_99, tb_100, tb_101, tb_102, tb_103, tb_104, tb_105, tb_106, tb_107, tb_108, tb_109, tb_110, tb_111, tb_112, tb_113, tb_114, tb_115, tb_116, tb_117, tb_118, tb_119, tb_120, tb_121, tb_122, tb_123, tb_124, tb_125, tb_126, tb_127, tb_128, tb_129, tb_130, tb_131, tb_132, tb_133, tb_134, tb_135, tb_136, tb_137, tb_138, tb_139, tb_140, tb_141, tb_142, tb_143, tb_144, tb_145, tb_146, tb_147, tb_148, tb_149, tb_150, tb_151, tb_152, tb_153, tb_154, tb_155, tb_156, tb_157, tb_158, tb_159, tb_160, tb_161, tb_162, tb_163, tb_164, tb_165, tb_166, tb_167, tb_168, tb_169, tb_170, tb_171, tb_172, tb_173, tb_174, tb_175, tb_176, tb_177, tb_178, tb_179, tb_180, tb_181, tb_182, tb_183, tb_184, tb_185, tb_186, tb_187, tb_188, [], [], [], [], [], [], [], [], [], [], [], [], [], [], [], [], [], [], [], [], [], [], [], [], [], [], [], [], [], [], [], [], [], [], [], [], [], [], [], [], [], [], [], [], [], [], [], [], [], [], [], [], tb_241, tb_242, tb_243, tb_244, tb_245, tb_246, tb_247, tb_248, tb_249, tb_250, tb_251, tb_252, tb_253, tb_254, tb_255, tb_256, tb_257, tb_258, tb_259, tb_260, tb_261, tb_262, tb_263, tb_264, tb_265, tb_266, tb_267, tb_268, tb_269, tb_270, tb_271, tb_272, tb_273, tb_274, tb_275, tb_276, tb_277, tb_278, tb_279, tb_280, tb_281, tb_282, [], [], [], [], [], [], [], [], [], [], [], [], [], [], [], [], []]
set_option maxRecDepth 20000 in
def jx_ML : List Nat := [2, 4, 3, 3, 3, 4, 7, 5, 6, 3, 4, 5, 6, 6, 4, 2, 6, 5, 5, 1, 1, 1, 2, 2, 1, 10, 7, 5, 5, 7, 4, 1, 5, 5, 6, 4, 4, 6, 3, 5, 6, 5, 2, 2, 1, 1, 1, 1, 2, 1, 2, 1, 2, 6, 5, 3, 3, 3, 2, 1, 6, 2, 1, 1, 3, 2, 2, 2, 4, 2, 2, 4, 4, 2, 3, 3, 4, 1, 3, 4, 4, 6, 4, 5, 1, 1, 1, 4, 2, 3, 7, 6, 3, 4, 1, 1, 2, 2, 2, 3, 1, 2, 1, 4, 4, 2, 2, 3, 1, 1, 1, 1, 1, 1, 2, 1, 3, 3, 2, 4, 2, 4, 1, 1, 3, 3, 2, 1, 1, 1, 1, 1, 4, 7, 3, 3, 3, 3, 4, 3, 3, 5, 3, 4, 4, 4, 4, 4, 4, 3, 4, 6, 5, 4, 5, 3, 2, 3, 3, 3, 3, 2, 2, 3, 3, 2, 3, 1, 9, 4, 5, 4, 9, 6, 4, 6, 6, 6, 4, 9, 13, 4, 10, 10, 5, 5, 5, 8, 2, 0, 0, 0, 0, 0, 0, 0, 0, 0, 0, 0, 0, 0, 0, 0, 0, 0, 0, 0, 0, 0, 0, 0, 0, 0, 0, 0, 0, 0, 0, 0, 0, 0, 0, 0, 0, 0, 0, 0, 0, 0, 0, 0, 0, 0, 0, 0, 0, 0, 0, 0, 0, 1, 1, 1, 1, 2, 2, 2, 1, 2, 1, 1, 2, 2, 3, 1, 2, 2, 2, 2, 1, 3, 2, 4, 3, 6, 1, 1, 1, 1, 2, 3, 4, 7, 2, 5, 4, 1, 3, 3, 5, 2, 4, 0, 0, 0, 0, 0, 0, 0, 0, 0, 0, 0, 0, 0, 0, 0, 0, 0]
def jx_P (m : Nat) : List (List jx_Op) := bif Nat.ble 300 m then (bif Nat.blt m 330 then tb_G m else []) else match jx_PL[m]? with | some t => t | none => []
def jx_M (m : Nat) : Nat := bif Nat.ble 300 m then 6 else match jx_ML[m]? with | some t => t | none => 0
end JX
