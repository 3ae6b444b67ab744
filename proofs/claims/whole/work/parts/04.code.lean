section JX
def tb_0 : List (List jx_Op) := [
  [o_al 0 1, o_obj 4, o_bad, o_bad, o_al 0 5, o_ic 20 7, o_bad, o_na 111 .null 10, o_bad, o_bad, o_pA 0 0 111 13, o_bad, o_bad, o_al 0 14, o_ic 64 16, o_bad],
  [o_na 111 .null 19, o_bad, o_bad, o_pA 0 1 111 22, o_bad, o_bad, o_ic 0 23, o_is 1 24, o_il 1 25, o_ic 20 27, o_bad, o_cge 49 30, o_bad, o_bad, o_al 0 31, o_gA 0 0 34],
  [o_bad, o_bad, o_il 1 35, o_new 2 [.int 0, .int 0, .null, .int 0, .int 0] 38, o_bad, o_bad, o_dup 39, o_cV 20 1 3 42, o_bad, o_bad, o_sA 111 2 43, o_inc 1 1 46, o_bad, o_bad, o_go 24, o_bad],
  [o_bad, o_rV]]
def tb_1 : List (List jx_Op) := [
  [o_al 0 1, o_al 1 2, o_gI 0 2 5, o_bad, o_bad, o_pI 0 2 8, o_bad, o_bad, o_al 0 9, o_al 1 10, o_gI 0 3 13, o_bad, o_bad, o_pI 0 3 16, o_bad, o_bad],
  [o_ic 0 17, o_is 2 18, o_il 2 19, o_ic 64 21, o_bad, o_cge 37 24, o_bad, o_bad, o_al 0 25, o_gA 0 1 28, o_bad, o_bad, o_il 2 29, o_nc 30, o_sA 111 2 31, o_inc 2 1 34],
  [o_bad, o_bad, o_go 18, o_bad, o_bad, o_ic 0 38, o_is 2 39, o_il 2 40, o_al 0 41, o_gI 0 2 44, o_bad, o_bad, o_cge 87 47, o_bad, o_bad, o_al 0 48],
  [o_gA 0 0 51, o_bad, o_bad, o_il 2 52, o_lA 111 53, o_as 3 54, o_al 3 55, o_al 1 56, o_gA 0 0 59, o_bad, o_bad, o_il 2 60, o_lA 111 61, o_cV 23 2 3 64, o_bad, o_bad],
  [o_al 3 65, o_cI 21 1 3 68, o_bad, o_bad, o_eq 81 71, o_bad, o_bad, o_al 0 72, o_gA 0 1 75, o_bad, o_bad, o_al 3 76, o_gI 2 4 79, o_bad, o_bad, o_al 3 80],
  [o_sA 111 2 81, o_inc 2 1 84, o_bad, o_bad, o_go 39, o_bad, o_bad, o_rV]]
def tb_2 : List (List jx_Op) := [
  [o_ic 0 1, o_is 2 2, o_il 2 3, o_al 0 4, o_gI 0 2 7, o_bad, o_bad, o_cge 31 10, o_bad, o_bad, o_al 0 11, o_gA 0 0 14, o_bad, o_bad, o_il 2 15, o_lA 111 16],
  [o_gI 2 0 19, o_bad, o_bad, o_il 1 20, o_cne 25 23, o_bad, o_bad, o_il 2 24, o_rI, o_inc 2 1 28, o_bad, o_bad, o_go 2, o_bad, o_bad, o_ic (-1) 32],
  [o_rI]]
def tb_3 : List (List jx_Op) := [
  [o_al 0 1, o_il 1 2, o_cI 2 2 1 5, o_bad, o_bad, o_is 2 6, o_il 2 7, o_ic (-1) 8, o_cne 15 11, o_bad, o_bad, o_nc 12, o_go 21, o_bad, o_bad, o_al 0 16],
  [o_gA 0 0 19, o_bad, o_bad, o_il 2 20, o_lA 111 21, o_rA]]
def tb_4 : List (List jx_Op) := [
  [o_ic 0 1, o_is 1 2, o_ic 0 3, o_is 2 4, o_il 2 5, o_al 0 6, o_gI 0 2 9, o_bad, o_bad, o_cge 33 12, o_bad, o_bad, o_al 0 13, o_gA 0 0 16, o_bad, o_bad],
  [o_il 2 17, o_lA 111 18, o_cI 21 1 3 21, o_bad, o_bad, o_eq 27 24, o_bad, o_bad, o_inc 1 1 27, o_bad, o_bad, o_inc 2 1 30, o_bad, o_bad, o_go 4, o_bad],
  [o_bad, o_il 1 34, o_rI]]
def tb_5 : List (List jx_Op) := [
  [o_ic 0 1, o_is 2 2, o_ic 0 3, o_is 3 4, o_il 3 5, o_al 0 6, o_gI 0 2 9, o_bad, o_bad, o_cge 48 12, o_bad, o_bad, o_al 0 13, o_gA 0 0 16, o_bad, o_bad],
  [o_il 3 17, o_lA 111 18, o_cI 21 1 3 21, o_bad, o_bad, o_eq 27 24, o_bad, o_bad, o_go 42, o_bad, o_bad, o_il 2 28, o_il 1 29, o_cne 39 32, o_bad, o_bad],
  [o_al 0 33, o_gA 0 0 36, o_bad, o_bad, o_il 3 37, o_lA 111 38, o_rA, o_inc 2 1 42, o_bad, o_bad, o_inc 3 1 45, o_bad, o_bad, o_go 4, o_bad, o_bad],
  [o_nc 49, o_rA]]
def tb_6 : List (List jx_Op) := [
  [o_il 1 1, o_cI 127 1 0 4, o_bad, o_bad, o_eq 45 7, o_bad, o_bad, o_il 2 8, o_ic 15 10, o_bad, o_cI 126 2 0 13, o_bad, o_bad, o_eq 45 16, o_bad, o_bad],
  [o_il 3 17, o_ic 15 19, o_bad, o_cI 126 2 0 22, o_bad, o_bad, o_eq 45 25, o_bad, o_bad, o_il 4 27, o_bad, o_ic 15 29, o_bad, o_cI 126 2 0 32, o_bad, o_bad],
  [o_eq 45 35, o_bad, o_bad, o_il 5 37, o_bad, o_ic 15 39, o_bad, o_cI 126 2 0 42, o_bad, o_bad, o_ne 48 45, o_bad, o_bad, o_ic (-3) 47, o_bad, o_rI],
  [o_al 0 49, o_gI 0 2 52, o_bad, o_bad, o_ic 20 54, o_bad, o_clt 60 57, o_bad, o_bad, o_ic (-4) 59, o_bad, o_rI, o_al 0 61, o_gA 0 0 64, o_bad, o_bad],
  [o_al 0 65, o_gI 0 2 68, o_bad, o_bad, o_lA 111 69, o_as 6 71, o_bad, o_al 6 73, o_bad, o_al 0 74, o_gI 0 3 77, o_bad, o_bad, o_pI 2 0 80, o_bad, o_bad],
  [o_al 6 82, o_bad, o_il 1 83, o_pC 2 1 86, o_bad, o_bad, o_al 6 88, o_bad, o_gA 2 2 91, o_bad, o_bad, o_ic 0 92, o_il 2 93, o_sI 100 94, o_al 6 96, o_bad],
  [o_gA 2 2 99, o_bad, o_bad, o_ic 1 100, o_il 3 101, o_sI 100 102, o_al 6 104, o_bad, o_gA 2 2 107, o_bad, o_bad, o_ic 2 108, o_il 4 110, o_bad, o_sI 100 111, o_al 6 113],
  [o_bad, o_gA 2 2 116, o_bad, o_bad, o_ic 3 117, o_il 5 119, o_bad, o_sI 100 120, o_al 6 122, o_bad, o_ic 0 123, o_pI 2 3 126, o_bad, o_bad, o_al 6 128, o_bad],
  [o_ic (-1) 129, o_pI 2 4 132, o_bad, o_bad, o_al 0 133, o_dup 134, o_gI 0 2 137, o_bad, o_bad, o_ic 1 138, o_b2 (fun x y => x + y) 139, o_pI 0 2 142, o_bad, o_bad, o_al 0 143, o_dup 144],
  [o_gI 0 3 147, o_bad, o_bad, o_ic 1 148, o_b2 (fun x y => x + y) 149, o_pI 0 3 152, o_bad, o_bad, o_al 6 154, o_bad, o_gI 2 0 157, o_bad, o_bad, o_rI]]
def tb_7 : List (List jx_Op) := [
  [o_al 0 1, o_il 1 2, o_cI 2 2 1 5, o_bad, o_bad, o_is 2 6, o_il 2 7, o_ic (-1) 8, o_cne 13 11, o_bad, o_bad, o_ic (-1) 12, o_rI, o_al 0 14, o_gA 0 0 17, o_bad],
  [o_bad, o_il 2 18, o_lA 111 19, o_as 3 20, o_al 3 21, o_cI 21 1 3 24, o_bad, o_bad, o_eq 30 27, o_bad, o_bad, o_ic (-4) 29, o_bad, o_rI, o_al 0 31, o_dup 32],
  [o_gI 0 2 35, o_bad, o_bad, o_ic 1 36, o_b2 (fun x y => x - y) 37, o_pI 0 2 40, o_bad, o_bad, o_il 2 41, o_is 4 43, o_bad, o_il 4 45, o_bad, o_al 0 46, o_gI 0 2 49, o_bad],
  [o_bad, o_cge 74 52, o_bad, o_bad, o_al 0 53, o_gA 0 0 56, o_bad, o_bad, o_il 4 58, o_bad, o_al 0 59, o_gA 0 0 62, o_bad, o_bad, o_il 4 64, o_bad],
  [o_ic 1 65, o_b2 (fun x y => x + y) 66, o_lA 111 67, o_sA 111 2 68, o_inc 4 1 71, o_bad, o_bad, o_go 43, o_bad, o_bad, o_al 0 75, o_gA 0 0 78, o_bad, o_bad, o_al 0 79, o_gI 0 2 82],
  [o_bad, o_bad, o_al 3 83, o_sA 111 2 84, o_al 0 85, o_gI 0 2 88, o_bad, o_bad, o_rI]]
def tb_8 : List (List jx_Op) := [
  [o_al 0 1, o_il 1 2, o_cN 3 2 1 5, o_bad, o_bad, o_as 4 7, o_bad, o_al 4 9, o_bad, o_nnl 14 12, o_bad, o_bad, o_ic (-1) 13, o_rI, o_il 2 15, o_ic 7 17],
  [o_bad, o_cI 126 2 0 20, o_bad, o_bad, o_eq 32 23, o_bad, o_bad, o_il 3 24, o_ic 7 26, o_bad, o_cI 126 2 0 29, o_bad, o_bad, o_ne 35 32, o_bad, o_bad],
  [o_ic (-2) 34, o_bad, o_rI, o_ic 8 37, o_bad, o_il 2 38, o_b2 (fun x y => x * y) 39, o_il 3 40, o_b2 (fun x y => x + y) 41, o_is 5 43, o_bad, o_al 4 45, o_bad, o_cI 21 1 3 48, o_bad, o_bad],
  [o_ne 61 51, o_bad, o_bad, o_al 0 52, o_gA 0 1 55, o_bad, o_bad, o_il 5 57, o_bad, o_lN 111 58, o_nul 64 61, o_bad, o_bad, o_ic (-4) 63, o_bad, o_rI],
  [o_al 0 65, o_al 4 67, o_bad, o_il 5 69, o_bad, o_cV 9 3 1 72, o_bad, o_bad, o_al 0 73, o_al 4 75, o_bad, o_ic 1 76, o_cI 17 3 1 79, o_bad, o_bad, o_rI]]
def tb_9 : List (List jx_Op) := [
  [o_al 1 1, o_il 2 2, o_pI 2 4 5, o_bad, o_bad, o_al 0 6, o_gA 0 1 9, o_bad, o_bad, o_il 2 10, o_al 1 11, o_sA 111 2 12, o_rV]]
def tb_10 : List (List jx_Op) := [
  [o_al 0 1, o_il 1 2, o_cN 3 2 1 5, o_bad, o_bad, o_as 2 6, o_al 2 7, o_nnl 12 10, o_bad, o_bad, o_ic (-1) 11, o_rI, o_al 2 13, o_cI 21 1 3 16, o_bad, o_bad],
  [o_ne 22 19, o_bad, o_bad, o_ic (-4) 21, o_bad, o_rI, o_al 0 23, o_al 2 24, o_ic 1 25, o_cI 17 3 1 28, o_bad, o_bad, o_is 3 29, o_al 0 30, o_gA 0 1 33, o_bad],
  [o_bad, o_al 2 34, o_gI 2 4 37, o_bad, o_bad, o_nc 38, o_sA 111 2 39, o_al 2 40, o_ic (-1) 41, o_pI 2 4 44, o_bad, o_bad, o_il 3 45, o_rI]]
def tb_11 : List (List jx_Op) := [
  [o_al 0 1, o_il 1 2, o_cN 3 2 1 5, o_bad, o_bad, o_as 3 6, o_al 3 7, o_nnl 12 10, o_bad, o_bad, o_ic (-1) 11, o_rI, o_il 2 13, o_ic 3 14, o_cI 126 2 0 17, o_bad],
  [o_bad, o_ne 23 20, o_bad, o_bad, o_ic (-3) 22, o_bad, o_rI, o_al 3 24, o_gI 2 3 27, o_bad, o_bad, o_is 4 29, o_bad, o_al 3 30, o_il 2 31, o_pI 2 3 34],
  [o_bad, o_bad, o_il 4 36, o_bad, o_rI]]
def tb_12 : List (List jx_Op) := [
  [o_al 0 1, o_il 1 2, o_cN 3 2 1 5, o_bad, o_bad, o_as 3 6, o_al 0 7, o_il 2 8, o_cN 3 2 1 11, o_bad, o_bad, o_as 4 13, o_bad, o_al 3 14, o_nul 22 17, o_bad],
  [o_bad, o_al 4 19, o_bad, o_nnl 24 22, o_bad, o_bad, o_ic (-1) 23, o_rI, o_al 3 25, o_al 4 27, o_bad, o_ane 33 30, o_bad, o_bad, o_ic (-3) 32, o_bad],
  [o_rI, o_al 3 34, o_cI 21 1 3 37, o_bad, o_bad, o_eq 48 40, o_bad, o_bad, o_al 4 42, o_bad, o_cI 21 1 3 45, o_bad, o_bad, o_ne 51 48, o_bad, o_bad],
  [o_ic (-4) 50, o_bad, o_rI, o_al 3 52, o_gI 2 4 55, o_bad, o_bad, o_is 5 57, o_bad, o_al 0 58, o_al 3 59, o_al 4 61, o_bad, o_gI 2 4 64, o_bad, o_bad],
  [o_cV 9 3 1 67, o_bad, o_bad, o_al 0 68, o_al 4 70, o_bad, o_il 5 72, o_bad, o_cV 9 3 1 75, o_bad, o_bad, o_al 0 76, o_ic 1 77, o_cI 18 2 1 80, o_bad, o_bad],
  [o_rI]]
def tb_13 : List (List jx_Op) := [
  [o_il 1 1, o_ic 8 3, o_bad, o_div 4, o_rc 1 7, o_bad, o_bad, o_il 2 8, o_lI 100 9, o_b2 (fun x y => x + y) 10, o_is 3 11, o_il 1 12, o_ic 8 14, o_bad, o_rem 15, o_rc 2 18],
  [o_bad, o_bad, o_il 2 19, o_lI 100 20, o_b2 (fun x y => x + y) 21, o_is 4 23, o_bad, o_il 3 24, o_lt 45 27, o_bad, o_bad, o_il 3 28, o_ic 7 30, o_bad, o_cgt 45 33, o_bad],
  [o_bad, o_il 4 35, o_bad, o_lt 45 38, o_bad, o_bad, o_il 4 40, o_bad, o_ic 7 42, o_bad, o_cle 49 45, o_bad, o_bad, o_ic 1 46, o_go 50, o_bad],
  [o_bad, o_ic 0 50, o_is 5 52, o_bad, o_il 5 54, o_bad, o_eq 61 57, o_bad, o_bad, o_nc 58, o_go 73, o_bad, o_bad, o_al 0 62, o_gA 0 1 65, o_bad],
  [o_bad, o_ic 8 67, o_bad, o_il 3 68, o_b2 (fun x y => x * y) 69, o_il 4 71, o_bad, o_b2 (fun x y => x + y) 72, o_lN 111 73, o_rA]]
def tb_14 : List (List jx_Op) := [
  [o_ic 0 1, o_is 2 2, o_ic 0 3, o_is 3 4, o_il 3 5, o_ic 4 6, o_cge 27 9, o_bad, o_bad, o_al 0 10, o_il 1 11, o_il 3 12, o_cN 13 3 1 15, o_bad, o_bad, o_nul 21 18],
  [o_bad, o_bad, o_inc 2 1 21, o_bad, o_bad, o_inc 3 1 24, o_bad, o_bad, o_go 4, o_bad, o_bad, o_il 2 28, o_rI]]
def tb_15 : List (List jx_Op) := [
  [o_al 0 1, o_gA 0 1 4, o_bad, o_bad, o_il 1 5, o_lN 111 6, o_nnl 21 9, o_bad, o_bad, o_al 0 10, o_il 1 11, o_cI 14 2 1 14, o_bad, o_bad, o_le 21 17, o_bad],
  [o_bad, o_ic 1 18, o_go 22, o_bad, o_bad, o_ic 0 22, o_rZ]]
def tb_16 : List (List jx_Op) := [
  [o_al 0 1, o_al 1 2, o_gI 2 4 5, o_bad, o_bad, o_il 2 6, o_cN 13 3 1 9, o_bad, o_bad, o_as 4 11, o_bad, o_al 4 13, o_bad, o_nnl 18 16, o_bad, o_bad],
  [o_ic 0 17, o_rZ, o_al 1 19, o_il 2 20, o_cI 22 2 3 23, o_bad, o_bad, o_ic 15 25, o_bad, o_al 4 27, o_bad, o_il 2 28, o_cI 128 1 0 31, o_bad, o_bad, o_cI 22 2 3 34],
  [o_bad, o_bad, o_b2 (fun x y => x - y) 35, o_cne 42 38, o_bad, o_bad, o_ic 1 39, o_go 43, o_bad, o_bad, o_ic 0 43, o_is 5 45, o_bad, o_il 5 47, o_bad, o_il 3 48],
  [o_cne 55 51, o_bad, o_bad, o_ic 1 52, o_go 56, o_bad, o_bad, o_ic 0 56, o_rZ]]
def tb_17 : List (List jx_Op) := [
  [o_ic 0 1, o_is 3 2, o_ic 0 3, o_is 4 5, o_bad, o_il 4 7, o_bad, o_ic 4 8, o_cge 31 11, o_bad, o_bad, o_al 0 12, o_al 1 13, o_il 4 15, o_bad, o_il 2 16],
  [o_cI 16 4 1 19, o_bad, o_bad, o_eq 25 22, o_bad, o_bad, o_inc 3 1 25, o_bad, o_bad, o_inc 4 1 28, o_bad, o_bad, o_go 5, o_bad, o_bad, o_il 3 32],
  [o_rI]]
def tb_18 : List (List jx_Op) := [
  [o_ic 0 1, o_is 2 2, o_ic 0 3, o_is 3 4, o_il 3 5, o_al 0 6, o_gI 0 2 9, o_bad, o_bad, o_cge 65 12, o_bad, o_bad, o_al 0 13, o_gA 0 0 16, o_bad, o_bad],
  [o_il 3 17, o_lA 111 18, o_as 4 20, o_bad, o_al 4 22, o_bad, o_cI 21 1 3 25, o_bad, o_bad, o_ne 31 28, o_bad, o_bad, o_go 59, o_bad, o_bad, o_al 0 32],
  [o_al 4 34, o_bad, o_ic 1 35, o_il 1 36, o_cI 16 4 1 39, o_bad, o_bad, o_eq 45 42, o_bad, o_bad, o_inc 2 1 45, o_bad, o_bad, o_al 0 46, o_al 4 48, o_bad],
  [o_ic 2 49, o_il 1 50, o_cI 16 4 1 53, o_bad, o_bad, o_eq 59 56, o_bad, o_bad, o_inc 2 1 59, o_bad, o_bad, o_inc 3 1 62, o_bad, o_bad, o_go 4, o_bad],
  [o_bad, o_il 2 66, o_rI]]
def tb_19 : List (List jx_Op) := [
  [o_al 0 1, o_obj 4, o_bad, o_bad, o_al 0 5, o_rc 9 8, o_bad, o_bad, o_pA 1 0 21 11, o_bad, o_bad, o_al 0 12, o_ic 5 13, o_na 100 (.int 0) 15, o_bad, o_pA 1 1 100 18],
  [o_bad, o_bad, o_rV]]
def tb_20 : List (List jx_Op) := [
  [o_al 0 1, o_obj 4, o_bad, o_bad, o_al 0 5, o_ic 4 6, o_na 100 (.int 0) 8, o_bad, o_pA 2 2 100 11, o_bad, o_bad, o_al 0 12, o_ic (-1) 13, o_pI 2 4 16, o_bad, o_bad],
  [o_rV]]
def tb_21 : List (List jx_Op) := [
  [o_al 0 1, o_gI 2 4 4, o_bad, o_bad, o_ic (-1) 5, o_ceq 12 8, o_bad, o_bad, o_ic 1 9, o_go 13, o_bad, o_bad, o_ic 0 13, o_rZ]]
def tb_22 : List (List jx_Op) := [
  [o_al 0 1, o_gA 2 2 4, o_bad, o_bad, o_il 1 5, o_al 0 6, o_gI 2 3 9, o_bad, o_bad, o_b2 (fun x y => x - y) 10, o_ic 3 11, o_b2 (fun x y => x &&& y) 12, o_lI 100 13, o_rI]]
def tb_23 : List (List jx_Op) := [
  [o_al 0 1, o_al 1 2, o_gI 2 0 5, o_bad, o_bad, o_pI 2 0 8, o_bad, o_bad, o_al 0 9, o_al 1 10, o_gI 2 1 13, o_bad, o_bad, o_pC 2 1 16, o_bad, o_bad],
  [o_al 1 17, o_gA 2 2 20, o_bad, o_bad, o_ic 0 21, o_al 0 22, o_gA 2 2 25, o_bad, o_bad, o_ic 0 26, o_ic 4 27, o_cp 100 30, o_bad, o_bad, o_al 0 31, o_al 1 32],
  [o_gI 2 3 35, o_bad, o_bad, o_pI 2 3 38, o_bad, o_bad, o_al 0 39, o_al 1 40, o_gI 2 4 43, o_bad, o_bad, o_pI 2 4 46, o_bad, o_bad, o_rV]]
def tb_24 : List (List jx_Op) := [
  [o_al 0 1, o_obj 4, o_bad, o_bad, o_al 0 5, o_ic 20 7, o_bad, o_na 111 .null 10, o_bad, o_bad, o_pA 3 0 111 13, o_bad, o_bad, o_al 0 14, o_ic 64 16, o_bad],
  [o_na 100 (.int 0) 18, o_bad, o_pA 3 1 100 21, o_bad, o_bad, o_rV]]
def tb_25 : List (List jx_Op) := [
  [o_al 2 1, o_gI 2 4 4, o_bad, o_bad, o_cL 129 1 0 7, o_bad, o_bad, o_ls 3 8, o_al 0 9, o_gA 3 0 12, o_bad, o_bad, o_ic 0 13, o_al 2 14, o_sA 111 2 15, o_ic 1 16],
  [o_is 5 18, o_bad, o_ic 0 19, o_is 6 21, o_bad, o_il 6 23, o_bad, o_il 5 25, o_bad, o_cge 136 28, o_bad, o_bad, o_al 0 29, o_gA 3 0 32, o_bad, o_bad],
  [o_il 6 34, o_bad, o_lA 111 35, o_as 7 37, o_bad, o_ic 0 38, o_is 8 40, o_bad, o_il 8 42, o_bad, o_ic 4 43, o_cge 130 46, o_bad, o_bad, o_al 1 47, o_al 7 49],
  [o_bad, o_gI 2 4 52, o_bad, o_bad, o_il 8 54, o_bad, o_cN 13 3 1 57, o_bad, o_bad, o_as 9 59, o_bad, o_al 9 61, o_bad, o_nul 124 64, o_bad, o_bad],
  [o_al 1 65, o_al 7 67, o_bad, o_il 8 69, o_bad, o_ic 1 70, o_cI 16 4 1 73, o_bad, o_bad, o_ne 79 76, o_bad, o_bad, o_go 124, o_bad, o_bad, o_ll 3 80],
  [o_al 9 82, o_bad, o_gI 2 4 85, o_bad, o_bad, o_cL 129 1 0 88, o_bad, o_bad, o_B2 (fun x y => x &&& y) 89, o_lc 0 90, o_lcmp 91, o_ne 124 94, o_bad, o_bad, o_il 5 96, o_bad],
  [o_ic 20 98, o_bad, o_cge 124 101, o_bad, o_bad, o_ll 3 102, o_al 9 104, o_bad, o_gI 2 4 107, o_bad, o_bad, o_cL 129 1 0 110, o_bad, o_bad, o_B2 (fun x y => x ||| y) 111, o_ls 3 112],
  [o_al 0 113, o_gA 3 0 116, o_bad, o_bad, o_il 5 118, o_bad, o_al 9 120, o_bad, o_sA 111 2 121, o_inc 5 1 124, o_bad, o_bad, o_inc 8 1 127, o_bad, o_bad, o_go 40],
  [o_bad, o_bad, o_inc 6 1 133, o_bad, o_bad, o_go 21, o_bad, o_bad, o_ll 3 137, o_rL]]
def tb_26 : List (List jx_Op) := [
  [o_lc 0 1, o_ls 2 2, o_ic 0 3, o_is 4 5, o_bad, o_ic 0 6, o_is 5 8, o_bad, o_il 5 10, o_bad, o_al 1 11, o_gI 0 2 14, o_bad, o_bad, o_cge 68 17, o_bad],
  [o_bad, o_al 1 18, o_gA 0 0 21, o_bad, o_bad, o_il 5 23, o_bad, o_lA 111 24, o_as 6 26, o_bad, o_al 6 28, o_bad, o_cI 21 1 3 31, o_bad, o_bad, o_eq 62 34],
  [o_bad, o_bad, o_ll 2 35, o_al 6 37, o_bad, o_gI 2 4 40, o_bad, o_bad, o_cL 129 1 0 43, o_bad, o_bad, o_B2 (fun x y => x &&& y) 44, o_lc 0 45, o_lcmp 46, o_ne 62 49, o_bad],
  [o_bad, o_ll 2 50, o_al 0 51, o_al 1 52, o_al 6 54, o_bad, o_cL 25 3 4 57, o_bad, o_bad, o_B2 (fun x y => x ||| y) 58, o_ls 2 59, o_inc 4 1 62, o_bad, o_bad, o_inc 5 1 65, o_bad],
  [o_bad, o_go 8, o_bad, o_bad, o_il 4 70, o_bad, o_rI]]
def tb_27 : List (List jx_Op) := [
  [o_ic 0 1, o_is 2 2, o_ic 0 3, o_is 3 4, o_il 3 5, o_al 1 6, o_gI 0 2 9, o_bad, o_bad, o_cge 49 12, o_bad, o_bad, o_al 1 13, o_gA 0 0 16, o_bad, o_bad],
  [o_il 3 17, o_lA 111 18, o_as 4 20, o_bad, o_al 4 22, o_bad, o_cI 21 1 3 25, o_bad, o_bad, o_eq 43 28, o_bad, o_bad, o_il 2 29, o_al 0 30, o_al 1 31, o_al 4 33],
  [o_bad, o_cL 25 3 4 36, o_bad, o_bad, o_cI 245 1 0 39, o_bad, o_bad, o_cI 246 2 0 42, o_bad, o_bad, o_is 2 43, o_inc 3 1 46, o_bad, o_bad, o_go 4, o_bad],
  [o_bad, o_il 2 50, o_rI]]
def tb_28 : List (List jx_Op) := [
  [o_ic 0 1, o_is 2 2, o_il 2 3, o_ic 64 5, o_bad, o_cge 21 8, o_bad, o_bad, o_al 0 9, o_gA 3 1 12, o_bad, o_bad, o_il 2 13, o_il 2 14, o_sI 100 15, o_inc 2 1 18],
  [o_bad, o_bad, o_go 2, o_bad, o_bad, o_al 1 22, o_cI 4 1 1 25, o_bad, o_bad, o_is 2 26, o_ic 0 27, o_is 3 28, o_il 3 29, o_al 1 30, o_gI 0 2 33, o_bad],
  [o_bad, o_cge 78 36, o_bad, o_bad, o_al 1 37, o_gA 0 0 40, o_bad, o_bad, o_il 3 41, o_lA 111 42, o_as 4 44, o_bad, o_al 4 46, o_bad, o_cI 21 1 3 49, o_bad],
  [o_bad, o_eq 72 52, o_bad, o_bad, o_il 2 53, o_al 0 54, o_al 1 55, o_al 4 57, o_bad, o_ic 1 58, o_cI 29 4 4 61, o_bad, o_bad, o_al 0 62, o_al 1 63, o_al 4 65],
  [o_bad, o_ic 2 66, o_cI 29 4 4 69, o_bad, o_bad, o_b2 (fun x y => x + y) 70, o_b2 (fun x y => x - y) 71, o_is 2 72, o_inc 3 1 75, o_bad, o_bad, o_go 28, o_bad, o_bad, o_il 2 79, o_rI]]
def tb_29 : List (List jx_Op) := [
  [o_al 1 1, o_al 2 2, o_gI 2 4 5, o_bad, o_bad, o_il 3 6, o_cN 13 3 1 9, o_bad, o_bad, o_as 4 11, o_bad, o_al 4 13, o_bad, o_nul 26 16, o_bad, o_bad],
  [o_al 1 17, o_al 2 18, o_il 3 19, o_ic 1 20, o_cI 16 4 1 23, o_bad, o_bad, o_ne 28 26, o_bad, o_bad, o_ic 0 27, o_rI, o_al 0 29, o_al 2 30, o_gI 2 4 33, o_bad],
  [o_bad, o_cI 30 2 4 36, o_bad, o_bad, o_is 5 38, o_bad, o_al 0 39, o_al 4 41, o_bad, o_gI 2 4 44, o_bad, o_bad, o_cI 30 2 4 47, o_bad, o_bad, o_is 6 49],
  [o_bad, o_al 0 50, o_gA 3 1 53, o_bad, o_bad, o_il 6 55, o_bad, o_il 5 57, o_bad, o_sI 100 58, o_il 5 60, o_bad, o_il 6 62, o_bad, o_cne 69 65, o_bad],
  [o_bad, o_ic 0 66, o_go 70, o_bad, o_bad, o_ic 1 70, o_rI]]
def tb_30 : List (List jx_Op) := [
  [o_il 1 1, o_is 2 2, o_ic 0 3, o_is 3 4, o_il 3 5, o_ic 64 7, o_bad, o_cge 33 10, o_bad, o_bad, o_al 0 11, o_gA 3 1 14, o_bad, o_bad, o_il 2 15, o_lI 100 16],
  [o_il 2 17, o_ceq 33 20, o_bad, o_bad, o_al 0 21, o_gA 3 1 24, o_bad, o_bad, o_il 2 25, o_lI 100 26, o_is 2 27, o_inc 3 1 30, o_bad, o_bad, o_go 4, o_bad],
  [o_bad, o_il 2 34, o_rI]]
def tb_31 : List (List jx_Op) := [
  [o_al 0 1, o_obj 4, o_bad, o_bad, o_al 0 5, o_ic 4 6, o_na 100 (.int 0) 8, o_bad, o_pA 4 0 100 11, o_bad, o_bad, o_al 0 12, o_ic 4 13, o_na 101 (.int 0) 15, o_bad, o_pA 4 1 101 18],
  [o_bad, o_bad, o_al 0 19, o_ic 20 21, o_bad, o_na 100 (.int 0) 23, o_bad, o_pA 4 2 100 26, o_bad, o_bad, o_rV]]
def tb_32 : List (List jx_Op) := [
  [o_al 0 1, o_il 2 2, o_pI 4 3 5, o_bad, o_bad, o_ic 0 6, o_is 3 7, o_il 3 8, o_ic 4 9, o_cge 70 12, o_bad, o_bad, o_al 1 13, o_il 2 14, o_il 3 15, o_cN 13 3 1 18],
  [o_bad, o_bad, o_as 4 20, o_bad, o_al 4 22, o_bad, o_nnl 35 25, o_bad, o_bad, o_al 0 26, o_gA 4 0 29, o_bad, o_bad, o_il 3 30, o_ic (-1) 31, o_sI 100 32],
  [o_go 64, o_bad, o_bad, o_al 0 36, o_gA 4 0 39, o_bad, o_bad, o_il 3 40, o_ic 15 42, o_bad, o_al 4 44, o_bad, o_il 3 45, o_cI 128 1 0 48, o_bad, o_bad],
  [o_cI 22 2 3 51, o_bad, o_bad, o_b2 (fun x y => x - y) 52, o_sI 100 53, o_al 0 54, o_gA 4 1 57, o_bad, o_bad, o_il 3 58, o_al 4 60, o_bad, o_gI 2 1 63, o_bad, o_bad, o_sC 101 64],
  [o_inc 3 1 67, o_bad, o_bad, o_go 7, o_bad, o_bad, o_rV]]
def tb_33 : List (List jx_Op) := [
  [o_ic 0 1, o_is 3 2, o_ic 0 3, o_is 4 5, o_bad, o_il 4 7, o_bad, o_ic 4 8, o_cge 78 11, o_bad, o_bad, o_al 0 12, o_gA 4 0 15, o_bad, o_bad, o_il 4 17],
  [o_bad, o_lI 100 18, o_ic (-1) 19, o_cne 25 22, o_bad, o_bad, o_go 72, o_bad, o_bad, o_il 3 26, o_al 1 27, o_gA 2 2 30, o_bad, o_bad, o_il 4 32, o_bad],
  [o_il 2 33, o_b2 (fun x y => x - y) 34, o_ic 3 35, o_b2 (fun x y => x &&& y) 36, o_lI 100 37, o_al 0 38, o_gA 4 0 41, o_bad, o_bad, o_il 4 43, o_bad, o_lI 100 44, o_cne 51 47, o_bad, o_bad, o_ic 4 48],
  [o_go 53, o_bad, o_bad, o_ic (-3) 53, o_bad, o_b2 (fun x y => x + y) 54, o_is 3 55, o_al 1 56, o_gI 2 1 59, o_bad, o_bad, o_al 0 60, o_gA 4 1 63, o_bad, o_bad, o_il 4 65],
  [o_bad, o_lI 101 66, o_cne 72 69, o_bad, o_bad, o_inc 3 1 72, o_bad, o_bad, o_inc 4 1 75, o_bad, o_bad, o_go 5, o_bad, o_bad, o_il 3 79, o_rI]]
def tb_34 : List (List jx_Op) := [
  [o_ic 0 1, o_is 2 2, o_al 0 3, o_al 1 4, o_ic 0 5, o_cI 33 3 5 8, o_bad, o_bad, o_is 3 9, o_ic 1 10, o_is 4 12, o_bad, o_il 4 14, o_bad, o_ic 3 15, o_cgt 45 18],
  [o_bad, o_bad, o_al 0 19, o_al 1 20, o_il 4 22, o_bad, o_cI 33 3 5 25, o_bad, o_bad, o_is 5 27, o_bad, o_il 5 29, o_bad, o_il 3 30, o_cle 39 33, o_bad],
  [o_bad, o_il 4 35, o_bad, o_is 2 36, o_il 5 38, o_bad, o_is 3 39, o_inc 4 1 42, o_bad, o_bad, o_go 12, o_bad, o_bad, o_il 2 46, o_rI]]
def tb_35 : List (List jx_Op) := [
  [o_al 0 1, o_al 1 2, o_ic 0 3, o_cI 33 3 5 6, o_bad, o_bad, o_is 2 7, o_ic 1 8, o_is 3 9, o_il 3 10, o_ic 3 11, o_cgt 31 14, o_bad, o_bad, o_il 2 15, o_al 0 16],
  [o_al 1 17, o_il 3 18, o_cI 33 3 5 21, o_bad, o_bad, o_cI 246 2 0 24, o_bad, o_bad, o_is 2 25, o_inc 3 1 28, o_bad, o_bad, o_go 9, o_bad, o_bad, o_il 2 32],
  [o_rI]]
def tb_36 : List (List jx_Op) := [
  [o_ic 0 1, o_is 3 2, o_il 3 3, o_al 1 4, o_gI 0 2 7, o_bad, o_bad, o_cge 32 10, o_bad, o_bad, o_al 0 11, o_gA 4 2 14, o_bad, o_bad, o_il 3 15, o_al 0 16],
  [o_al 1 17, o_gA 0 0 20, o_bad, o_bad, o_il 3 21, o_lA 111 22, o_cI 35 2 5 25, o_bad, o_bad, o_sI 100 26, o_inc 3 1 29, o_bad, o_bad, o_go 2, o_bad, o_bad],
  [o_ic 0 33, o_is 3 34, o_il 3 35, o_al 1 36, o_gI 0 2 39, o_bad, o_bad, o_cge 77 42, o_bad, o_bad, o_al 1 43, o_gA 0 0 46, o_bad, o_bad, o_il 3 47, o_lA 111 48],
  [o_cI 21 1 3 51, o_bad, o_bad, o_ne 71 54, o_bad, o_bad, o_al 0 55, o_al 1 56, o_il 3 57, o_cI 37 3 5 60, o_bad, o_bad, o_il 2 61, o_cne 71 64, o_bad, o_bad],
  [o_al 1 65, o_gA 0 0 68, o_bad, o_bad, o_il 3 69, o_lA 111 70, o_rA, o_inc 3 1 74, o_bad, o_bad, o_go 34, o_bad, o_bad, o_nc 78, o_rA]]
def tb_37 : List (List jx_Op) := [
  [o_ic 0 1, o_is 3 2, o_ic 0 3, o_is 4 5, o_bad, o_il 4 7, o_bad, o_al 1 8, o_gI 0 2 11, o_bad, o_bad, o_cge 86 14, o_bad, o_bad, o_al 0 15, o_gA 4 2 18],
  [o_bad, o_bad, o_il 4 20, o_bad, o_lI 100 21, o_al 0 22, o_gA 4 2 25, o_bad, o_bad, o_il 2 26, o_lI 100 27, o_cgt 52 30, o_bad, o_bad, o_al 0 31, o_gA 4 2 34],
  [o_bad, o_bad, o_il 4 36, o_bad, o_lI 100 37, o_al 0 38, o_gA 4 2 41, o_bad, o_bad, o_il 2 42, o_lI 100 43, o_cne 56 46, o_bad, o_bad, o_il 4 48, o_bad],
  [o_il 2 49, o_cge 56 52, o_bad, o_bad, o_ic 1 53, o_go 57, o_bad, o_bad, o_ic 0 57, o_is 5 59, o_bad, o_il 5 61, o_bad, o_eq 80 64, o_bad, o_bad],
  [o_al 1 65, o_gA 0 0 68, o_bad, o_bad, o_il 4 70, o_bad, o_lA 111 71, o_cI 21 1 3 74, o_bad, o_bad, o_ne 80 77, o_bad, o_bad, o_inc 3 1 80, o_bad, o_bad],
  [o_inc 4 1 83, o_bad, o_bad, o_go 5, o_bad, o_bad, o_il 3 87, o_rI]]
def tb_38 : List (List jx_Op) := [
  [o_al 2 1, o_al 0 2, o_al 2 3, o_cI 34 2 5 6, o_bad, o_bad, o_pI 2 3 9, o_bad, o_bad, o_al 1 10, o_al 2 11, o_al 0 12, o_gI 4 3 15, o_bad, o_bad, o_cV 9 3 1 18],
  [o_bad, o_bad, o_rV]]
def tb_39 : List (List jx_Op) := [
  [o_il 1 1, o_is 3 2, o_ic 0 3, o_is 4 5, o_bad, o_il 4 7, o_bad, o_al 2 8, o_gI 0 2 11, o_bad, o_bad, o_cge 49 14, o_bad, o_bad, o_al 2 15, o_gA 0 0 18],
  [o_bad, o_bad, o_il 4 20, o_bad, o_lA 111 21, o_cI 21 1 3 24, o_bad, o_bad, o_ne 43 27, o_bad, o_bad, o_il 3 28, o_al 0 29, o_al 2 30, o_gA 0 0 33, o_bad],
  [o_bad, o_il 4 35, o_bad, o_lA 111 36, o_cI 35 2 5 39, o_bad, o_bad, o_cI 246 2 0 42, o_bad, o_bad, o_is 3 43, o_inc 4 1 46, o_bad, o_bad, o_go 5, o_bad],
  [o_bad, o_il 3 50, o_rI]]
def tb_40 : List (List jx_Op) := [
  [o_ic (-1) 1, o_is 2 2, o_ic 0 3, o_is 3 4, o_ic 0 5, o_is 4 7, o_bad, o_il 4 9, o_bad, o_ic 64 11, o_bad, o_cge 59 14, o_bad, o_bad, o_al 1 15, o_il 4 17],
  [o_bad, o_cI 15 2 1 20, o_bad, o_bad, o_ne 26 23, o_bad, o_bad, o_go 53, o_bad, o_bad, o_al 0 27, o_al 1 28, o_il 4 30, o_bad, o_cV 32 3 5 33, o_bad],
  [o_bad, o_al 0 34, o_il 3 35, o_al 1 36, o_cI 39 3 5 39, o_bad, o_bad, o_is 5 41, o_bad, o_il 5 43, o_bad, o_il 3 44, o_cle 53 47, o_bad, o_bad, o_il 4 49],
  [o_bad, o_is 2 50, o_il 5 52, o_bad, o_is 3 53, o_inc 4 1 56, o_bad, o_bad, o_go 7, o_bad, o_bad, o_il 2 60, o_rI]]
def tb_41 : List (List jx_Op) := [
  [o_ic 0 1, o_is 2 2, o_il 2 3, o_ic 20 5, o_bad, o_cge 55 8, o_bad, o_bad, o_al 0 9, o_al 1 10, o_cI 40 2 5 13, o_bad, o_bad, o_is 3 14, o_il 3 15, o_ic (-1) 16],
  [o_cne 21 19, o_bad, o_bad, o_il 2 20, o_rI, o_al 0 22, o_al 1 23, o_il 3 24, o_cV 32 3 5 27, o_bad, o_bad, o_al 0 28, o_al 1 29, o_ic 0 30, o_cN 36 3 5 33, o_bad],
  [o_bad, o_as 4 35, o_bad, o_al 4 37, o_bad, o_nnl 42 40, o_bad, o_bad, o_il 2 41, o_rI, o_al 0 43, o_al 1 44, o_al 4 46, o_bad, o_cV 38 3 5 49, o_bad],
  [o_bad, o_inc 2 1 52, o_bad, o_bad, o_go 2, o_bad, o_bad, o_ic 20 57, o_bad, o_rI]]
def tb_42 : List (List jx_Op) := [
  [o_al 0 1, o_obj 4, o_bad, o_bad, o_al 0 5, o_ic 9 7, o_bad, o_na 110 .null 10, o_bad, o_bad, o_pA 5 0 110 13, o_bad, o_bad, o_ic 0 14, o_is 1 15, o_il 1 16],
  [o_ic 9 18, o_bad, o_cge 40 21, o_bad, o_bad, o_al 0 22, o_gA 5 0 25, o_bad, o_bad, o_il 1 26, o_new 0 [.null, .null, .int 0, .int 0] 29, o_bad, o_bad, o_dup 30, o_cV 0 1 1 33, o_bad],
  [o_bad, o_sA 110 0 34, o_inc 1 1 37, o_bad, o_bad, o_go 15, o_bad, o_bad, o_rV]]
def tb_43 : List (List jx_Op) := [
  [o_al 0 1, o_cA 44 1 6 4, o_bad, o_bad, o_al 1 5, o_cV 1 2 1 8, o_bad, o_bad, o_rV]]
def tb_44 : List (List jx_Op) := [
  [o_al 0 1, o_gA 5 0 4, o_bad, o_bad, o_al 0 5, o_gI 5 1 8, o_bad, o_bad, o_lA 110 9, o_rA]]
def tb_45 : List (List jx_Op) := [
  [o_al 0 1, o_al 0 2, o_gI 5 1 5, o_bad, o_bad, o_ic 1 6, o_b2 (fun x y => x + y) 7, o_ic 9 9, o_bad, o_rem 10, o_pI 5 1 13, o_bad, o_bad, o_al 0 14, o_al 0 15, o_gI 5 2 18],
  [o_bad, o_bad, o_ic 1 19, o_b2 (fun x y => x + y) 20, o_ic 8 22, o_bad, o_cI 247 2 0 25, o_bad, o_bad, o_pI 5 2 28, o_bad, o_bad, o_rV]]
def tb_46 : List (List jx_Op) := [
  [o_al 0 1, o_al 0 2, o_gI 5 1 5, o_bad, o_bad, o_ic 9 7, o_bad, o_b2 (fun x y => x + y) 8, o_ic 1 9, o_b2 (fun x y => x - y) 10, o_ic 9 12, o_bad, o_rem 13, o_pI 5 1 16, o_bad, o_bad],
  [o_al 0 17, o_dup 18, o_gI 5 2 21, o_bad, o_bad, o_ic 1 22, o_b2 (fun x y => x - y) 23, o_pI 5 2 26, o_bad, o_bad, o_al 0 27, o_gA 5 0 30, o_bad, o_bad, o_al 0 31, o_gI 5 1 34],
  [o_bad, o_bad, o_lA 110 35, o_rA]]
def tb_47 : List (List jx_Op) := [
  [o_al 0 1, o_ic 0 2, o_pI 5 2 5, o_bad, o_bad, o_rV]]
def tb_48 : List (List jx_Op) := [
  [o_al 0 1, o_obj 4, o_bad, o_bad, o_al 0 5, o_ic 60 7, o_bad, o_na 101 (.int 0) 9, o_bad, o_pA 6 0 101 12, o_bad, o_bad, o_al 0 13, o_ic 12 15, o_bad, o_na 112 .null 18],
  [o_bad, o_bad, o_pA 6 3 112 21, o_bad, o_bad, o_ic 0 22, o_is 1 23, o_il 1 24, o_ic 12 26, o_bad, o_cge 48 29, o_bad, o_bad, o_al 0 30, o_gA 6 3 33, o_bad],
  [o_bad, o_il 1 34, o_new 1 [.null, .null] 37, o_bad, o_bad, o_dup 38, o_cV 19 1 2 41, o_bad, o_bad, o_sA 112 1 42, o_inc 1 1 45, o_bad, o_bad, o_go 23, o_bad, o_bad],
  [o_rV]]
def tb_49 : List (List jx_Op) := [
  [o_al 0 1, o_gI 6 1 4, o_bad, o_bad, o_ic 60 6, o_bad, o_clt 13 9, o_bad, o_bad, o_ic 1 10, o_go 14, o_bad, o_bad, o_ic 0 14, o_rZ]]
def tb_50 : List (List jx_Op) := [
  [o_al 0 1, o_gA 6 0 4, o_bad, o_bad, o_al 0 5, o_gI 6 1 8, o_bad, o_bad, o_il 1 9, o_sC 101 10, o_al 0 11, o_dup 12, o_gI 6 1 15, o_bad, o_bad, o_ic 1 16],
  [o_b2 (fun x y => x + y) 17, o_pI 6 1 20, o_bad, o_bad, o_al 0 21, o_gI 6 1 24, o_bad, o_bad, o_rI]]
def tb_51 : List (List jx_Op) := [
  [o_al 0 1, o_ic 0 2, o_pI 6 1 5, o_bad, o_bad, o_rV]]
def tb_52 : List (List jx_Op) := [
  [o_al 0 1, o_ic 0 2, o_pI 6 2 5, o_bad, o_bad, o_ic 0 6, o_is 1 7, o_il 1 8, o_ic 12 10, o_bad, o_cge 66 13, o_bad, o_bad, o_al 0 14, o_al 0 15, o_gA 6 3 18],
  [o_bad, o_bad, o_il 1 19, o_lA 112 20, o_cI 53 2 7 23, o_bad, o_bad, o_ne 28 26, o_bad, o_bad, o_ic 0 27, o_rZ, o_al 0 29, o_gI 6 2 32, o_bad, o_bad],
  [o_al 0 33, o_gI 6 1 36, o_bad, o_bad, o_cne 48 39, o_bad, o_bad, o_al 0 40, o_il 1 41, o_ic 1 42, o_b2 (fun x y => x + y) 43, o_pI 6 4 46, o_bad, o_bad, o_ic 1 47, o_rZ],
  [o_al 0 49, o_ic 59 51, o_bad, o_cI 57 2 7 54, o_bad, o_bad, o_ic (-1) 55, o_cne 60 58, o_bad, o_bad, o_ic 0 59, o_rZ, o_inc 1 1 63, o_bad, o_bad, o_go 7],
  [o_bad, o_bad, o_ic 0 67, o_rZ]]
def tb_53 : List (List jx_Op) := [
  [o_al 0 1, o_cN 54 1 7 4, o_bad, o_bad, o_as 2 5, o_al 2 6, o_nnl 11 9, o_bad, o_bad, o_ic 0 10, o_rZ, o_al 1 12, o_al 2 13, o_pA 1 0 21 16, o_bad, o_bad],
  [o_ic 0 17, o_is 3 18, o_il 3 19, o_al 2 20, o_gA 21 2 23, o_bad, o_bad, o_cI 248 1 21 26, o_bad, o_bad, o_cge 88 29, o_bad, o_bad, o_il 3 30, o_ic 5 31, o_cge 88 34],
  [o_bad, o_bad, o_al 2 35, o_gA 21 2 38, o_bad, o_bad, o_il 3 39, o_cI 249 2 21 42, o_bad, o_bad, o_is 4 44, o_bad, o_il 4 46, o_bad, o_ic 110 48, o_bad],
  [o_cne 58 51, o_bad, o_bad, o_al 0 52, o_cI 56 1 7 55, o_bad, o_bad, o_go 64, o_bad, o_bad, o_al 0 59, o_il 4 61, o_bad, o_cI 57 2 7 64, o_bad, o_bad],
  [o_is 5 66, o_bad, o_il 5 68, o_bad, o_ic (-1) 69, o_cne 74 72, o_bad, o_bad, o_ic 0 73, o_rZ, o_al 1 75, o_gA 1 1 78, o_bad, o_bad, o_il 3 79, o_il 5 81],
  [o_bad, o_sI 100 82, o_inc 3 1 85, o_bad, o_bad, o_go 18, o_bad, o_bad, o_ic 1 89, o_rZ]]
def tb_54 : List (List jx_Op) := [
  [o_ic 0 1, o_is 1 2, o_ic 0 3, o_is 2 4, o_il 2 5, o_rc 3 8, o_bad, o_bad, o_len 9, o_cge 67 12, o_bad, o_bad, o_rc 3 15, o_bad, o_bad, o_il 2 16],
  [o_lA 113 17, o_gA 21 1 20, o_bad, o_bad, o_as 3 21, o_al 0 22, o_al 3 23, o_cI 55 2 7 26, o_bad, o_bad, o_is 4 28, o_bad, o_il 4 30, o_bad, o_al 3 31, o_cI 248 1 21 34],
  [o_bad, o_bad, o_cne 54 37, o_bad, o_bad, o_al 0 38, o_dup 39, o_gI 6 2 42, o_bad, o_bad, o_il 4 44, o_bad, o_b2 (fun x y => x + y) 45, o_pI 6 2 48, o_bad, o_bad],
  [o_rc 3 51, o_bad, o_bad, o_il 2 52, o_lA 113 53, o_rA, o_il 1 55, o_il 4 57, o_bad, o_cI 246 2 0 60, o_bad, o_bad, o_is 1 61, o_inc 2 1 64, o_bad, o_bad],
  [o_go 4, o_bad, o_bad, o_al 0 68, o_dup 69, o_gI 6 2 72, o_bad, o_bad, o_il 1 73, o_b2 (fun x y => x + y) 74, o_pI 6 2 77, o_bad, o_bad, o_nc 78, o_rA]]
def tb_55 : List (List jx_Op) := [
  [o_ic 0 1, o_is 2 2, o_il 2 3, o_al 1 4, o_cI 248 1 21 7, o_bad, o_bad, o_cge 48 10, o_bad, o_bad, o_al 0 11, o_gI 6 2 14, o_bad, o_bad, o_il 2 15, o_b2 (fun x y => x + y) 16],
  [o_al 0 17, o_gI 6 1 20, o_bad, o_bad, o_cge 48 23, o_bad, o_bad, o_al 0 24, o_gA 6 0 27, o_bad, o_bad, o_al 0 28, o_gI 6 2 31, o_bad, o_bad, o_il 2 32],
  [o_b2 (fun x y => x + y) 33, o_lI 101 34, o_al 1 35, o_il 2 36, o_cI 249 2 21 39, o_bad, o_bad, o_cne 48 42, o_bad, o_bad, o_inc 2 1 45, o_bad, o_bad, o_go 2, o_bad, o_bad],
  [o_il 2 49, o_rI]]
def tb_56 : List (List jx_Op) := [
  [o_al 0 1, o_ic 100 3, o_bad, o_cI 57 2 7 6, o_bad, o_bad, o_is 1 7, o_il 1 8, o_ic (-1) 9, o_cne 14 12, o_bad, o_bad, o_ic (-1) 13, o_rI, o_al 0 15, o_ic 100 17],
  [o_bad, o_cI 57 2 7 20, o_bad, o_bad, o_is 2 21, o_il 2 22, o_ic (-1) 23, o_cne 30 26, o_bad, o_bad, o_il 1 27, o_go 36, o_bad, o_bad, o_ic 10 32, o_bad],
  [o_il 1 33, o_b2 (fun x y => x * y) 34, o_il 2 35, o_b2 (fun x y => x + y) 36, o_rI]]
def tb_57 : List (List jx_Op) := [
  [o_al 0 1, o_gI 6 2 4, o_bad, o_bad, o_al 0 5, o_gI 6 1 8, o_bad, o_bad, o_clt 13 11, o_bad, o_bad, o_ic (-1) 12, o_rI, o_il 1 14, o_al 0 15, o_gA 6 0 18],
  [o_bad, o_bad, o_al 0 19, o_gI 6 2 22, o_bad, o_bad, o_lI 101 23, o_cI 58 2 0 26, o_bad, o_bad, o_is 2 27, o_il 2 28, o_ic (-1) 29, o_ceq 42 32, o_bad, o_bad],
  [o_al 0 33, o_dup 34, o_gI 6 2 37, o_bad, o_bad, o_ic 1 38, o_b2 (fun x y => x + y) 39, o_pI 6 2 42, o_bad, o_bad, o_il 2 43, o_rI]]
def tb_58 : List (List jx_Op) := [
  [o_il 0 1, o_ic 99 3, o_bad, o_cne 19 6, o_bad, o_bad, o_il 1 7, o_cI 127 1 0 10, o_bad, o_bad, o_eq 17 13, o_bad, o_bad, o_il 1 14, o_go 18, o_bad],
  [o_bad, o_ic (-1) 18, o_rI, o_il 0 20, o_ic 104 22, o_bad, o_cne 52 25, o_bad, o_bad, o_il 1 26, o_ic 97 28, o_bad, o_clt 47 31, o_bad, o_bad, o_il 1 32],
  [o_ic 102 34, o_bad, o_cgt 47 37, o_bad, o_bad, o_il 1 38, o_ic 97 40, o_bad, o_b2 (fun x y => x - y) 41, o_ic 10 43, o_bad, o_b2 (fun x y => x + y) 44, o_go 51, o_bad, o_bad, o_il 1 48],
  [o_cI 131 1 0 51, o_bad, o_bad, o_rI, o_il 0 53, o_ic 100 55, o_bad, o_cne 63 58, o_bad, o_bad, o_il 1 59, o_cI 131 1 0 62, o_bad, o_bad, o_rI, o_il 1 64],
  [o_il 0 65, o_cne 72 68, o_bad, o_bad, o_il 1 69, o_go 73, o_bad, o_bad, o_ic (-1) 73, o_rI]]
def tb_59 : List (List jx_Op) := [
  [o_al 0 1, o_obj 4, o_bad, o_bad, o_al 0 5, o_new 0 [.null, .null, .int 0, .int 0] 8, o_bad, o_bad, o_dup 9, o_cV 0 1 1 12, o_bad, o_bad, o_pA 7 0 0 15, o_bad, o_bad, o_al 0 16],
  [o_new 0 [.null, .null, .int 0, .int 0] 19, o_bad, o_bad, o_dup 20, o_cV 0 1 1 23, o_bad, o_bad, o_pA 7 1 0 26, o_bad, o_bad, o_al 0 27, o_new 5 [.null, .int 0, .int 0] 30, o_bad, o_bad, o_dup 31, o_cV 42 1 6 34],
  [o_bad, o_bad, o_pA 7 3 5 37, o_bad, o_bad, o_al 0 38, o_new 4 [.null, .null, .null, .int 0] 41, o_bad, o_bad, o_dup 42, o_cV 31 1 5 45, o_bad, o_bad, o_pA 7 4 4 48, o_bad, o_bad],
  [o_al 0 49, o_new 3 [.null, .null] 52, o_bad, o_bad, o_dup 53, o_cV 24 1 4 56, o_bad, o_bad, o_pA 7 5 3 59, o_bad, o_bad, o_al 0 60, o_new 6 [.null, .int 0, .int 0, .null, .int 0] 63, o_bad, o_bad, o_dup 64],
  [o_cV 48 1 7 67, o_bad, o_bad, o_pA 7 6 6 70, o_bad, o_bad, o_al 0 71, o_ic 8 73, o_bad, o_na 101 (.int 0) 75, o_bad, o_pA 7 7 101 78, o_bad, o_bad, o_al 0 79, o_ic (-1) 80],
  [o_pI 7 9 83, o_bad, o_bad, o_al 0 84, o_ic (-1) 85, o_pI 7 10 88, o_bad, o_bad, o_rV]]
def tb_60 : List (List jx_Op) := [
  [o_al 0 1, o_gA 7 3 4, o_bad, o_bad, o_al 0 5, o_gA 7 0 8, o_bad, o_bad, o_cV 43 2 6 11, o_bad, o_bad, o_al 0 12, o_al 0 13, o_gA 7 0 16, o_bad, o_bad],
  [o_il 1 17, o_il 2 18, o_il 3 19, o_il 4 21, o_bad, o_il 5 23, o_bad, o_cI 6 6 1 26, o_bad, o_bad, o_cI 114 2 8 29, o_bad, o_bad, o_rI]]
def tb_61 : List (List jx_Op) := [
  [o_al 0 1, o_gA 7 3 4, o_bad, o_bad, o_al 0 5, o_gA 7 0 8, o_bad, o_bad, o_cV 43 2 6 11, o_bad, o_bad, o_al 0 12, o_al 0 13, o_gA 7 0 16, o_bad, o_bad],
  [o_il 1 17, o_cI 7 2 1 20, o_bad, o_bad, o_cI 114 2 8 23, o_bad, o_bad, o_rI]]
def tb_62 : List (List jx_Op) := [
  [o_al 0 1, o_gA 7 0 4, o_bad, o_bad, o_gI 0 2 7, o_bad, o_bad, o_rI]]
def tb_63 : List (List jx_Op) := [
  [o_al 0 1, o_gA 7 0 4, o_bad, o_bad, o_gI 0 2 7, o_bad, o_bad, o_al 0 8, o_gA 7 0 11, o_bad, o_bad, o_cI 4 1 1 14, o_bad, o_bad, o_b2 (fun x y => x - y) 15, o_rI]]
def tb_64 : List (List jx_Op) := [
  [o_al 0 1, o_gA 7 0 4, o_bad, o_bad, o_il 1 5, o_cN 5 2 1 8, o_bad, o_bad, o_as 2 9, o_al 2 10, o_nnl 23 13, o_bad, o_bad, o_th "java/lang/IndexOutOfBoundsException", o_bad, o_bad],
  [o_bad, o_bad, o_bad, o_bad, o_bad, o_bad, o_bad, o_al 2 24, o_gI 2 0 27, o_bad, o_bad, o_rI]]
def tb_65 : List (List jx_Op) := [
  [o_al 0 1, o_gA 7 0 4, o_bad, o_bad, o_il 1 5, o_cN 3 2 1 8, o_bad, o_bad, o_nul 15 11, o_bad, o_bad, o_ic 1 12, o_go 16, o_bad, o_bad, o_ic 0 16],
  [o_rZ]]
def tb_66 : List (List jx_Op) := [
  [o_al 0 1, o_il 1 2, o_cA 116 2 8 5, o_bad, o_bad, o_gI 2 1 8, o_bad, o_bad, o_rC]]
def tb_67 : List (List jx_Op) := [
  [o_al 0 1, o_il 1 2, o_cA 116 2 8 5, o_bad, o_bad, o_gI 2 3 8, o_bad, o_bad, o_rI]]
def tb_68 : List (List jx_Op) := [
  [o_al 0 1, o_il 1 2, o_cA 116 2 8 5, o_bad, o_bad, o_as 3 6, o_il 2 7, o_cV 122 1 0 10, o_bad, o_bad, o_al 3 11, o_il 2 12, o_cI 22 2 3 15, o_bad, o_bad, o_rI]]
def tb_69 : List (List jx_Op) := [
  [o_al 0 1, o_il 1 2, o_cA 116 2 8 5, o_bad, o_bad, o_cI 21 1 3 8, o_bad, o_bad, o_rZ]]
def tb_70 : List (List jx_Op) := [
  [o_al 0 1, o_il 1 2, o_cA 117 2 8 5, o_bad, o_bad, o_gI 2 4 8, o_bad, o_bad, o_rI]]
def tb_71 : List (List jx_Op) := [
  [o_ic 0 1, o_is 1 2, o_ic 0 3, o_is 2 4, o_il 2 5, o_al 0 6, o_gA 7 0 9, o_bad, o_bad, o_gI 0 2 12, o_bad, o_bad, o_cge 52 15, o_bad, o_bad, o_ic 0 16],
  [o_is 3 17, o_il 3 18, o_ic 4 19, o_cge 46 22, o_bad, o_bad, o_il 1 23, o_ic 1 24, o_al 0 25, o_gA 7 0 28, o_bad, o_bad, o_gA 0 0 31, o_bad, o_bad, o_il 2 32],
  [o_lA 111 33, o_il 3 34, o_cI 22 2 3 37, o_bad, o_bad, o_b2 (fun x y => x <<< (y &&& 31)) 38, o_b2 (fun x y => x ||| y) 39, o_is 1 40, o_inc 3 1 43, o_bad, o_bad, o_go 17, o_bad, o_bad, o_inc 2 1 49, o_bad],
  [o_bad, o_go 4, o_bad, o_bad, o_il 1 53, o_cI 244 1 0 56, o_bad, o_bad, o_rI]]
def tb_72 : List (List jx_Op) := [
  [o_al 0 1, o_gA 7 3 4, o_bad, o_bad, o_al 0 5, o_gA 7 0 8, o_bad, o_bad, o_cV 43 2 6 11, o_bad, o_bad, o_al 0 12, o_al 0 13, o_gA 7 0 16, o_bad, o_bad],
  [o_il 1 17, o_il 2 18, o_il 3 19, o_cI 8 4 1 22, o_bad, o_bad, o_cI 114 2 8 25, o_bad, o_bad, o_rI]]
def tb_73 : List (List jx_Op) := [
  [o_al 0 1, o_gA 7 3 4, o_bad, o_bad, o_al 0 5, o_gA 7 0 8, o_bad, o_bad, o_cV 43 2 6 11, o_bad, o_bad, o_al 0 12, o_al 0 13, o_gA 7 0 16, o_bad, o_bad],
  [o_il 1 17, o_cI 10 2 1 20, o_bad, o_bad, o_cI 114 2 8 23, o_bad, o_bad, o_rI]]
def tb_74 : List (List jx_Op) := [
  [o_al 0 1, o_gA 7 3 4, o_bad, o_bad, o_al 0 5, o_gA 7 0 8, o_bad, o_bad, o_cV 43 2 6 11, o_bad, o_bad, o_al 0 12, o_al 0 13, o_gA 7 0 16, o_bad, o_bad],
  [o_il 1 17, o_il 2 18, o_cI 11 3 1 21, o_bad, o_bad, o_cI 114 2 8 24, o_bad, o_bad, o_rI]]
def tb_75 : List (List jx_Op) := [
  [o_al 0 1, o_gA 7 3 4, o_bad, o_bad, o_al 0 5, o_gA 7 0 8, o_bad, o_bad, o_cV 43 2 6 11, o_bad, o_bad, o_al 0 12, o_al 0 13, o_gA 7 0 16, o_bad, o_bad],
  [o_il 1 17, o_il 2 18, o_cI 12 3 1 21, o_bad, o_bad, o_cI 114 2 8 24, o_bad, o_bad, o_rI]]
def tb_76 : List (List jx_Op) := [
  [o_al 0 1, o_al 0 2, o_il 1 3, o_il 2 4, o_cI 119 3 8 7, o_bad, o_bad, o_ic 0 8, o_cA 121 3 8 11, o_bad, o_bad, o_as 3 12, o_al 0 13, o_gA 7 3 16, o_bad, o_bad],
  [o_al 0 17, o_gA 7 0 20, o_bad, o_bad, o_cV 43 2 6 23, o_bad, o_bad, o_al 0 24, o_gA 7 4 27, o_bad, o_bad, o_al 0 28, o_gA 7 0 31, o_bad, o_bad, o_al 3 32],
  [o_cV 38 3 5 35, o_bad, o_bad, o_al 0 36, o_al 3 37, o_gI 2 0 40, o_bad, o_bad, o_cI 114 2 8 43, o_bad, o_bad, o_rI]]
def tb_77 : List (List jx_Op) := [
  [o_al 0 1, o_gA 7 3 4, o_bad, o_bad, o_al 0 5, o_gA 7 0 8, o_bad, o_bad, o_cV 43 2 6 11, o_bad, o_bad, o_al 0 12, o_al 0 13, o_gA 7 4 16, o_bad, o_bad],
  [o_al 0 17, o_gA 7 0 20, o_bad, o_bad, o_cI 41 2 5 23, o_bad, o_bad, o_cI 114 2 8 26, o_bad, o_bad, o_rI]]
def tb_78 : List (List jx_Op) := [
  [o_al 0 1, o_gA 7 0 4, o_bad, o_bad, o_gA 0 1 7, o_bad, o_bad, o_il 1 8, o_il 2 9, o_cI 118 2 0 12, o_bad, o_bad, o_lN 111 13, o_nnl 20 16, o_bad, o_bad],
  [o_ic 1 17, o_go 21, o_bad, o_bad, o_ic 0 21, o_rZ]]
def tb_79 : List (List jx_Op) := [
  [o_al 0 1, o_gA 7 0 4, o_bad, o_bad, o_gA 0 1 7, o_bad, o_bad, o_il 1 8, o_il 2 9, o_cI 118 2 0 12, o_bad, o_bad, o_lN 111 13, o_as 3 14, o_al 3 15, o_nnl 28 18],
  [o_bad, o_bad, o_th "java/util/NoSuchElementException", o_bad, o_bad, o_bad, o_bad, o_bad, o_bad, o_bad, o_bad, o_bad, o_al 3 29, o_gI 2 0 32, o_bad, o_bad],
  [o_rI]]
def tb_80 : List (List jx_Op) := [
  [o_lc 0 1, o_ls 1 2, o_ic 0 3, o_is 3 4, o_il 3 5, o_ic 64 7, o_bad, o_cge 35 10, o_bad, o_bad, o_al 0 11, o_gA 7 0 14, o_bad, o_bad, o_gA 0 1 17, o_bad],
  [o_bad, o_il 3 18, o_lN 111 19, o_nul 29 22, o_bad, o_bad, o_ll 1 23, o_il 3 24, o_cL 129 1 0 27, o_bad, o_bad, o_B2 (fun x y => x ||| y) 28, o_ls 1 29, o_inc 3 1 32, o_bad, o_bad],
  [o_go 4, o_bad, o_bad, o_ll 1 36, o_rL]]
def tb_81 : List (List jx_Op) := [
  [o_il 1 1, o_cI 127 1 0 4, o_bad, o_bad, o_ne 17 7, o_bad, o_bad, o_th "java/lang/IllegalArgumentException", o_bad, o_bad, o_bad, o_bad, o_bad, o_bad, o_bad, o_bad],
  [o_bad, o_lc 0 18, o_ls 2 19, o_ic 0 20, o_is 4 22, o_bad, o_il 4 24, o_bad, o_ic 64 26, o_bad, o_cge 69 29, o_bad, o_bad, o_al 0 30, o_gA 7 0 33, o_bad],
  [o_bad, o_gA 0 1 36, o_bad, o_bad, o_il 4 38, o_bad, o_lN 111 39, o_as 5 41, o_bad, o_al 5 43, o_bad, o_nul 63 46, o_bad, o_bad, o_al 5 48, o_bad],
  [o_gI 2 1 51, o_bad, o_bad, o_il 1 52, o_cne 63 55, o_bad, o_bad, o_ll 2 56, o_il 4 58, o_bad, o_cL 129 1 0 61, o_bad, o_bad, o_B2 (fun x y => x ||| y) 62, o_ls 2 63, o_inc 4 1 66],
  [o_bad, o_bad, o_go 22, o_bad, o_bad, o_ll 2 70, o_rL]]
def tb_82 : List (List jx_Op) := [
  [o_lc 0 1, o_ls 1 2, o_ic 0 3, o_is 3 4, o_il 3 5, o_ic 64 7, o_bad, o_cge 34 10, o_bad, o_bad, o_al 0 11, o_gA 7 0 14, o_bad, o_bad, o_il 3 15, o_cI 15 2 1 18],
  [o_bad, o_bad, o_eq 28 21, o_bad, o_bad, o_ll 1 22, o_il 3 23, o_cL 129 1 0 26, o_bad, o_bad, o_B2 (fun x y => x ||| y) 27, o_ls 1 28, o_inc 3 1 31, o_bad, o_bad, o_go 4],
  [o_bad, o_bad, o_ll 1 35, o_rL]]
def tb_83 : List (List jx_Op) := [
  [o_al 0 1, o_cL 80 1 8 4, o_bad, o_bad, o_ls 1 5, o_ll 1 6, o_ic 8 8, o_bad, o_Sh (fun x y => x <<< (y.toInt64 &&& 63)) 9, o_ll 1 10, o_ic 8 12, o_bad, o_Sh (fun x y => (x.toUInt64 >>> (y.toInt64.toUInt64 &&& Int64.toUInt64 63)).toInt64) 13, o_B2 (fun x y => x ||| y) 14, o_ls 3 15, o_ll 3 16],
  [o_ll 1 17, o_lc 9187201950435737471 20, o_bad, o_bad, o_B2 (fun x y => x &&& y) 21, o_ic 1 22, o_Sh (fun x y => x <<< (y.toInt64 &&& 63)) 23, o_ll 1 24, o_lc (-72340172838076674) 27, o_bad, o_bad, o_B2 (fun x y => x &&& y) 28, o_ic 1 29, o_Sh (fun x y => (x.toUInt64 >>> (y.toInt64.toUInt64 &&& Int64.toUInt64 63)).toInt64) 30, o_B2 (fun x y => x ||| y) 31, o_B2 (fun x y => x ||| y) 32],
  [o_ls 3 33, o_ll 3 34, o_ll 1 35, o_lc (-1) 38, o_bad, o_bad, o_B2 (fun x y => x ^^^ y) 39, o_B2 (fun x y => x &&& y) 40, o_rL]]
def tb_84 : List (List jx_Op) := [
  [o_al 0 1, o_cL 82 1 8 4, o_bad, o_bad, o_cI 245 1 0 7, o_bad, o_bad, o_rI]]
def tb_85 : List (List jx_Op) := [
  [o_al 0 1, o_gA 7 0 4, o_bad, o_bad, o_ic 1 5, o_cI 18 2 1 8, o_bad, o_bad, o_rI]]
def tb_86 : List (List jx_Op) := [
  [o_al 0 1, o_gA 7 0 4, o_bad, o_bad, o_ic 0 5, o_cI 18 2 1 8, o_bad, o_bad, o_rI]]
def tb_87 : List (List jx_Op) := [
  [o_al 0 1, o_il 1 2, o_cA 117 2 8 5, o_bad, o_bad, o_as 3 6, o_il 2 7, o_cV 122 1 0 10, o_bad, o_bad, o_al 0 11, o_gA 7 0 14, o_bad, o_bad, o_al 3 15, o_il 2 16],
  [o_ic 1 17, o_cI 16 4 1 20, o_bad, o_bad, o_rZ]]
def tb_88 : List (List jx_Op) := [
  [o_al 0 1, o_gA 7 0 4, o_bad, o_bad, o_al 0 5, o_il 1 6, o_cA 117 2 8 9, o_bad, o_bad, o_ic 0 10, o_cI 17 3 1 13, o_bad, o_bad, o_rI]]
def tb_89 : List (List jx_Op) := [
  [o_al 0 1, o_gA 7 0 4, o_bad, o_bad, o_al 0 5, o_il 1 6, o_il 2 7, o_cI 119 3 8 10, o_bad, o_bad, o_cI 14 2 1 13, o_bad, o_bad, o_rI]]
def tb_90 : List (List jx_Op) := [
  [o_al 0 1, o_il 1 2, o_cA 116 2 8 5, o_bad, o_bad, o_as 5 7, o_bad, o_il 2 8, o_il 3 9, o_cI 118 2 0 12, o_bad, o_bad, o_is 6 14, o_bad, o_il 4 16, o_bad],
  [o_ic 3 17, o_cI 126 2 0 20, o_bad, o_bad, o_ne 33 23, o_bad, o_bad, o_th "java/lang/IllegalArgumentException", o_bad, o_bad, o_bad, o_bad, o_bad, o_bad, o_bad, o_bad],
  [o_bad, o_al 5 35, o_bad, o_cV 123 1 0 38, o_bad, o_bad, o_al 0 39, o_il 6 41, o_bad, o_cV 120 2 8 44, o_bad, o_bad, o_al 0 45, o_gA 7 4 48, o_bad, o_bad],
  [o_al 0 49, o_gA 7 0 52, o_bad, o_bad, o_il 6 54, o_bad, o_cV 32 3 5 57, o_bad, o_bad, o_al 0 58, o_gA 7 4 61, o_bad, o_bad, o_al 5 63, o_bad, o_il 4 65],
  [o_bad, o_cI 33 3 5 68, o_bad, o_bad, o_rI]]
def tb_91 : List (List jx_Op) := [
  [o_al 0 1, o_il 1 2, o_cA 116 2 8 5, o_bad, o_bad, o_as 4 7, o_bad, o_il 2 8, o_il 3 9, o_cI 118 2 0 12, o_bad, o_bad, o_is 5 14, o_bad, o_al 4 16, o_bad],
  [o_cV 123 1 0 19, o_bad, o_bad, o_al 0 20, o_il 5 22, o_bad, o_cV 120 2 8 25, o_bad, o_bad, o_al 0 26, o_gA 7 4 29, o_bad, o_bad, o_al 0 30, o_gA 7 0 33, o_bad],
  [o_bad, o_il 5 35, o_bad, o_cV 32 3 5 38, o_bad, o_bad, o_al 0 39, o_gA 7 4 42, o_bad, o_bad, o_al 4 44, o_bad, o_cI 34 2 5 47, o_bad, o_bad, o_rI]]
def tb_92 : List (List jx_Op) := [
  [o_al 0 1, o_al 0 2, o_il 1 3, o_il 2 4, o_cI 119 3 8 7, o_bad, o_bad, o_ic 0 8, o_cA 121 3 8 11, o_bad, o_bad, o_gI 2 0 14, o_bad, o_bad, o_rI]]
def tb_93 : List (List jx_Op) := [
  [o_al 0 1, o_al 0 2, o_il 1 3, o_il 2 4, o_cI 119 3 8 7, o_bad, o_bad, o_il 3 8, o_cA 121 3 8 11, o_bad, o_bad, o_gI 2 0 14, o_bad, o_bad, o_rI]]
def tb_94 : List (List jx_Op) := [
  [o_al 0 1, o_gA 7 5 4, o_bad, o_bad, o_al 0 5, o_gA 7 0 8, o_bad, o_bad, o_cI 26 2 4 11, o_bad, o_bad, o_rI]]
def tb_95 : List (List jx_Op) := [
  [o_al 0 1, o_gA 7 5 4, o_bad, o_bad, o_al 0 5, o_gA 7 0 8, o_bad, o_bad, o_cI 28 2 4 11, o_bad, o_bad, o_rI]]
def tb_96 : List (List jx_Op) := [
  [o_al 0 1, o_il 1 2, o_cL 97 2 8 5, o_bad, o_bad, o_cI 245 1 0 8, o_bad, o_bad, o_rI]]
def tb_97 : List (List jx_Op) := [
  [o_al 0 1, o_gA 7 5 4, o_bad, o_bad, o_al 0 5, o_gA 7 0 8, o_bad, o_bad, o_al 0 9, o_il 1 10, o_cA 117 2 8 13, o_bad, o_bad, o_cL 25 3 4 16, o_bad, o_bad],
  [o_rL]]
def tb_98 : List (List jx_Op) := [
  [o_al 0 1, o_gA 7 5 4, o_bad, o_bad, o_al 0 5, o_gA 7 0 8, o_bad, o_bad, o_cI 27 2 4 11, o_bad, o_bad, o_is 1 12, o_il 1 13, o_ne 27 16, o_bad, o_bad],
  [o_th "java/util/NoSuchElementException", o_bad, o_bad, o_bad, o_bad, o_bad, o_bad, o_bad, o_bad, o_bad, o_bad, o_il 1 28, o_rI]]
def tb_99 : List (List jx_Op) := [
  [o_al 0 1, o_gA 7 0 4, o_bad, o_bad, o_ic 1 5, o_cI 18 2 1 8, o_bad, o_bad, o_is 1 9, o_il 1 10, o_al 0 11, o_gA 7 0 14, o_bad, o_bad, o_ic 0 15, o_cI 18 2 1 18],
  [o_bad, o_bad, o_b2 (fun x y => x + y) 19, o_is 2 20, o_il 2 21, o_ne 35 24, o_bad, o_bad, o_th "java/lang/ArithmeticException", o_bad, o_bad, o_bad, o_bad, o_bad, o_bad, o_bad],
  [o_bad, o_bad, o_bad, o_il 1 36, o_i2f 37, o_il 2 38, o_i2f 39, o_F2 FP.fdiv 40, o_rF]]
def tb_100 : List (List jx_Op) := [
  [o_al 0 1, o_cF 99 1 8 4, o_bad, o_bad, o_cI 132 1 0 7, o_bad, o_bad, o_rI]]
def tb_101 : List (List jx_Op) := [
  [o_al 0 1, o_gA 7 0 4, o_bad, o_bad, o_cI 4 1 1 7, o_bad, o_bad, o_is 1 8, o_il 1 9, o_ne 23 12, o_bad, o_bad, o_th "java/lang/ArithmeticException", o_bad, o_bad, o_bad],
  [o_bad, o_bad, o_bad, o_bad, o_bad, o_bad, o_bad, o_ic 2 24, o_al 0 25, o_gA 7 0 28, o_bad, o_bad, o_ic 1 29, o_cI 18 2 1 32, o_bad, o_bad],
  [o_b2 (fun x y => x * y) 33, o_i2d 34, o_il 1 35, o_i2d 36, o_D2 FP.ddiv 37, o_rD]]
def tb_102 : List (List jx_Op) := [
  [o_al 0 1, o_cL 82 1 8 4, o_bad, o_bad, o_al 0 5, o_cL 83 1 8 8, o_bad, o_bad, o_lcmp 9, o_ne 27 12, o_bad, o_bad, o_al 0 13, o_cI 94 1 8 16, o_bad, o_bad],
  [o_al 0 17, o_cI 95 1 8 20, o_bad, o_bad, o_cne 27 23, o_bad, o_bad, o_ic 1 24, o_go 28, o_bad, o_bad, o_ic 0 28, o_rZ]]
def tb_103 : List (List jx_Op) := [
  [o_il 1 1, o_ic 0 2, o_cI 118 2 0 5, o_bad, o_bad, o_is 2 6, o_ic 0 7, o_is 3 8, o_il 3 9, o_ic 8 11, o_bad, o_cge 33 14, o_bad, o_bad, o_al 0 15, o_gA 7 7 18],
  [o_bad, o_bad, o_il 3 19, o_al 0 20, o_il 2 21, o_il 3 22, o_b2 (fun x y => x + y) 23, o_cI 124 2 8 26, o_bad, o_bad, o_sC 101 27, o_inc 3 1 30, o_bad, o_bad, o_go 8, o_bad],
  [o_bad, o_al 0 34, o_ic 8 36, o_bad, o_pI 7 8 39, o_bad, o_bad, o_al 0 40, o_gI 7 8 43, o_bad, o_bad, o_rI]]
def tb_104 : List (List jx_Op) := [
  [o_al 0 1, o_il 1 2, o_cA 116 2 8 5, o_bad, o_bad, o_as 2 6, o_al 0 7, o_gA 7 7 10, o_bad, o_bad, o_ic 0 11, o_al 2 12, o_gI 2 1 15, o_bad, o_bad, o_sC 101 16],
  [o_ic 0 17, o_is 3 18, o_il 3 19, o_ic 4 20, o_cge 45 23, o_bad, o_bad, o_al 0 24, o_gA 7 7 27, o_bad, o_bad, o_ic 1 28, o_il 3 29, o_b2 (fun x y => x + y) 30, o_al 2 31, o_il 3 32],
  [o_cI 22 2 3 35, o_bad, o_bad, o_cI 130 1 0 38, o_bad, o_bad, o_sC 101 39, o_inc 3 1 42, o_bad, o_bad, o_go 18, o_bad, o_bad, o_al 0 46, o_ic 5 47, o_pI 7 8 50],
  [o_bad, o_bad, o_al 2 51, o_cI 21 1 3 54, o_bad, o_bad, o_eq 105 57, o_bad, o_bad, o_al 0 58, o_gA 7 7 61, o_bad, o_bad, o_ic 5 62, o_ic 64 64, o_bad],
  [o_sC 101 65, o_al 0 66, o_gA 7 7 69, o_bad, o_bad, o_ic 6 71, o_bad, o_al 2 72, o_gI 2 4 75, o_bad, o_bad, o_ic 8 77, o_bad, o_div 78, o_cI 130 1 0 81, o_bad],
  [o_bad, o_sC 101 82, o_al 0 83, o_gA 7 7 86, o_bad, o_bad, o_ic 7 88, o_bad, o_al 2 89, o_gI 2 4 92, o_bad, o_bad, o_ic 8 94, o_bad, o_rem 95, o_cI 130 1 0 98],
  [o_bad, o_bad, o_sC 101 99, o_al 0 100, o_ic 8 102, o_bad, o_pI 7 8 105, o_bad, o_bad, o_al 0 106, o_gI 7 8 109, o_bad, o_bad, o_rI]]
def tb_105 : List (List jx_Op) := [
  [o_il 1 1, o_lt 12 4, o_bad, o_bad, o_il 1 5, o_al 0 6, o_gI 7 8 9, o_bad, o_bad, o_clt 23 12, o_bad, o_bad, o_th "java/lang/IndexOutOfBoundsException", o_bad, o_bad, o_bad],
  [o_bad, o_bad, o_bad, o_bad, o_bad, o_bad, o_bad, o_al 0 24, o_gA 7 7 27, o_bad, o_bad, o_il 1 28, o_lI 101 29, o_rC]]
def tb_106 : List (List jx_Op) := [
  [o_al 0 1, o_gA 7 6 4, o_bad, o_bad, o_cI 49 1 7 7, o_bad, o_bad, o_eq 21 10, o_bad, o_bad, o_th "java/lang/IllegalStateException", o_bad, o_bad, o_bad, o_bad, o_bad],
  [o_bad, o_bad, o_bad, o_bad, o_bad, o_al 0 22, o_gA 7 6 25, o_bad, o_bad, o_il 1 26, o_cI 50 2 7 29, o_bad, o_bad, o_rI]]
def tb_107 : List (List jx_Op) := [
  [o_al 0 1, o_gA 7 6 4, o_bad, o_bad, o_cI 52 1 7 7, o_bad, o_bad, o_is 1 8, o_al 0 9, o_gA 7 6 12, o_bad, o_bad, o_cV 51 1 7 15, o_bad, o_bad, o_il 1 16],
  [o_ne 41 19, o_bad, o_bad, o_al 0 20, o_al 0 21, o_gA 7 6 24, o_bad, o_bad, o_gI 6 2 27, o_bad, o_bad, o_pI 7 9 30, o_bad, o_bad, o_th "java/lang/IllegalArgumentException", o_bad],
  [o_bad, o_bad, o_bad, o_bad, o_bad, o_bad, o_bad, o_bad, o_bad, o_al 0 42, o_gA 7 3 45, o_bad, o_bad, o_al 0 46, o_gA 7 0 49, o_bad],
  [o_bad, o_cV 43 2 6 52, o_bad, o_bad, o_ic 0 53, o_is 2 54, o_il 2 55, o_al 0 56, o_gA 7 6 59, o_bad, o_bad, o_gI 6 4 62, o_bad, o_bad, o_cge 117 65, o_bad],
  [o_bad, o_al 0 66, o_al 0 67, o_gA 7 6 70, o_bad, o_bad, o_gA 6 3 73, o_bad, o_bad, o_il 2 74, o_lA 112 75, o_cI 125 2 8 78, o_bad, o_bad, o_ge 111 81, o_bad],
  [o_bad, o_al 0 82, o_gA 7 0 85, o_bad, o_bad, o_al 0 86, o_gA 7 3 89, o_bad, o_bad, o_cA 44 1 6 92, o_bad, o_bad, o_cV 1 2 1 95, o_bad, o_bad, o_al 0 96],
  [o_il 2 97, o_pI 7 10 100, o_bad, o_bad, o_th "java/lang/UnsupportedOperationException", o_bad, o_bad, o_bad, o_bad, o_bad, o_bad, o_bad, o_bad, o_bad, o_bad, o_inc 2 1 114],
  [o_bad, o_bad, o_go 54, o_bad, o_bad, o_al 0 118, o_al 0 119, o_gA 7 6 122, o_bad, o_bad, o_gI 6 4 125, o_bad, o_bad, o_cI 114 2 8 128, o_bad, o_bad],
  [o_rI]]
def tb_108 : List (List jx_Op) := [
  [o_al 0 1, o_gI 7 9 4, o_bad, o_bad, o_ic (-1) 5, o_cne 19 8, o_bad, o_bad, o_th "java/util/NoSuchElementException", o_bad, o_bad, o_bad, o_bad, o_bad, o_bad, o_bad],
  [o_bad, o_bad, o_bad, o_al 0 20, o_gI 7 9 23, o_bad, o_bad, o_rI]]
def tb_109 : List (List jx_Op) := [
  [o_al 0 1, o_gI 7 10 4, o_bad, o_bad, o_ic (-1) 5, o_cne 19 8, o_bad, o_bad, o_th "java/util/NoSuchElementException", o_bad, o_bad, o_bad, o_bad, o_bad, o_bad, o_bad],
  [o_bad, o_bad, o_bad, o_al 0 20, o_gI 7 10 23, o_bad, o_bad, o_rI]]
def tb_110 : List (List jx_Op) := [
  [o_al 0 1, o_gA 7 3 4, o_bad, o_bad, o_gI 5 2 7, o_bad, o_bad, o_ne 21 10, o_bad, o_bad, o_th "java/lang/IllegalStateException", o_bad, o_bad, o_bad, o_bad, o_bad],
  [o_bad, o_bad, o_bad, o_bad, o_bad, o_al 0 22, o_gA 7 0 25, o_bad, o_bad, o_al 0 26, o_gA 7 3 29, o_bad, o_bad, o_cA 46 1 6 32, o_bad, o_bad],
  [o_cV 1 2 1 35, o_bad, o_bad, o_al 0 36, o_gA 7 3 39, o_bad, o_bad, o_gI 5 2 42, o_bad, o_bad, o_rI]]
def tb_111 : List (List jx_Op) := [
  [o_al 0 1, o_gA 7 3 4, o_bad, o_bad, o_gI 5 2 7, o_bad, o_bad, o_rI]]
def tb_112 : List (List jx_Op) := [
  [o_al 0 1, o_gA 7 1 4, o_bad, o_bad, o_al 0 5, o_gA 7 0 8, o_bad, o_bad, o_cV 1 2 1 11, o_bad, o_bad, o_al 0 12, o_ic 1 13, o_pZ 7 2 16, o_bad, o_bad],
  [o_al 0 17, o_gA 7 0 20, o_bad, o_bad, o_gI 0 2 23, o_bad, o_bad, o_rI]]
def tb_113 : List (List jx_Op) := [
  [o_al 0 1, o_gI 7 2 4, o_bad, o_bad, o_ne 18 7, o_bad, o_bad, o_th "java/lang/IllegalStateException", o_bad, o_bad, o_bad, o_bad, o_bad, o_bad, o_bad, o_bad],
  [o_bad, o_bad, o_al 0 19, o_gA 7 0 22, o_bad, o_bad, o_al 0 23, o_gA 7 1 26, o_bad, o_bad, o_cV 1 2 1 29, o_bad, o_bad, o_al 0 30, o_gA 7 3 33, o_bad],
  [o_bad, o_cV 47 1 6 36, o_bad, o_bad, o_al 0 37, o_gA 7 0 40, o_bad, o_bad, o_gI 0 2 43, o_bad, o_bad, o_rI]]
def tb_114 : List (List jx_Op) := [
  [o_il 1 1, o_cV 115 1 0 4, o_bad, o_bad, o_al 0 5, o_gA 7 3 8, o_bad, o_bad, o_cV 45 1 6 11, o_bad, o_bad, o_il 1 12, o_rI]]
def tb_115 : List (List jx_Op) := [
  [o_il 0 1, o_sw 76 [(-4, 65), (-3, 54), (-2, 43), (-1, 32)], o_bad, o_bad, o_bad, o_bad, o_bad, o_bad, o_bad, o_bad, o_bad, o_bad, o_bad, o_bad, o_bad, o_bad],
  [o_bad, o_bad, o_bad, o_bad, o_bad, o_bad, o_bad, o_bad, o_bad, o_bad, o_bad, o_bad, o_bad, o_bad, o_bad, o_bad],
  [o_th "java/util/NoSuchElementException", o_bad, o_bad, o_bad, o_bad, o_bad, o_bad, o_bad, o_bad, o_bad, o_bad, o_th "java/lang/IndexOutOfBoundsException", o_bad, o_bad, o_bad, o_bad],
  [o_bad, o_bad, o_bad, o_bad, o_bad, o_bad, o_th "java/lang/IllegalArgumentException", o_bad, o_bad, o_bad, o_bad, o_bad, o_bad, o_bad, o_bad, o_bad],
  [o_bad, o_th "java/lang/IllegalStateException", o_bad, o_bad, o_bad, o_bad, o_bad, o_bad, o_bad, o_bad, o_bad, o_bad, o_rV]]
def tb_116 : List (List jx_Op) := [
  [o_al 0 1, o_gA 7 0 4, o_bad, o_bad, o_il 1 5, o_cN 3 2 1 8, o_bad, o_bad, o_as 2 9, o_al 2 10, o_nnl 24 13, o_bad, o_bad, o_th "java/util/NoSuchElementException", o_bad, o_bad],
  [o_bad, o_bad, o_bad, o_bad, o_bad, o_bad, o_bad, o_bad, o_al 2 25, o_rA]]
def tb_117 : List (List jx_Op) := [
  [o_al 0 1, o_il 1 2, o_cA 116 2 8 5, o_bad, o_bad, o_as 2 6, o_al 2 7, o_cI 21 1 3 10, o_bad, o_bad, o_ne 24 13, o_bad, o_bad, o_th "java/util/NoSuchElementException", o_bad, o_bad],
  [o_bad, o_bad, o_bad, o_bad, o_bad, o_bad, o_bad, o_bad, o_al 2 25, o_rA]]
def tb_118 : List (List jx_Op) := [
  [o_il 0 1, o_ic 7 3, o_bad, o_cI 126 2 0 6, o_bad, o_bad, o_eq 18 9, o_bad, o_bad, o_il 1 10, o_ic 7 12, o_bad, o_cI 126 2 0 15, o_bad, o_bad, o_ne 29 18],
  [o_bad, o_bad, o_th "java/lang/IndexOutOfBoundsException", o_bad, o_bad, o_bad, o_bad, o_bad, o_bad, o_bad, o_bad, o_bad, o_bad, o_ic 8 31, o_bad, o_il 0 32],
  [o_b2 (fun x y => x * y) 33, o_il 1 34, o_b2 (fun x y => x + y) 35, o_rI]]
def tb_119 : List (List jx_Op) := [
  [o_il 1 1, o_il 2 2, o_cI 118 2 0 5, o_bad, o_bad, o_is 3 6, o_al 0 7, o_il 3 8, o_cV 120 2 8 11, o_bad, o_bad, o_il 3 12, o_rI]]
def tb_120 : List (List jx_Op) := [
  [o_al 0 1, o_gA 7 0 4, o_bad, o_bad, o_il 1 5, o_cI 15 2 1 8, o_bad, o_bad, o_ne 22 11, o_bad, o_bad, o_th "java/lang/UnsupportedOperationException", o_bad, o_bad, o_bad, o_bad],
  [o_bad, o_bad, o_bad, o_bad, o_bad, o_bad, o_rV]]
def tb_121 : List (List jx_Op) := [
  [o_al 0 1, o_gA 7 4 4, o_bad, o_bad, o_al 0 5, o_gA 7 0 8, o_bad, o_bad, o_il 1 9, o_cV 32 3 5 12, o_bad, o_bad, o_al 0 13, o_gA 7 4 16, o_bad, o_bad],
  [o_al 0 17, o_gA 7 0 20, o_bad, o_bad, o_il 2 21, o_cN 36 3 5 24, o_bad, o_bad, o_as 3 25, o_al 3 26, o_nnl 40 29, o_bad, o_bad, o_th "java/util/NoSuchElementException", o_bad, o_bad],
  [o_bad, o_bad, o_bad, o_bad, o_bad, o_bad, o_bad, o_bad, o_al 3 41, o_rA]]
def tb_122 : List (List jx_Op) := [
  [o_il 0 1, o_ic 3 2, o_cI 126 2 0 5, o_bad, o_bad, o_ne 19 8, o_bad, o_bad, o_th "java/lang/IllegalArgumentException", o_bad, o_bad, o_bad, o_bad, o_bad, o_bad, o_bad],
  [o_bad, o_bad, o_bad, o_rV]]
def tb_123 : List (List jx_Op) := [
  [o_al 0 1, o_cI 21 1 3 4, o_bad, o_bad, o_eq 18 7, o_bad, o_bad, o_th "java/lang/IllegalStateException", o_bad, o_bad, o_bad, o_bad, o_bad, o_bad, o_bad, o_bad],
  [o_bad, o_bad, o_rV]]
def tb_124 : List (List jx_Op) := [
  [o_al 0 1, o_gA 7 0 4, o_bad, o_bad, o_gA 0 1 7, o_bad, o_bad, o_il 1 8, o_lN 111 9, o_as 2 10, o_al 2 11, o_nul 19 14, o_bad, o_bad, o_al 2 15, o_gI 2 1 18],
  [o_bad, o_bad, o_rC, o_al 0 20, o_gA 7 0 23, o_bad, o_bad, o_il 1 24, o_cI 15 2 1 27, o_bad, o_bad, o_eq 35 30, o_bad, o_bad, o_ic 43 32, o_bad],
  [o_go 37, o_bad, o_bad, o_ic 46 37, o_bad, o_rC]]
def tb_125 : List (List jx_Op) := [
  [o_al 1 1, o_gA 1 1 4, o_bad, o_bad, o_as 2 5, o_rc 0 8, o_bad, o_bad, o_al 1 9, o_gA 1 0 12, o_bad, o_bad, o_cI 241 1 22 15, o_bad, o_bad, o_lI 100 16],
  [o_sw 147 [(1, 56), (2, 80), (3, 97), (4, 108), (5, 122), (6, 136)], o_bad, o_bad, o_bad, o_bad, o_bad, o_bad, o_bad, o_bad, o_bad, o_bad, o_bad, o_bad, o_bad, o_bad, o_bad],
  [o_bad, o_bad, o_bad, o_bad, o_bad, o_bad, o_bad, o_bad, o_bad, o_bad, o_bad, o_bad, o_bad, o_bad, o_bad, o_bad],
  [o_bad, o_bad, o_bad, o_bad, o_bad, o_bad, o_bad, o_bad, o_al 0 57, o_gA 7 0 60, o_bad, o_bad, o_al 2 61, o_ic 0 62, o_lI 100 63, o_u (fun x => (x.toUInt32 % 65536).toInt32) 64],
  [o_al 2 65, o_ic 1 66, o_lI 100 67, o_al 2 68, o_ic 2 69, o_lI 100 70, o_al 2 71, o_ic 3 72, o_lI 100 73, o_al 2 74, o_ic 4 75, o_lI 100 76, o_cI 6 6 1 79, o_bad, o_bad, o_rI],
  [o_al 0 81, o_gA 7 0 84, o_bad, o_bad, o_al 2 85, o_ic 0 86, o_lI 100 87, o_al 2 88, o_ic 2 89, o_lI 100 90, o_al 2 91, o_ic 3 92, o_lI 100 93, o_cI 8 4 1 96, o_bad, o_bad],
  [o_rI, o_al 0 98, o_gA 7 0 101, o_bad, o_bad, o_al 2 102, o_ic 0 103, o_lI 100 104, o_cI 10 2 1 107, o_bad, o_bad, o_rI, o_al 0 109, o_gA 7 0 112, o_bad, o_bad],
  [o_al 2 113, o_ic 0 114, o_lI 100 115, o_al 2 116, o_ic 2 117, o_lI 100 118, o_cI 11 3 1 121, o_bad, o_bad, o_rI, o_al 0 123, o_gA 7 0 126, o_bad, o_bad, o_al 2 127, o_ic 0 128],
  [o_lI 100 129, o_al 2 130, o_ic 2 131, o_lI 100 132, o_cI 12 3 1 135, o_bad, o_bad, o_rI, o_al 0 137, o_gA 7 0 140, o_bad, o_bad, o_al 2 141, o_ic 0 142, o_lI 100 143, o_cI 7 2 1 146],
  [o_bad, o_bad, o_rI, o_al 0 148, o_gA 7 4 151, o_bad, o_bad, o_al 0 152, o_gA 7 0 155, o_bad, o_bad, o_cI 41 2 5 158, o_bad, o_bad, o_rI]]
def tb_126 : List (List jx_Op) := [
  [o_il 0 1, o_lt 13 4, o_bad, o_bad, o_il 0 5, o_il 1 6, o_cgt 13 9, o_bad, o_bad, o_ic 1 10, o_go 14, o_bad, o_bad, o_ic 0 14, o_rZ]]
def tb_127 : List (List jx_Op) := [
  [o_il 0 1, o_ic 97 3, o_bad, o_clt 16 6, o_bad, o_bad, o_il 0 7, o_ic 102 9, o_bad, o_cgt 16 12, o_bad, o_bad, o_ic 1 13, o_go 17, o_bad, o_bad],
  [o_ic 0 17, o_rZ]]
def tb_128 : List (List jx_Op) := [
  [o_il 0 1, o_ic 2 2, o_b2 (fun x y => x + y) 3, o_ic 3 4, o_b2 (fun x y => x &&& y) 5, o_rI]]
def tb_129 : List (List jx_Op) := [
  [o_lc 1 1, o_il 0 2, o_Sh (fun x y => x <<< (y.toInt64 &&& 63)) 3, o_rL]]
def tb_130 : List (List jx_Op) := [
  [o_il 0 1, o_ic 10 3, o_bad, o_cge 13 6, o_bad, o_bad, o_ic 48 8, o_bad, o_il 0 9, o_b2 (fun x y => x + y) 10, o_go 20, o_bad, o_bad, o_ic 97 15, o_bad, o_il 0 16],
  [o_b2 (fun x y => x + y) 17, o_ic 10 19, o_bad, o_b2 (fun x y => x - y) 20, o_u (fun x => (x.toUInt32 % 65536).toInt32) 21, o_rC]]
def tb_131 : List (List jx_Op) := [
  [o_il 0 1, o_ic 48 3, o_bad, o_clt 19 6, o_bad, o_bad, o_il 0 7, o_ic 57 9, o_bad, o_cgt 19 12, o_bad, o_bad, o_il 0 13, o_ic 48 15, o_bad, o_b2 (fun x y => x - y) 16],
  [o_go 20, o_bad, o_bad, o_ic (-1) 20, o_rI]]
def tb_132 : List (List jx_Op) := [
  [o_fl 0 1, o_fc FP.fconst0 2, o_fcmp .g 3, o_gt 8 6, o_bad, o_bad, o_ic 0 7, o_rI, o_fl 0 9, o_fs 1 10, o_ic 127 12, o_bad, o_is 2 13, o_ic 0 14, o_is 3 15, o_il 3 16],
  [o_ic 126 18, o_bad, o_cge 40 21, o_bad, o_bad, o_fl 1 22, o_fc FP.fconst1 23, o_fcmp .g 24, o_ge 40 27, o_bad, o_bad, o_fl 1 28, o_fc FP.fconst2 29, o_F2 FP.fmul 30, o_fs 1 31, o_inc 2 (-1) 34],
  [o_bad, o_bad, o_inc 3 1 37, o_bad, o_bad, o_go 15, o_bad, o_bad, o_il 2 41, o_ic 23 43, o_bad, o_b2 (fun x y => x <<< (y &&& 31)) 44, o_fl 1 45, o_fc FP.fconst1 46, o_F2 FP.fsub 47, o_fc 1258291200 50],
  [o_bad, o_bad, o_F2 FP.fmul 51, o_f2i 52, o_b2 (fun x y => x ||| y) 53, o_rI]]
def tb_133 : List (List jx_Op) := [
  [o_al 0 1, o_obj 4, o_bad, o_bad, o_al 0 5, o_ic 225 8, o_bad, o_bad, o_na 100 (.int 0) 10, o_bad, o_pA 8 0 100 13, o_bad, o_bad, o_al 0 14, o_ic 225 17, o_bad],
  [o_bad, o_na 100 (.int 0) 19, o_bad, o_pA 8 1 100 22, o_bad, o_bad, o_al 0 23, o_ic 225 26, o_bad, o_bad, o_na 100 (.int 0) 28, o_bad, o_pA 8 2 100 31, o_bad, o_bad, o_al 0 32],
  [o_ic 1800 35, o_bad, o_bad, o_na 100 (.int 0) 37, o_bad, o_pA 8 4 100 40, o_bad, o_bad, o_al 0 41, o_ic 20 43, o_bad, o_na 101 (.int 0) 45, o_bad, o_pA 8 7 101 48, o_bad, o_bad],
  [o_al 0 49, o_ic 60 51, o_bad, o_na 101 (.int 0) 53, o_bad, o_pA 8 9 101 56, o_bad, o_bad, o_al 0 57, o_ic (-1) 58, o_pI 8 13 61, o_bad, o_bad, o_al 0 62, o_ic (-1) 63, o_pI 8 14 66],
  [o_bad, o_bad, o_al 0 67, o_ic 360 70, o_bad, o_bad, o_na 100 (.int 0) 72, o_bad, o_pA 8 15 100 75, o_bad, o_bad, o_rV]]
def tb_134 : List (List jx_Op) := [
  [o_al 0 1, o_gI 8 6 4, o_bad, o_bad, o_rI]]
def tb_135 : List (List jx_Op) := [
  [o_il 0 1, o_il 1 2, o_clt 14 5, o_bad, o_bad, o_il 0 6, o_il 2 7, o_cgt 14 10, o_bad, o_bad, o_ic 1 11, o_go 15, o_bad, o_bad, o_ic 0 15, o_rZ]]
def tb_136 : List (List jx_Op) := [
  [o_al 0 1, o_ic 0 2, o_pI 8 6 5, o_bad, o_bad, o_al 0 6, o_gA 8 0 9, o_bad, o_bad, o_ic 0 10, o_al 0 11, o_gA 8 1 14, o_bad, o_bad, o_ic 0 15, o_ic 225 18],
  [o_bad, o_bad, o_cp 100 21, o_bad, o_bad, o_rV]]
def tb_137 : List (List jx_Op) := [
  [o_al 0 1, o_gI 8 6 4, o_bad, o_bad, o_le 25 7, o_bad, o_bad, o_al 0 8, o_gA 8 1 11, o_bad, o_bad, o_ic 0 12, o_al 0 13, o_gA 8 0 16, o_bad, o_bad],
  [o_ic 0 17, o_ic 225 20, o_bad, o_bad, o_cp 100 23, o_bad, o_bad, o_ic 0 24, o_rI, o_al 0 26, o_gI 8 5 29, o_bad, o_bad, o_ic 8 31, o_bad, o_cne 62 34],
  [o_bad, o_bad, o_al 0 35, o_gA 8 4 38, o_bad, o_bad, o_ic 225 41, o_bad, o_bad, o_al 0 42, o_gA 8 4 45, o_bad, o_bad, o_ic 0 46, o_ic 1575 49, o_bad],
  [o_bad, o_cp 100 52, o_bad, o_bad, o_al 0 53, o_dup 54, o_gI 8 5 57, o_bad, o_bad, o_ic 1 58, o_b2 (fun x y => x - y) 59, o_pI 8 5 62, o_bad, o_bad, o_al 0 63, o_gA 8 1 66],
  [o_bad, o_bad, o_ic 0 67, o_al 0 68, o_gA 8 4 71, o_bad, o_bad, o_ic 225 74, o_bad, o_bad, o_al 0 75, o_gI 8 5 78, o_bad, o_bad, o_b2 (fun x y => x * y) 79, o_ic 225 82],
  [o_bad, o_bad, o_cp 100 85, o_bad, o_bad, o_al 0 86, o_dup 87, o_gI 8 5 90, o_bad, o_bad, o_ic 1 91, o_b2 (fun x y => x + y) 92, o_pI 8 5 95, o_bad, o_bad, o_il 1 96],
  [o_rI]]
def tb_138 : List (List jx_Op) := [
  [o_al 0 1, o_il 1 2, o_pI 8 6 5, o_bad, o_bad, o_ic 0 6, o_rI]]
def tb_139 : List (List jx_Op) := [
  [o_al 0 1, o_il 1 2, o_eq 9 5, o_bad, o_bad, o_ic 0 6, o_go 10, o_bad, o_bad, o_ic 1 10, o_pI 8 6 13, o_bad, o_bad, o_il 1 14, o_rZ]]
def tb_140 : List (List jx_Op) := [
  [o_al 0 1, o_gA 8 0 4, o_bad, o_bad, o_ic 1 5, o_ic 8 7, o_bad, o_il 1 8, o_b2 (fun x y => x * y) 9, o_b2 (fun x y => x + y) 10, o_il 2 11, o_b2 (fun x y => x + y) 12, o_lI 100 13, o_rI]]
def tb_141 : List (List jx_Op) := [
  [o_al 0 1, o_gA 8 0 4, o_bad, o_bad, o_ic 1 5, o_ic 8 7, o_bad, o_il 1 8, o_b2 (fun x y => x * y) 9, o_b2 (fun x y => x + y) 10, o_il 2 11, o_b2 (fun x y => x + y) 12, o_il 3 13, o_sI 100 14, o_rV]]
def tb_142 : List (List jx_Op) := [
  [o_al 0 1, o_il 1 2, o_ic 0 3, o_cI 140 3 9 6, o_bad, o_bad, o_le 13 9, o_bad, o_bad, o_ic 1 10, o_go 14, o_bad, o_bad, o_ic 0 14, o_rZ]]
def tb_143 : List (List jx_Op) := [
  [o_al 0 1, o_il 1 2, o_ic 0 3, o_cI 140 3 9 6, o_bad, o_bad, o_ic 1 7, o_b2 (fun x y => x - y) 8, o_rI]]
def tb_144 : List (List jx_Op) := [
  [o_ic (-1) 1, o_is 2 2, o_ic 0 3, o_is 3 4, o_il 3 5, o_ic 20 7, o_bad, o_cge 38 10, o_bad, o_bad, o_il 1 11, o_lt 30 14, o_bad, o_bad, o_al 0 15, o_il 3 16],
  [o_ic 0 17, o_cI 140 3 9 20, o_bad, o_bad, o_il 1 21, o_ic 1 22, o_b2 (fun x y => x + y) 23, o_cne 30 26, o_bad, o_bad, o_il 3 27, o_go 31, o_bad, o_bad, o_il 2 31, o_is 2 32],
  [o_inc 3 1 35, o_bad, o_bad, o_go 4, o_bad, o_bad, o_il 2 39, o_rI]]
def tb_145 : List (List jx_Op) := [
  [o_al 0 1, o_il 1 2, o_ic 7 4, o_bad, o_cI 140 3 9 7, o_bad, o_bad, o_le 14 10, o_bad, o_bad, o_ic 1 11, o_go 15, o_bad, o_bad, o_ic 0 15, o_rZ]]
def tb_146 : List (List jx_Op) := [
  [o_al 0 1, o_il 1 2, o_cI 144 2 9 5, o_bad, o_bad, o_is 2 6, o_il 2 7, o_lt 22 10, o_bad, o_bad, o_al 0 11, o_il 2 12, o_cI 145 2 9 15, o_bad, o_bad, o_eq 22 18],
  [o_bad, o_bad, o_il 2 19, o_go 23, o_bad, o_bad, o_ic (-1) 23, o_rI]]
def tb_147 : List (List jx_Op) := [
  [o_al 0 1, o_il 1 2, o_cI 142 2 9 5, o_bad, o_bad, o_eq 20 8, o_bad, o_bad, o_al 0 9, o_il 1 10, o_cI 145 2 9 13, o_bad, o_bad, o_ne 20 16, o_bad, o_bad],
  [o_ic 1 17, o_go 21, o_bad, o_bad, o_ic 0 21, o_rZ]]
def tb_148 : List (List jx_Op) := [
  [o_ic 0 1, o_is 2 2, o_ic 0 3, o_is 3 4, o_il 3 5, o_ic 20 7, o_bad, o_cge 52 10, o_bad, o_bad, o_il 2 11, o_il 1 12, o_eq 31 15, o_bad, o_bad, o_al 0 16],
  [o_il 3 17, o_cI 147 2 9 20, o_bad, o_bad, o_eq 27 23, o_bad, o_bad, o_ic 1 24, o_go 44, o_bad, o_bad, o_ic 0 28, o_go 44, o_bad, o_bad, o_al 0 32],
  [o_il 3 33, o_cI 142 2 9 36, o_bad, o_bad, o_eq 43 39, o_bad, o_bad, o_ic 1 40, o_go 44, o_bad, o_bad, o_ic 0 44, o_b2 (fun x y => x + y) 45, o_is 2 46, o_inc 3 1 49, o_bad],
  [o_bad, o_go 4, o_bad, o_bad, o_il 2 53, o_rI]]
def tb_149 : List (List jx_Op) := [
  [o_il 0 1, o_ic 0 2, o_ic 7 4, o_bad, o_cI 135 3 0 7, o_bad, o_bad, o_eq 24 10, o_bad, o_bad, o_il 1 11, o_ic 0 12, o_ic 7 14, o_bad, o_cI 135 3 0 17, o_bad],
  [o_bad, o_eq 24 20, o_bad, o_bad, o_ic 1 21, o_go 25, o_bad, o_bad, o_ic 0 25, o_rZ]]
def tb_150 : List (List jx_Op) := [
  [o_il 0 1, o_ic 97 3, o_bad, o_ic 102 5, o_bad, o_cI 135 3 0 8, o_bad, o_bad, o_rZ]]
def tb_151 : List (List jx_Op) := [
  [o_il 0 1, o_ic 8 3, o_bad, o_div 4, o_il 1 5, o_ne 12 8, o_bad, o_bad, o_ic (-1) 9, o_go 22, o_bad, o_bad, o_il 1 13, o_ic 2 14, o_cne 21 17, o_bad],
  [o_bad, o_ic 1 18, o_go 22, o_bad, o_bad, o_ic 0 22, o_b2 (fun x y => x + y) 23, o_is 2 24, o_il 0 25, o_ic 8 27, o_bad, o_rem 28, o_il 1 29, o_ic 1 30, o_cne 37 33, o_bad],
  [o_bad, o_ic 1 34, o_go 47, o_bad, o_bad, o_il 1 38, o_ic 3 39, o_cne 46 42, o_bad, o_bad, o_ic (-1) 43, o_go 47, o_bad, o_bad, o_ic 0 47, o_b2 (fun x y => x + y) 48],
  [o_is 3 49, o_il 2 50, o_il 3 51, o_cI 149 2 0 54, o_bad, o_bad, o_eq 66 57, o_bad, o_bad, o_ic 8 59, o_bad, o_il 2 60, o_b2 (fun x y => x * y) 61, o_il 3 62, o_b2 (fun x y => x + y) 63, o_go 67],
  [o_bad, o_bad, o_ic (-1) 67, o_rI]]
def tb_152 : List (List jx_Op) := [
  [o_il 1 1, o_il 2 2, o_cI 151 2 0 5, o_bad, o_bad, o_is 3 6, o_il 3 7, o_ge 14 10, o_bad, o_bad, o_ic (-1) 11, o_go 26, o_bad, o_bad, o_al 0 15, o_gA 8 0 18],
  [o_bad, o_bad, o_ic 161 21, o_bad, o_bad, o_il 3 22, o_b2 (fun x y => x + y) 23, o_lI 100 24, o_ic 1 25, o_b2 (fun x y => x - y) 26, o_rI]]
def tb_153 : List (List jx_Op) := [
  [o_al 0 1, o_il 1 2, o_ic 2 3, o_il 2 4, o_ic 4 5, o_b2 (fun x y => x + y) 6, o_il 3 7, o_b2 (fun x y => x - y) 8, o_ic 4 9, o_rem 10, o_b2 (fun x y => x + y) 11, o_cI 140 3 9 14, o_bad, o_bad, o_rI]]
def tb_154 : List (List jx_Op) := [
  [o_al 0 1, o_il 1 2, o_il 2 3, o_cI 152 3 9 6, o_bad, o_bad, o_is 3 7, o_al 0 8, o_il 3 9, o_il 2 10, o_ic 2 11, o_b2 (fun x y => x + y) 12, o_ic 4 13, o_rem 14, o_al 0 15, o_il 3 16],
  [o_ic 6 18, o_bad, o_cI 140 3 9 21, o_bad, o_bad, o_cI 153 4 9 24, o_bad, o_bad, o_rI]]
def tb_155 : List (List jx_Op) := [
  [o_al 0 1, o_gA 8 0 4, o_bad, o_bad, o_ic 161 7, o_bad, o_bad, o_il 1 8, o_b2 (fun x y => x + y) 9, o_lI 100 10, o_ic 1 11, o_b2 (fun x y => x - y) 12, o_is 3 13, o_il 3 14, o_lt 26 17, o_bad],
  [o_bad, o_al 0 18, o_il 1 19, o_il 2 20, o_cI 152 3 9 23, o_bad, o_bad, o_ge 28 26, o_bad, o_bad, o_ic 0 27, o_rI, o_al 0 29, o_il 3 30, o_il 2 31, o_al 0 32],
  [o_il 3 33, o_ic 6 35, o_bad, o_cI 140 3 9 38, o_bad, o_bad, o_cI 153 4 9 41, o_bad, o_bad, o_al 0 42, o_il 1 43, o_il 2 44, o_cI 154 3 9 47, o_bad, o_bad, o_b2 (fun x y => x + y) 48],
  [o_ic 15 50, o_bad, o_cne 57 53, o_bad, o_bad, o_ic 1 54, o_go 58, o_bad, o_bad, o_ic (-1) 58, o_rI]]
def tb_156 : List (List jx_Op) := [
  [o_ic 0 1, o_is 3 2, o_ic 0 3, o_is 4 5, o_bad, o_il 4 7, o_bad, o_ic 4 8, o_cge 36 11, o_bad, o_bad, o_il 3 12, o_al 0 13, o_il 1 14, o_il 4 16, o_bad],
  [o_cI 155 3 9 19, o_bad, o_bad, o_il 2 20, o_cne 27 23, o_bad, o_bad, o_ic 1 24, o_go 28, o_bad, o_bad, o_ic 0 28, o_b2 (fun x y => x + y) 29, o_is 3 30, o_inc 4 1 33, o_bad],
  [o_bad, o_go 5, o_bad, o_bad, o_il 3 37, o_rI]]
def tb_157 : List (List jx_Op) := [
  [o_ic 0 1, o_is 2 2, o_ic 0 3, o_is 3 4, o_il 3 5, o_ic 64 7, o_bad, o_cge 25 10, o_bad, o_bad, o_il 2 11, o_al 0 12, o_il 3 13, o_il 1 14, o_cI 156 3 9 17, o_bad],
  [o_bad, o_b2 (fun x y => x + y) 18, o_is 2 19, o_inc 3 1 22, o_bad, o_bad, o_go 4, o_bad, o_bad, o_il 2 26, o_ic 2 27, o_div 28, o_rI]]
def tb_158 : List (List jx_Op) := [
  [o_ic 0 1, o_is 2 2, o_ic 0 3, o_is 3 4, o_il 3 5, o_ic 4 6, o_cge 32 9, o_bad, o_bad, o_il 2 10, o_al 0 11, o_il 1 12, o_il 3 13, o_cI 152 3 9 16, o_bad, o_bad],
  [o_lt 23 19, o_bad, o_bad, o_ic 1 20, o_go 24, o_bad, o_bad, o_ic 0 24, o_b2 (fun x y => x + y) 25, o_is 2 26, o_inc 3 1 29, o_bad, o_bad, o_go 4, o_bad, o_bad],
  [o_il 2 33, o_rI]]
def tb_159 : List (List jx_Op) := [
  [o_al 0 1, o_gA 8 0 4, o_bad, o_bad, o_ic 161 7, o_bad, o_bad, o_il 1 8, o_b2 (fun x y => x + y) 9, o_lI 100 10, o_ne 25 13, o_bad, o_bad, o_al 0 14, o_il 1 15, o_cI 158 2 9 18],
  [o_bad, o_bad, o_le 25 21, o_bad, o_bad, o_ic 1 22, o_go 26, o_bad, o_bad, o_ic 0 26, o_rZ]]
def tb_160 : List (List jx_Op) := [
  [o_il 2 1, o_ic 0 2, o_ic 15 4, o_bad, o_cI 135 3 0 7, o_bad, o_bad, o_eq 46 10, o_bad, o_bad, o_il 3 11, o_ic 0 12, o_ic 15 14, o_bad, o_cI 135 3 0 17, o_bad],
  [o_bad, o_eq 46 20, o_bad, o_bad, o_il 4 22, o_bad, o_ic 0 23, o_ic 15 25, o_bad, o_cI 135 3 0 28, o_bad, o_bad, o_eq 46 31, o_bad, o_bad, o_il 5 33],
  [o_bad, o_ic 0 34, o_ic 15 36, o_bad, o_cI 135 3 0 39, o_bad, o_bad, o_eq 46 42, o_bad, o_bad, o_ic 1 43, o_go 47, o_bad, o_bad, o_ic 0 47, o_is 6 49],
  [o_bad, o_il 1 50, o_cI 150 1 0 53, o_bad, o_bad, o_eq 61 56, o_bad, o_bad, o_il 6 58, o_bad, o_ne 67 61, o_bad, o_bad, o_al 0 62, o_ic 1 63, o_cI 138 2 9 66],
  [o_bad, o_bad, o_rI, o_al 0 68, o_ic 0 69, o_cI 148 2 9 72, o_bad, o_bad, o_ic 20 74, o_bad, o_cne 83 77, o_bad, o_bad, o_al 0 78, o_ic 2 79, o_cI 138 2 9 82],
  [o_bad, o_bad, o_rI, o_ic 0 84, o_is 7 86, o_bad, o_al 0 87, o_il 7 89, o_bad, o_cI 142 2 9 92, o_bad, o_bad, o_eq 101 95, o_bad, o_bad, o_inc 7 1 98],
  [o_bad, o_bad, o_go 86, o_bad, o_bad, o_al 0 102, o_gA 8 0 105, o_bad, o_bad, o_ic 0 106, o_lI 100 107, o_is 8 109, o_bad, o_al 0 110, o_il 7 112, o_bad],
  [o_ic 0 113, o_il 8 115, o_bad, o_ic 1 116, o_b2 (fun x y => x + y) 117, o_cV 141 4 9 120, o_bad, o_bad, o_al 0 121, o_il 7 123, o_bad, o_ic 1 124, o_il 1 125, o_cV 141 4 9 128, o_bad, o_bad],
  [o_al 0 129, o_il 7 131, o_bad, o_ic 2 132, o_il 2 133, o_cV 141 4 9 136, o_bad, o_bad, o_al 0 137, o_il 7 139, o_bad, o_ic 3 140, o_il 3 141, o_cV 141 4 9 144, o_bad, o_bad],
  [o_al 0 145, o_il 7 147, o_bad, o_ic 4 148, o_il 4 150, o_bad, o_cV 141 4 9 153, o_bad, o_bad, o_al 0 154, o_il 7 156, o_bad, o_ic 5 157, o_il 5 159, o_bad, o_cV 141 4 9 162],
  [o_bad, o_bad, o_al 0 163, o_il 7 165, o_bad, o_ic 6 167, o_bad, o_ic 0 168, o_cV 141 4 9 171, o_bad, o_bad, o_al 0 172, o_il 7 174, o_bad, o_ic 7 176, o_bad],
  [o_ic 0 177, o_cV 141 4 9 180, o_bad, o_bad, o_al 0 181, o_gA 8 0 184, o_bad, o_bad, o_ic 0 185, o_d11 186, o_lI 100 187, o_ic 1 188, o_b2 (fun x y => x + y) 189, o_sI 100 190, o_il 8 192, o_bad],
  [o_rI]]
def tb_161 : List (List jx_Op) := [
  [o_al 0 1, o_cV 136 1 9 4, o_bad, o_bad, o_al 0 5, o_al 0 6, o_il 1 7, o_il 2 8, o_il 3 9, o_il 4 11, o_bad, o_il 5 13, o_bad, o_cI 160 6 9 16, o_bad, o_bad],
  [o_cI 137 2 9 19, o_bad, o_bad, o_rI]]
def tb_162 : List (List jx_Op) := [
  [o_al 0 1, o_il 1 2, o_cI 144 2 9 5, o_bad, o_bad, o_is 2 6, o_il 2 7, o_ge 16 10, o_bad, o_bad, o_al 0 11, o_ic 1 12, o_cI 138 2 9 15, o_bad, o_bad, o_rI],
  [o_al 0 17, o_il 2 18, o_cI 145 2 9 21, o_bad, o_bad, o_eq 30 24, o_bad, o_bad, o_al 0 25, o_ic 2 26, o_cI 138 2 9 29, o_bad, o_bad, o_rI, o_ic 0 31, o_is 3 32],
  [o_il 3 33, o_ic 8 35, o_bad, o_cge 51 38, o_bad, o_bad, o_al 0 39, o_il 2 40, o_il 3 41, o_ic 0 42, o_cV 141 4 9 45, o_bad, o_bad, o_inc 3 1 48, o_bad, o_bad],
  [o_go 32, o_bad, o_bad, o_al 0 52, o_ic 0 53, o_cI 148 2 9 56, o_bad, o_bad, o_rI]]
def tb_163 : List (List jx_Op) := [
  [o_al 0 1, o_cV 136 1 9 4, o_bad, o_bad, o_al 0 5, o_al 0 6, o_il 1 7, o_cI 162 2 9 10, o_bad, o_bad, o_cI 137 2 9 13, o_bad, o_bad, o_rI]]
def tb_164 : List (List jx_Op) := [
  [o_al 0 1, o_ic 0 2, o_pI 8 6 5, o_bad, o_bad, o_al 0 6, o_ic 0 7, o_cI 148 2 9 10, o_bad, o_bad, o_rI]]
def tb_165 : List (List jx_Op) := [
  [o_al 0 1, o_ic 0 2, o_pI 8 6 5, o_bad, o_bad, o_al 0 6, o_ic 1 7, o_cI 148 2 9 10, o_bad, o_bad, o_rI]]
def tb_166 : List (List jx_Op) := [
  [o_ic 0 1, o_is 2 2, o_al 0 3, o_il 1 4, o_ic 0 5, o_al 0 6, o_ic 1 7, o_cI 148 2 9 10, o_bad, o_bad, o_ic 1 11, o_b2 (fun x y => x - y) 12, o_cI 135 3 0 15, o_bad, o_bad, o_cI 139 2 9 18],
  [o_bad, o_bad, o_is 3 19, o_ic 0 20, o_is 4 22, o_bad, o_il 4 24, o_bad, o_ic 20 26, o_bad, o_cge 118 29, o_bad, o_bad, o_il 3 30, o_eq 118 33, o_bad],
  [o_bad, o_ic 0 34, o_is 5 36, o_bad, o_ic 0 37, o_is 6 39, o_bad, o_il 6 41, o_bad, o_ic 20 43, o_bad, o_cge 86 46, o_bad, o_bad, o_il 5 48, o_bad],
  [o_al 0 49, o_il 6 51, o_bad, o_cI 147 2 9 54, o_bad, o_bad, o_eq 76 57, o_bad, o_bad, o_al 0 58, o_il 6 60, o_bad, o_cI 143 2 9 63, o_bad, o_bad, o_al 0 64],
  [o_il 4 66, o_bad, o_cI 143 2 9 69, o_bad, o_bad, o_cge 76 72, o_bad, o_bad, o_ic 1 73, o_go 77, o_bad, o_bad, o_ic 0 77, o_b2 (fun x y => x + y) 78, o_is 5 80, o_bad],
  [o_inc 6 1 83, o_bad, o_bad, o_go 39, o_bad, o_bad, o_al 0 87, o_il 4 89, o_bad, o_cI 147 2 9 92, o_bad, o_bad, o_eq 110 95, o_bad, o_bad, o_il 5 97],
  [o_bad, o_il 1 98, o_cne 110 101, o_bad, o_bad, o_al 0 102, o_il 4 104, o_bad, o_cI 143 2 9 107, o_bad, o_bad, o_go 111, o_bad, o_bad, o_il 2 111, o_is 2 112],
  [o_inc 4 1 115, o_bad, o_bad, o_go 22, o_bad, o_bad, o_il 2 119, o_rI]]
def tb_167 : List (List jx_Op) := [
  [o_al 0 1, o_ic 0 2, o_pI 8 6 5, o_bad, o_bad, o_al 0 6, o_il 1 7, o_cI 144 2 9 10, o_bad, o_bad, o_lt 17 13, o_bad, o_bad, o_ic 1 14, o_go 18, o_bad],
  [o_bad, o_ic 0 18, o_rZ]]
def tb_168 : List (List jx_Op) := [
  [o_al 0 1, o_il 1 2, o_cI 144 2 9 5, o_bad, o_bad, o_is 2 6, o_al 0 7, o_il 2 8, o_lt 15 11, o_bad, o_bad, o_ic 1 12, o_go 16, o_bad, o_bad, o_ic 0 16],
  [o_cI 139 2 9 19, o_bad, o_bad, o_eq 32 22, o_bad, o_bad, o_al 0 23, o_il 2 24, o_ic 1 25, o_cI 140 3 9 28, o_bad, o_bad, o_u (fun x => (x.toUInt32 % 65536).toInt32) 29, o_go 34, o_bad, o_bad],
  [o_ic 32 34, o_bad, o_rC]]
def tb_169 : List (List jx_Op) := [
  [o_al 0 1, o_il 1 2, o_cI 144 2 9 5, o_bad, o_bad, o_is 2 6, o_al 0 7, o_il 2 8, o_lt 15 11, o_bad, o_bad, o_ic 1 12, o_go 16, o_bad, o_bad, o_ic 0 16],
  [o_cI 139 2 9 19, o_bad, o_bad, o_eq 32 22, o_bad, o_bad, o_al 0 23, o_il 2 24, o_ic 6 26, o_bad, o_cI 140 3 9 29, o_bad, o_bad, o_go 33, o_bad, o_bad],
  [o_ic 0 33, o_rI]]
def tb_170 : List (List jx_Op) := [
  [o_al 0 1, o_il 1 2, o_cI 144 2 9 5, o_bad, o_bad, o_is 3 6, o_al 0 7, o_il 3 8, o_ge 15 11, o_bad, o_bad, o_ic 1 12, o_go 29, o_bad, o_bad, o_il 2 16],
  [o_ic 0 17, o_ic 3 18, o_cI 135 3 0 21, o_bad, o_bad, o_ne 28 24, o_bad, o_bad, o_ic 2 25, o_go 29, o_bad, o_bad, o_ic 0 29, o_pI 8 6 32, o_bad, o_bad],
  [o_al 0 33, o_gI 8 6 36, o_bad, o_bad, o_le 43 39, o_bad, o_bad, o_ic 0 40, o_go 56, o_bad, o_bad, o_al 0 44, o_il 3 45, o_il 2 46, o_al 0 47, o_il 3 48],
  [o_ic 6 50, o_bad, o_cI 140 3 9 53, o_bad, o_bad, o_cI 153 4 9 56, o_bad, o_bad, o_rI]]
def tb_171 : List (List jx_Op) := [
  [o_al 0 1, o_il 1 2, o_cI 144 2 9 5, o_bad, o_bad, o_is 2 6, o_al 0 7, o_il 2 8, o_lt 15 11, o_bad, o_bad, o_ic 1 12, o_go 16, o_bad, o_bad, o_ic 0 16],
  [o_cI 139 2 9 19, o_bad, o_bad, o_eq 34 22, o_bad, o_bad, o_al 0 23, o_il 2 24, o_cI 145 2 9 27, o_bad, o_bad, o_eq 34 30, o_bad, o_bad, o_ic 1 31, o_go 35],
  [o_bad, o_bad, o_ic 0 35, o_rZ]]
def tb_172 : List (List jx_Op) := [
  [o_al 0 1, o_il 1 2, o_cI 146 2 9 5, o_bad, o_bad, o_is 2 6, o_al 0 7, o_il 2 8, o_lt 15 11, o_bad, o_bad, o_ic 1 12, o_go 16, o_bad, o_bad, o_ic 0 16],
  [o_cI 139 2 9 19, o_bad, o_bad, o_eq 34 22, o_bad, o_bad, o_al 0 23, o_il 2 24, o_ic 7 26, o_bad, o_cI 140 3 9 29, o_bad, o_bad, o_ic 1 30, o_b2 (fun x y => x - y) 31, o_go 35],
  [o_bad, o_bad, o_ic 0 35, o_rI]]
def tb_173 : List (List jx_Op) := [
  [o_al 0 1, o_ic 0 2, o_pI 8 6 5, o_bad, o_bad, o_ic 0 6, o_is 1 7, o_ic 0 8, o_is 2 9, o_il 2 10, o_ic 20 12, o_bad, o_cge 55 15, o_bad, o_bad, o_ic 0 16],
  [o_is 3 17, o_il 3 18, o_ic 4 19, o_cge 49 22, o_bad, o_bad, o_al 0 23, o_il 2 24, o_cI 142 2 9 27, o_bad, o_bad, o_eq 49 30, o_bad, o_bad, o_il 1 31, o_ic 1 32],
  [o_al 0 33, o_il 2 34, o_ic 2 35, o_il 3 36, o_b2 (fun x y => x + y) 37, o_cI 140 3 9 40, o_bad, o_bad, o_b2 (fun x y => x <<< (y &&& 31)) 41, o_b2 (fun x y => x ||| y) 42, o_is 1 43, o_inc 3 1 46, o_bad, o_bad, o_go 17, o_bad],
  [o_bad, o_inc 2 1 52, o_bad, o_bad, o_go 9, o_bad, o_bad, o_ic 0 56, o_is 2 57, o_ic 0 58, o_is 3 59, o_il 3 60, o_ic 16 62, o_bad, o_cge 79 65, o_bad],
  [o_bad, o_il 2 66, o_il 1 67, o_il 3 68, o_b2 (fun x y => x >>> (y &&& 31)) 69, o_ic 1 70, o_b2 (fun x y => x &&& y) 71, o_b2 (fun x y => x + y) 72, o_is 2 73, o_inc 3 1 76, o_bad, o_bad, o_go 59, o_bad, o_bad, o_il 2 80],
  [o_rI]]
def tb_174 : List (List jx_Op) := [
  [o_al 0 1, o_il 1 2, o_ic 7 4, o_bad, o_il 2 5, o_ic 1 6, o_b2 (fun x y => x + y) 7, o_cV 141 4 9 10, o_bad, o_bad, o_al 0 11, o_gA 8 0 14, o_bad, o_bad, o_ic 161 17, o_bad],
  [o_bad, o_il 2 18, o_b2 (fun x y => x + y) 19, o_il 1 20, o_ic 1 21, o_b2 (fun x y => x + y) 22, o_sI 100 23, o_rV]]
def tb_175 : List (List jx_Op) := [
  [o_al 0 1, o_il 1 2, o_cI 144 2 9 5, o_bad, o_bad, o_is 4 7, o_bad, o_il 4 9, o_bad, o_ge 18 12, o_bad, o_bad, o_al 0 13, o_ic 1 14, o_cI 138 2 9 17, o_bad],
  [o_bad, o_rI, o_il 2 19, o_il 3 20, o_cI 149 2 0 23, o_bad, o_bad, o_ne 32 26, o_bad, o_bad, o_al 0 27, o_ic 2 28, o_cI 138 2 9 31, o_bad, o_bad, o_rI],
  [o_ic 8 34, o_bad, o_il 2 35, o_b2 (fun x y => x * y) 36, o_il 3 37, o_b2 (fun x y => x + y) 38, o_is 5 40, o_bad, o_al 0 41, o_il 4 43, o_bad, o_cI 145 2 9 46, o_bad, o_bad, o_ne 63 49, o_bad],
  [o_bad, o_al 0 50, o_gA 8 0 53, o_bad, o_bad, o_ic 161 56, o_bad, o_bad, o_il 5 58, o_bad, o_b2 (fun x y => x + y) 59, o_lI 100 60, o_le 69 63, o_bad, o_bad, o_al 0 64],
  [o_ic 3 65, o_cI 138 2 9 68, o_bad, o_bad, o_rI, o_al 0 70, o_il 4 72, o_bad, o_il 5 74, o_bad, o_cV 174 3 9 77, o_bad, o_bad, o_al 0 78, o_il 5 80, o_bad],
  [o_ic 1 81, o_cI 156 3 9 84, o_bad, o_bad, o_rI]]
def tb_176 : List (List jx_Op) := [
  [o_al 0 1, o_cV 136 1 9 4, o_bad, o_bad, o_al 0 5, o_al 0 6, o_il 1 7, o_il 2 8, o_il 3 9, o_cI 175 4 9 12, o_bad, o_bad, o_cI 137 2 9 15, o_bad, o_bad, o_rI]]
def tb_177 : List (List jx_Op) := [
  [o_al 0 1, o_il 1 2, o_cI 144 2 9 5, o_bad, o_bad, o_is 2 6, o_il 2 7, o_ge 16 10, o_bad, o_bad, o_al 0 11, o_ic 1 12, o_cI 138 2 9 15, o_bad, o_bad, o_rI],
  [o_al 0 17, o_il 2 18, o_cI 145 2 9 21, o_bad, o_bad, o_ne 30 24, o_bad, o_bad, o_al 0 25, o_ic 2 26, o_cI 138 2 9 29, o_bad, o_bad, o_rI, o_al 0 31, o_il 2 32],
  [o_ic 7 34, o_bad, o_cI 140 3 9 37, o_bad, o_bad, o_ic 1 38, o_b2 (fun x y => x - y) 39, o_is 3 40, o_al 0 41, o_il 3 42, o_ic 1 43, o_cI 156 3 9 46, o_bad, o_bad, o_is 4 48, o_bad],
  [o_al 0 49, o_gA 8 0 52, o_bad, o_bad, o_ic 161 55, o_bad, o_bad, o_il 3 56, o_b2 (fun x y => x + y) 57, o_ic 0 58, o_sI 100 59, o_al 0 60, o_il 2 61, o_ic 7 63, o_bad, o_ic 0 64],
  [o_cV 141 4 9 67, o_bad, o_bad, o_il 4 69, o_bad, o_rI]]
def tb_178 : List (List jx_Op) := [
  [o_al 0 1, o_cV 136 1 9 4, o_bad, o_bad, o_al 0 5, o_al 0 6, o_il 1 7, o_cI 177 2 9 10, o_bad, o_bad, o_cI 137 2 9 13, o_bad, o_bad, o_rI]]
def tb_179 : List (List jx_Op) := [
  [o_al 0 1, o_il 1 2, o_cI 144 2 9 5, o_bad, o_bad, o_is 3 6, o_il 3 7, o_ge 16 10, o_bad, o_bad, o_al 0 11, o_ic 1 12, o_cI 138 2 9 15, o_bad, o_bad, o_rI],
  [o_il 2 17, o_ic 0 18, o_ic 3 19, o_cI 135 3 0 22, o_bad, o_bad, o_ne 31 25, o_bad, o_bad, o_al 0 26, o_ic 2 27, o_cI 138 2 9 30, o_bad, o_bad, o_rI, o_al 0 32],
  [o_il 3 33, o_ic 6 35, o_bad, o_cI 140 3 9 38, o_bad, o_bad, o_is 4 40, o_bad, o_al 0 41, o_il 3 42, o_ic 6 44, o_bad, o_il 2 45, o_cV 141 4 9 48, o_bad, o_bad],
  [o_il 4 50, o_bad, o_rI]]
def tb_180 : List (List jx_Op) := [
  [o_al 0 1, o_cV 136 1 9 4, o_bad, o_bad, o_al 0 5, o_al 0 6, o_il 1 7, o_il 2 8, o_cI 179 3 9 11, o_bad, o_bad, o_cI 137 2 9 14, o_bad, o_bad, o_rI]]
def tb_181 : List (List jx_Op) := [
  [o_al 0 1, o_il 1 2, o_cI 144 2 9 5, o_bad, o_bad, o_is 3 6, o_al 0 7, o_il 2 8, o_cI 144 2 9 11, o_bad, o_bad, o_is 4 13, o_bad, o_il 3 14, o_lt 22 17, o_bad],
  [o_bad, o_il 4 19, o_bad, o_ge 28 22, o_bad, o_bad, o_al 0 23, o_ic 1 24, o_cI 138 2 9 27, o_bad, o_bad, o_rI, o_il 1 29, o_il 2 30, o_cne 39 33, o_bad],
  [o_bad, o_al 0 34, o_ic 2 35, o_cI 138 2 9 38, o_bad, o_bad, o_rI, o_al 0 40, o_il 3 41, o_cI 145 2 9 44, o_bad, o_bad, o_eq 56 47, o_bad, o_bad, o_al 0 48],
  [o_il 4 50, o_bad, o_cI 145 2 9 53, o_bad, o_bad, o_ne 62 56, o_bad, o_bad, o_al 0 57, o_ic 3 58, o_cI 138 2 9 61, o_bad, o_bad, o_rI, o_al 0 63, o_il 3 64],
  [o_ic 7 66, o_bad, o_cI 140 3 9 69, o_bad, o_bad, o_ic 1 70, o_b2 (fun x y => x - y) 71, o_is 5 73, o_bad, o_al 0 74, o_il 3 75, o_al 0 76, o_il 4 78, o_bad, o_ic 7 80, o_bad],
  [o_cI 140 3 9 83, o_bad, o_bad, o_ic 1 84, o_b2 (fun x y => x - y) 85, o_cV 174 3 9 88, o_bad, o_bad, o_al 0 89, o_il 4 91, o_bad, o_il 5 93, o_bad, o_cV 174 3 9 96, o_bad, o_bad],
  [o_al 0 97, o_ic 1 98, o_cI 157 2 9 101, o_bad, o_bad, o_rI]]
def tb_182 : List (List jx_Op) := [
  [o_al 0 1, o_cV 136 1 9 4, o_bad, o_bad, o_al 0 5, o_al 0 6, o_il 1 7, o_il 2 8, o_cI 181 3 9 11, o_bad, o_bad, o_cI 137 2 9 14, o_bad, o_bad, o_rI]]
def tb_183 : List (List jx_Op) := [
  [o_ic 0 1, o_is 4 3, o_bad, o_ic 0 4, o_is 5 6, o_bad, o_il 5 8, o_bad, o_ic 4 9, o_cge 90 12, o_bad, o_bad, o_al 0 13, o_il 2 14, o_il 5 16, o_bad],
  [o_cI 152 3 9 19, o_bad, o_bad, o_is 6 21, o_bad, o_il 6 23, o_bad, o_lt 84 26, o_bad, o_bad, o_il 4 28, o_bad, o_al 0 29, o_il 1 30, o_il 5 32, o_bad],
  [o_il 3 33, o_cI 153 4 9 36, o_bad, o_bad, o_al 0 37, o_il 2 38, o_il 5 40, o_bad, o_cI 154 3 9 43, o_bad, o_bad, o_b2 (fun x y => x + y) 44, o_ic 15 46, o_bad, o_cne 53 49, o_bad],
  [o_bad, o_ic 4 50, o_go 55, o_bad, o_bad, o_ic (-3) 55, o_bad, o_b2 (fun x y => x + y) 56, o_is 4 58, o_bad, o_il 4 60, o_bad, o_al 0 61, o_il 1 62, o_ic 1 63, o_cI 140 3 9 66],
  [o_bad, o_bad, o_al 0 67, o_il 6 69, o_bad, o_ic 1 70, o_cI 140 3 9 73, o_bad, o_bad, o_cne 80 76, o_bad, o_bad, o_ic 1 77, o_go 81, o_bad, o_bad],
  [o_ic 0 81, o_b2 (fun x y => x + y) 82, o_is 4 84, o_bad, o_inc 5 1 87, o_bad, o_bad, o_go 6, o_bad, o_bad, o_il 4 92, o_bad, o_rI]]
def tb_184 : List (List jx_Op) := [
  [o_ic 0 1, o_is 3 2, o_ic 1 3, o_is 4 5, o_bad, o_il 4 7, o_bad, o_ic 4 8, o_cge 42 11, o_bad, o_bad, o_al 0 12, o_il 1 13, o_il 2 14, o_il 4 16, o_bad],
  [o_cI 183 4 9 19, o_bad, o_bad, o_al 0 20, o_il 1 21, o_il 2 22, o_il 3 23, o_cI 183 4 9 26, o_bad, o_bad, o_cle 34 29, o_bad, o_bad, o_il 4 31, o_bad, o_go 35],
  [o_bad, o_bad, o_il 3 35, o_is 3 36, o_inc 4 1 39, o_bad, o_bad, o_go 5, o_bad, o_bad, o_il 3 43, o_rI]]
def tb_185 : List (List jx_Op) := [
  [o_al 0 1, o_il 1 2, o_il 2 3, o_al 0 4, o_il 1 5, o_il 2 6, o_cI 184 3 9 9, o_bad, o_bad, o_cI 183 4 9 12, o_bad, o_bad, o_rI]]
def tb_186 : List (List jx_Op) := [
  [o_al 0 1, o_il 1 2, o_il 3 3, o_cI 185 3 9 6, o_bad, o_bad, o_al 0 7, o_il 2 8, o_il 3 9, o_cI 185 3 9 12, o_bad, o_bad, o_b2 (fun x y => x - y) 13, o_is 4 15, o_bad, o_il 4 17],
  [o_bad, o_gt 38 20, o_bad, o_bad, o_il 4 22, o_bad, o_ne 42 25, o_bad, o_bad, o_al 0 26, o_il 1 27, o_cI 143 2 9 30, o_bad, o_bad, o_al 0 31, o_il 2 32],
  [o_cI 143 2 9 35, o_bad, o_bad, o_cge 42 38, o_bad, o_bad, o_ic 1 39, o_go 43, o_bad, o_bad, o_ic 0 43, o_rZ]]
def tb_187 : List (List jx_Op) := [
  [o_ic (-1) 1, o_is 2 2, o_ic 0 3, o_is 3 4, o_il 3 5, o_ic 20 7, o_bad, o_cge 44 10, o_bad, o_bad, o_al 0 11, o_il 3 12, o_cI 147 2 9 15, o_bad, o_bad, o_eq 36 18],
  [o_bad, o_bad, o_il 2 19, o_lt 32 22, o_bad, o_bad, o_al 0 23, o_il 3 24, o_il 2 25, o_il 1 26, o_cI 186 4 9 29, o_bad, o_bad, o_eq 36 32, o_bad, o_bad],
  [o_il 3 33, o_go 37, o_bad, o_bad, o_il 2 37, o_is 2 38, o_inc 3 1 41, o_bad, o_bad, o_go 4, o_bad, o_bad, o_il 2 45, o_rI]]
def tb_188 : List (List jx_Op) := [
  [o_al 0 1, o_il 1 2, o_ic 6 4, o_bad, o_al 0 5, o_il 1 6, o_il 2 7, o_cI 184 3 9 10, o_bad, o_bad, o_cV 141 4 9 13, o_bad, o_bad, o_al 0 14, o_il 1 15, o_il 2 16],
  [o_cV 174 3 9 19, o_bad, o_bad, o_rV]]
def tb_189 : List (List jx_Op) := [
  [o_il 1 1, o_il 2 2, o_cI 149 2 0 5, o_bad, o_bad, o_ne 12 8, o_bad, o_bad, o_ic 1 9, o_go 30, o_bad, o_bad, o_al 0 13, o_ic 8 15, o_bad, o_il 1 16],
  [o_b2 (fun x y => x * y) 17, o_il 2 18, o_b2 (fun x y => x + y) 19, o_cI 159 2 9 22, o_bad, o_bad, o_ne 29 25, o_bad, o_bad, o_ic 2 26, o_go 30, o_bad, o_bad, o_ic 0 30, o_rI]]
def tb_190 : List (List jx_Op) := [
  [o_al 0 1, o_al 0 2, o_il 1 3, o_il 2 4, o_cI 189 3 9 7, o_bad, o_bad, o_pI 8 6 10, o_bad, o_bad, o_al 0 11, o_gI 8 6 14, o_bad, o_bad, o_le 21 17, o_bad],
  [o_bad, o_ic (-1) 18, o_go 31, o_bad, o_bad, o_al 0 22, o_ic 8 24, o_bad, o_il 1 25, o_b2 (fun x y => x * y) 26, o_il 2 27, o_b2 (fun x y => x + y) 28, o_cI 187 2 9 31, o_bad, o_bad, o_is 3 32],
  [o_il 3 33, o_ge 56 36, o_bad, o_bad, o_al 0 37, o_al 0 38, o_gI 8 6 41, o_bad, o_bad, o_le 51 44, o_bad, o_bad, o_al 0 45, o_gI 8 6 48, o_bad, o_bad],
  [o_go 52, o_bad, o_bad, o_ic 3 52, o_cI 138 2 9 55, o_bad, o_bad, o_rI, o_al 0 57, o_il 3 58, o_ic 8 60, o_bad, o_il 1 61, o_b2 (fun x y => x * y) 62, o_il 2 63, o_b2 (fun x y => x + y) 64],
  [o_cV 188 3 9 67, o_bad, o_bad, o_al 0 68, o_il 3 69, o_cI 143 2 9 72, o_bad, o_bad, o_rI]]
def tb_191 : List (List jx_Op) := [
  [o_al 0 1, o_cV 136 1 9 4, o_bad, o_bad, o_al 0 5, o_al 0 6, o_il 1 7, o_il 2 8, o_cI 190 3 9 11, o_bad, o_bad, o_cI 137 2 9 14, o_bad, o_bad, o_rI]]
def tb_192 : List (List jx_Op) := [
  [o_ic 0 1, o_is 1 2, o_al 0 3, o_cI 193 1 9 6, o_bad, o_bad, o_is 2 7, o_il 2 8, o_lt 32 11, o_bad, o_bad, o_al 0 12, o_al 0 13, o_il 2 14, o_cI 187 2 9 17, o_bad],
  [o_bad, o_il 2 18, o_cV 188 3 9 21, o_bad, o_bad, o_inc 1 1 24, o_bad, o_bad, o_al 0 25, o_cI 193 1 9 28, o_bad, o_bad, o_is 2 29, o_go 7, o_bad, o_bad],
  [o_il 1 33, o_rI]]
def tb_193 : List (List jx_Op) := [
  [o_ic (-1) 1, o_is 1 2, o_ic 0 3, o_is 2 4, o_ic 0 5, o_is 3 6, o_il 3 7, o_ic 64 9, o_bad, o_cge 69 12, o_bad, o_bad, o_al 0 13, o_ic 1 14, o_cI 148 2 9 17, o_bad],
  [o_bad, o_le 69 20, o_bad, o_bad, o_al 0 21, o_il 3 22, o_cI 159 2 9 25, o_bad, o_bad, o_eq 41 28, o_bad, o_bad, o_al 0 29, o_al 0 30, o_il 3 31, o_cI 187 2 9 34],
  [o_bad, o_bad, o_il 3 35, o_cI 185 3 9 38, o_bad, o_bad, o_go 42, o_bad, o_bad, o_ic 0 42, o_is 4 44, o_bad, o_il 4 46, o_bad, o_il 2 47, o_cle 54 50],
  [o_bad, o_bad, o_il 3 51, o_go 55, o_bad, o_bad, o_il 1 55, o_is 1 56, o_il 2 57, o_il 4 59, o_bad, o_cI 246 2 0 62, o_bad, o_bad, o_is 2 63, o_inc 3 1 66],
  [o_bad, o_bad, o_go 6, o_bad, o_bad, o_il 1 70, o_rI]]
def tb_194 : List (List jx_Op) := [
  [o_al 0 1, o_cV 136 1 9 4, o_bad, o_bad, o_al 0 5, o_al 0 6, o_cI 192 1 9 9, o_bad, o_bad, o_cI 137 2 9 12, o_bad, o_bad, o_rI]]
def tb_195 : List (List jx_Op) := [
  [o_al 0 1, o_il 1 2, o_cI 144 2 9 5, o_bad, o_bad, o_is 5 7, o_bad, o_al 0 8, o_il 5 10, o_bad, o_ge 17 13, o_bad, o_bad, o_ic 1 14, o_go 70, o_bad],
  [o_bad, o_il 2 18, o_il 3 19, o_cI 149 2 0 22, o_bad, o_bad, o_ne 29 25, o_bad, o_bad, o_ic 2 26, o_go 70, o_bad, o_bad, o_il 4 31, o_bad, o_ic 0 32],
  [o_ic 3 33, o_cI 135 3 0 36, o_bad, o_bad, o_ne 43 39, o_bad, o_bad, o_ic 3 40, o_go 70, o_bad, o_bad, o_al 0 44, o_il 5 46, o_bad, o_cI 145 2 9 49, o_bad],
  [o_bad, o_eq 56 52, o_bad, o_bad, o_ic 4 53, o_go 70, o_bad, o_bad, o_al 0 57, o_il 2 58, o_il 3 59, o_cI 189 3 9 62, o_bad, o_bad, o_le 69 65, o_bad],
  [o_bad, o_ic 5 66, o_go 70, o_bad, o_bad, o_ic 0 70, o_pI 8 6 73, o_bad, o_bad, o_al 0 74, o_gI 8 6 77, o_bad, o_bad, o_le 84 80, o_bad, o_bad],
  [o_ic 0 81, o_go 98, o_bad, o_bad, o_al 0 85, o_il 5 87, o_bad, o_ic 8 89, o_bad, o_il 2 90, o_b2 (fun x y => x * y) 91, o_il 3 92, o_b2 (fun x y => x + y) 93, o_il 4 95, o_bad, o_cI 183 4 9 98],
  [o_bad, o_bad, o_rI]]
def tb_196 : List (List jx_Op) := [
  [o_al 0 1, o_il 1 2, o_cI 144 2 9 5, o_bad, o_bad, o_is 4 7, o_bad, o_al 0 8, o_il 4 10, o_bad, o_ge 17 13, o_bad, o_bad, o_ic 1 14, o_go 56, o_bad],
  [o_bad, o_il 2 18, o_il 3 19, o_cI 149 2 0 22, o_bad, o_bad, o_ne 29 25, o_bad, o_bad, o_ic 2 26, o_go 56, o_bad, o_bad, o_al 0 30, o_il 4 32, o_bad],
  [o_cI 145 2 9 35, o_bad, o_bad, o_eq 42 38, o_bad, o_bad, o_ic 3 39, o_go 56, o_bad, o_bad, o_al 0 43, o_il 2 44, o_il 3 45, o_cI 189 3 9 48, o_bad, o_bad],
  [o_le 55 51, o_bad, o_bad, o_ic 4 52, o_go 56, o_bad, o_bad, o_ic 0 56, o_pI 8 6 59, o_bad, o_bad, o_al 0 60, o_gI 8 6 63, o_bad, o_bad, o_le 70 66],
  [o_bad, o_bad, o_ic 0 67, o_go 82, o_bad, o_bad, o_al 0 71, o_il 4 73, o_bad, o_ic 8 75, o_bad, o_il 2 76, o_b2 (fun x y => x * y) 77, o_il 3 78, o_b2 (fun x y => x + y) 79, o_cI 184 3 9 82],
  [o_bad, o_bad, o_rI]]
def tb_197 : List (List jx_Op) := [
  [o_al 0 1, o_al 0 2, o_il 1 3, o_il 2 4, o_cI 189 3 9 7, o_bad, o_bad, o_pI 8 6 10, o_bad, o_bad, o_al 0 11, o_al 0 12, o_gI 8 6 15, o_bad, o_bad, o_ne 30 18],
  [o_bad, o_bad, o_al 0 19, o_ic 1 20, o_cI 148 2 9 23, o_bad, o_bad, o_ne 30 26, o_bad, o_bad, o_ic 3 27, o_go 34, o_bad, o_bad, o_al 0 31, o_gI 8 6 34],
  [o_bad, o_bad, o_pI 8 6 37, o_bad, o_bad, o_al 0 38, o_gI 8 6 41, o_bad, o_bad, o_le 48 44, o_bad, o_bad, o_ic 0 45, o_go 62, o_bad, o_bad],
  [o_al 0 49, o_al 0 50, o_ic 8 52, o_bad, o_il 1 53, o_b2 (fun x y => x * y) 54, o_il 2 55, o_b2 (fun x y => x + y) 56, o_cI 187 2 9 59, o_bad, o_bad, o_cI 143 2 9 62, o_bad, o_bad, o_rI]]
def tb_198 : List (List jx_Op) := [
  [o_al 0 1, o_al 0 2, o_il 1 3, o_il 2 4, o_cI 189 3 9 7, o_bad, o_bad, o_pI 8 6 10, o_bad, o_bad, o_al 0 11, o_al 0 12, o_gI 8 6 15, o_bad, o_bad, o_ne 37 18],
  [o_bad, o_bad, o_il 3 19, o_ic 0 20, o_al 0 21, o_ic 1 22, o_cI 148 2 9 25, o_bad, o_bad, o_ic 1 26, o_b2 (fun x y => x - y) 27, o_cI 135 3 0 30, o_bad, o_bad, o_ne 37 33, o_bad],
  [o_bad, o_ic 3 34, o_go 41, o_bad, o_bad, o_al 0 38, o_gI 8 6 41, o_bad, o_bad, o_pI 8 6 44, o_bad, o_bad, o_ic 0 45, o_is 4 47, o_bad, o_ic 0 48],
  [o_is 5 50, o_bad, o_il 5 52, o_bad, o_ic 20 54, o_bad, o_cge 169 57, o_bad, o_bad, o_al 0 58, o_gI 8 6 61, o_bad, o_bad, o_ne 169 64, o_bad, o_bad],
  [o_ic 0 65, o_is 6 67, o_bad, o_ic 0 68, o_is 7 70, o_bad, o_il 7 72, o_bad, o_ic 20 74, o_bad, o_cge 135 77, o_bad, o_bad, o_il 6 79, o_bad, o_al 0 80],
  [o_il 5 82, o_bad, o_cI 147 2 9 85, o_bad, o_bad, o_eq 125 88, o_bad, o_bad, o_al 0 89, o_il 7 91, o_bad, o_cI 147 2 9 94, o_bad, o_bad, o_eq 125 97, o_bad],
  [o_bad, o_il 7 99, o_bad, o_il 5 101, o_bad, o_ceq 125 104, o_bad, o_bad, o_al 0 105, o_il 7 107, o_bad, o_il 5 109, o_bad, o_ic 8 111, o_bad, o_il 1 112],
  [o_b2 (fun x y => x * y) 113, o_il 2 114, o_b2 (fun x y => x + y) 115, o_cI 186 4 9 118, o_bad, o_bad, o_eq 125 121, o_bad, o_bad, o_ic 1 122, o_go 126, o_bad, o_bad, o_ic 0 126, o_b2 (fun x y => x + y) 127, o_is 6 129],
  [o_bad, o_inc 7 1 132, o_bad, o_bad, o_go 70, o_bad, o_bad, o_al 0 136, o_il 5 138, o_bad, o_cI 147 2 9 141, o_bad, o_bad, o_eq 159 144, o_bad, o_bad],
  [o_il 6 146, o_bad, o_il 3 147, o_cne 159 150, o_bad, o_bad, o_al 0 151, o_il 5 153, o_bad, o_cI 143 2 9 156, o_bad, o_bad, o_go 161, o_bad, o_bad, o_il 4 161],
  [o_bad, o_is 4 163, o_bad, o_inc 5 1 166, o_bad, o_bad, o_go 50, o_bad, o_bad, o_il 4 171, o_bad, o_rI]]
def tb_199 : List (List jx_Op) := [
  [o_al 0 1, o_il 1 2, o_il 2 3, o_cI 149 2 0 6, o_bad, o_bad, o_cI 139 2 9 9, o_bad, o_bad, o_eq 34 12, o_bad, o_bad, o_al 0 13, o_gA 8 0 16, o_bad, o_bad],
  [o_ic 161 19, o_bad, o_bad, o_ic 8 21, o_bad, o_il 1 22, o_b2 (fun x y => x * y) 23, o_b2 (fun x y => x + y) 24, o_il 2 25, o_b2 (fun x y => x + y) 26, o_lI 100 27, o_ne 34 30, o_bad, o_bad, o_ic 1 31, o_go 35],
  [o_bad, o_bad, o_ic 0 35, o_rZ]]
def tb_200 : List (List jx_Op) := [
  [o_al 0 1, o_il 1 2, o_il 2 3, o_cI 149 2 0 6, o_bad, o_bad, o_ne 13 9, o_bad, o_bad, o_ic 1 10, o_go 36, o_bad, o_bad, o_al 0 14, o_gA 8 0 17, o_bad],
  [o_bad, o_ic 161 20, o_bad, o_bad, o_ic 8 22, o_bad, o_il 1 23, o_b2 (fun x y => x * y) 24, o_b2 (fun x y => x + y) 25, o_il 2 26, o_b2 (fun x y => x + y) 27, o_lI 100 28, o_ne 35 31, o_bad, o_bad, o_ic 2 32],
  [o_go 36, o_bad, o_bad, o_ic 0 36, o_pI 8 6 39, o_bad, o_bad, o_al 0 40, o_gI 8 6 43, o_bad, o_bad, o_le 50 46, o_bad, o_bad, o_ic 0 47, o_go 71],
  [o_bad, o_bad, o_al 0 51, o_al 0 52, o_gA 8 0 55, o_bad, o_bad, o_ic 161 58, o_bad, o_bad, o_ic 8 60, o_bad, o_il 1 61, o_b2 (fun x y => x * y) 62, o_b2 (fun x y => x + y) 63, o_il 2 64],
  [o_b2 (fun x y => x + y) 65, o_lI 100 66, o_ic 1 67, o_b2 (fun x y => x - y) 68, o_cI 143 2 9 71, o_bad, o_bad, o_rI]]
def tb_201 : List (List jx_Op) := [
  [o_al 0 1, o_ic 0 2, o_pI 8 6 5, o_bad, o_bad, o_lc 0 6, o_ls 1 7, o_ic 0 8, o_is 3 9, o_il 3 10, o_ic 64 12, o_bad, o_cge 44 15, o_bad, o_bad, o_ll 1 16],
  [o_al 0 17, o_gA 8 0 20, o_bad, o_bad, o_ic 161 23, o_bad, o_bad, o_il 3 24, o_b2 (fun x y => x + y) 25, o_lI 100 26, o_le 35 29, o_bad, o_bad, o_lc 1 30, o_il 3 31, o_Sh (fun x y => x <<< (y.toInt64 &&& 63)) 32],
  [o_go 36, o_bad, o_bad, o_lc 0 36, o_B2 (fun x y => x ||| y) 37, o_ls 1 38, o_inc 3 1 41, o_bad, o_bad, o_go 9, o_bad, o_bad, o_ll 1 45, o_rL]]
def tb_202 : List (List jx_Op) := [
  [o_lc 0 1, o_ls 2 2, o_al 0 3, o_il 1 4, o_cI 150 1 0 7, o_bad, o_bad, o_cI 139 2 9 10, o_bad, o_bad, o_is 4 12, o_bad, o_ic 0 13, o_is 5 15, o_bad, o_il 5 17],
  [o_bad, o_ic 64 19, o_bad, o_cge 75 22, o_bad, o_bad, o_il 4 24, o_bad, o_eq 75 27, o_bad, o_bad, o_al 0 28, o_gA 8 0 31, o_bad, o_bad, o_ic 161 34],
  [o_bad, o_bad, o_il 5 36, o_bad, o_b2 (fun x y => x + y) 37, o_lI 100 38, o_ic 1 39, o_b2 (fun x y => x - y) 40, o_is 6 42, o_bad, o_ll 2 43, o_il 6 45, o_bad, o_lt 66 48, o_bad, o_bad],
  [o_al 0 49, o_il 6 51, o_bad, o_ic 1 52, o_cI 140 3 9 55, o_bad, o_bad, o_il 1 56, o_cne 66 59, o_bad, o_bad, o_lc 1 60, o_il 5 62, o_bad, o_Sh (fun x y => x <<< (y.toInt64 &&& 63)) 63, o_go 67],
  [o_bad, o_bad, o_lc 0 67, o_B2 (fun x y => x ||| y) 68, o_ls 2 69, o_inc 5 1 72, o_bad, o_bad, o_go 15, o_bad, o_bad, o_ll 2 76, o_rL]]
def tb_203 : List (List jx_Op) := [
  [o_al 0 1, o_ic 0 2, o_pI 8 6 5, o_bad, o_bad, o_lc 0 6, o_ls 1 7, o_ic 0 8, o_is 3 9, o_il 3 10, o_ic 64 12, o_bad, o_cge 39 15, o_bad, o_bad, o_ll 1 16],
  [o_al 0 17, o_il 3 18, o_cI 159 2 9 21, o_bad, o_bad, o_eq 30 24, o_bad, o_bad, o_lc 1 25, o_il 3 26, o_Sh (fun x y => x <<< (y.toInt64 &&& 63)) 27, o_go 31, o_bad, o_bad, o_lc 0 31, o_B2 (fun x y => x ||| y) 32],
  [o_ls 1 33, o_inc 3 1 36, o_bad, o_bad, o_go 9, o_bad, o_bad, o_ll 1 40, o_rL]]
def tb_204 : List (List jx_Op) := [
  [o_al 0 1, o_cL 203 1 9 4, o_bad, o_bad, o_rL]]
def tb_205 : List (List jx_Op) := [
  [o_al 0 1, o_ic 0 2, o_pI 8 6 5, o_bad, o_bad, o_ic 0 6, o_is 1 7, o_ic 0 8, o_is 2 9, o_il 2 10, o_ic 64 12, o_bad, o_cge 37 15, o_bad, o_bad, o_il 1 16],
  [o_al 0 17, o_il 2 18, o_cI 159 2 9 21, o_bad, o_bad, o_eq 28 24, o_bad, o_bad, o_ic 1 25, o_go 29, o_bad, o_bad, o_ic 0 29, o_b2 (fun x y => x + y) 30, o_is 1 31, o_inc 2 1 34],
  [o_bad, o_bad, o_go 9, o_bad, o_bad, o_il 1 38, o_rI]]
def tb_206 : List (List jx_Op) := [
  [o_al 0 1, o_ic 0 2, o_pI 8 6 5, o_bad, o_bad, o_al 0 6, o_ic 1 7, o_cI 157 2 9 10, o_bad, o_bad, o_rI]]
def tb_207 : List (List jx_Op) := [
  [o_al 0 1, o_ic 0 2, o_pI 8 6 5, o_bad, o_bad, o_al 0 6, o_ic (-1) 7, o_cI 157 2 9 10, o_bad, o_bad, o_rI]]
def tb_208 : List (List jx_Op) := [
  [o_al 0 1, o_il 1 2, o_cI 146 2 9 5, o_bad, o_bad, o_is 3 6, o_al 0 7, o_il 3 8, o_ge 15 11, o_bad, o_bad, o_ic 1 12, o_go 29, o_bad, o_bad, o_il 2 16],
  [o_ic 0 17, o_ic 3 18, o_cI 135 3 0 21, o_bad, o_bad, o_ne 28 24, o_bad, o_bad, o_ic 2 25, o_go 29, o_bad, o_bad, o_ic 0 29, o_pI 8 6 32, o_bad, o_bad],
  [o_al 0 33, o_gI 8 6 36, o_bad, o_bad, o_ne 61 39, o_bad, o_bad, o_al 0 40, o_al 0 41, o_il 3 42, o_ic 7 44, o_bad, o_cI 140 3 9 47, o_bad, o_bad, o_ic 1 48],
  [o_b2 (fun x y => x - y) 49, o_il 2 50, o_cI 155 3 9 53, o_bad, o_bad, o_ic 1 54, o_cne 61 57, o_bad, o_bad, o_ic 1 58, o_go 62, o_bad, o_bad, o_ic 0 62, o_rZ]]
def tb_209 : List (List jx_Op) := [
  [o_al 0 1, o_il 1 2, o_cI 146 2 9 5, o_bad, o_bad, o_is 2 6, o_al 0 7, o_il 2 8, o_lt 15 11, o_bad, o_bad, o_ic 1 12, o_go 16, o_bad, o_bad, o_ic 0 16],
  [o_cI 139 2 9 19, o_bad, o_bad, o_eq 39 22, o_bad, o_bad, o_al 0 23, o_al 0 24, o_il 2 25, o_ic 7 27, o_bad, o_cI 140 3 9 30, o_bad, o_bad, o_ic 1 31, o_b2 (fun x y => x - y) 32],
  [o_ic (-1) 33, o_cI 156 3 9 36, o_bad, o_bad, o_go 40, o_bad, o_bad, o_ic 0 40, o_rI]]
def tb_210 : List (List jx_Op) := [
  [o_al 0 1, o_al 0 2, o_il 1 3, o_il 2 4, o_cI 189 3 9 7, o_bad, o_bad, o_pI 8 6 10, o_bad, o_bad, o_al 0 11, o_gI 8 6 14, o_bad, o_bad, o_le 21 17, o_bad],
  [o_bad, o_ic 0 18, o_go 31, o_bad, o_bad, o_al 0 22, o_ic 8 24, o_bad, o_il 1 25, o_b2 (fun x y => x * y) 26, o_il 2 27, o_b2 (fun x y => x + y) 28, o_cI 158 2 9 31, o_bad, o_bad, o_rI]]
def tb_211 : List (List jx_Op) := [
  [o_lc 1 1, o_il 1 2, o_Sh (fun x y => x <<< (y.toInt64 &&& 63)) 3, o_ls 2 4, o_lc 0 5, o_ls 4 7, o_bad, o_ll 4 9, o_bad, o_ll 2 10, o_lcmp 11, o_eq 90 14, o_bad, o_bad, o_ll 2 15, o_ls 4 17],
  [o_bad, o_ic 0 18, o_is 6 20, o_bad, o_il 6 22, o_bad, o_ic 64 24, o_bad, o_cge 87 27, o_bad, o_bad, o_ic 0 28, o_is 7 30, o_bad, o_il 7 32, o_bad],
  [o_ic 4 33, o_cge 81 36, o_bad, o_bad, o_ll 2 37, o_il 6 39, o_bad, o_Sh (fun x y => x >>> (y.toInt64 &&& 63)) 40, o_lc 1 41, o_B2 (fun x y => x &&& y) 42, o_lc 1 43, o_lcmp 44, o_ne 81 47, o_bad, o_bad, o_ll 2 48],
  [o_al 0 49, o_il 6 51, o_bad, o_il 7 53, o_bad, o_cI 155 3 9 56, o_bad, o_bad, o_ic 1 57, o_cne 72 60, o_bad, o_bad, o_lc 1 61, o_il 6 63, o_bad, o_il 7 65],
  [o_bad, o_cI 151 2 0 68, o_bad, o_bad, o_Sh (fun x y => x <<< (y.toInt64 &&& 63)) 69, o_go 73, o_bad, o_bad, o_lc 0 73, o_B2 (fun x y => x ||| y) 74, o_ls 2 75, o_inc 7 1 78, o_bad, o_bad, o_go 30, o_bad],
  [o_bad, o_inc 6 1 84, o_bad, o_bad, o_go 20, o_bad, o_bad, o_go 7, o_bad, o_bad, o_ll 2 91, o_rL]]
def tb_212 : List (List jx_Op) := [
  [o_ic 0 1, o_is 2 2, o_ic 0 3, o_is 3 4, o_il 3 5, o_ic 64 7, o_bad, o_cge 25 10, o_bad, o_bad, o_il 2 11, o_ll 0 12, o_il 3 13, o_Sh (fun x y => x >>> (y.toInt64 &&& 63)) 14, o_lc 1 15, o_B2 (fun x y => x &&& y) 16],
  [o_l2i 17, o_b2 (fun x y => x + y) 18, o_is 2 19, o_inc 3 1 22, o_bad, o_bad, o_go 4, o_bad, o_bad, o_il 2 26, o_rI]]
def tb_213 : List (List jx_Op) := [
  [o_lc 0 1, o_ls 1 2, o_ic 0 3, o_is 3 4, o_al 0 5, o_ic 0 6, o_pI 8 6 9, o_bad, o_bad, o_ic 0 10, o_is 4 12, o_bad, o_il 4 14, o_bad, o_ic 64 16, o_bad],
  [o_cge 62 19, o_bad, o_bad, o_al 0 20, o_gA 8 0 23, o_bad, o_bad, o_ic 161 26, o_bad, o_bad, o_il 4 28, o_bad, o_b2 (fun x y => x + y) 29, o_lI 100 30, o_le 56 33, o_bad],
  [o_bad, o_ll 1 34, o_il 4 36, o_bad, o_Sh (fun x y => x >>> (y.toInt64 &&& 63)) 37, o_lc 1 38, o_B2 (fun x y => x &&& y) 39, o_lc 0 40, o_lcmp 41, o_ne 56 44, o_bad, o_bad, o_ll 1 45, o_al 0 46, o_il 4 48, o_bad],
  [o_cL 211 2 9 51, o_bad, o_bad, o_B2 (fun x y => x ||| y) 52, o_ls 1 53, o_inc 3 1 56, o_bad, o_bad, o_inc 4 1 59, o_bad, o_bad, o_go 12, o_bad, o_bad, o_il 3 63, o_rI]]
def tb_214 : List (List jx_Op) := [
  [o_al 0 1, o_cI 213 1 9 4, o_bad, o_bad, o_rI]]
def tb_215 : List (List jx_Op) := [
  [o_al 0 1, o_il 1 2, o_cI 146 2 9 5, o_bad, o_bad, o_is 2 6, o_al 0 7, o_il 2 8, o_lt 15 11, o_bad, o_bad, o_ic 1 12, o_go 16, o_bad, o_bad, o_ic 0 16],
  [o_cI 139 2 9 19, o_bad, o_bad, o_eq 41 22, o_bad, o_bad, o_al 0 23, o_al 0 24, o_il 2 25, o_ic 7 27, o_bad, o_cI 140 3 9 30, o_bad, o_bad, o_ic 1 31, o_b2 (fun x y => x - y) 32],
  [o_cL 211 2 9 35, o_bad, o_bad, o_cI 212 1 0 38, o_bad, o_bad, o_go 42, o_bad, o_bad, o_ic 0 42, o_rI]]
def tb_216 : List (List jx_Op) := [
  [o_al 0 1, o_il 1 2, o_cI 146 2 9 5, o_bad, o_bad, o_is 2 6, o_al 0 7, o_il 2 8, o_lt 15 11, o_bad, o_bad, o_ic 1 12, o_go 16, o_bad, o_bad, o_ic 0 16],
  [o_cI 139 2 9 19, o_bad, o_bad, o_eq 38 22, o_bad, o_bad, o_al 0 23, o_al 0 24, o_il 2 25, o_ic 7 27, o_bad, o_cI 140 3 9 30, o_bad, o_bad, o_ic 1 31, o_b2 (fun x y => x - y) 32],
  [o_cL 211 2 9 35, o_bad, o_bad, o_go 39, o_bad, o_bad, o_lc 0 39, o_rL]]
def tb_217 : List (List jx_Op) := [
  [o_ic 0 1, o_is 1 2, o_ic 0 3, o_is 2 4, o_il 2 5, o_ic 64 7, o_bad, o_cge 46 10, o_bad, o_bad, o_al 0 11, o_gA 8 0 14, o_bad, o_bad, o_ic 161 17, o_bad],
  [o_bad, o_il 2 18, o_b2 (fun x y => x + y) 19, o_lI 100 20, o_le 38 23, o_bad, o_bad, o_il 1 24, o_al 0 25, o_il 2 26, o_cL 211 2 9 29, o_bad, o_bad, o_cI 212 1 0 32, o_bad, o_bad],
  [o_cI 246 2 0 35, o_bad, o_bad, o_go 39, o_bad, o_bad, o_il 1 39, o_is 1 40, o_inc 2 1 43, o_bad, o_bad, o_go 4, o_bad, o_bad, o_al 0 47, o_il 1 48],
  [o_le 55 51, o_bad, o_bad, o_ic 0 52, o_go 56, o_bad, o_bad, o_ic 1 56, o_pI 8 6 59, o_bad, o_bad, o_il 1 60, o_rI]]
def tb_218 : List (List jx_Op) := [
  [o_al 0 1, o_ic 1 2, o_cI 157 2 9 5, o_bad, o_bad, o_is 1 6, o_il 1 7, o_al 0 8, o_ic (-1) 9, o_cI 157 2 9 12, o_bad, o_bad, o_b2 (fun x y => x + y) 13, o_is 2 14, o_al 0 15, o_il 2 16],
  [o_le 23 19, o_bad, o_bad, o_ic 1 20, o_go 24, o_bad, o_bad, o_ic 0 24, o_cI 139 2 9 27, o_bad, o_bad, o_eq 38 30, o_bad, o_bad, o_il 1 31, o_i2f 32],
  [o_il 2 33, o_i2f 34, o_F2 FP.fdiv 35, o_go 39, o_bad, o_bad, o_fc FP.fconst0 39, o_rF]]
def tb_219 : List (List jx_Op) := [
  [o_al 0 1, o_cF 218 1 9 4, o_bad, o_bad, o_fs 1 5, o_al 0 6, o_gI 8 6 9, o_bad, o_bad, o_le 16 12, o_bad, o_bad, o_ic 0 13, o_go 20, o_bad, o_bad],
  [o_fl 1 17, o_cI 243 1 0 20, o_bad, o_bad, o_rI]]
def tb_220 : List (List jx_Op) := [
  [o_al 0 1, o_ic 0 2, o_cI 148 2 9 5, o_bad, o_bad, o_al 0 6, o_ic 1 7, o_cI 148 2 9 10, o_bad, o_bad, o_b2 (fun x y => x - y) 11, o_is 1 12, o_al 0 13, o_il 1 14, o_le 21 17, o_bad],
  [o_bad, o_ic 1 18, o_go 22, o_bad, o_bad, o_ic 0 22, o_cI 139 2 9 25, o_bad, o_bad, o_eq 42 28, o_bad, o_bad, o_ic 2 29, o_al 0 30, o_ic 1 31, o_cI 157 2 9 34],
  [o_bad, o_bad, o_b2 (fun x y => x * y) 35, o_i2d 36, o_il 1 37, o_i2d 38, o_D2 FP.ddiv 39, o_go 43, o_bad, o_bad, o_dc FP.dconst0 43, o_rD]]
def tb_221 : List (List jx_Op) := [
  [o_al 0 1, o_ic 0 2, o_pI 8 6 5, o_bad, o_bad, o_ic 1 6, o_rZ]]
def tb_222 : List (List jx_Op) := [
  [o_al 0 1, o_gA 8 7 4, o_bad, o_bad, o_al 0 5, o_gI 8 8 8, o_bad, o_bad, o_il 1 9, o_u (fun x => (x.toUInt32 % 65536).toInt32) 10, o_sC 101 11, o_al 0 12, o_dup 13, o_gI 8 8 16, o_bad, o_bad],
  [o_ic 1 17, o_b2 (fun x y => x + y) 18, o_pI 8 8 21, o_bad, o_bad, o_rV]]
def tb_223 : List (List jx_Op) := [
  [o_al 0 1, o_il 1 2, o_ic 0 3, o_ic 7 5, o_bad, o_cI 135 3 0 8, o_bad, o_bad, o_cI 139 2 9 11, o_bad, o_bad, o_ne 16 14, o_bad, o_bad, o_ic 0 15, o_rI],
  [o_al 0 17, o_ic 0 18, o_pI 8 8 21, o_bad, o_bad, o_ic 8 23, o_bad, o_il 1 24, o_b2 (fun x y => x * y) 25, o_is 2 26, o_il 2 27, o_ic 8 29, o_bad, o_il 1 30, o_b2 (fun x y => x * y) 31, o_ic 8 33],
  [o_bad, o_b2 (fun x y => x + y) 34, o_cge 88 37, o_bad, o_bad, o_al 0 38, o_gA 8 0 41, o_bad, o_bad, o_ic 161 44, o_bad, o_bad, o_il 2 45, o_b2 (fun x y => x + y) 46, o_lI 100 47, o_ic 1 48],
  [o_b2 (fun x y => x - y) 49, o_is 3 50, o_al 0 51, o_il 3 52, o_lt 64 55, o_bad, o_bad, o_al 0 56, o_il 3 57, o_ic 1 58, o_cI 140 3 9 61, o_bad, o_bad, o_go 79, o_bad, o_bad],
  [o_al 0 65, o_il 2 66, o_cI 159 2 9 69, o_bad, o_bad, o_eq 77 72, o_bad, o_bad, o_ic 43 74, o_bad, o_go 79, o_bad, o_bad, o_ic 46 79, o_bad, o_cV 222 2 9 82],
  [o_bad, o_bad, o_inc 2 1 85, o_bad, o_bad, o_go 26, o_bad, o_bad, o_al 0 89, o_gI 8 8 92, o_bad, o_bad, o_rI]]
def tb_224 : List (List jx_Op) := [
  [o_al 0 1, o_il 1 2, o_cI 144 2 9 5, o_bad, o_bad, o_is 2 6, o_al 0 7, o_il 2 8, o_lt 15 11, o_bad, o_bad, o_ic 1 12, o_go 16, o_bad, o_bad, o_ic 0 16],
  [o_cI 139 2 9 19, o_bad, o_bad, o_ne 24 22, o_bad, o_bad, o_ic 0 23, o_rI, o_al 0 25, o_ic 0 26, o_pI 8 8 29, o_bad, o_bad, o_al 0 30, o_al 0 31, o_il 2 32],
  [o_ic 1 33, o_cI 140 3 9 36, o_bad, o_bad, o_cV 222 2 9 39, o_bad, o_bad, o_ic 0 40, o_is 3 41, o_il 3 42, o_ic 4 43, o_cge 94 46, o_bad, o_bad, o_al 0 47, o_il 2 48],
  [o_il 3 49, o_al 0 50, o_il 2 51, o_ic 6 53, o_bad, o_cI 140 3 9 56, o_bad, o_bad, o_cI 153 4 9 59, o_bad, o_bad, o_is 4 61, o_bad, o_al 0 62, o_il 4 64, o_bad],
  [o_ic 10 66, o_bad, o_cge 77 69, o_bad, o_bad, o_ic 48 71, o_bad, o_il 4 73, o_bad, o_b2 (fun x y => x + y) 74, o_go 85, o_bad, o_bad, o_ic 97 79, o_bad, o_il 4 81],
  [o_bad, o_b2 (fun x y => x + y) 82, o_ic 10 84, o_bad, o_b2 (fun x y => x - y) 85, o_cV 222 2 9 88, o_bad, o_bad, o_inc 3 1 91, o_bad, o_bad, o_go 41, o_bad, o_bad, o_al 0 95, o_il 2 96],
  [o_cI 145 2 9 99, o_bad, o_bad, o_eq 140 102, o_bad, o_bad, o_al 0 103, o_il 2 104, o_ic 7 106, o_bad, o_cI 140 3 9 109, o_bad, o_bad, o_ic 1 110, o_b2 (fun x y => x - y) 111, o_is 3 112],
  [o_al 0 113, o_ic 64 115, o_bad, o_cV 222 2 9 118, o_bad, o_bad, o_al 0 119, o_ic 48 121, o_bad, o_il 3 122, o_ic 8 124, o_bad, o_div 125, o_b2 (fun x y => x + y) 126, o_cV 222 2 9 129, o_bad],
  [o_bad, o_al 0 130, o_ic 48 132, o_bad, o_il 3 133, o_ic 8 135, o_bad, o_rem 136, o_b2 (fun x y => x + y) 137, o_cV 222 2 9 140, o_bad, o_bad, o_al 0 141, o_gI 8 8 144, o_bad, o_bad],
  [o_rI]]
def tb_225 : List (List jx_Op) := [
  [o_al 0 1, o_il 1 2, o_ic 0 3, o_al 0 4, o_gI 8 8 7, o_bad, o_bad, o_ic 1 8, o_b2 (fun x y => x - y) 9, o_cI 135 3 0 12, o_bad, o_bad, o_cI 139 2 9 15, o_bad, o_bad, o_eq 27 18],
  [o_bad, o_bad, o_al 0 19, o_gA 8 7 22, o_bad, o_bad, o_il 1 23, o_lI 101 24, o_go 29, o_bad, o_bad, o_ic 32 29, o_bad, o_rC]]
def tb_226 : List (List jx_Op) := [
  [o_al 0 1, o_al 0 2, o_gI 8 10 5, o_bad, o_bad, o_ic 60 7, o_bad, o_cne 14 10, o_bad, o_bad, o_ic 1 11, o_go 15, o_bad, o_bad, o_ic 0 15, o_pI 8 6 18],
  [o_bad, o_bad, o_al 0 19, o_gI 8 6 22, o_bad, o_bad, o_le 27 25, o_bad, o_bad, o_ic 0 26, o_rI, o_al 0 28, o_gA 8 9 31, o_bad, o_bad, o_al 0 32],
  [o_gI 8 10 35, o_bad, o_bad, o_il 1 36, o_sC 101 37, o_al 0 38, o_dup 39, o_gI 8 10 42, o_bad, o_bad, o_ic 1 43, o_b2 (fun x y => x + y) 44, o_pI 8 10 47, o_bad, o_bad, o_al 0 48],
  [o_gI 8 10 51, o_bad, o_bad, o_rI]]
def tb_227 : List (List jx_Op) := [
  [o_al 0 1, o_gI 8 11 4, o_bad, o_bad, o_il 1 5, o_b2 (fun x y => x + y) 6, o_al 0 7, o_gI 8 10 10, o_bad, o_bad, o_cge 27 13, o_bad, o_bad, o_al 0 14, o_gA 8 9 17, o_bad],
  [o_bad, o_al 0 18, o_gI 8 11 21, o_bad, o_bad, o_il 1 22, o_b2 (fun x y => x + y) 23, o_lI 101 24, o_go 28, o_bad, o_bad, o_ic (-1) 28, o_rI]]
def tb_228 : List (List jx_Op) := [
  [o_ic 0 1, o_is 2 2, o_il 2 3, o_al 1 4, o_cI 248 1 21 7, o_bad, o_bad, o_cge 66 10, o_bad, o_bad, o_al 0 11, o_gI 8 12 14, o_bad, o_bad, o_ne 66 17, o_bad],
  [o_bad, o_al 0 18, o_al 0 19, o_ic 0 20, o_cI 227 2 9 23, o_bad, o_bad, o_al 1 24, o_il 2 25, o_cI 249 2 21 28, o_bad, o_bad, o_ceq 35 31, o_bad, o_bad, o_ic 1 32],
  [o_go 36, o_bad, o_bad, o_ic 0 36, o_pZ 8 12 39, o_bad, o_bad, o_al 0 40, o_dup 41, o_gI 8 11 44, o_bad, o_bad, o_al 0 45, o_gI 8 12 48, o_bad, o_bad],
  [o_eq 55 51, o_bad, o_bad, o_ic 0 52, o_go 56, o_bad, o_bad, o_ic 1 56, o_b2 (fun x y => x + y) 57, o_pI 8 11 60, o_bad, o_bad, o_inc 2 1 63, o_bad, o_bad, o_go 2],
  [o_bad, o_bad, o_rV]]
def tb_229 : List (List jx_Op) := [
  [o_il 0 1, o_ic 48 3, o_bad, o_ic 57 5, o_bad, o_cI 135 3 0 8, o_bad, o_bad, o_eq 18 11, o_bad, o_bad, o_il 0 12, o_ic 48 14, o_bad, o_b2 (fun x y => x - y) 15, o_go 40],
  [o_bad, o_bad, o_il 0 19, o_ic 97 21, o_bad, o_ic 102 23, o_bad, o_cI 135 3 0 26, o_bad, o_bad, o_eq 39 29, o_bad, o_bad, o_il 0 30, o_ic 97 32, o_bad],
  [o_b2 (fun x y => x - y) 33, o_ic 10 35, o_bad, o_b2 (fun x y => x + y) 36, o_go 40, o_bad, o_bad, o_ic (-1) 40, o_rI]]
def tb_230 : List (List jx_Op) := [
  [o_al 0 1, o_ic 0 2, o_cI 227 2 9 5, o_bad, o_bad, o_cI 229 1 0 8, o_bad, o_bad, o_is 2 9, o_al 0 10, o_al 0 11, o_gI 8 12 14, o_bad, o_bad, o_ne 26 17, o_bad],
  [o_bad, o_il 2 18, o_lt 26 21, o_bad, o_bad, o_il 2 22, o_il 1 23, o_clt 30 26, o_bad, o_bad, o_ic 1 27, o_go 31, o_bad, o_bad, o_ic 0 31, o_pZ 8 12 34],
  [o_bad, o_bad, o_al 0 35, o_dup 36, o_gI 8 11 39, o_bad, o_bad, o_al 0 40, o_gI 8 12 43, o_bad, o_bad, o_eq 50 46, o_bad, o_bad, o_ic 0 47, o_go 51],
  [o_bad, o_bad, o_ic 1 51, o_b2 (fun x y => x + y) 52, o_pI 8 11 55, o_bad, o_bad, o_al 0 56, o_gI 8 12 59, o_bad, o_bad, o_eq 66 62, o_bad, o_bad, o_ic 0 63, o_go 67],
  [o_bad, o_bad, o_il 2 67, o_rI]]
def tb_231 : List (List jx_Op) := [
  [o_al 0 1, o_ic 10 3, o_bad, o_cI 230 2 9 6, o_bad, o_bad, o_is 1 7, o_al 0 8, o_gI 8 12 11, o_bad, o_bad, o_ne 43 14, o_bad, o_bad, o_al 0 15, o_ic 0 16],
  [o_cI 227 2 9 19, o_bad, o_bad, o_ic 48 21, o_bad, o_ic 57 23, o_bad, o_cI 135 3 0 26, o_bad, o_bad, o_eq 43 29, o_bad, o_bad, o_ic 10 31, o_bad, o_il 1 32],
  [o_b2 (fun x y => x * y) 33, o_al 0 34, o_ic 10 36, o_bad, o_cI 230 2 9 39, o_bad, o_bad, o_b2 (fun x y => x + y) 40, o_go 44, o_bad, o_bad, o_il 1 44, o_rI]]
set_option maxRecDepth 20000 in
def tb_232 : List (List jx_Op) := [
  [o_al 0 1, o_gI 8 12 4, o_bad, o_bad, o_eq 8 7, o_bad, o_bad, o_rV, o_ic 6 10, o_bad, o_al 0 11, o_gI 8 16 14, o_bad, o_bad, o_b2 (fun x y => x * y) 15, o_is 1 16],
  [o_al 0 17, o_dup 18, o_gI 8 16 21, o_bad, o_bad, o_ic 1 22, o_b2 (fun x y => x + y) 23, o_pI 8 16 26, o_bad, o_bad, o_al 0 27, o_ic 0 28, o_cI 227 2 9 31, o_bad, o_bad, o_ic 116 33],
  [o_bad, o_cne 51 36, o_bad, o_bad, o_al 0 37, o_ic 1 38, o_cI 227 2 9 41, o_bad, o_bad, o_ic 117 43, o_bad, o_cne 51 46, o_bad, o_bad, o_ic 117 48, o_bad],
  [o_go 56, o_bad, o_bad, o_al 0 52, o_ic 0 53, o_cI 227 2 9 56, o_bad, o_bad, o_is 2 57, o_al 0 58, o_gA 8 15 61, o_bad, o_bad, o_il 1 62, o_il 2 63, o_sI 100 64],
  [o_il 2 65, o_ic 110 67, o_bad, o_cne 171 70, o_bad, o_bad, o_al 0 71, o_rc 30 74, o_bad, o_bad, o_cV 228 2 9 77, o_bad, o_bad, o_al 0 78, o_ic 0 79, o_cI 227 2 9 82],
  [o_bad, o_bad, o_is 3 83, o_al 0 84, o_al 0 85, o_gI 8 12 88, o_bad, o_bad, o_ne 98 91, o_bad, o_bad, o_il 3 92, o_cI 150 1 0 95, o_bad, o_bad, o_ne 102 98],
  [o_bad, o_bad, o_ic 1 99, o_go 103, o_bad, o_bad, o_ic 0 103, o_pZ 8 12 106, o_bad, o_bad, o_al 0 107, o_dup 108, o_gI 8 11 111, o_bad, o_bad, o_al 0 112],
  [o_gI 8 12 115, o_bad, o_bad, o_eq 122 118, o_bad, o_bad, o_ic 0 119, o_go 123, o_bad, o_bad, o_ic 1 123, o_b2 (fun x y => x + y) 124, o_pI 8 11 127, o_bad, o_bad, o_al 0 128],
  [o_gA 8 15 131, o_bad, o_bad, o_il 1 132, o_ic 1 133, o_b2 (fun x y => x + y) 134, o_il 3 135, o_sI 100 136, o_ic 0 137, o_is 4 139, o_bad, o_il 4 141, o_bad, o_ic 4 142, o_cge 168 145, o_bad],
  [o_bad, o_al 0 146, o_gA 8 15 149, o_bad, o_bad, o_il 1 150, o_ic 2 151, o_b2 (fun x y => x + y) 152, o_il 4 154, o_bad, o_b2 (fun x y => x + y) 155, o_al 0 156, o_ic 16 158, o_bad, o_cI 230 2 9 161, o_bad],
  [o_bad, o_sI 100 162, o_inc 4 1 165, o_bad, o_bad, o_go 139, o_bad, o_bad, o_go 399, o_bad, o_bad, o_il 2 172, o_ic 112 174, o_bad, o_cne 234 177, o_bad],
  [o_bad, o_al 0 178, o_rc 31 181, o_bad, o_bad, o_cV 228 2 9 184, o_bad, o_bad, o_al 0 185, o_gA 8 15 188, o_bad, o_bad, o_il 1 189, o_ic 1 190, o_b2 (fun x y => x + y) 191, o_al 0 192],
  [o_cI 231 1 9 195, o_bad, o_bad, o_sI 100 196, o_al 0 197, o_rc 32 200, o_bad, o_bad, o_cV 228 2 9 203, o_bad, o_bad, o_al 0 204, o_gA 8 15 207, o_bad, o_bad, o_il 1 208],
  [o_ic 2 209, o_b2 (fun x y => x + y) 210, o_al 0 211, o_ic 10 213, o_bad, o_cI 230 2 9 216, o_bad, o_bad, o_sI 100 217, o_al 0 218, o_gA 8 15 221, o_bad, o_bad, o_il 1 222, o_ic 3 223, o_b2 (fun x y => x + y) 224],
  [o_al 0 225, o_ic 10 227, o_bad, o_cI 230 2 9 230, o_bad, o_bad, o_sI 100 231, o_go 399, o_bad, o_bad, o_il 2 235, o_ic 117 237, o_bad, o_cne 299 240, o_bad, o_bad],
  [o_al 0 241, o_al 0 242, o_ic 0 243, o_cI 227 2 9 246, o_bad, o_bad, o_ic 116 248, o_bad, o_cne 257 251, o_bad, o_bad, o_rc 33 254, o_bad, o_bad, o_go 260, o_bad],
  [o_bad, o_rc 34 260, o_bad, o_bad, o_cV 228 2 9 263, o_bad, o_bad, o_al 0 264, o_gA 8 15 267, o_bad, o_bad, o_il 1 268, o_ic 1 269, o_b2 (fun x y => x + y) 270, o_al 0 271, o_cI 231 1 9 274],
  [o_bad, o_bad, o_sI 100 275, o_al 0 276, o_rc 35 279, o_bad, o_bad, o_cV 228 2 9 282, o_bad, o_bad, o_al 0 283, o_gA 8 15 286, o_bad, o_bad, o_il 1 287, o_ic 2 288],
  [o_b2 (fun x y => x + y) 289, o_al 0 290, o_ic 10 292, o_bad, o_cI 230 2 9 295, o_bad, o_bad, o_sI 100 296, o_go 399, o_bad, o_bad, o_il 2 300, o_ic 115 302, o_bad, o_cne 346 305, o_bad],
  [o_bad, o_al 0 306, o_rc 36 309, o_bad, o_bad, o_cV 228 2 9 312, o_bad, o_bad, o_al 0 313, o_gA 8 15 316, o_bad, o_bad, o_il 1 317, o_ic 1 318, o_b2 (fun x y => x + y) 319, o_al 0 320],
  [o_cI 231 1 9 323, o_bad, o_bad, o_sI 100 324, o_al 0 325, o_rc 37 328, o_bad, o_bad, o_cV 228 2 9 331, o_bad, o_bad, o_al 0 332, o_gA 8 15 335, o_bad, o_bad, o_il 1 336],
  [o_ic 2 337, o_b2 (fun x y => x + y) 338, o_al 0 339, o_cI 231 1 9 342, o_bad, o_bad, o_sI 100 343, o_go 399, o_bad, o_bad, o_il 2 347, o_ic 116 349, o_bad, o_ceq 358 352, o_bad, o_bad],
  [o_il 2 353, o_ic 100 355, o_bad, o_cne 392 358, o_bad, o_bad, o_al 0 359, o_il 2 360, o_ic 116 362, o_bad, o_cne 371 365, o_bad, o_bad, o_rc 38 368, o_bad, o_bad],
  [o_go 374, o_bad, o_bad, o_rc 39 374, o_bad, o_bad, o_cV 228 2 9 377, o_bad, o_bad, o_al 0 378, o_gA 8 15 381, o_bad, o_bad, o_il 1 382, o_ic 1 383, o_b2 (fun x y => x + y) 384],
  [o_al 0 385, o_cI 231 1 9 388, o_bad, o_bad, o_sI 100 389, o_go 399, o_bad, o_bad, o_al 0 393, o_rc 34 396, o_bad, o_bad, o_cV 228 2 9 399, o_bad, o_bad, o_rV]]
def tb_233 : List (List jx_Op) := [
  [o_ic 6 2, o_bad, o_il 1 3, o_b2 (fun x y => x * y) 4, o_is 2 5, o_al 0 6, o_gA 8 15 9, o_bad, o_bad, o_il 2 10, o_ic 1 11, o_b2 (fun x y => x + y) 12, o_lI 100 13, o_is 3 14, o_al 0 15, o_gA 8 15 18],
  [o_bad, o_bad, o_il 2 19, o_ic 2 20, o_b2 (fun x y => x + y) 21, o_lI 100 22, o_is 4 24, o_bad, o_al 0 25, o_gA 8 15 28, o_bad, o_bad, o_il 2 29, o_ic 3 30, o_b2 (fun x y => x + y) 31, o_lI 100 32],
  [o_is 5 34, o_bad, o_al 0 35, o_gA 8 15 38, o_bad, o_bad, o_il 2 39, o_lI 100 40, o_sw 217 [(100, 207), (101, 217), (102, 217), (103, 217), (104, 217), (105, 217), (106, 217), (107, 217), (108, 217), (109, 217), (110, 128), (111, 217), (112, 159), (113, 217), (114, 217), (115, 185), (116, 197), (117, 173)], o_bad, o_bad, o_bad, o_bad, o_bad, o_bad, o_bad],
  [o_bad, o_bad, o_bad, o_bad, o_bad, o_bad, o_bad, o_bad, o_bad, o_bad, o_bad, o_bad, o_bad, o_bad, o_bad, o_bad],
  [o_bad, o_bad, o_bad, o_bad, o_bad, o_bad, o_bad, o_bad, o_bad, o_bad, o_bad, o_bad, o_bad, o_bad, o_bad, o_bad],
  [o_bad, o_bad, o_bad, o_bad, o_bad, o_bad, o_bad, o_bad, o_bad, o_bad, o_bad, o_bad, o_bad, o_bad, o_bad, o_bad],
  [o_bad, o_bad, o_bad, o_bad, o_bad, o_bad, o_bad, o_bad, o_bad, o_bad, o_bad, o_bad, o_bad, o_bad, o_bad, o_bad],
  [o_bad, o_bad, o_bad, o_bad, o_bad, o_bad, o_bad, o_bad, o_bad, o_bad, o_bad, o_bad, o_bad, o_bad, o_bad, o_bad],
  [o_al 0 129, o_il 3 130, o_u (fun x => (x.toUInt32 % 65536).toInt32) 131, o_il 4 133, o_bad, o_il 5 135, o_bad, o_al 0 136, o_gA 8 15 139, o_bad, o_bad, o_il 2 140, o_ic 4 141, o_b2 (fun x y => x + y) 142, o_lI 100 143, o_al 0 144],
  [o_gA 8 15 147, o_bad, o_bad, o_il 2 148, o_ic 5 149, o_b2 (fun x y => x + y) 150, o_lI 100 151, o_cI 160 6 9 154, o_bad, o_bad, o_is 6 156, o_bad, o_go 223, o_bad, o_bad, o_al 0 160],
  [o_il 3 161, o_il 4 163, o_bad, o_il 5 165, o_bad, o_cI 175 4 9 168, o_bad, o_bad, o_is 6 170, o_bad, o_go 223, o_bad, o_bad, o_al 0 174, o_il 3 175, o_il 4 177],
  [o_bad, o_cI 179 3 9 180, o_bad, o_bad, o_is 6 182, o_bad, o_go 223, o_bad, o_bad, o_al 0 186, o_il 3 187, o_il 4 189, o_bad, o_cI 181 3 9 192, o_bad, o_bad],
  [o_is 6 194, o_bad, o_go 223, o_bad, o_bad, o_al 0 198, o_il 3 199, o_cI 177 2 9 202, o_bad, o_bad, o_is 6 204, o_bad, o_go 223, o_bad, o_bad, o_al 0 208],
  [o_il 3 209, o_cI 162 2 9 212, o_bad, o_bad, o_is 6 214, o_bad, o_go 223, o_bad, o_bad, o_al 0 218, o_cI 192 1 9 221, o_bad, o_bad, o_is 6 223, o_bad, o_rV]]
def tb_234 : List (List jx_Op) := [
  [o_al 0 1, o_ic 0 2, o_pI 8 11 5, o_bad, o_bad, o_al 0 6, o_ic 0 7, o_pZ 8 12 10, o_bad, o_bad, o_al 0 11, o_ic 0 12, o_pI 8 16 15, o_bad, o_bad, o_al 0 16],
  [o_cV 232 1 9 19, o_bad, o_bad, o_al 0 20, o_gI 8 12 23, o_bad, o_bad, o_ne 53 26, o_bad, o_bad, o_al 0 27, o_ic 0 28, o_cI 227 2 9 31, o_bad, o_bad, o_ic 59 33],
  [o_bad, o_cne 53 36, o_bad, o_bad, o_al 0 37, o_dup 38, o_gI 8 11 41, o_bad, o_bad, o_ic 1 42, o_b2 (fun x y => x + y) 43, o_pI 8 11 46, o_bad, o_bad, o_al 0 47, o_cV 232 1 9 50],
  [o_bad, o_bad, o_go 19, o_bad, o_bad, o_al 0 54, o_al 0 55, o_gI 8 12 58, o_bad, o_bad, o_ne 72 61, o_bad, o_bad, o_al 0 62, o_gI 8 11 65, o_bad],
  [o_bad, o_al 0 66, o_gI 8 10 69, o_bad, o_bad, o_cge 76 72, o_bad, o_bad, o_ic 1 73, o_go 77, o_bad, o_bad, o_ic 0 77, o_pZ 8 12 80, o_bad, o_bad],
  [o_al 0 81, o_al 0 82, o_gI 8 12 85, o_bad, o_bad, o_eq 95 88, o_bad, o_bad, o_al 0 89, o_gI 8 11 92, o_bad, o_bad, o_go 99, o_bad, o_bad, o_al 0 96],
  [o_gI 8 13 99, o_bad, o_bad, o_pI 8 13 102, o_bad, o_bad, o_al 0 103, o_ic 0 104, o_pI 8 10 107, o_bad, o_bad, o_al 0 108, o_gI 8 12 111, o_bad, o_bad, o_eq 120 114],
  [o_bad, o_bad, o_al 0 115, o_ic 1 116, o_cI 138 2 9 119, o_bad, o_bad, o_rI, o_al 0 121, o_cV 136 1 9 124, o_bad, o_bad, o_ic 0 125, o_is 1 126, o_il 1 127, o_al 0 128],
  [o_gI 8 16 131, o_bad, o_bad, o_cge 167 134, o_bad, o_bad, o_al 0 135, o_il 1 136, o_cV 233 2 9 139, o_bad, o_bad, o_al 0 140, o_gI 8 6 143, o_bad, o_bad, o_le 161 146],
  [o_bad, o_bad, o_al 0 147, o_il 1 148, o_pI 8 14 151, o_bad, o_bad, o_al 0 152, o_al 0 153, o_ic 2 154, o_cI 138 2 9 157, o_bad, o_bad, o_cI 137 2 9 160, o_bad, o_bad],
  [o_rI, o_inc 1 1 164, o_bad, o_bad, o_go 126, o_bad, o_bad, o_al 0 168, o_al 0 169, o_gI 8 16 172, o_bad, o_bad, o_cI 137 2 9 175, o_bad, o_bad, o_rI]]
def tb_235 : List (List jx_Op) := [
  [o_al 0 1, o_al 0 2, o_gI 8 13 5, o_bad, o_bad, o_lt 12 8, o_bad, o_bad, o_ic 1 9, o_go 13, o_bad, o_bad, o_ic 0 13, o_cI 139 2 9 16, o_bad, o_bad],
  [o_eq 26 19, o_bad, o_bad, o_al 0 20, o_gI 8 13 23, o_bad, o_bad, o_go 27, o_bad, o_bad, o_ic 0 27, o_rI]]
def tb_236 : List (List jx_Op) := [
  [o_al 0 1, o_al 0 2, o_gI 8 14 5, o_bad, o_bad, o_lt 12 8, o_bad, o_bad, o_ic 1 9, o_go 13, o_bad, o_bad, o_ic 0 13, o_cI 139 2 9 16, o_bad, o_bad],
  [o_eq 26 19, o_bad, o_bad, o_al 0 20, o_gI 8 14 23, o_bad, o_bad, o_go 27, o_bad, o_bad, o_ic 0 27, o_rI]]
def tb_237 : List (List jx_Op) := [
  [o_al 0 1, o_al 0 2, o_gI 8 5 5, o_bad, o_bad, o_ne 12 8, o_bad, o_bad, o_ic 1 9, o_go 13, o_bad, o_bad, o_ic 0 13, o_pI 8 6 16, o_bad, o_bad],
  [o_al 0 17, o_gI 8 6 20, o_bad, o_bad, o_le 25 23, o_bad, o_bad, o_ic 0 24, o_rI, o_al 0 26, o_dup 27, o_gI 8 5 30, o_bad, o_bad, o_ic 1 31, o_b2 (fun x y => x - y) 32],
  [o_pI 8 5 35, o_bad, o_bad, o_al 0 36, o_gA 8 4 39, o_bad, o_bad, o_ic 225 42, o_bad, o_bad, o_al 0 43, o_gI 8 5 46, o_bad, o_bad, o_b2 (fun x y => x * y) 47, o_al 0 48],
  [o_gA 8 0 51, o_bad, o_bad, o_ic 0 52, o_ic 225 55, o_bad, o_bad, o_cp 100 58, o_bad, o_bad, o_al 0 59, o_gI 8 5 62, o_bad, o_bad, o_rI]]
def tb_238 : List (List jx_Op) := [
  [o_al 0 1, o_ic 0 2, o_pI 8 6 5, o_bad, o_bad, o_al 0 6, o_gI 8 5 9, o_bad, o_bad, o_rI]]
def tb_239 : List (List jx_Op) := [
  [o_al 0 1, o_ic 0 2, o_pI 8 6 5, o_bad, o_bad, o_al 0 6, o_gA 8 0 9, o_bad, o_bad, o_ic 0 10, o_al 0 11, o_gA 8 2 14, o_bad, o_bad, o_ic 0 15, o_ic 225 18],
  [o_bad, o_bad, o_cp 100 21, o_bad, o_bad, o_al 0 22, o_ic 1 23, o_pZ 8 3 26, o_bad, o_bad, o_al 0 27, o_ic 0 28, o_cI 148 2 9 31, o_bad, o_bad, o_rI]]
def tb_240 : List (List jx_Op) := [
  [o_al 0 1, o_al 0 2, o_gI 8 3 5, o_bad, o_bad, o_eq 12 8, o_bad, o_bad, o_ic 0 9, o_go 13, o_bad, o_bad, o_ic 1 13, o_pI 8 6 16, o_bad, o_bad],
  [o_al 0 17, o_gI 8 6 20, o_bad, o_bad, o_le 25 23, o_bad, o_bad, o_ic 0 24, o_rI, o_al 0 26, o_gA 8 2 29, o_bad, o_bad, o_ic 0 30, o_al 0 31, o_gA 8 0 34],
  [o_bad, o_bad, o_ic 0 35, o_ic 225 38, o_bad, o_bad, o_cp 100 41, o_bad, o_bad, o_al 0 42, o_ic 0 43, o_pI 8 5 46, o_bad, o_bad, o_al 0 47, o_ic 0 48],
  [o_cI 148 2 9 51, o_bad, o_bad, o_rI]]
def tb_241 : List (List jx_Op) := [
  [o_al 0 1, o_gI 21 0 4, o_bad, o_bad, o_rI]]
def tb_242 : List (List jx_Op) := [
  [o_fl 0 1, o_fl 0 2, o_fcmp .l 3, o_eq 10 6, o_bad, o_bad, o_ic 1 7, o_go 11, o_bad, o_bad, o_ic 0 11, o_rZ]]
def tb_243 : List (List jx_Op) := [
  [o_fl 0 1, o_cI 242 1 0 4, o_bad, o_bad, o_ne 12 7, o_bad, o_bad, o_fl 0 8, o_raw 11, o_bad, o_bad, o_rI, o_ic 2143289344 14, o_bad, o_rI]]
def tb_244 : List (List jx_Op) := [
  [o_il 0 1, o_il 0 2, o_ic 1 3, o_b2 (fun x y => (x.toUInt32 >>> (y.toUInt32 &&& Int32.toUInt32 31)).toInt32) 4, o_ic 1431655765 7, o_bad, o_bad, o_b2 (fun x y => x &&& y) 8, o_b2 (fun x y => x - y) 9, o_is 0 10, o_il 0 11, o_ic 858993459 14, o_bad, o_bad, o_b2 (fun x y => x &&& y) 15, o_il 0 16],
  [o_ic 2 17, o_b2 (fun x y => (x.toUInt32 >>> (y.toUInt32 &&& Int32.toUInt32 31)).toInt32) 18, o_ic 858993459 21, o_bad, o_bad, o_b2 (fun x y => x &&& y) 22, o_b2 (fun x y => x + y) 23, o_is 0 24, o_il 0 25, o_il 0 26, o_ic 4 27, o_b2 (fun x y => (x.toUInt32 >>> (y.toUInt32 &&& Int32.toUInt32 31)).toInt32) 28, o_b2 (fun x y => x + y) 29, o_ic 252645135 32, o_bad, o_bad],
  [o_b2 (fun x y => x &&& y) 33, o_is 0 34, o_il 0 35, o_il 0 36, o_ic 8 38, o_bad, o_b2 (fun x y => (x.toUInt32 >>> (y.toUInt32 &&& Int32.toUInt32 31)).toInt32) 39, o_b2 (fun x y => x + y) 40, o_is 0 41, o_il 0 42, o_il 0 43, o_ic 16 45, o_bad, o_b2 (fun x y => (x.toUInt32 >>> (y.toUInt32 &&& Int32.toUInt32 31)).toInt32) 46, o_b2 (fun x y => x + y) 47, o_is 0 48],
  [o_il 0 49, o_ic 63 51, o_bad, o_b2 (fun x y => x &&& y) 52, o_rI]]
def tb_245 : List (List jx_Op) := [
  [o_ll 0 1, o_ll 0 2, o_ic 1 3, o_Sh (fun x y => (x.toUInt64 >>> (y.toInt64.toUInt64 &&& Int64.toUInt64 63)).toInt64) 4, o_lc 6148914691236517205 7, o_bad, o_bad, o_B2 (fun x y => x &&& y) 8, o_B2 (fun x y => x - y) 9, o_ls 0 10, o_ll 0 11, o_lc 3689348814741910323 14, o_bad, o_bad, o_B2 (fun x y => x &&& y) 15, o_ll 0 16],
  [o_ic 2 17, o_Sh (fun x y => (x.toUInt64 >>> (y.toInt64.toUInt64 &&& Int64.toUInt64 63)).toInt64) 18, o_lc 3689348814741910323 21, o_bad, o_bad, o_B2 (fun x y => x &&& y) 22, o_B2 (fun x y => x + y) 23, o_ls 0 24, o_ll 0 25, o_ll 0 26, o_ic 4 27, o_Sh (fun x y => (x.toUInt64 >>> (y.toInt64.toUInt64 &&& Int64.toUInt64 63)).toInt64) 28, o_B2 (fun x y => x + y) 29, o_lc 1085102592571150095 32, o_bad, o_bad],
  [o_B2 (fun x y => x &&& y) 33, o_ls 0 34, o_ll 0 35, o_ll 0 36, o_ic 8 38, o_bad, o_Sh (fun x y => (x.toUInt64 >>> (y.toInt64.toUInt64 &&& Int64.toUInt64 63)).toInt64) 39, o_B2 (fun x y => x + y) 40, o_ls 0 41, o_ll 0 42, o_ll 0 43, o_ic 16 45, o_bad, o_Sh (fun x y => (x.toUInt64 >>> (y.toInt64.toUInt64 &&& Int64.toUInt64 63)).toInt64) 46, o_B2 (fun x y => x + y) 47, o_ls 0 48],
  [o_ll 0 49, o_ll 0 50, o_ic 32 52, o_bad, o_Sh (fun x y => (x.toUInt64 >>> (y.toInt64.toUInt64 &&& Int64.toUInt64 63)).toInt64) 53, o_B2 (fun x y => x + y) 54, o_ls 0 55, o_ll 0 56, o_l2i 57, o_ic 127 59, o_bad, o_b2 (fun x y => x &&& y) 60, o_rI]]
def tb_246 : List (List jx_Op) := [
  [o_il 0 1, o_il 1 2, o_clt 9 5, o_bad, o_bad, o_il 0 6, o_go 10, o_bad, o_bad, o_il 1 10, o_rI]]
def tb_247 : List (List jx_Op) := [
  [o_il 0 1, o_il 1 2, o_cgt 9 5, o_bad, o_bad, o_il 0 6, o_go 10, o_bad, o_bad, o_il 1 10, o_rI]]
def tb_248 : List (List jx_Op) := [
  [o_al 0 1, o_gA 20 0 4, o_bad, o_bad, o_len 5, o_al 0 6, o_cI 250 1 21 9, o_bad, o_bad, o_b2 (fun x y => x >>> (y &&& 31)) 10, o_rI]]
def tb_249 : List (List jx_Op) := [
  [o_al 0 1, o_cI 251 1 21 4, o_bad, o_bad, o_eq 16 7, o_bad, o_bad, o_al 0 8, o_gA 20 0 11, o_bad, o_bad, o_il 1 12, o_cI 253 2 0 15, o_bad, o_bad, o_rC],
  [o_al 0 17, o_gA 20 0 20, o_bad, o_bad, o_il 1 21, o_bad, o_bad, o_bad, o_bad]]
def tb_250 : List (List jx_Op) := [
  [o_ic 1 3, o_bad, o_bad, o_eq 13 6, o_bad, o_bad, o_al 0 7, o_gI 20 1 10, o_bad, o_bad, o_go 14, o_bad, o_bad, o_ic 1 14, o_rB]]
def tb_251 : List (List jx_Op) := [
  [o_ic 1 3, o_bad, o_bad, o_eq 17 6, o_bad, o_bad, o_al 0 7, o_gI 20 1 10, o_bad, o_bad, o_ne 17 13, o_bad, o_bad, o_ic 1 14, o_go 18, o_bad],
  [o_bad, o_ic 0 18, o_rZ]]
def tb_252 : List (List jx_Op) := [
  [o_il 0 1, o_il 1 2, o_jc 5, o_bad, o_bad, o_cI 254 3 0 8, o_bad, o_bad, o_pop 9, o_rV]]
def tb_253 : List (List jx_Op) := [
  [o_il 1 1, o_al 0 2, o_len 3, o_cV 252 2 0 6, o_bad, o_bad, o_al 0 7, o_il 1 8, o_lI 104 9, o_ic 255 12, o_bad, o_bad, o_b2 (fun x y => x &&& y) 13, o_u (fun x => (x.toUInt32 % 65536).toInt32) 14, o_rC]]
def tb_254 : List (List jx_Op) := [
  [o_il 0 1, o_lt 9 4, o_bad, o_bad, o_il 0 5, o_il 1 6, o_clt 16 9, o_bad, o_bad, o_al 2 10, o_il 0 11, o_il 1 12, o_bad, o_bad, o_bad, o_bad],
  [o_il 0 17, o_rI]]
def tb_255 : List (List jx_Op) := [
  [o_al 6 2, o_bad, o_ic 0 3, o_al 0 4, o_il 1 5, o_il 2 6, o_il 3 7, o_il 4 9, o_bad, o_il 5 11, o_bad, o_hI 60 6 8 [("java/lang/IllegalArgumentException", 19), ("java/lang/IllegalStateException", 23)] 14, o_bad, o_bad, o_i2l 15, o_sL 102 16],
  [o_go 27, o_bad, o_bad, o_aj 7 21, o_bad, o_ic 1 22, o_rI, o_aj 7 25, o_bad, o_ic 2 26, o_rI, o_ic 0 28, o_rI]]
def tb_256 : List (List jx_Op) := [
  [o_al 2 1, o_ic 0 2, o_al 0 3, o_il 1 4, o_hI 61 2 8 [("java/util/NoSuchElementException", 12), ("java/lang/IllegalStateException", 15)] 7, o_bad, o_bad, o_i2l 8, o_sL 102 9, o_go 18, o_bad, o_bad, o_aj 3 13, o_ic 1 14, o_rI, o_aj 3 16],
  [o_ic 2 17, o_rI, o_ic 0 19, o_rI]]
def tb_257 : List (List jx_Op) := [
  [o_al 2 1, o_ic 0 2, o_al 0 3, o_il 1 4, o_hI 64 2 8 [("java/lang/IndexOutOfBoundsException", 12)] 7, o_bad, o_bad, o_i2l 8, o_sL 102 9, o_go 15, o_bad, o_bad, o_aj 3 13, o_ic 1 14, o_rI, o_ic 0 16],
  [o_rI]]
def tb_258 : List (List jx_Op) := [
  [o_al 2 1, o_ic 0 2, o_al 0 3, o_il 1 4, o_hI 66 2 8 [("java/util/NoSuchElementException", 12)] 7, o_bad, o_bad, o_i2l 8, o_sL 102 9, o_go 15, o_bad, o_bad, o_aj 3 13, o_ic 1 14, o_rI, o_ic 0 16],
  [o_rI]]
def tb_259 : List (List jx_Op) := [
  [o_al 2 1, o_ic 0 2, o_al 0 3, o_il 1 4, o_hI 67 2 8 [("java/util/NoSuchElementException", 12)] 7, o_bad, o_bad, o_i2l 8, o_sL 102 9, o_go 15, o_bad, o_bad, o_aj 3 13, o_ic 1 14, o_rI, o_ic 0 16],
  [o_rI]]
def tb_260 : List (List jx_Op) := [
  [o_al 3 1, o_ic 0 2, o_al 0 3, o_il 1 4, o_il 2 5, o_hI 68 3 8 [("java/util/NoSuchElementException", 13), ("java/lang/IllegalArgumentException", 17)] 8, o_bad, o_bad, o_i2l 9, o_sL 102 10, o_go 21, o_bad, o_bad, o_aj 4 15, o_bad, o_ic 1 16],
  [o_rI, o_aj 4 19, o_bad, o_ic 2 20, o_rI, o_ic 0 22, o_rI]]
def tb_261 : List (List jx_Op) := [
  [o_al 2 1, o_ic 0 2, o_al 0 3, o_il 1 4, o_hI 69 2 8 [("java/util/NoSuchElementException", 19)] 7, o_bad, o_bad, o_eq 14 10, o_bad, o_bad, o_lc 1 11, o_go 15, o_bad, o_bad, o_lc 0 15, o_sL 102 16],
  [o_go 22, o_bad, o_bad, o_aj 3 20, o_ic 1 21, o_rI, o_ic 0 23, o_rI]]
def tb_262 : List (List jx_Op) := [
  [o_al 2 1, o_ic 0 2, o_al 0 3, o_il 1 4, o_hI 70 2 8 [("java/util/NoSuchElementException", 12)] 7, o_bad, o_bad, o_i2l 8, o_sL 102 9, o_go 15, o_bad, o_bad, o_aj 3 13, o_ic 1 14, o_rI, o_ic 0 16],
  [o_rI]]
def tb_263 : List (List jx_Op) := [
  [o_al 4 2, o_bad, o_ic 0 3, o_al 0 4, o_il 1 5, o_il 2 6, o_il 3 7, o_hI 72 4 8 [("java/util/NoSuchElementException", 15), ("java/lang/IndexOutOfBoundsException", 19), ("java/lang/IllegalStateException", 23)] 10, o_bad, o_bad, o_i2l 11, o_sL 102 12, o_go 27, o_bad, o_bad, o_aj 5 17],
  [o_bad, o_ic 1 18, o_rI, o_aj 5 21, o_bad, o_ic 2 22, o_rI, o_aj 5 25, o_bad, o_ic 3 26, o_rI, o_ic 0 28, o_rI]]
def tb_264 : List (List jx_Op) := [
  [o_al 2 1, o_ic 0 2, o_al 0 3, o_il 1 4, o_hI 73 2 8 [("java/util/NoSuchElementException", 12), ("java/lang/IllegalStateException", 15)] 7, o_bad, o_bad, o_i2l 8, o_sL 102 9, o_go 18, o_bad, o_bad, o_aj 3 13, o_ic 1 14, o_rI, o_aj 3 16],
  [o_ic 2 17, o_rI, o_ic 0 19, o_rI]]
def tb_265 : List (List jx_Op) := [
  [o_al 3 1, o_ic 0 2, o_al 0 3, o_il 1 4, o_il 2 5, o_hI 74 3 8 [("java/util/NoSuchElementException", 13), ("java/lang/IllegalArgumentException", 17)] 8, o_bad, o_bad, o_i2l 9, o_sL 102 10, o_go 21, o_bad, o_bad, o_aj 4 15, o_bad, o_ic 1 16],
  [o_rI, o_aj 4 19, o_bad, o_ic 2 20, o_rI, o_ic 0 22, o_rI]]
def tb_266 : List (List jx_Op) := [
  [o_al 3 1, o_ic 0 2, o_al 0 3, o_il 1 4, o_il 2 5, o_hI 75 3 8 [("java/util/NoSuchElementException", 13), ("java/lang/IllegalArgumentException", 17), ("java/lang/IllegalStateException", 21)] 8, o_bad, o_bad, o_i2l 9, o_sL 102 10, o_go 25, o_bad, o_bad, o_aj 4 15, o_bad, o_ic 1 16],
  [o_rI, o_aj 4 19, o_bad, o_ic 2 20, o_rI, o_aj 4 23, o_bad, o_ic 3 24, o_rI, o_ic 0 26, o_rI]]
def tb_267 : List (List jx_Op) := [
  [o_al 3 1, o_ic 0 2, o_al 0 3, o_il 1 4, o_il 2 5, o_hI 76 3 8 [("java/lang/IndexOutOfBoundsException", 13), ("java/lang/UnsupportedOperationException", 17), ("java/util/NoSuchElementException", 21)] 8, o_bad, o_bad, o_i2l 9, o_sL 102 10, o_go 25, o_bad, o_bad, o_aj 4 15, o_bad, o_ic 1 16],
  [o_rI, o_aj 4 19, o_bad, o_ic 2 20, o_rI, o_aj 4 23, o_bad, o_ic 3 24, o_rI, o_ic 0 26, o_rI]]
def tb_268 : List (List jx_Op) := [
  [o_al 3 1, o_ic 0 2, o_al 0 3, o_il 1 4, o_il 2 5, o_hI 78 3 8 [("java/lang/IndexOutOfBoundsException", 20)] 8, o_bad, o_bad, o_eq 15 11, o_bad, o_bad, o_lc 1 12, o_go 16, o_bad, o_bad, o_lc 0 16],
  [o_sL 102 17, o_go 24, o_bad, o_bad, o_aj 4 22, o_bad, o_ic 1 23, o_rI, o_ic 0 25, o_rI]]
def tb_269 : List (List jx_Op) := [
  [o_al 3 1, o_ic 0 2, o_al 0 3, o_il 1 4, o_il 2 5, o_hI 79 3 8 [("java/lang/IndexOutOfBoundsException", 13), ("java/util/NoSuchElementException", 17)] 8, o_bad, o_bad, o_i2l 9, o_sL 102 10, o_go 21, o_bad, o_bad, o_aj 4 15, o_bad, o_ic 1 16],
  [o_rI, o_aj 4 19, o_bad, o_ic 2 20, o_rI, o_ic 0 22, o_rI]]
def tb_270 : List (List jx_Op) := [
  [o_al 2 1, o_ic 0 2, o_al 0 3, o_il 1 4, o_hL 81 2 8 [("java/lang/IllegalArgumentException", 11)] 7, o_bad, o_bad, o_sL 102 8, o_go 14, o_bad, o_bad, o_aj 3 12, o_ic 1 13, o_rI, o_ic 0 15, o_rI]]
def tb_271 : List (List jx_Op) := [
  [o_al 3 1, o_ic 0 2, o_al 0 3, o_il 1 4, o_il 2 5, o_hI 87 3 8 [("java/util/NoSuchElementException", 20), ("java/lang/IllegalArgumentException", 24)] 8, o_bad, o_bad, o_eq 15 11, o_bad, o_bad, o_lc 1 12, o_go 16, o_bad, o_bad, o_lc 0 16],
  [o_sL 102 17, o_go 28, o_bad, o_bad, o_aj 4 22, o_bad, o_ic 1 23, o_rI, o_aj 4 26, o_bad, o_ic 2 27, o_rI, o_ic 0 29, o_rI]]
def tb_272 : List (List jx_Op) := [
  [o_al 2 1, o_ic 0 2, o_al 0 3, o_il 1 4, o_hI 88 2 8 [("java/util/NoSuchElementException", 12)] 7, o_bad, o_bad, o_i2l 8, o_sL 102 9, o_go 15, o_bad, o_bad, o_aj 3 13, o_ic 1 14, o_rI, o_ic 0 16],
  [o_rI]]
def tb_273 : List (List jx_Op) := [
  [o_al 3 1, o_ic 0 2, o_al 0 3, o_il 1 4, o_il 2 5, o_hI 89 3 8 [("java/lang/IndexOutOfBoundsException", 13), ("java/lang/UnsupportedOperationException", 17)] 8, o_bad, o_bad, o_i2l 9, o_sL 102 10, o_go 21, o_bad, o_bad, o_aj 4 15, o_bad, o_ic 1 16],
  [o_rI, o_aj 4 19, o_bad, o_ic 2 20, o_rI, o_ic 0 22, o_rI]]
def tb_274 : List (List jx_Op) := [
  [o_al 5 2, o_bad, o_ic 0 3, o_al 0 4, o_il 1 5, o_il 2 6, o_il 3 7, o_il 4 9, o_bad, o_hI 90 5 8 [("java/util/NoSuchElementException", 17), ("java/lang/IndexOutOfBoundsException", 21), ("java/lang/IllegalArgumentException", 25), ("java/lang/IllegalStateException", 29), ("java/lang/UnsupportedOperationException", 33)] 12, o_bad, o_bad, o_i2l 13, o_sL 102 14, o_go 37, o_bad],
  [o_bad, o_aj 6 19, o_bad, o_ic 1 20, o_rI, o_aj 6 23, o_bad, o_ic 2 24, o_rI, o_aj 6 27, o_bad, o_ic 3 28, o_rI, o_aj 6 31, o_bad, o_ic 4 32],
  [o_rI, o_aj 6 35, o_bad, o_ic 5 36, o_rI, o_ic 0 38, o_rI]]
def tb_275 : List (List jx_Op) := [
  [o_al 4 2, o_bad, o_ic 0 3, o_al 0 4, o_il 1 5, o_il 2 6, o_il 3 7, o_hI 91 4 8 [("java/util/NoSuchElementException", 15), ("java/lang/IndexOutOfBoundsException", 19), ("java/lang/IllegalStateException", 23), ("java/lang/UnsupportedOperationException", 27)] 10, o_bad, o_bad, o_i2l 11, o_sL 102 12, o_go 31, o_bad, o_bad, o_aj 5 17],
  [o_bad, o_ic 1 18, o_rI, o_aj 5 21, o_bad, o_ic 2 22, o_rI, o_aj 5 25, o_bad, o_ic 3 26, o_rI, o_aj 5 29, o_bad, o_ic 4 30, o_rI, o_ic 0 32],
  [o_rI]]
def tb_276 : List (List jx_Op) := [
  [o_al 3 1, o_ic 0 2, o_al 0 3, o_il 1 4, o_il 2 5, o_hI 92 3 8 [("java/lang/IndexOutOfBoundsException", 13), ("java/lang/UnsupportedOperationException", 17), ("java/util/NoSuchElementException", 21)] 8, o_bad, o_bad, o_i2l 9, o_sL 102 10, o_go 25, o_bad, o_bad, o_aj 4 15, o_bad, o_ic 1 16],
  [o_rI, o_aj 4 19, o_bad, o_ic 2 20, o_rI, o_aj 4 23, o_bad, o_ic 3 24, o_rI, o_ic 0 26, o_rI]]
def tb_277 : List (List jx_Op) := [
  [o_al 4 2, o_bad, o_ic 0 3, o_al 0 4, o_il 1 5, o_il 2 6, o_il 3 7, o_hI 93 4 8 [("java/lang/IndexOutOfBoundsException", 15), ("java/lang/UnsupportedOperationException", 19), ("java/util/NoSuchElementException", 23)] 10, o_bad, o_bad, o_i2l 11, o_sL 102 12, o_go 27, o_bad, o_bad, o_aj 5 17],
  [o_bad, o_ic 1 18, o_rI, o_aj 5 21, o_bad, o_ic 2 22, o_rI, o_aj 5 25, o_bad, o_ic 3 26, o_rI, o_ic 0 28, o_rI]]
def tb_278 : List (List jx_Op) := [
  [o_al 2 1, o_ic 0 2, o_al 0 3, o_il 1 4, o_hI 96 2 8 [("java/util/NoSuchElementException", 12)] 7, o_bad, o_bad, o_i2l 8, o_sL 102 9, o_go 15, o_bad, o_bad, o_aj 3 13, o_ic 1 14, o_rI, o_ic 0 16],
  [o_rI]]
def tb_279 : List (List jx_Op) := [
  [o_al 2 1, o_ic 0 2, o_al 0 3, o_il 1 4, o_hL 97 2 8 [("java/util/NoSuchElementException", 11)] 7, o_bad, o_bad, o_sL 102 8, o_go 14, o_bad, o_bad, o_aj 3 12, o_ic 1 13, o_rI, o_ic 0 15, o_rI]]
def tb_280 : List (List jx_Op) := [
  [o_al 1 1, o_ic 0 2, o_al 0 3, o_hI 98 1 8 [("java/util/NoSuchElementException", 11)] 6, o_bad, o_bad, o_i2l 7, o_sL 102 8, o_go 14, o_bad, o_bad, o_aj 2 12, o_ic 1 13, o_rI, o_ic 0 15, o_rI]]
def tb_281 : List (List jx_Op) := [
  [o_al 1 1, o_ic 0 2, o_al 0 3, o_hF 99 1 8 [("java/lang/ArithmeticException", 11)] 6, o_bad, o_bad, o_f2d 7, o_sD 103 8, o_go 14, o_bad, o_bad, o_aj 2 12, o_ic 1 13, o_rI, o_ic 0 15, o_rI]]
def tb_282 : List (List jx_Op) := [
  [o_al 1 1, o_ic 0 2, o_al 0 3, o_hI 100 1 8 [("java/lang/ArithmeticException", 11)] 6, o_bad, o_bad, o_i2l 7, o_sL 102 8, o_go 14, o_bad, o_bad, o_aj 2 12, o_ic 1 13, o_rI, o_ic 0 15, o_rI]]
def tb_283 : List (List jx_Op) := [
  [o_al 1 1, o_ic 0 2, o_al 0 3, o_hD 101 1 8 [("java/lang/ArithmeticException", 10)] 6, o_bad, o_bad, o_sD 103 7, o_go 13, o_bad, o_bad, o_aj 2 11, o_ic 1 12, o_rI, o_ic 0 14, o_rI]]
def tb_284 : List (List jx_Op) := [
  [o_al 2 1, o_ic 0 2, o_al 0 3, o_il 1 4, o_hI 103 2 8 [("java/lang/IndexOutOfBoundsException", 12)] 7, o_bad, o_bad, o_i2l 8, o_sL 102 9, o_go 15, o_bad, o_bad, o_aj 3 13, o_ic 1 14, o_rI, o_ic 0 16],
  [o_rI]]
def tb_285 : List (List jx_Op) := [
  [o_al 2 1, o_ic 0 2, o_al 0 3, o_il 1 4, o_hI 104 2 8 [("java/util/NoSuchElementException", 12)] 7, o_bad, o_bad, o_i2l 8, o_sL 102 9, o_go 15, o_bad, o_bad, o_aj 3 13, o_ic 1 14, o_rI, o_ic 0 16],
  [o_rI]]
def tb_286 : List (List jx_Op) := [
  [o_al 2 1, o_ic 0 2, o_al 0 3, o_il 1 4, o_hI 105 2 8 [("java/lang/IndexOutOfBoundsException", 12)] 7, o_bad, o_bad, o_i2l 8, o_sL 102 9, o_go 15, o_bad, o_bad, o_aj 3 13, o_ic 1 14, o_rI, o_ic 0 16],
  [o_rI]]
def tb_287 : List (List jx_Op) := [
  [o_al 2 1, o_ic 0 2, o_al 0 3, o_il 1 4, o_hI 106 2 8 [("java/lang/IllegalStateException", 12)] 7, o_bad, o_bad, o_i2l 8, o_sL 102 9, o_go 15, o_bad, o_bad, o_aj 3 13, o_ic 1 14, o_rI, o_ic 0 16],
  [o_rI]]
def tb_288 : List (List jx_Op) := [
  [o_al 1 1, o_ic 0 2, o_al 0 3, o_hI 107 1 8 [("java/lang/IllegalArgumentException", 11), ("java/lang/UnsupportedOperationException", 14)] 6, o_bad, o_bad, o_i2l 7, o_sL 102 8, o_go 17, o_bad, o_bad, o_aj 2 12, o_ic 1 13, o_rI, o_aj 2 15, o_ic 2 16],
  [o_rI, o_ic 0 18, o_rI]]
def tb_289 : List (List jx_Op) := [
  [o_al 1 1, o_ic 0 2, o_al 0 3, o_hI 108 1 8 [("java/util/NoSuchElementException", 11)] 6, o_bad, o_bad, o_i2l 7, o_sL 102 8, o_go 14, o_bad, o_bad, o_aj 2 12, o_ic 1 13, o_rI, o_ic 0 15, o_rI]]
def tb_290 : List (List jx_Op) := [
  [o_al 1 1, o_ic 0 2, o_al 0 3, o_hI 109 1 8 [("java/util/NoSuchElementException", 11)] 6, o_bad, o_bad, o_i2l 7, o_sL 102 8, o_go 14, o_bad, o_bad, o_aj 2 12, o_ic 1 13, o_rI, o_ic 0 15, o_rI]]
def tb_291 : List (List jx_Op) := [
  [o_al 1 1, o_ic 0 2, o_al 0 3, o_hI 110 1 8 [("java/lang/IllegalStateException", 11)] 6, o_bad, o_bad, o_i2l 7, o_sL 102 8, o_go 14, o_bad, o_bad, o_aj 2 12, o_ic 1 13, o_rI, o_ic 0 15, o_rI]]
def tb_292 : List (List jx_Op) := [
  [o_al 1 1, o_ic 0 2, o_al 0 3, o_hI 113 1 8 [("java/lang/IllegalStateException", 11)] 6, o_bad, o_bad, o_i2l 7, o_sL 102 8, o_go 14, o_bad, o_bad, o_aj 2 12, o_ic 1 13, o_rI, o_ic 0 15, o_rI]]
set_option maxRecDepth 20000 in
def tb_293 : List (List jx_Op) := [
  [o_new 7 [.null, .null, .int 0, .null, .null, .null, .null, .null, .int 0, .int 0, .int 0] 3, o_bad, o_bad, o_dup 4, o_cV 59 1 8 7, o_bad, o_bad, o_as 1 8, o_new 8 [.null, .null, .null, .int 0, .null, .int 0, .int 0, .null, .int 0, .null, .int 0, .int 0, .int 0, .int 0, .int 0, .null, .int 0] 11, o_bad, o_bad, o_dup 12, o_cV 133 1 9 15, o_bad, o_bad, o_as 2 16],
  [o_ic 1 17, o_na 102 (.long 0) 19, o_bad, o_as 3 20, o_ic 1 21, o_na 103 (.double 0) 23, o_bad, o_as 4 25, o_bad, o_ic 0 26, o_is 5 28, o_bad, o_il 5 30, o_bad, o_al 0 31, o_len 32],
  [o_ic 6 34, o_bad, o_b2 (fun x y => x - y) 35, o_cgt 2857 38, o_bad, o_bad, o_al 0 39, o_il 5 41, o_bad, o_lI 100 42, o_ic 63 44, o_bad, o_b2 (fun x y => x &&& y) 45, o_sw 2851 [(0, 276), (1, 382), (2, 438), (3, 451), (4, 464), (5, 520), (6, 545), (7, 601), (8, 657), (9, 725), (10, 788), (11, 844), (12, 857), (13, 937), (14, 993), (15, 1061), (16, 1129), (17, 1197), (18, 1210), (19, 1285), (20, 1353), (21, 1367), (22, 1424), (23, 1438), (24, 1452), (25, 1465), (26, 1478), (27, 1491), (28, 1566), (29, 1622), (30, 1690), (31, 1782), (32, 1862), (33, 1930), (34, 2010), (35, 2023), (36, 2036), (37, 2092), (38, 2147), (39, 2191), (40, 2257), (41, 2301), (42, 2366), (43, 2379), (44, 2435), (45, 2491), (46, 2547), (47, 2605), (48, 2649), (49, 2693), (50, 2737), (51, 2781), (52, 2794), (53, 2807)], o_bad, o_bad],
  [o_bad, o_bad, o_bad, o_bad, o_bad, o_bad, o_bad, o_bad, o_bad, o_bad, o_bad, o_bad, o_bad, o_bad, o_bad, o_bad],
  [o_bad, o_bad, o_bad, o_bad, o_bad, o_bad, o_bad, o_bad, o_bad, o_bad, o_bad, o_bad, o_bad, o_bad, o_bad, o_bad],
  [o_bad, o_bad, o_bad, o_bad, o_bad, o_bad, o_bad, o_bad, o_bad, o_bad, o_bad, o_bad, o_bad, o_bad, o_bad, o_bad],
  [o_bad, o_bad, o_bad, o_bad, o_bad, o_bad, o_bad, o_bad, o_bad, o_bad, o_bad, o_bad, o_bad, o_bad, o_bad, o_bad],
  [o_bad, o_bad, o_bad, o_bad, o_bad, o_bad, o_bad, o_bad, o_bad, o_bad, o_bad, o_bad, o_bad, o_bad, o_bad, o_bad],
  [o_bad, o_bad, o_bad, o_bad, o_bad, o_bad, o_bad, o_bad, o_bad, o_bad, o_bad, o_bad, o_bad, o_bad, o_bad, o_bad],
  [o_bad, o_bad, o_bad, o_bad, o_bad, o_bad, o_bad, o_bad, o_bad, o_bad, o_bad, o_bad, o_bad, o_bad, o_bad, o_bad],
  [o_bad, o_bad, o_bad, o_bad, o_bad, o_bad, o_bad, o_bad, o_bad, o_bad, o_bad, o_bad, o_bad, o_bad, o_bad, o_bad],
  [o_bad, o_bad, o_bad, o_bad, o_bad, o_bad, o_bad, o_bad, o_bad, o_bad, o_bad, o_bad, o_bad, o_bad, o_bad, o_bad],
  [o_bad, o_bad, o_bad, o_bad, o_bad, o_bad, o_bad, o_bad, o_bad, o_bad, o_bad, o_bad, o_bad, o_bad, o_bad, o_bad],
  [o_bad, o_bad, o_bad, o_bad, o_bad, o_bad, o_bad, o_bad, o_bad, o_bad, o_bad, o_bad, o_bad, o_bad, o_bad, o_bad],
  [o_bad, o_bad, o_bad, o_bad, o_bad, o_bad, o_bad, o_bad, o_bad, o_bad, o_bad, o_bad, o_bad, o_bad, o_bad, o_bad],
  [o_bad, o_bad, o_bad, o_bad, o_bad, o_bad, o_bad, o_bad, o_bad, o_bad, o_bad, o_bad, o_bad, o_bad, o_bad, o_bad],
  [o_bad, o_bad, o_bad, o_bad, o_bad, o_bad, o_bad, o_bad, o_bad, o_bad, o_bad, o_bad, o_bad, o_bad, o_bad, o_bad],
  [o_bad, o_bad, o_bad, o_bad, o_al 1 277, o_al 0 278, o_il 5 280, o_bad, o_ic 1 281, o_b2 (fun x y => x + y) 282, o_lI 100 283, o_u (fun x => (x.toUInt32 % 65536).toInt32) 284, o_al 0 285, o_il 5 287, o_bad, o_ic 2 288],
  [o_b2 (fun x y => x + y) 289, o_lI 100 290, o_al 0 291, o_il 5 293, o_bad, o_ic 3 294, o_b2 (fun x y => x + y) 295, o_lI 100 296, o_al 0 297, o_il 5 299, o_bad, o_ic 4 300, o_b2 (fun x y => x + y) 301, o_lI 100 302, o_al 0 303, o_il 5 305],
  [o_bad, o_ic 5 306, o_b2 (fun x y => x + y) 307, o_lI 100 308, o_al 3 309, o_cI 255 7 0 312, o_bad, o_bad, o_is 6 314, o_bad, o_al 2 315, o_al 0 316, o_il 5 318, o_bad, o_ic 1 319, o_b2 (fun x y => x + y) 320],
  [o_lI 100 321, o_u (fun x => (x.toUInt32 % 65536).toInt32) 322, o_al 0 323, o_il 5 325, o_bad, o_ic 2 326, o_b2 (fun x y => x + y) 327, o_lI 100 328, o_al 0 329, o_il 5 331, o_bad, o_ic 3 332, o_b2 (fun x y => x + y) 333, o_lI 100 334, o_al 0 335, o_il 5 337],
  [o_bad, o_ic 4 338, o_b2 (fun x y => x + y) 339, o_lI 100 340, o_al 0 341, o_il 5 343, o_bad, o_ic 5 344, o_b2 (fun x y => x + y) 345, o_lI 100 346, o_cI 161 6 9 349, o_bad, o_bad, o_is 7 351, o_bad, o_al 2 352],
  [o_cI 134 1 9 355, o_bad, o_bad, o_il 6 357, o_bad, o_ceq 362 360, o_bad, o_bad, o_ic 0 361, o_rZ, o_il 6 364, o_bad, o_ne 379 367, o_bad, o_bad, o_al 3 368],
  [o_ic 0 369, o_lL 102 370, o_il 7 372, o_bad, o_i2l 373, o_lcmp 374, o_eq 379 377, o_bad, o_bad, o_ic 0 378, o_rZ, o_go 2851, o_bad, o_bad, o_al 1 383, o_al 0 384],
  [o_il 5 386, o_bad, o_ic 1 387, o_b2 (fun x y => x + y) 388, o_lI 100 389, o_al 3 390, o_cI 256 3 0 393, o_bad, o_bad, o_is 6 395, o_bad, o_al 2 396, o_al 0 397, o_il 5 399, o_bad, o_ic 1 400],
  [o_b2 (fun x y => x + y) 401, o_lI 100 402, o_cI 163 2 9 405, o_bad, o_bad, o_is 7 407, o_bad, o_al 2 408, o_cI 134 1 9 411, o_bad, o_bad, o_il 6 413, o_bad, o_ceq 418 416, o_bad, o_bad],
  [o_ic 0 417, o_rZ, o_il 6 420, o_bad, o_ne 435 423, o_bad, o_bad, o_al 3 424, o_ic 0 425, o_lL 102 426, o_il 7 428, o_bad, o_i2l 429, o_lcmp 430, o_eq 435 433, o_bad],
  [o_bad, o_ic 0 434, o_rZ, o_go 2851, o_bad, o_bad, o_al 1 439, o_cI 62 1 8 442, o_bad, o_bad, o_al 2 443, o_cI 164 1 9 446, o_bad, o_bad, o_ceq 2851 449, o_bad],
  [o_bad, o_ic 0 450, o_rZ, o_al 1 452, o_cI 63 1 8 455, o_bad, o_bad, o_al 2 456, o_cI 165 1 9 459, o_bad, o_bad, o_ceq 2851 462, o_bad, o_bad, o_ic 0 463, o_rZ],
  [o_al 1 465, o_al 0 466, o_il 5 468, o_bad, o_ic 1 469, o_b2 (fun x y => x + y) 470, o_lI 100 471, o_al 3 472, o_cI 257 3 0 475, o_bad, o_bad, o_is 6 477, o_bad, o_al 2 478, o_al 0 479, o_il 5 481],
  [o_bad, o_ic 1 482, o_b2 (fun x y => x + y) 483, o_lI 100 484, o_cI 166 2 9 487, o_bad, o_bad, o_is 7 489, o_bad, o_al 2 490, o_cI 134 1 9 493, o_bad, o_bad, o_il 6 495, o_bad, o_ceq 500 498],
  [o_bad, o_bad, o_ic 0 499, o_rZ, o_il 6 502, o_bad, o_ne 517 505, o_bad, o_bad, o_al 3 506, o_ic 0 507, o_lL 102 508, o_il 7 510, o_bad, o_i2l 511, o_lcmp 512],
  [o_eq 517 515, o_bad, o_bad, o_ic 0 516, o_rZ, o_go 2851, o_bad, o_bad, o_al 1 521, o_al 0 522, o_il 5 524, o_bad, o_ic 1 525, o_b2 (fun x y => x + y) 526, o_lI 100 527, o_cI 65 2 8 530],
  [o_bad, o_bad, o_al 2 531, o_al 0 532, o_il 5 534, o_bad, o_ic 1 535, o_b2 (fun x y => x + y) 536, o_lI 100 537, o_cI 167 2 9 540, o_bad, o_bad, o_ceq 2851 543, o_bad, o_bad, o_ic 0 544],
  [o_rZ, o_al 1 546, o_al 0 547, o_il 5 549, o_bad, o_ic 1 550, o_b2 (fun x y => x + y) 551, o_lI 100 552, o_al 3 553, o_cI 258 3 0 556, o_bad, o_bad, o_is 6 558, o_bad, o_al 2 559, o_al 0 560],
  [o_il 5 562, o_bad, o_ic 1 563, o_b2 (fun x y => x + y) 564, o_lI 100 565, o_cI 168 2 9 568, o_bad, o_bad, o_is 7 570, o_bad, o_al 2 571, o_cI 134 1 9 574, o_bad, o_bad, o_il 6 576, o_bad],
  [o_ceq 581 579, o_bad, o_bad, o_ic 0 580, o_rZ, o_il 6 583, o_bad, o_ne 598 586, o_bad, o_bad, o_al 3 587, o_ic 0 588, o_lL 102 589, o_il 7 591, o_bad, o_i2l 592],
  [o_lcmp 593, o_eq 598 596, o_bad, o_bad, o_ic 0 597, o_rZ, o_go 2851, o_bad, o_bad, o_al 1 602, o_al 0 603, o_il 5 605, o_bad, o_ic 1 606, o_b2 (fun x y => x + y) 607, o_lI 100 608],
  [o_al 3 609, o_cI 259 3 0 612, o_bad, o_bad, o_is 6 614, o_bad, o_al 2 615, o_al 0 616, o_il 5 618, o_bad, o_ic 1 619, o_b2 (fun x y => x + y) 620, o_lI 100 621, o_cI 169 2 9 624, o_bad, o_bad],
  [o_is 7 626, o_bad, o_al 2 627, o_cI 134 1 9 630, o_bad, o_bad, o_il 6 632, o_bad, o_ceq 637 635, o_bad, o_bad, o_ic 0 636, o_rZ, o_il 6 639, o_bad, o_ne 654 642],
  [o_bad, o_bad, o_al 3 643, o_ic 0 644, o_lL 102 645, o_il 7 647, o_bad, o_i2l 648, o_lcmp 649, o_eq 654 652, o_bad, o_bad, o_ic 0 653, o_rZ, o_go 2851, o_bad],
  [o_bad, o_al 1 658, o_al 0 659, o_il 5 661, o_bad, o_ic 1 662, o_b2 (fun x y => x + y) 663, o_lI 100 664, o_al 0 665, o_il 5 667, o_bad, o_ic 2 668, o_b2 (fun x y => x + y) 669, o_lI 100 670, o_al 3 671, o_cI 260 4 0 674],
  [o_bad, o_bad, o_is 6 676, o_bad, o_al 2 677, o_al 0 678, o_il 5 680, o_bad, o_ic 1 681, o_b2 (fun x y => x + y) 682, o_lI 100 683, o_al 0 684, o_il 5 686, o_bad, o_ic 2 687, o_b2 (fun x y => x + y) 688],
  [o_lI 100 689, o_cI 170 3 9 692, o_bad, o_bad, o_is 7 694, o_bad, o_al 2 695, o_cI 134 1 9 698, o_bad, o_bad, o_il 6 700, o_bad, o_ceq 705 703, o_bad, o_bad, o_ic 0 704],
  [o_rZ, o_il 6 707, o_bad, o_ne 722 710, o_bad, o_bad, o_al 3 711, o_ic 0 712, o_lL 102 713, o_il 7 715, o_bad, o_i2l 716, o_lcmp 717, o_eq 722 720, o_bad, o_bad],
  [o_ic 0 721, o_rZ, o_go 2851, o_bad, o_bad, o_al 1 726, o_al 0 727, o_il 5 729, o_bad, o_ic 1 730, o_b2 (fun x y => x + y) 731, o_lI 100 732, o_al 3 733, o_cI 261 3 0 736, o_bad, o_bad],
  [o_is 6 738, o_bad, o_al 2 739, o_al 0 740, o_il 5 742, o_bad, o_ic 1 743, o_b2 (fun x y => x + y) 744, o_lI 100 745, o_cI 171 2 9 748, o_bad, o_bad, o_is 7 750, o_bad, o_al 2 751, o_cI 134 1 9 754],
  [o_bad, o_bad, o_il 6 756, o_bad, o_ceq 761 759, o_bad, o_bad, o_ic 0 760, o_rZ, o_il 6 763, o_bad, o_ne 785 766, o_bad, o_bad, o_al 3 767, o_ic 0 768],
  [o_lL 102 769, o_il 7 771, o_bad, o_eq 778 774, o_bad, o_bad, o_lc 1 775, o_go 779, o_bad, o_bad, o_lc 0 779, o_lcmp 780, o_eq 785 783, o_bad, o_bad, o_ic 0 784],
  [o_rZ, o_go 2851, o_bad, o_bad, o_al 1 789, o_al 0 790, o_il 5 792, o_bad, o_ic 1 793, o_b2 (fun x y => x + y) 794, o_lI 100 795, o_al 3 796, o_cI 262 3 0 799, o_bad, o_bad, o_is 6 801],
  [o_bad, o_al 2 802, o_al 0 803, o_il 5 805, o_bad, o_ic 1 806, o_b2 (fun x y => x + y) 807, o_lI 100 808, o_cI 172 2 9 811, o_bad, o_bad, o_is 7 813, o_bad, o_al 2 814, o_cI 134 1 9 817, o_bad],
  [o_bad, o_il 6 819, o_bad, o_ceq 824 822, o_bad, o_bad, o_ic 0 823, o_rZ, o_il 6 826, o_bad, o_ne 841 829, o_bad, o_bad, o_al 3 830, o_ic 0 831, o_lL 102 832],
  [o_il 7 834, o_bad, o_i2l 835, o_lcmp 836, o_eq 841 839, o_bad, o_bad, o_ic 0 840, o_rZ, o_go 2851, o_bad, o_bad, o_al 1 845, o_cI 71 1 8 848, o_bad, o_bad],
  [o_al 2 849, o_cI 173 1 9 852, o_bad, o_bad, o_ceq 2851 855, o_bad, o_bad, o_ic 0 856, o_rZ, o_al 1 858, o_al 0 859, o_il 5 861, o_bad, o_ic 1 862, o_b2 (fun x y => x + y) 863, o_lI 100 864],
  [o_al 0 865, o_il 5 867, o_bad, o_ic 2 868, o_b2 (fun x y => x + y) 869, o_lI 100 870, o_al 0 871, o_il 5 873, o_bad, o_ic 3 874, o_b2 (fun x y => x + y) 875, o_lI 100 876, o_al 3 877, o_cI 263 5 0 880, o_bad, o_bad],
  [o_is 6 882, o_bad, o_al 2 883, o_al 0 884, o_il 5 886, o_bad, o_ic 1 887, o_b2 (fun x y => x + y) 888, o_lI 100 889, o_al 0 890, o_il 5 892, o_bad, o_ic 2 893, o_b2 (fun x y => x + y) 894, o_lI 100 895, o_al 0 896],
  [o_il 5 898, o_bad, o_ic 3 899, o_b2 (fun x y => x + y) 900, o_lI 100 901, o_cI 176 4 9 904, o_bad, o_bad, o_is 7 906, o_bad, o_al 2 907, o_cI 134 1 9 910, o_bad, o_bad, o_il 6 912, o_bad],
  [o_ceq 917 915, o_bad, o_bad, o_ic 0 916, o_rZ, o_il 6 919, o_bad, o_ne 934 922, o_bad, o_bad, o_al 3 923, o_ic 0 924, o_lL 102 925, o_il 7 927, o_bad, o_i2l 928],
  [o_lcmp 929, o_eq 934 932, o_bad, o_bad, o_ic 0 933, o_rZ, o_go 2851, o_bad, o_bad, o_al 1 938, o_al 0 939, o_il 5 941, o_bad, o_ic 1 942, o_b2 (fun x y => x + y) 943, o_lI 100 944],
  [o_al 3 945, o_cI 264 3 0 948, o_bad, o_bad, o_is 6 950, o_bad, o_al 2 951, o_al 0 952, o_il 5 954, o_bad, o_ic 1 955, o_b2 (fun x y => x + y) 956, o_lI 100 957, o_cI 178 2 9 960, o_bad, o_bad],
  [o_is 7 962, o_bad, o_al 2 963, o_cI 134 1 9 966, o_bad, o_bad, o_il 6 968, o_bad, o_ceq 973 971, o_bad, o_bad, o_ic 0 972, o_rZ, o_il 6 975, o_bad, o_ne 990 978],
  [o_bad, o_bad, o_al 3 979, o_ic 0 980, o_lL 102 981, o_il 7 983, o_bad, o_i2l 984, o_lcmp 985, o_eq 990 988, o_bad, o_bad, o_ic 0 989, o_rZ, o_go 2851, o_bad],
  [o_bad, o_al 1 994, o_al 0 995, o_il 5 997, o_bad, o_ic 1 998, o_b2 (fun x y => x + y) 999, o_lI 100 1000, o_al 0 1001, o_il 5 1003, o_bad, o_ic 2 1004, o_b2 (fun x y => x + y) 1005, o_lI 100 1006, o_al 3 1007, o_cI 265 4 0 1010],
  [o_bad, o_bad, o_is 6 1012, o_bad, o_al 2 1013, o_al 0 1014, o_il 5 1016, o_bad, o_ic 1 1017, o_b2 (fun x y => x + y) 1018, o_lI 100 1019, o_al 0 1020, o_il 5 1022, o_bad, o_ic 2 1023, o_b2 (fun x y => x + y) 1024],
  [o_lI 100 1025, o_cI 180 3 9 1028, o_bad, o_bad, o_is 7 1030, o_bad, o_al 2 1031, o_cI 134 1 9 1034, o_bad, o_bad, o_il 6 1036, o_bad, o_ceq 1041 1039, o_bad, o_bad, o_ic 0 1040],
  [o_rZ, o_il 6 1043, o_bad, o_ne 1058 1046, o_bad, o_bad, o_al 3 1047, o_ic 0 1048, o_lL 102 1049, o_il 7 1051, o_bad, o_i2l 1052, o_lcmp 1053, o_eq 1058 1056, o_bad, o_bad],
  [o_ic 0 1057, o_rZ, o_go 2851, o_bad, o_bad, o_al 1 1062, o_al 0 1063, o_il 5 1065, o_bad, o_ic 1 1066, o_b2 (fun x y => x + y) 1067, o_lI 100 1068, o_al 0 1069, o_il 5 1071, o_bad, o_ic 2 1072],
  [o_b2 (fun x y => x + y) 1073, o_lI 100 1074, o_al 3 1075, o_cI 266 4 0 1078, o_bad, o_bad, o_is 6 1080, o_bad, o_al 2 1081, o_al 0 1082, o_il 5 1084, o_bad, o_ic 1 1085, o_b2 (fun x y => x + y) 1086, o_lI 100 1087, o_al 0 1088],
  [o_il 5 1090, o_bad, o_ic 2 1091, o_b2 (fun x y => x + y) 1092, o_lI 100 1093, o_cI 182 3 9 1096, o_bad, o_bad, o_is 7 1098, o_bad, o_al 2 1099, o_cI 134 1 9 1102, o_bad, o_bad, o_il 6 1104, o_bad],
  [o_ceq 1109 1107, o_bad, o_bad, o_ic 0 1108, o_rZ, o_il 6 1111, o_bad, o_ne 1126 1114, o_bad, o_bad, o_al 3 1115, o_ic 0 1116, o_lL 102 1117, o_il 7 1119, o_bad, o_i2l 1120],
  [o_lcmp 1121, o_eq 1126 1124, o_bad, o_bad, o_ic 0 1125, o_rZ, o_go 2851, o_bad, o_bad, o_al 1 1130, o_al 0 1131, o_il 5 1133, o_bad, o_ic 1 1134, o_b2 (fun x y => x + y) 1135, o_lI 100 1136],
  [o_al 0 1137, o_il 5 1139, o_bad, o_ic 2 1140, o_b2 (fun x y => x + y) 1141, o_lI 100 1142, o_al 3 1143, o_cI 267 4 0 1146, o_bad, o_bad, o_is 6 1148, o_bad, o_al 2 1149, o_al 0 1150, o_il 5 1152, o_bad],
  [o_ic 1 1153, o_b2 (fun x y => x + y) 1154, o_lI 100 1155, o_al 0 1156, o_il 5 1158, o_bad, o_ic 2 1159, o_b2 (fun x y => x + y) 1160, o_lI 100 1161, o_cI 191 3 9 1164, o_bad, o_bad, o_is 7 1166, o_bad, o_al 2 1167, o_cI 134 1 9 1170],
  [o_bad, o_bad, o_il 6 1172, o_bad, o_ceq 1177 1175, o_bad, o_bad, o_ic 0 1176, o_rZ, o_il 6 1179, o_bad, o_ne 1194 1182, o_bad, o_bad, o_al 3 1183, o_ic 0 1184],
  [o_lL 102 1185, o_il 7 1187, o_bad, o_i2l 1188, o_lcmp 1189, o_eq 1194 1192, o_bad, o_bad, o_ic 0 1193, o_rZ, o_go 2851, o_bad, o_bad, o_al 1 1198, o_cI 77 1 8 1201, o_bad],
  [o_bad, o_al 2 1202, o_cI 194 1 9 1205, o_bad, o_bad, o_ceq 2851 1208, o_bad, o_bad, o_ic 0 1209, o_rZ, o_al 1 1211, o_al 0 1212, o_il 5 1214, o_bad, o_ic 1 1215, o_b2 (fun x y => x + y) 1216],
  [o_lI 100 1217, o_al 0 1218, o_il 5 1220, o_bad, o_ic 2 1221, o_b2 (fun x y => x + y) 1222, o_lI 100 1223, o_al 3 1224, o_cI 268 4 0 1227, o_bad, o_bad, o_is 6 1229, o_bad, o_al 2 1230, o_al 0 1231, o_il 5 1233],
  [o_bad, o_ic 1 1234, o_b2 (fun x y => x + y) 1235, o_lI 100 1236, o_al 0 1237, o_il 5 1239, o_bad, o_ic 2 1240, o_b2 (fun x y => x + y) 1241, o_lI 100 1242, o_cI 199 3 9 1245, o_bad, o_bad, o_is 7 1247, o_bad, o_al 2 1248],
  [o_cI 134 1 9 1251, o_bad, o_bad, o_il 6 1253, o_bad, o_ceq 1258 1256, o_bad, o_bad, o_ic 0 1257, o_rZ, o_il 6 1260, o_bad, o_ne 1282 1263, o_bad, o_bad, o_al 3 1264],
  [o_ic 0 1265, o_lL 102 1266, o_il 7 1268, o_bad, o_eq 1275 1271, o_bad, o_bad, o_lc 1 1272, o_go 1276, o_bad, o_bad, o_lc 0 1276, o_lcmp 1277, o_eq 1282 1280, o_bad, o_bad],
  [o_ic 0 1281, o_rZ, o_go 2851, o_bad, o_bad, o_al 1 1286, o_al 0 1287, o_il 5 1289, o_bad, o_ic 1 1290, o_b2 (fun x y => x + y) 1291, o_lI 100 1292, o_al 0 1293, o_il 5 1295, o_bad, o_ic 2 1296],
  [o_b2 (fun x y => x + y) 1297, o_lI 100 1298, o_al 3 1299, o_cI 269 4 0 1302, o_bad, o_bad, o_is 6 1304, o_bad, o_al 2 1305, o_al 0 1306, o_il 5 1308, o_bad, o_ic 1 1309, o_b2 (fun x y => x + y) 1310, o_lI 100 1311, o_al 0 1312],
  [o_il 5 1314, o_bad, o_ic 2 1315, o_b2 (fun x y => x + y) 1316, o_lI 100 1317, o_cI 200 3 9 1320, o_bad, o_bad, o_is 7 1322, o_bad, o_al 2 1323, o_cI 134 1 9 1326, o_bad, o_bad, o_il 6 1328, o_bad],
  [o_ceq 1333 1331, o_bad, o_bad, o_ic 0 1332, o_rZ, o_il 6 1335, o_bad, o_ne 1350 1338, o_bad, o_bad, o_al 3 1339, o_ic 0 1340, o_lL 102 1341, o_il 7 1343, o_bad, o_i2l 1344],
  [o_lcmp 1345, o_eq 1350 1348, o_bad, o_bad, o_ic 0 1349, o_rZ, o_go 2851, o_bad, o_bad, o_al 1 1354, o_cL 80 1 8 1357, o_bad, o_bad, o_al 2 1358, o_cL 201 1 9 1361, o_bad],
  [o_bad, o_lcmp 1362, o_eq 2851 1365, o_bad, o_bad, o_ic 0 1366, o_rZ, o_al 1 1368, o_al 0 1369, o_il 5 1371, o_bad, o_ic 1 1372, o_b2 (fun x y => x + y) 1373, o_lI 100 1374, o_u (fun x => (x.toUInt32 % 65536).toInt32) 1375, o_al 3 1376],
  [o_cI 270 3 0 1379, o_bad, o_bad, o_is 6 1381, o_bad, o_al 2 1382, o_al 0 1383, o_il 5 1385, o_bad, o_ic 1 1386, o_b2 (fun x y => x + y) 1387, o_lI 100 1388, o_u (fun x => (x.toUInt32 % 65536).toInt32) 1389, o_cL 202 2 9 1392, o_bad, o_bad],
  [o_ls 7 1394, o_bad, o_al 2 1395, o_cI 134 1 9 1398, o_bad, o_bad, o_il 6 1400, o_bad, o_ceq 1405 1403, o_bad, o_bad, o_ic 0 1404, o_rZ, o_il 6 1407, o_bad, o_ne 1421 1410],
  [o_bad, o_bad, o_al 3 1411, o_ic 0 1412, o_lL 102 1413, o_ll 7 1415, o_bad, o_lcmp 1416, o_eq 1421 1419, o_bad, o_bad, o_ic 0 1420, o_rZ, o_go 2851, o_bad, o_bad],
  [o_al 1 1425, o_cL 82 1 8 1428, o_bad, o_bad, o_al 2 1429, o_cL 203 1 9 1432, o_bad, o_bad, o_lcmp 1433, o_eq 2851 1436, o_bad, o_bad, o_ic 0 1437, o_rZ, o_al 1 1439, o_cL 83 1 8 1442],
  [o_bad, o_bad, o_al 2 1443, o_cL 204 1 9 1446, o_bad, o_bad, o_lcmp 1447, o_eq 2851 1450, o_bad, o_bad, o_ic 0 1451, o_rZ, o_al 1 1453, o_cI 84 1 8 1456, o_bad, o_bad],
  [o_al 2 1457, o_cI 205 1 9 1460, o_bad, o_bad, o_ceq 2851 1463, o_bad, o_bad, o_ic 0 1464, o_rZ, o_al 1 1466, o_cI 85 1 8 1469, o_bad, o_bad, o_al 2 1470, o_cI 206 1 9 1473, o_bad],
  [o_bad, o_ceq 2851 1476, o_bad, o_bad, o_ic 0 1477, o_rZ, o_al 1 1479, o_cI 86 1 8 1482, o_bad, o_bad, o_al 2 1483, o_cI 207 1 9 1486, o_bad, o_bad, o_ceq 2851 1489, o_bad],
  [o_bad, o_ic 0 1490, o_rZ, o_al 1 1492, o_al 0 1493, o_il 5 1495, o_bad, o_ic 1 1496, o_b2 (fun x y => x + y) 1497, o_lI 100 1498, o_al 0 1499, o_il 5 1501, o_bad, o_ic 2 1502, o_b2 (fun x y => x + y) 1503, o_lI 100 1504],
  [o_al 3 1505, o_cI 271 4 0 1508, o_bad, o_bad, o_is 6 1510, o_bad, o_al 2 1511, o_al 0 1512, o_il 5 1514, o_bad, o_ic 1 1515, o_b2 (fun x y => x + y) 1516, o_lI 100 1517, o_al 0 1518, o_il 5 1520, o_bad],
  [o_ic 2 1521, o_b2 (fun x y => x + y) 1522, o_lI 100 1523, o_cI 208 3 9 1526, o_bad, o_bad, o_is 7 1528, o_bad, o_al 2 1529, o_cI 134 1 9 1532, o_bad, o_bad, o_il 6 1534, o_bad, o_ceq 1539 1537, o_bad],
  [o_bad, o_ic 0 1538, o_rZ, o_il 6 1541, o_bad, o_ne 1563 1544, o_bad, o_bad, o_al 3 1545, o_ic 0 1546, o_lL 102 1547, o_il 7 1549, o_bad, o_eq 1556 1552, o_bad, o_bad],
  [o_lc 1 1553, o_go 1557, o_bad, o_bad, o_lc 0 1557, o_lcmp 1558, o_eq 1563 1561, o_bad, o_bad, o_ic 0 1562, o_rZ, o_go 2851, o_bad, o_bad, o_al 1 1567, o_al 0 1568],
  [o_il 5 1570, o_bad, o_ic 1 1571, o_b2 (fun x y => x + y) 1572, o_lI 100 1573, o_al 3 1574, o_cI 272 3 0 1577, o_bad, o_bad, o_is 6 1579, o_bad, o_al 2 1580, o_al 0 1581, o_il 5 1583, o_bad, o_ic 1 1584],
  [o_b2 (fun x y => x + y) 1585, o_lI 100 1586, o_cI 209 2 9 1589, o_bad, o_bad, o_is 7 1591, o_bad, o_al 2 1592, o_cI 134 1 9 1595, o_bad, o_bad, o_il 6 1597, o_bad, o_ceq 1602 1600, o_bad, o_bad],
  [o_ic 0 1601, o_rZ, o_il 6 1604, o_bad, o_ne 1619 1607, o_bad, o_bad, o_al 3 1608, o_ic 0 1609, o_lL 102 1610, o_il 7 1612, o_bad, o_i2l 1613, o_lcmp 1614, o_eq 1619 1617, o_bad],
  [o_bad, o_ic 0 1618, o_rZ, o_go 2851, o_bad, o_bad, o_al 1 1623, o_al 0 1624, o_il 5 1626, o_bad, o_ic 1 1627, o_b2 (fun x y => x + y) 1628, o_lI 100 1629, o_al 0 1630, o_il 5 1632, o_bad],
  [o_ic 2 1633, o_b2 (fun x y => x + y) 1634, o_lI 100 1635, o_al 3 1636, o_cI 273 4 0 1639, o_bad, o_bad, o_is 6 1641, o_bad, o_al 2 1642, o_al 0 1643, o_il 5 1645, o_bad, o_ic 1 1646, o_b2 (fun x y => x + y) 1647, o_lI 100 1648],
  [o_al 0 1649, o_il 5 1651, o_bad, o_ic 2 1652, o_b2 (fun x y => x + y) 1653, o_lI 100 1654, o_cI 210 3 9 1657, o_bad, o_bad, o_is 7 1659, o_bad, o_al 2 1660, o_cI 134 1 9 1663, o_bad, o_bad, o_il 6 1665],
  [o_bad, o_ceq 1670 1668, o_bad, o_bad, o_ic 0 1669, o_rZ, o_il 6 1672, o_bad, o_ne 1687 1675, o_bad, o_bad, o_al 3 1676, o_ic 0 1677, o_lL 102 1678, o_il 7 1680, o_bad],
  [o_i2l 1681, o_lcmp 1682, o_eq 1687 1685, o_bad, o_bad, o_ic 0 1686, o_rZ, o_go 2851, o_bad, o_bad, o_al 1 1691, o_al 0 1692, o_il 5 1694, o_bad, o_ic 1 1695, o_b2 (fun x y => x + y) 1696],
  [o_lI 100 1697, o_al 0 1698, o_il 5 1700, o_bad, o_ic 2 1701, o_b2 (fun x y => x + y) 1702, o_lI 100 1703, o_al 0 1704, o_il 5 1706, o_bad, o_ic 3 1707, o_b2 (fun x y => x + y) 1708, o_lI 100 1709, o_al 0 1710, o_il 5 1712, o_bad],
  [o_ic 4 1713, o_b2 (fun x y => x + y) 1714, o_lI 100 1715, o_al 3 1716, o_cI 274 6 0 1719, o_bad, o_bad, o_is 6 1721, o_bad, o_al 2 1722, o_al 0 1723, o_il 5 1725, o_bad, o_ic 1 1726, o_b2 (fun x y => x + y) 1727, o_lI 100 1728],
  [o_al 0 1729, o_il 5 1731, o_bad, o_ic 2 1732, o_b2 (fun x y => x + y) 1733, o_lI 100 1734, o_al 0 1735, o_il 5 1737, o_bad, o_ic 3 1738, o_b2 (fun x y => x + y) 1739, o_lI 100 1740, o_al 0 1741, o_il 5 1743, o_bad, o_ic 4 1744],
  [o_b2 (fun x y => x + y) 1745, o_lI 100 1746, o_cI 195 5 9 1749, o_bad, o_bad, o_is 7 1751, o_bad, o_al 2 1752, o_cI 134 1 9 1755, o_bad, o_bad, o_il 6 1757, o_bad, o_ceq 1762 1760, o_bad, o_bad],
  [o_ic 0 1761, o_rZ, o_il 6 1764, o_bad, o_ne 1779 1767, o_bad, o_bad, o_al 3 1768, o_ic 0 1769, o_lL 102 1770, o_il 7 1772, o_bad, o_i2l 1773, o_lcmp 1774, o_eq 1779 1777, o_bad],
  [o_bad, o_ic 0 1778, o_rZ, o_go 2851, o_bad, o_bad, o_al 1 1783, o_al 0 1784, o_il 5 1786, o_bad, o_ic 1 1787, o_b2 (fun x y => x + y) 1788, o_lI 100 1789, o_al 0 1790, o_il 5 1792, o_bad],
  [o_ic 2 1793, o_b2 (fun x y => x + y) 1794, o_lI 100 1795, o_al 0 1796, o_il 5 1798, o_bad, o_ic 3 1799, o_b2 (fun x y => x + y) 1800, o_lI 100 1801, o_al 3 1802, o_cI 275 5 0 1805, o_bad, o_bad, o_is 6 1807, o_bad, o_al 2 1808],
  [o_al 0 1809, o_il 5 1811, o_bad, o_ic 1 1812, o_b2 (fun x y => x + y) 1813, o_lI 100 1814, o_al 0 1815, o_il 5 1817, o_bad, o_ic 2 1818, o_b2 (fun x y => x + y) 1819, o_lI 100 1820, o_al 0 1821, o_il 5 1823, o_bad, o_ic 3 1824],
  [o_b2 (fun x y => x + y) 1825, o_lI 100 1826, o_cI 196 4 9 1829, o_bad, o_bad, o_is 7 1831, o_bad, o_al 2 1832, o_cI 134 1 9 1835, o_bad, o_bad, o_il 6 1837, o_bad, o_ceq 1842 1840, o_bad, o_bad],
  [o_ic 0 1841, o_rZ, o_il 6 1844, o_bad, o_ne 1859 1847, o_bad, o_bad, o_al 3 1848, o_ic 0 1849, o_lL 102 1850, o_il 7 1852, o_bad, o_i2l 1853, o_lcmp 1854, o_eq 1859 1857, o_bad],
  [o_bad, o_ic 0 1858, o_rZ, o_go 2851, o_bad, o_bad, o_al 1 1863, o_al 0 1864, o_il 5 1866, o_bad, o_ic 1 1867, o_b2 (fun x y => x + y) 1868, o_lI 100 1869, o_al 0 1870, o_il 5 1872, o_bad],
  [o_ic 2 1873, o_b2 (fun x y => x + y) 1874, o_lI 100 1875, o_al 3 1876, o_cI 276 4 0 1879, o_bad, o_bad, o_is 6 1881, o_bad, o_al 2 1882, o_al 0 1883, o_il 5 1885, o_bad, o_ic 1 1886, o_b2 (fun x y => x + y) 1887, o_lI 100 1888],
  [o_al 0 1889, o_il 5 1891, o_bad, o_ic 2 1892, o_b2 (fun x y => x + y) 1893, o_lI 100 1894, o_cI 197 3 9 1897, o_bad, o_bad, o_is 7 1899, o_bad, o_al 2 1900, o_cI 134 1 9 1903, o_bad, o_bad, o_il 6 1905],
  [o_bad, o_ceq 1910 1908, o_bad, o_bad, o_ic 0 1909, o_rZ, o_il 6 1912, o_bad, o_ne 1927 1915, o_bad, o_bad, o_al 3 1916, o_ic 0 1917, o_lL 102 1918, o_il 7 1920, o_bad],
  [o_i2l 1921, o_lcmp 1922, o_eq 1927 1925, o_bad, o_bad, o_ic 0 1926, o_rZ, o_go 2851, o_bad, o_bad, o_al 1 1931, o_al 0 1932, o_il 5 1934, o_bad, o_ic 1 1935, o_b2 (fun x y => x + y) 1936],
  [o_lI 100 1937, o_al 0 1938, o_il 5 1940, o_bad, o_ic 2 1941, o_b2 (fun x y => x + y) 1942, o_lI 100 1943, o_al 0 1944, o_il 5 1946, o_bad, o_ic 3 1947, o_b2 (fun x y => x + y) 1948, o_lI 100 1949, o_al 3 1950, o_cI 277 5 0 1953, o_bad],
  [o_bad, o_is 6 1955, o_bad, o_al 2 1956, o_al 0 1957, o_il 5 1959, o_bad, o_ic 1 1960, o_b2 (fun x y => x + y) 1961, o_lI 100 1962, o_al 0 1963, o_il 5 1965, o_bad, o_ic 2 1966, o_b2 (fun x y => x + y) 1967, o_lI 100 1968],
  [o_al 0 1969, o_il 5 1971, o_bad, o_ic 3 1972, o_b2 (fun x y => x + y) 1973, o_lI 100 1974, o_cI 198 4 9 1977, o_bad, o_bad, o_is 7 1979, o_bad, o_al 2 1980, o_cI 134 1 9 1983, o_bad, o_bad, o_il 6 1985],
  [o_bad, o_ceq 1990 1988, o_bad, o_bad, o_ic 0 1989, o_rZ, o_il 6 1992, o_bad, o_ne 2007 1995, o_bad, o_bad, o_al 3 1996, o_ic 0 1997, o_lL 102 1998, o_il 7 2000, o_bad],
  [o_i2l 2001, o_lcmp 2002, o_eq 2007 2005, o_bad, o_bad, o_ic 0 2006, o_rZ, o_go 2851, o_bad, o_bad, o_al 1 2011, o_cI 94 1 8 2014, o_bad, o_bad, o_al 2 2015, o_cI 213 1 9 2018],
  [o_bad, o_bad, o_ceq 2851 2021, o_bad, o_bad, o_ic 0 2022, o_rZ, o_al 1 2024, o_cI 95 1 8 2027, o_bad, o_bad, o_al 2 2028, o_cI 214 1 9 2031, o_bad, o_bad, o_ceq 2851 2034],
  [o_bad, o_bad, o_ic 0 2035, o_rZ, o_al 1 2037, o_al 0 2038, o_il 5 2040, o_bad, o_ic 1 2041, o_b2 (fun x y => x + y) 2042, o_lI 100 2043, o_al 3 2044, o_cI 278 3 0 2047, o_bad, o_bad, o_is 6 2049],
  [o_bad, o_al 2 2050, o_al 0 2051, o_il 5 2053, o_bad, o_ic 1 2054, o_b2 (fun x y => x + y) 2055, o_lI 100 2056, o_cI 215 2 9 2059, o_bad, o_bad, o_is 7 2061, o_bad, o_al 2 2062, o_cI 134 1 9 2065, o_bad],
  [o_bad, o_il 6 2067, o_bad, o_ceq 2072 2070, o_bad, o_bad, o_ic 0 2071, o_rZ, o_il 6 2074, o_bad, o_ne 2089 2077, o_bad, o_bad, o_al 3 2078, o_ic 0 2079, o_lL 102 2080],
  [o_il 7 2082, o_bad, o_i2l 2083, o_lcmp 2084, o_eq 2089 2087, o_bad, o_bad, o_ic 0 2088, o_rZ, o_go 2851, o_bad, o_bad, o_al 1 2093, o_al 0 2094, o_il 5 2096, o_bad],
  [o_ic 1 2097, o_b2 (fun x y => x + y) 2098, o_lI 100 2099, o_al 3 2100, o_cI 279 3 0 2103, o_bad, o_bad, o_is 6 2105, o_bad, o_al 2 2106, o_al 0 2107, o_il 5 2109, o_bad, o_ic 1 2110, o_b2 (fun x y => x + y) 2111, o_lI 100 2112],
  [o_cL 216 2 9 2115, o_bad, o_bad, o_ls 7 2117, o_bad, o_al 2 2118, o_cI 134 1 9 2121, o_bad, o_bad, o_il 6 2123, o_bad, o_ceq 2128 2126, o_bad, o_bad, o_ic 0 2127, o_rZ],
  [o_il 6 2130, o_bad, o_ne 2144 2133, o_bad, o_bad, o_al 3 2134, o_ic 0 2135, o_lL 102 2136, o_ll 7 2138, o_bad, o_lcmp 2139, o_eq 2144 2142, o_bad, o_bad, o_ic 0 2143, o_rZ],
  [o_go 2851, o_bad, o_bad, o_al 1 2148, o_al 3 2149, o_cI 280 2 0 2152, o_bad, o_bad, o_is 6 2154, o_bad, o_al 2 2155, o_cI 217 1 9 2158, o_bad, o_bad, o_is 7 2160, o_bad],
  [o_al 2 2161, o_cI 134 1 9 2164, o_bad, o_bad, o_il 6 2166, o_bad, o_ceq 2171 2169, o_bad, o_bad, o_ic 0 2170, o_rZ, o_il 6 2173, o_bad, o_ne 2188 2176, o_bad, o_bad],
  [o_al 3 2177, o_ic 0 2178, o_lL 102 2179, o_il 7 2181, o_bad, o_i2l 2182, o_lcmp 2183, o_eq 2188 2186, o_bad, o_bad, o_ic 0 2187, o_rZ, o_go 2851, o_bad, o_bad, o_al 1 2192],
  [o_al 4 2194, o_bad, o_cI 281 2 0 2197, o_bad, o_bad, o_is 6 2199, o_bad, o_al 2 2200, o_cF 218 1 9 2203, o_bad, o_bad, o_fs 7 2205, o_bad, o_al 2 2206, o_cI 134 1 9 2209, o_bad],
  [o_bad, o_il 6 2211, o_bad, o_ceq 2216 2214, o_bad, o_bad, o_ic 0 2215, o_rZ, o_il 6 2218, o_bad, o_ne 2254 2221, o_bad, o_bad, o_al 4 2223, o_bad, o_ic 0 2224],
  [o_lD 103 2225, o_fl 7 2227, o_bad, o_f2d 2228, o_dcmp .l 2229, o_eq 2254 2232, o_bad, o_bad, o_al 4 2234, o_bad, o_ic 0 2235, o_lD 103 2236, o_al 4 2238, o_bad, o_ic 0 2239, o_lD 103 2240],
  [o_dcmp .l 2241, o_eq 2252 2244, o_bad, o_bad, o_fl 7 2246, o_bad, o_fl 7 2248, o_bad, o_fcmp .l 2249, o_ne 2254 2252, o_bad, o_bad, o_ic 0 2253, o_rZ, o_go 2851, o_bad],
  [o_bad, o_al 1 2258, o_al 3 2259, o_cI 282 2 0 2262, o_bad, o_bad, o_is 6 2264, o_bad, o_al 2 2265, o_cI 219 1 9 2268, o_bad, o_bad, o_is 7 2270, o_bad, o_al 2 2271, o_cI 134 1 9 2274],
  [o_bad, o_bad, o_il 6 2276, o_bad, o_ceq 2281 2279, o_bad, o_bad, o_ic 0 2280, o_rZ, o_il 6 2283, o_bad, o_ne 2298 2286, o_bad, o_bad, o_al 3 2287, o_ic 0 2288],
  [o_lL 102 2289, o_il 7 2291, o_bad, o_i2l 2292, o_lcmp 2293, o_eq 2298 2296, o_bad, o_bad, o_ic 0 2297, o_rZ, o_go 2851, o_bad, o_bad, o_al 1 2302, o_al 4 2304, o_bad],
  [o_cI 283 2 0 2307, o_bad, o_bad, o_is 6 2309, o_bad, o_al 2 2310, o_cD 220 1 9 2313, o_bad, o_bad, o_ds 7 2315, o_bad, o_al 2 2316, o_cI 134 1 9 2319, o_bad, o_bad, o_il 6 2321],
  [o_bad, o_ceq 2326 2324, o_bad, o_bad, o_ic 0 2325, o_rZ, o_il 6 2328, o_bad, o_ne 2363 2331, o_bad, o_bad, o_al 4 2333, o_bad, o_ic 0 2334, o_lD 103 2335, o_dl 7 2337],
  [o_bad, o_dcmp .l 2338, o_eq 2363 2341, o_bad, o_bad, o_al 4 2343, o_bad, o_ic 0 2344, o_lD 103 2345, o_al 4 2347, o_bad, o_ic 0 2348, o_lD 103 2349, o_dcmp .l 2350, o_eq 2361 2353, o_bad],
  [o_bad, o_dl 7 2355, o_bad, o_dl 7 2357, o_bad, o_dcmp .l 2358, o_ne 2363 2361, o_bad, o_bad, o_ic 0 2362, o_rZ, o_go 2851, o_bad, o_bad, o_al 1 2367, o_cI 102 1 8 2370],
  [o_bad, o_bad, o_al 2 2371, o_cI 221 1 9 2374, o_bad, o_bad, o_ceq 2851 2377, o_bad, o_bad, o_ic 0 2378, o_rZ, o_al 1 2380, o_al 0 2381, o_il 5 2383, o_bad, o_ic 1 2384],
  [o_b2 (fun x y => x + y) 2385, o_lI 100 2386, o_al 3 2387, o_cI 284 3 0 2390, o_bad, o_bad, o_is 6 2392, o_bad, o_al 2 2393, o_al 0 2394, o_il 5 2396, o_bad, o_ic 1 2397, o_b2 (fun x y => x + y) 2398, o_lI 100 2399, o_cI 223 2 9 2402],
  [o_bad, o_bad, o_is 7 2404, o_bad, o_al 2 2405, o_cI 134 1 9 2408, o_bad, o_bad, o_il 6 2410, o_bad, o_ceq 2415 2413, o_bad, o_bad, o_ic 0 2414, o_rZ, o_il 6 2417],
  [o_bad, o_ne 2432 2420, o_bad, o_bad, o_al 3 2421, o_ic 0 2422, o_lL 102 2423, o_il 7 2425, o_bad, o_i2l 2426, o_lcmp 2427, o_eq 2432 2430, o_bad, o_bad, o_ic 0 2431, o_rZ],
  [o_go 2851, o_bad, o_bad, o_al 1 2436, o_al 0 2437, o_il 5 2439, o_bad, o_ic 1 2440, o_b2 (fun x y => x + y) 2441, o_lI 100 2442, o_al 3 2443, o_cI 285 3 0 2446, o_bad, o_bad, o_is 6 2448, o_bad],
  [o_al 2 2449, o_al 0 2450, o_il 5 2452, o_bad, o_ic 1 2453, o_b2 (fun x y => x + y) 2454, o_lI 100 2455, o_cI 224 2 9 2458, o_bad, o_bad, o_is 7 2460, o_bad, o_al 2 2461, o_cI 134 1 9 2464, o_bad, o_bad],
  [o_il 6 2466, o_bad, o_ceq 2471 2469, o_bad, o_bad, o_ic 0 2470, o_rZ, o_il 6 2473, o_bad, o_ne 2488 2476, o_bad, o_bad, o_al 3 2477, o_ic 0 2478, o_lL 102 2479, o_il 7 2481],
  [o_bad, o_i2l 2482, o_lcmp 2483, o_eq 2488 2486, o_bad, o_bad, o_ic 0 2487, o_rZ, o_go 2851, o_bad, o_bad, o_al 1 2492, o_al 0 2493, o_il 5 2495, o_bad, o_ic 1 2496],
  [o_b2 (fun x y => x + y) 2497, o_lI 100 2498, o_al 3 2499, o_cI 286 3 0 2502, o_bad, o_bad, o_is 6 2504, o_bad, o_al 2 2505, o_al 0 2506, o_il 5 2508, o_bad, o_ic 1 2509, o_b2 (fun x y => x + y) 2510, o_lI 100 2511, o_cI 225 2 9 2514],
  [o_bad, o_bad, o_is 7 2516, o_bad, o_al 2 2517, o_cI 134 1 9 2520, o_bad, o_bad, o_il 6 2522, o_bad, o_ceq 2527 2525, o_bad, o_bad, o_ic 0 2526, o_rZ, o_il 6 2529],
  [o_bad, o_ne 2544 2532, o_bad, o_bad, o_al 3 2533, o_ic 0 2534, o_lL 102 2535, o_il 7 2537, o_bad, o_i2l 2538, o_lcmp 2539, o_eq 2544 2542, o_bad, o_bad, o_ic 0 2543, o_rZ],
  [o_go 2851, o_bad, o_bad, o_al 1 2548, o_al 0 2549, o_il 5 2551, o_bad, o_ic 1 2552, o_b2 (fun x y => x + y) 2553, o_lI 100 2554, o_u (fun x => (x.toUInt32 % 65536).toInt32) 2555, o_al 3 2556, o_cI 287 3 0 2559, o_bad, o_bad, o_is 6 2561],
  [o_bad, o_al 2 2562, o_al 0 2563, o_il 5 2565, o_bad, o_ic 1 2566, o_b2 (fun x y => x + y) 2567, o_lI 100 2568, o_u (fun x => (x.toUInt32 % 65536).toInt32) 2569, o_cI 226 2 9 2572, o_bad, o_bad, o_is 7 2574, o_bad, o_al 2 2575, o_cI 134 1 9 2578],
  [o_bad, o_bad, o_il 6 2580, o_bad, o_ceq 2585 2583, o_bad, o_bad, o_ic 0 2584, o_rZ, o_il 6 2587, o_bad, o_ne 2602 2590, o_bad, o_bad, o_al 3 2591, o_ic 0 2592],
  [o_lL 102 2593, o_il 7 2595, o_bad, o_i2l 2596, o_lcmp 2597, o_eq 2602 2600, o_bad, o_bad, o_ic 0 2601, o_rZ, o_go 2851, o_bad, o_bad, o_al 1 2606, o_al 3 2607, o_cI 288 2 0 2610],
  [o_bad, o_bad, o_is 6 2612, o_bad, o_al 2 2613, o_cI 234 1 9 2616, o_bad, o_bad, o_is 7 2618, o_bad, o_al 2 2619, o_cI 134 1 9 2622, o_bad, o_bad, o_il 6 2624, o_bad],
  [o_ceq 2629 2627, o_bad, o_bad, o_ic 0 2628, o_rZ, o_il 6 2631, o_bad, o_ne 2646 2634, o_bad, o_bad, o_al 3 2635, o_ic 0 2636, o_lL 102 2637, o_il 7 2639, o_bad, o_i2l 2640],
  [o_lcmp 2641, o_eq 2646 2644, o_bad, o_bad, o_ic 0 2645, o_rZ, o_go 2851, o_bad, o_bad, o_al 1 2650, o_al 3 2651, o_cI 289 2 0 2654, o_bad, o_bad, o_is 6 2656, o_bad],
  [o_al 2 2657, o_cI 235 1 9 2660, o_bad, o_bad, o_is 7 2662, o_bad, o_al 2 2663, o_cI 134 1 9 2666, o_bad, o_bad, o_il 6 2668, o_bad, o_ceq 2673 2671, o_bad, o_bad, o_ic 0 2672],
  [o_rZ, o_il 6 2675, o_bad, o_ne 2690 2678, o_bad, o_bad, o_al 3 2679, o_ic 0 2680, o_lL 102 2681, o_il 7 2683, o_bad, o_i2l 2684, o_lcmp 2685, o_eq 2690 2688, o_bad, o_bad],
  [o_ic 0 2689, o_rZ, o_go 2851, o_bad, o_bad, o_al 1 2694, o_al 3 2695, o_cI 290 2 0 2698, o_bad, o_bad, o_is 6 2700, o_bad, o_al 2 2701, o_cI 236 1 9 2704, o_bad, o_bad],
  [o_is 7 2706, o_bad, o_al 2 2707, o_cI 134 1 9 2710, o_bad, o_bad, o_il 6 2712, o_bad, o_ceq 2717 2715, o_bad, o_bad, o_ic 0 2716, o_rZ, o_il 6 2719, o_bad, o_ne 2734 2722],
  [o_bad, o_bad, o_al 3 2723, o_ic 0 2724, o_lL 102 2725, o_il 7 2727, o_bad, o_i2l 2728, o_lcmp 2729, o_eq 2734 2732, o_bad, o_bad, o_ic 0 2733, o_rZ, o_go 2851, o_bad],
  [o_bad, o_al 1 2738, o_al 3 2739, o_cI 291 2 0 2742, o_bad, o_bad, o_is 6 2744, o_bad, o_al 2 2745, o_cI 237 1 9 2748, o_bad, o_bad, o_is 7 2750, o_bad, o_al 2 2751, o_cI 134 1 9 2754],
  [o_bad, o_bad, o_il 6 2756, o_bad, o_ceq 2761 2759, o_bad, o_bad, o_ic 0 2760, o_rZ, o_il 6 2763, o_bad, o_ne 2778 2766, o_bad, o_bad, o_al 3 2767, o_ic 0 2768],
  [o_lL 102 2769, o_il 7 2771, o_bad, o_i2l 2772, o_lcmp 2773, o_eq 2778 2776, o_bad, o_bad, o_ic 0 2777, o_rZ, o_go 2851, o_bad, o_bad, o_al 1 2782, o_cI 111 1 8 2785, o_bad],
  [o_bad, o_al 2 2786, o_cI 238 1 9 2789, o_bad, o_bad, o_ceq 2851 2792, o_bad, o_bad, o_ic 0 2793, o_rZ, o_al 1 2795, o_cI 112 1 8 2798, o_bad, o_bad, o_al 2 2799, o_cI 239 1 9 2802],
  [o_bad, o_bad, o_ceq 2851 2805, o_bad, o_bad, o_ic 0 2806, o_rZ, o_al 1 2808, o_al 3 2809, o_cI 292 2 0 2812, o_bad, o_bad, o_is 6 2814, o_bad, o_al 2 2815, o_cI 240 1 9 2818],
  [o_bad, o_bad, o_is 7 2820, o_bad, o_al 2 2821, o_cI 134 1 9 2824, o_bad, o_bad, o_il 6 2826, o_bad, o_ceq 2831 2829, o_bad, o_bad, o_ic 0 2830, o_rZ, o_il 6 2833],
  [o_bad, o_ne 2848 2836, o_bad, o_bad, o_al 3 2837, o_ic 0 2838, o_lL 102 2839, o_il 7 2841, o_bad, o_i2l 2842, o_lcmp 2843, o_eq 2848 2846, o_bad, o_bad, o_ic 0 2847, o_rZ],
  [o_go 2851, o_bad, o_bad, o_inc 5 6 2854, o_bad, o_bad, o_go 28, o_bad, o_bad, o_ic 1 2858, o_rZ]]
set_option maxRecDepth 20000 in
def jx_PL : List (List (List jx_Op)) := [tb_0, tb_1, tb_2, tb_3, tb_4, tb_5, tb_6, tb_7, tb_8, tb_9, tb_10, tb_11, tb_12, tb_13, tb_14, tb_15, tb_16, tb_17, tb_18, tb_19, tb_20, tb_21, tb_22, tb_23, tb_24, tb_25, tb_26, tb_27, tb_28, tb_29, tb_30, tb_31, tb_32, tb_33, tb_34, tb_35, tb_36, tb_37, tb_38, tb_39, tb_40, tb_41, tb_42, tb_43, tb_44, tb_45, tb_46, tb_47, tb_48, tb_49, tb_50, tb_51, tb_52, tb_53, tb_54, tb_55, tb_56, tb_57, tb_58, tb_59, tb_60, tb_61, tb_62, tb_63, tb_64, tb_65, tb_66, tb_67, tb_68, tb_69, tb_70, tb_71, tb_72, tb_73, tb_74, tb_75, tb_76, tb_77, tb_78, tb_79, tb_80, tb_81, tb_82, tb_83, tb_84, tb_85, tb_86, tb_87, tb_88, tb_89, tb_90, tb_91, tb_92, tb_93, tb_94, tb_95, tb_96, tb_97, tb_98, tb_99, tb_100, tb_101, tb_102, tb_103, tb_104, tb_105, tb_106, tb_107, tb_108, tb_109, tb_110, tb_111, tb_112, tb_113, tb_114, tb_115, tb_116, tb_117, tb_118, tb_119, tb_120, tb_121, tb_122, tb_123, tb_124, tb_125, tb_126, tb_127, tb_128, tb_129, tb_130, tb_131, tb_132, tb_133, tb_134, tb_135, tb_136, tb_137, tb_138, tb_139, tb_140, tb_141, tb_142, tb_143, tb_144, tb_145, tb_146, tb_147, tb_148, tb_149, tb_150, tb_151, tb_152, tb_153, tb_154, tb_155, tb_156, tb_157, tb_158, tb_159, tb_160, tb_161, tb_162, tb_163, tb_164, tb_165, tb_166, tb_167, tb_168, tb_169, tb_170, tb_171, tb_172, tb_173, tb_174, tb_175, tb_176, tb_177, tb_178, tb_179, tb_180, tb_181, tb_182, tb_183, tb_184, tb_185, tb_186, tb_187, tb_188, tb_189, tb_190, tb_191, tb_192, tb_193, tb_194, tb_195, tb_196, tb_197, tb_198, tb_199, tb_200, tb_201, tb_202, tb_203, tb_204, tb_205, tb_206, tb_207, tb_208, tb_209, tb_210, tb_211, tb_212, tb_213, tb_214, tb_215, tb_216, tb_217, tb_218, tb_219, tb_220, tb_221, tb_222, tb_223, tb_224, tb_225, tb_226, tb_227, tb_228, tb_229, tb_230, tb_231, tb_232, tb_233, tb_234, tb_235, tb_236, tb_237, tb_238, tb_239, tb_240, tb_241, tb_242, tb_243, tb_244, tb_245, tb_246, tb_247, tb_248, tb_249, tb_250, tb_251, tb_252, tb_253, tb_254, tb_255, tb_256, tb_257, tb_258, tb_259, tb_260, tb_261, tb_262, tb_263, tb_264, tb_265, tb_266, tb_267, tb_268, tb_269, tb_270, tb_271, tb_272, tb_273, tb_274, tb_275, tb_276, tb_277, tb_278, tb_279, tb_280, tb_281, tb_282, tb_283, tb_284, tb_285, tb_286, tb_287, tb_288, tb_289, tb_290, tb_291, tb_292, tb_293]
set_option maxRecDepth 20000 in
def jx_ML : List Nat := [2, 4, 3, 3, 3, 4, 7, 5, 6, 3, 4, 5, 6, 6, 4, 2, 6, 5, 5, 1, 1, 1, 2, 2, 1, 10, 7, 5, 5, 7, 4, 1, 5, 5, 6, 4, 4, 6, 3, 5, 6, 5, 2, 2, 1, 1, 1, 1, 2, 1, 2, 1, 2, 6, 5, 3, 3, 3, 2, 1, 6, 2, 1, 1, 3, 2, 2, 2, 4, 2, 2, 4, 4, 2, 3, 3, 4, 1, 3, 4, 4, 6, 4, 5, 1, 1, 1, 4, 2, 3, 7, 6, 3, 4, 1, 1, 2, 2, 2, 3, 1, 2, 1, 4, 4, 2, 2, 3, 1, 1, 1, 1, 1, 1, 2, 1, 3, 3, 2, 4, 2, 4, 1, 1, 3, 3, 2, 1, 1, 1, 1, 1, 4, 1, 1, 3, 1, 2, 2, 2, 3, 4, 2, 2, 4, 2, 3, 2, 4, 2, 1, 4, 4, 4, 4, 4, 5, 4, 4, 2, 9, 6, 4, 2, 1, 1, 7, 2, 3, 3, 4, 3, 3, 4, 3, 6, 4, 5, 2, 5, 3, 6, 3, 7, 5, 3, 5, 4, 3, 3, 4, 3, 3, 5, 1, 6, 5, 3, 8, 3, 3, 4, 7, 4, 1, 3, 1, 1, 4, 3, 3, 8, 4, 5, 1, 3, 3, 3, 3, 2, 2, 1, 2, 4, 5, 2, 2, 2, 3, 1, 3, 2, 5, 7, 2, 1, 1, 1, 1, 1, 1, 1, 1, 1, 1, 2, 2, 2, 1, 2, 1, 1, 2, 2, 3, 8, 4, 4, 4, 4, 5, 4, 4, 6, 4, 5, 5, 5, 5, 5, 4, 5, 4, 5, 7, 6, 5, 6, 4, 4, 3, 3, 3, 3, 4, 4, 4, 4, 3, 3, 3, 3, 3, 9]
def jx_P (m : Nat) : List (List jx_Op) := match jx_PL[m]? with | some t => t | none => []
def jx_M (m : Nat) : Nat := match jx_ML[m]? with | some t => t | none => 0
end JX
