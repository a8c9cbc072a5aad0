section SHA
variable {s : eS} {k : Nat} {i x : Int32}
theorem gI_0 (h : SH s) : g_I s 111 k 0 = some (sI s 0 k) := gI_s h (by decide) rfl
theorem pI_0 (h : SH s) : p_I s 111 k 0 x = some (e_I s 0 k x) := pI_s h (by decide) rfl
theorem pZ_0 (h : SH s) (hx : x = 0 ∨ x = 1) : p_Z s 111 k 0 x = some (e_I s 0 k x) := pZ_s h (by decide) rfl hx
theorem oK_0 (h : SH s) : o_K s 111 0 = some () := oK_s h (by decide) rfl
theorem aI_1 (h : SH s) (hi : ¬ i < 0 ∧ i.toNatClampNeg < 7) : a_I s 0 1 i = some (sI s 1 i.toNatClampNeg) := aI_s h (by decide) rfl hi
theorem sI_1 (h : SH s) (hi : ¬ i < 0 ∧ i.toNatClampNeg < 7) : s_I s 0 1 i x = some (e_I s 1 i.toNatClampNeg x) := sI_s h (by decide) rfl hi
theorem gI_2 (h : SH s) : g_I s 107 k 2 = some (sI s 2 k) := gI_s h (by decide) rfl
theorem pI_2 (h : SH s) : p_I s 107 k 2 x = some (e_I s 2 k x) := pI_s h (by decide) rfl
theorem pZ_2 (h : SH s) (hx : x = 0 ∨ x = 1) : p_Z s 107 k 2 x = some (e_I s 2 k x) := pZ_s h (by decide) rfl hx
theorem oK_2 (h : SH s) : o_K s 107 2 = some () := oK_s h (by decide) rfl
theorem aP_3 (h : SH s) (hi : ¬ i < 0 ∧ i.toNatClampNeg < 24) : a_P s 4 3 i = some (sP s 3 i.toNatClampNeg) := aP_s h (by decide) rfl hi
theorem aP_4 (h : SH s) (hi : ¬ i < 0 ∧ i.toNatClampNeg < 24) : a_P s 4 4 i = some (sP s 4 i.toNatClampNeg) := aP_s h (by decide) rfl hi
theorem aP_5 (h : SH s) (hi : ¬ i < 0 ∧ i.toNatClampNeg < 12) : a_P s 5 5 i = some (sP s 5 i.toNatClampNeg) := aP_s h (by decide) rfl hi
theorem gI_6 (h : SH s) : g_I s 109 k 6 = some (sI s 6 k) := gI_s h (by decide) rfl
theorem pI_6 (h : SH s) : p_I s 109 k 6 x = some (e_I s 6 k x) := pI_s h (by decide) rfl
theorem pZ_6 (h : SH s) (hx : x = 0 ∨ x = 1) : p_Z s 109 k 6 x = some (e_I s 6 k x) := pZ_s h (by decide) rfl hx
theorem oK_6 (h : SH s) : o_K s 109 6 = some () := oK_s h (by decide) rfl
theorem gI_7 (h : SH s) : g_I s 101 k 7 = some (sI s 7 k) := gI_s h (by decide) rfl
theorem pI_7 (h : SH s) : p_I s 101 k 7 x = some (e_I s 7 k x) := pI_s h (by decide) rfl
theorem pZ_7 (h : SH s) (hx : x = 0 ∨ x = 1) : p_Z s 101 k 7 x = some (e_I s 7 k x) := pZ_s h (by decide) rfl hx
theorem oK_7 (h : SH s) : o_K s 101 7 = some () := oK_s h (by decide) rfl
theorem gI_8 (h : SH s) : g_I s 103 k 8 = some (sI s 8 k) := gI_s h (by decide) rfl
theorem pI_8 (h : SH s) : p_I s 103 k 8 x = some (e_I s 8 k x) := pI_s h (by decide) rfl
theorem pZ_8 (h : SH s) (hx : x = 0 ∨ x = 1) : p_Z s 103 k 8 x = some (e_I s 8 k x) := pZ_s h (by decide) rfl hx
theorem oK_8 (h : SH s) : o_K s 103 8 = some () := oK_s h (by decide) rfl
theorem aP_9 (h : SH s) (hi : ¬ i < 0 ∧ i.toNatClampNeg < 52) : a_P s 4 9 i = some (sP s 9 i.toNatClampNeg) := aP_s h (by decide) rfl hi
theorem aL_10 (h : SH s) (hi : ¬ i < 0 ∧ i.toNatClampNeg < 52) : a_L s 3 10 i = some (sL s 10 i.toNatClampNeg) := aL_s h (by decide) rfl hi
theorem aL_11 (h : SH s) (hi : ¬ i < 0 ∧ i.toNatClampNeg < 52) : a_L s 3 11 i = some (sL s 11 i.toNatClampNeg) := aL_s h (by decide) rfl hi
theorem gI_12 (h : SH s) : g_I s 104 k 12 = some (sI s 12 k) := gI_s h (by decide) rfl
theorem pI_12 (h : SH s) : p_I s 104 k 12 x = some (e_I s 12 k x) := pI_s h (by decide) rfl
theorem pZ_12 (h : SH s) (hx : x = 0 ∨ x = 1) : p_Z s 104 k 12 x = some (e_I s 12 k x) := pZ_s h (by decide) rfl hx
theorem oK_12 (h : SH s) : o_K s 104 12 = some () := oK_s h (by decide) rfl
theorem aI_13 (h : SH s) (hi : ¬ i < 0 ∧ i.toNatClampNeg < 249) : a_I s 1 13 i = some (sI s 13 i.toNatClampNeg) := aI_s h (by decide) rfl hi
theorem sB_13 (h : SH s) (hi : ¬ i < 0 ∧ i.toNatClampNeg < 249) : s_B s 1 13 i x = some (e_I s 13 i.toNatClampNeg x.toInt8.toInt32) := sB_s h (by decide) rfl hi
theorem gI_14 (h : SH s) : g_I s 100 k 14 = some (sI s 14 k) := gI_s h (by decide) rfl
theorem pI_14 (h : SH s) : p_I s 100 k 14 x = some (e_I s 14 k x) := pI_s h (by decide) rfl
theorem pZ_14 (h : SH s) (hx : x = 0 ∨ x = 1) : p_Z s 100 k 14 x = some (e_I s 14 k x) := pZ_s h (by decide) rfl hx
theorem oK_14 (h : SH s) : o_K s 100 14 = some () := oK_s h (by decide) rfl
theorem aP_15 (h : SH s) (hi : ¬ i < 0 ∧ i.toNatClampNeg < 60) : a_P s 6 15 i = some (sP s 15 i.toNatClampNeg) := aP_s h (by decide) rfl hi
theorem gI_16 (h : SH s) : g_I s 104 k 16 = some (sI s 16 k) := gI_s h (by decide) rfl
theorem pI_16 (h : SH s) : p_I s 104 k 16 x = some (e_I s 16 k x) := pI_s h (by decide) rfl
theorem pZ_16 (h : SH s) (hx : x = 0 ∨ x = 1) : p_Z s 104 k 16 x = some (e_I s 16 k x) := pZ_s h (by decide) rfl hx
theorem oK_16 (h : SH s) : o_K s 104 16 = some () := oK_s h (by decide) rfl
theorem aI_17 (h : SH s) (hi : ¬ i < 0 ∧ i.toNatClampNeg < 249) : a_I s 1 17 i = some (sI s 17 i.toNatClampNeg) := aI_s h (by decide) rfl hi
theorem sB_17 (h : SH s) (hi : ¬ i < 0 ∧ i.toNatClampNeg < 249) : s_B s 1 17 i x = some (e_I s 17 i.toNatClampNeg x.toInt8.toInt32) := sB_s h (by decide) rfl hi
theorem gI_18 (h : SH s) : g_I s 108 k 18 = some (sI s 18 k) := gI_s h (by decide) rfl
theorem pI_18 (h : SH s) : p_I s 108 k 18 x = some (e_I s 18 k x) := pI_s h (by decide) rfl
theorem pZ_18 (h : SH s) (hx : x = 0 ∨ x = 1) : p_Z s 108 k 18 x = some (e_I s 18 k x) := pZ_s h (by decide) rfl hx
theorem oK_18 (h : SH s) : o_K s 108 18 = some () := oK_s h (by decide) rfl
theorem gI_19 (h : SH s) : g_I s 104 k 19 = some (sI s 19 k) := gI_s h (by decide) rfl
theorem pI_19 (h : SH s) : p_I s 104 k 19 x = some (e_I s 19 k x) := pI_s h (by decide) rfl
theorem pZ_19 (h : SH s) (hx : x = 0 ∨ x = 1) : p_Z s 104 k 19 x = some (e_I s 19 k x) := pZ_s h (by decide) rfl hx
theorem oK_19 (h : SH s) : o_K s 104 19 = some () := oK_s h (by decide) rfl
theorem aI_20 (h : SH s) (hi : ¬ i < 0 ∧ i.toNatClampNeg < 249) : a_I s 1 20 i = some (sI s 20 i.toNatClampNeg) := aI_s h (by decide) rfl hi
theorem sB_20 (h : SH s) (hi : ¬ i < 0 ∧ i.toNatClampNeg < 249) : s_B s 1 20 i x = some (e_I s 20 i.toNatClampNeg x.toInt8.toInt32) := sB_s h (by decide) rfl hi
theorem gI_21 (h : SH s) : g_I s 110 k 21 = some (sI s 21 k) := gI_s h (by decide) rfl
theorem pI_21 (h : SH s) : p_I s 110 k 21 x = some (e_I s 21 k x) := pI_s h (by decide) rfl
theorem pZ_21 (h : SH s) (hx : x = 0 ∨ x = 1) : p_Z s 110 k 21 x = some (e_I s 21 k x) := pZ_s h (by decide) rfl hx
theorem oK_21 (h : SH s) : o_K s 110 21 = some () := oK_s h (by decide) rfl
theorem aI_22 (h : SH s) (hi : ¬ i < 0 ∧ i.toNatClampNeg < 12) : a_I s 0 22 i = some (sI s 22 i.toNatClampNeg) := aI_s h (by decide) rfl hi
theorem sI_22 (h : SH s) (hi : ¬ i < 0 ∧ i.toNatClampNeg < 12) : s_I s 0 22 i x = some (e_I s 22 i.toNatClampNeg x) := sI_s h (by decide) rfl hi
theorem aI_23 (h : SH s) (hi : ¬ i < 0 ∧ i.toNatClampNeg < 12) : a_I s 2 23 i = some (sI s 23 i.toNatClampNeg) := aI_s h (by decide) rfl hi
theorem sZ_23 (h : SH s) (hi : ¬ i < 0 ∧ i.toNatClampNeg < 12) : s_Z s 2 23 i x = some (e_I s 23 i.toNatClampNeg (x &&& 1)) := sZ_s h (by decide) rfl hi
theorem gI_24 (h : SH s) : g_I s 105 k 24 = some (sI s 24 k) := gI_s h (by decide) rfl
theorem pI_24 (h : SH s) : p_I s 105 k 24 x = some (e_I s 24 k x) := pI_s h (by decide) rfl
theorem pZ_24 (h : SH s) (hx : x = 0 ∨ x = 1) : p_Z s 105 k 24 x = some (e_I s 24 k x) := pZ_s h (by decide) rfl hx
theorem oK_24 (h : SH s) : o_K s 105 24 = some () := oK_s h (by decide) rfl
theorem aI_25 (h : SH s) (hi : ¬ i < 0 ∧ i.toNatClampNeg < 4096) : a_I s 1 25 i = some (sI s 25 i.toNatClampNeg) := aI_s h (by decide) rfl hi
theorem sB_25 (h : SH s) (hi : ¬ i < 0 ∧ i.toNatClampNeg < 4096) : s_B s 1 25 i x = some (e_I s 25 i.toNatClampNeg x.toInt8.toInt32) := sB_s h (by decide) rfl hi
theorem gI_26 (h : SH s) : g_I s 112 k 26 = some (sI s 26 k) := gI_s h (by decide) rfl
theorem pI_26 (h : SH s) : p_I s 112 k 26 x = some (e_I s 26 k x) := pI_s h (by decide) rfl
theorem pZ_26 (h : SH s) (hx : x = 0 ∨ x = 1) : p_Z s 112 k 26 x = some (e_I s 26 k x) := pZ_s h (by decide) rfl hx
theorem oK_26 (h : SH s) : o_K s 112 26 = some () := oK_s h (by decide) rfl
theorem aI_27 (h : SH s) (hi : ¬ i < 0 ∧ i.toNatClampNeg < 7) : a_I s 0 27 i = some (sI s 27 i.toNatClampNeg) := aI_s h (by decide) rfl hi
theorem sI_27 (h : SH s) (hi : ¬ i < 0 ∧ i.toNatClampNeg < 7) : s_I s 0 27 i x = some (e_I s 27 i.toNatClampNeg x) := sI_s h (by decide) rfl hi
theorem aI_28 (h : SH s) (hi : ¬ i < 0 ∧ i.toNatClampNeg < 24) : a_I s 0 28 i = some (sI s 28 i.toNatClampNeg) := aI_s h (by decide) rfl hi
theorem sI_28 (h : SH s) (hi : ¬ i < 0 ∧ i.toNatClampNeg < 24) : s_I s 0 28 i x = some (e_I s 28 i.toNatClampNeg x) := sI_s h (by decide) rfl hi
theorem aI_29 (h : SH s) (hi : ¬ i < 0 ∧ i.toNatClampNeg < 24) : a_I s 0 29 i = some (sI s 29 i.toNatClampNeg) := aI_s h (by decide) rfl hi
theorem sI_29 (h : SH s) (hi : ¬ i < 0 ∧ i.toNatClampNeg < 24) : s_I s 0 29 i x = some (e_I s 29 i.toNatClampNeg x) := sI_s h (by decide) rfl hi
theorem aI_30 (h : SH s) (hi : ¬ i < 0 ∧ i.toNatClampNeg < 24) : a_I s 0 30 i = some (sI s 30 i.toNatClampNeg) := aI_s h (by decide) rfl hi
theorem sI_30 (h : SH s) (hi : ¬ i < 0 ∧ i.toNatClampNeg < 24) : s_I s 0 30 i x = some (e_I s 30 i.toNatClampNeg x) := sI_s h (by decide) rfl hi
theorem aI_31 (h : SH s) (hi : ¬ i < 0 ∧ i.toNatClampNeg < 24) : a_I s 2 31 i = some (sI s 31 i.toNatClampNeg) := aI_s h (by decide) rfl hi
theorem sZ_31 (h : SH s) (hi : ¬ i < 0 ∧ i.toNatClampNeg < 24) : s_Z s 2 31 i x = some (e_I s 31 i.toNatClampNeg (x &&& 1)) := sZ_s h (by decide) rfl hi
theorem aI_32 (h : SH s) (hi : ¬ i < 0 ∧ i.toNatClampNeg < 24) : a_I s 0 32 i = some (sI s 32 i.toNatClampNeg) := aI_s h (by decide) rfl hi
theorem sI_32 (h : SH s) (hi : ¬ i < 0 ∧ i.toNatClampNeg < 24) : s_I s 0 32 i x = some (e_I s 32 i.toNatClampNeg x) := sI_s h (by decide) rfl hi
theorem aI_33 (h : SH s) (hi : ¬ i < 0 ∧ i.toNatClampNeg < 24) : a_I s 0 33 i = some (sI s 33 i.toNatClampNeg) := aI_s h (by decide) rfl hi
theorem sI_33 (h : SH s) (hi : ¬ i < 0 ∧ i.toNatClampNeg < 24) : s_I s 0 33 i x = some (e_I s 33 i.toNatClampNeg x) := sI_s h (by decide) rfl hi
theorem aI_34 (h : SH s) (hi : ¬ i < 0 ∧ i.toNatClampNeg < 24) : a_I s 0 34 i = some (sI s 34 i.toNatClampNeg) := aI_s h (by decide) rfl hi
theorem sI_34 (h : SH s) (hi : ¬ i < 0 ∧ i.toNatClampNeg < 24) : s_I s 0 34 i x = some (e_I s 34 i.toNatClampNeg x) := sI_s h (by decide) rfl hi
theorem aI_35 (h : SH s) (hi : ¬ i < 0 ∧ i.toNatClampNeg < 12) : a_I s 0 35 i = some (sI s 35 i.toNatClampNeg) := aI_s h (by decide) rfl hi
theorem sI_35 (h : SH s) (hi : ¬ i < 0 ∧ i.toNatClampNeg < 12) : s_I s 0 35 i x = some (e_I s 35 i.toNatClampNeg x) := sI_s h (by decide) rfl hi
theorem aI_36 (h : SH s) (hi : ¬ i < 0 ∧ i.toNatClampNeg < 12) : a_I s 0 36 i = some (sI s 36 i.toNatClampNeg) := aI_s h (by decide) rfl hi
theorem sI_36 (h : SH s) (hi : ¬ i < 0 ∧ i.toNatClampNeg < 12) : s_I s 0 36 i x = some (e_I s 36 i.toNatClampNeg x) := sI_s h (by decide) rfl hi
theorem aI_37 (h : SH s) (hi : ¬ i < 0 ∧ i.toNatClampNeg < 12) : a_I s 0 37 i = some (sI s 37 i.toNatClampNeg) := aI_s h (by decide) rfl hi
theorem sI_37 (h : SH s) (hi : ¬ i < 0 ∧ i.toNatClampNeg < 12) : s_I s 0 37 i x = some (e_I s 37 i.toNatClampNeg x) := sI_s h (by decide) rfl hi
theorem aI_38 (h : SH s) (hi : ¬ i < 0 ∧ i.toNatClampNeg < 12) : a_I s 2 38 i = some (sI s 38 i.toNatClampNeg) := aI_s h (by decide) rfl hi
theorem sZ_38 (h : SH s) (hi : ¬ i < 0 ∧ i.toNatClampNeg < 12) : s_Z s 2 38 i x = some (e_I s 38 i.toNatClampNeg (x &&& 1)) := sZ_s h (by decide) rfl hi
theorem aI_39 (h : SH s) (hi : ¬ i < 0 ∧ i.toNatClampNeg < 12) : a_I s 0 39 i = some (sI s 39 i.toNatClampNeg) := aI_s h (by decide) rfl hi
theorem sI_39 (h : SH s) (hi : ¬ i < 0 ∧ i.toNatClampNeg < 12) : s_I s 0 39 i x = some (e_I s 39 i.toNatClampNeg x) := sI_s h (by decide) rfl hi
theorem aI_40 (h : SH s) (hi : ¬ i < 0 ∧ i.toNatClampNeg < 3) : a_I s 0 40 i = some (sI s 40 i.toNatClampNeg) := aI_s h (by decide) rfl hi
theorem sI_40 (h : SH s) (hi : ¬ i < 0 ∧ i.toNatClampNeg < 3) : s_I s 0 40 i x = some (e_I s 40 i.toNatClampNeg x) := sI_s h (by decide) rfl hi
theorem aI_41 (h : SH s) (hi : ¬ i < 0 ∧ i.toNatClampNeg < 6) : a_I s 0 41 i = some (sI s 41 i.toNatClampNeg) := aI_s h (by decide) rfl hi
theorem sI_41 (h : SH s) (hi : ¬ i < 0 ∧ i.toNatClampNeg < 6) : s_I s 0 41 i x = some (e_I s 41 i.toNatClampNeg x) := sI_s h (by decide) rfl hi
theorem aI_42 (h : SH s) (hi : ¬ i < 0 ∧ i.toNatClampNeg < 60) : a_I s 0 42 i = some (sI s 42 i.toNatClampNeg) := aI_s h (by decide) rfl hi
theorem sI_42 (h : SH s) (hi : ¬ i < 0 ∧ i.toNatClampNeg < 60) : s_I s 0 42 i x = some (e_I s 42 i.toNatClampNeg x) := sI_s h (by decide) rfl hi
theorem aI_43 (h : SH s) (hi : ¬ i < 0 ∧ i.toNatClampNeg < 60) : a_I s 0 43 i = some (sI s 43 i.toNatClampNeg) := aI_s h (by decide) rfl hi
theorem sI_43 (h : SH s) (hi : ¬ i < 0 ∧ i.toNatClampNeg < 60) : s_I s 0 43 i x = some (e_I s 43 i.toNatClampNeg x) := sI_s h (by decide) rfl hi
theorem aI_44 (h : SH s) (hi : ¬ i < 0 ∧ i.toNatClampNeg < 60) : a_I s 0 44 i = some (sI s 44 i.toNatClampNeg) := aI_s h (by decide) rfl hi
theorem sI_44 (h : SH s) (hi : ¬ i < 0 ∧ i.toNatClampNeg < 60) : s_I s 0 44 i x = some (e_I s 44 i.toNatClampNeg x) := sI_s h (by decide) rfl hi
theorem aI_45 (h : SH s) (hi : ¬ i < 0 ∧ i.toNatClampNeg < 420) : a_I s 0 45 i = some (sI s 45 i.toNatClampNeg) := aI_s h (by decide) rfl hi
theorem sI_45 (h : SH s) (hi : ¬ i < 0 ∧ i.toNatClampNeg < 420) : s_I s 0 45 i x = some (e_I s 45 i.toNatClampNeg x) := sI_s h (by decide) rfl hi
theorem aI_46 (h : SH s) (hi : ¬ i < 0 ∧ i.toNatClampNeg < 12) : a_I s 0 46 i = some (sI s 46 i.toNatClampNeg) := aI_s h (by decide) rfl hi
theorem sI_46 (h : SH s) (hi : ¬ i < 0 ∧ i.toNatClampNeg < 12) : s_I s 0 46 i x = some (e_I s 46 i.toNatClampNeg x) := sI_s h (by decide) rfl hi
theorem aI_47 (h : SH s) (hi : ¬ i < 0 ∧ i.toNatClampNeg < 12) : a_I s 2 47 i = some (sI s 47 i.toNatClampNeg) := aI_s h (by decide) rfl hi
theorem sZ_47 (h : SH s) (hi : ¬ i < 0 ∧ i.toNatClampNeg < 12) : s_Z s 2 47 i x = some (e_I s 47 i.toNatClampNeg (x &&& 1)) := sZ_s h (by decide) rfl hi
theorem aI_48 (h : SH s) (hi : ¬ i < 0 ∧ i.toNatClampNeg < 12) : a_I s 0 48 i = some (sI s 48 i.toNatClampNeg) := aI_s h (by decide) rfl hi
theorem sI_48 (h : SH s) (hi : ¬ i < 0 ∧ i.toNatClampNeg < 12) : s_I s 0 48 i x = some (e_I s 48 i.toNatClampNeg x) := sI_s h (by decide) rfl hi
theorem aI_49 (h : SH s) (hi : ¬ i < 0 ∧ i.toNatClampNeg < 12) : a_I s 0 49 i = some (sI s 49 i.toNatClampNeg) := aI_s h (by decide) rfl hi
theorem sI_49 (h : SH s) (hi : ¬ i < 0 ∧ i.toNatClampNeg < 12) : s_I s 0 49 i x = some (e_I s 49 i.toNatClampNeg x) := sI_s h (by decide) rfl hi
theorem aI_50 (h : SH s) (hi : ¬ i < 0 ∧ i.toNatClampNeg < 12) : a_I s 0 50 i = some (sI s 50 i.toNatClampNeg) := aI_s h (by decide) rfl hi
theorem sI_50 (h : SH s) (hi : ¬ i < 0 ∧ i.toNatClampNeg < 12) : s_I s 0 50 i x = some (e_I s 50 i.toNatClampNeg x) := sI_s h (by decide) rfl hi
theorem aI_51 (h : SH s) (hi : ¬ i < 0 ∧ i.toNatClampNeg < 84) : a_I s 0 51 i = some (sI s 51 i.toNatClampNeg) := aI_s h (by decide) rfl hi
theorem sI_51 (h : SH s) (hi : ¬ i < 0 ∧ i.toNatClampNeg < 84) : s_I s 0 51 i x = some (e_I s 51 i.toNatClampNeg x) := sI_s h (by decide) rfl hi
theorem aI_52 (h : SH s) (hi : ¬ i < 0 ∧ i.toNatClampNeg < 60) : a_I s 0 52 i = some (sI s 52 i.toNatClampNeg) := aI_s h (by decide) rfl hi
theorem sI_52 (h : SH s) (hi : ¬ i < 0 ∧ i.toNatClampNeg < 60) : s_I s 0 52 i x = some (e_I s 52 i.toNatClampNeg x) := sI_s h (by decide) rfl hi
theorem aI_53 (h : SH s) (hi : ¬ i < 0 ∧ i.toNatClampNeg < 14940) : a_I s 0 53 i = some (sI s 53 i.toNatClampNeg) := aI_s h (by decide) rfl hi
theorem sI_53 (h : SH s) (hi : ¬ i < 0 ∧ i.toNatClampNeg < 14940) : s_I s 0 53 i x = some (e_I s 53 i.toNatClampNeg x) := sI_s h (by decide) rfl hi
theorem aI_54 (h : SH s) (hi : ¬ i < 0 ∧ i.toNatClampNeg < 4096) : a_I s 0 54 i = some (sI s 54 i.toNatClampNeg) := aI_s h (by decide) rfl hi
theorem sI_54 (h : SH s) (hi : ¬ i < 0 ∧ i.toNatClampNeg < 4096) : s_I s 0 54 i x = some (e_I s 54 i.toNatClampNeg x) := sI_s h (by decide) rfl hi
theorem aI_55 (h : SH s) (hi : ¬ i < 0 ∧ i.toNatClampNeg < 256) : a_I s 0 55 i = some (sI s 55 i.toNatClampNeg) := aI_s h (by decide) rfl hi
theorem sI_55 (h : SH s) (hi : ¬ i < 0 ∧ i.toNatClampNeg < 256) : s_I s 0 55 i x = some (e_I s 55 i.toNatClampNeg x) := sI_s h (by decide) rfl hi
theorem aI_56 (h : SH s) (hi : ¬ i < 0 ∧ i.toNatClampNeg < 260) : a_I s 0 56 i = some (sI s 56 i.toNatClampNeg) := aI_s h (by decide) rfl hi
theorem sI_56 (h : SH s) (hi : ¬ i < 0 ∧ i.toNatClampNeg < 260) : s_I s 0 56 i x = some (e_I s 56 i.toNatClampNeg x) := sI_s h (by decide) rfl hi
theorem aI_57 (h : SH s) (hi : ¬ i < 0 ∧ i.toNatClampNeg < 24) : a_I s 0 57 i = some (sI s 57 i.toNatClampNeg) := aI_s h (by decide) rfl hi
theorem sI_57 (h : SH s) (hi : ¬ i < 0 ∧ i.toNatClampNeg < 24) : s_I s 0 57 i x = some (e_I s 57 i.toNatClampNeg x) := sI_s h (by decide) rfl hi
theorem gP_0_0 (h : SH s) : g_P s 111 0 0 = some (some 1) := gP_s h (by decide) rfl (by decide)
theorem gP_0_1 (h : SH s) : g_P s 111 1 0 = some (some 2) := gP_s h (by decide) rfl (by decide)
theorem gP_0_2 (h : SH s) : g_P s 111 2 0 = some (some 5) := gP_s h (by decide) rfl (by decide)
theorem gP_0_4 (h : SH s) : g_P s 111 4 0 = some (some 6) := gP_s h (by decide) rfl (by decide)
theorem gP_0_5 (h : SH s) : g_P s 111 5 0 = some (some 7) := gP_s h (by decide) rfl (by decide)
theorem gP_0_6 (h : SH s) : g_P s 111 6 0 = some (some 8) := gP_s h (by decide) rfl (by decide)
theorem gP_0_7 (h : SH s) : g_P s 111 7 0 = some (some 14) := gP_s h (by decide) rfl (by decide)
theorem gP_0_8 (h : SH s) : g_P s 111 8 0 = some (some 18) := gP_s h (by decide) rfl (by decide)
theorem gP_0_9 (h : SH s) : g_P s 111 9 0 = some (some 21) := gP_s h (by decide) rfl (by decide)
theorem gP_0_10 (h : SH s) : g_P s 111 10 0 = some (some 24) := gP_s h (by decide) rfl (by decide)
theorem gP_2_0 (h : SH s) : g_P s 107 0 2 = some (some 3) := gP_s h (by decide) rfl (by decide)
theorem gP_2_1 (h : SH s) : g_P s 107 1 2 = some (some 4) := gP_s h (by decide) rfl (by decide)
theorem gP_8_0 (h : SH s) : g_P s 103 0 8 = some (some 9) := gP_s h (by decide) rfl (by decide)
theorem gP_8_1 (h : SH s) : g_P s 103 1 8 = some (some 10) := gP_s h (by decide) rfl (by decide)
theorem gP_8_2 (h : SH s) : g_P s 103 2 8 = some (some 11) := gP_s h (by decide) rfl (by decide)
theorem gP_8_3 (h : SH s) : g_P s 103 3 8 = some (some 12) := gP_s h (by decide) rfl (by decide)
theorem gP_12_0 (h : SH s) : g_P s 104 0 12 = some (some 13) := gP_s h (by decide) rfl (by decide)
theorem gP_14_0 (h : SH s) : g_P s 100 0 14 = some (some 15) := gP_s h (by decide) rfl (by decide)
theorem gP_14_1 (h : SH s) : g_P s 100 1 14 = some (some 16) := gP_s h (by decide) rfl (by decide)
theorem gP_16_0 (h : SH s) : g_P s 104 0 16 = some (some 17) := gP_s h (by decide) rfl (by decide)
theorem gP_18_0 (h : SH s) : g_P s 108 0 18 = some (some 19) := gP_s h (by decide) rfl (by decide)
theorem gP_19_0 (h : SH s) : g_P s 104 0 19 = some (some 20) := gP_s h (by decide) rfl (by decide)
theorem gP_21_0 (h : SH s) : g_P s 110 0 21 = some (some 22) := gP_s h (by decide) rfl (by decide)
theorem gP_21_1 (h : SH s) : g_P s 110 1 21 = some (some 23) := gP_s h (by decide) rfl (by decide)
theorem gP_24_0 (h : SH s) : g_P s 105 0 24 = some (some 25) := gP_s h (by decide) rfl (by decide)
theorem gP_26_0 (h : SH s) : g_P s 112 0 26 = some (some 27) := gP_s h (by decide) rfl (by decide)
theorem gP_26_2 (h : SH s) : g_P s 112 2 26 = some (some 28) := gP_s h (by decide) rfl (by decide)
theorem gP_26_3 (h : SH s) : g_P s 112 3 26 = some (some 29) := gP_s h (by decide) rfl (by decide)
theorem gP_26_4 (h : SH s) : g_P s 112 4 26 = some (some 30) := gP_s h (by decide) rfl (by decide)
theorem gP_26_5 (h : SH s) : g_P s 112 5 26 = some (some 31) := gP_s h (by decide) rfl (by decide)
theorem gP_26_6 (h : SH s) : g_P s 112 6 26 = some (some 32) := gP_s h (by decide) rfl (by decide)
theorem gP_26_7 (h : SH s) : g_P s 112 7 26 = some (some 33) := gP_s h (by decide) rfl (by decide)
theorem gP_26_8 (h : SH s) : g_P s 112 8 26 = some (some 34) := gP_s h (by decide) rfl (by decide)
theorem gP_26_10 (h : SH s) : g_P s 112 10 26 = some (some 35) := gP_s h (by decide) rfl (by decide)
theorem gP_26_11 (h : SH s) : g_P s 112 11 26 = some (some 36) := gP_s h (by decide) rfl (by decide)
theorem gP_26_12 (h : SH s) : g_P s 112 12 26 = some (some 37) := gP_s h (by decide) rfl (by decide)
theorem gP_26_13 (h : SH s) : g_P s 112 13 26 = some (some 38) := gP_s h (by decide) rfl (by decide)
theorem gP_26_14 (h : SH s) : g_P s 112 14 26 = some (some 39) := gP_s h (by decide) rfl (by decide)
theorem gP_26_18 (h : SH s) : g_P s 112 18 26 = some (some 40) := gP_s h (by decide) rfl (by decide)
theorem gP_26_21 (h : SH s) : g_P s 112 21 26 = some (some 41) := gP_s h (by decide) rfl (by decide)
theorem gP_26_24 (h : SH s) : g_P s 112 24 26 = some (some 42) := gP_s h (by decide) rfl (by decide)
theorem gP_26_25 (h : SH s) : g_P s 112 25 26 = some (some 43) := gP_s h (by decide) rfl (by decide)
theorem gP_26_26 (h : SH s) : g_P s 112 26 26 = some (some 44) := gP_s h (by decide) rfl (by decide)
theorem gP_26_27 (h : SH s) : g_P s 112 27 26 = some (some 45) := gP_s h (by decide) rfl (by decide)
theorem gP_26_29 (h : SH s) : g_P s 112 29 26 = some (some 46) := gP_s h (by decide) rfl (by decide)
theorem gP_26_30 (h : SH s) : g_P s 112 30 26 = some (some 47) := gP_s h (by decide) rfl (by decide)
theorem gP_26_31 (h : SH s) : g_P s 112 31 26 = some (some 48) := gP_s h (by decide) rfl (by decide)
theorem gP_26_32 (h : SH s) : g_P s 112 32 26 = some (some 49) := gP_s h (by decide) rfl (by decide)
theorem gP_26_33 (h : SH s) : g_P s 112 33 26 = some (some 50) := gP_s h (by decide) rfl (by decide)
theorem gP_26_34 (h : SH s) : g_P s 112 34 26 = some (some 51) := gP_s h (by decide) rfl (by decide)
theorem gP_26_46 (h : SH s) : g_P s 112 46 26 = some (some 52) := gP_s h (by decide) rfl (by decide)
theorem gP_26_47 (h : SH s) : g_P s 112 47 26 = some (some 53) := gP_s h (by decide) rfl (by decide)
theorem gP_26_48 (h : SH s) : g_P s 112 48 26 = some (some 54) := gP_s h (by decide) rfl (by decide)
theorem gP_26_50 (h : SH s) : g_P s 112 50 26 = some (some 55) := gP_s h (by decide) rfl (by decide)
theorem gP_26_52 (h : SH s) : g_P s 112 52 26 = some (some 56) := gP_s h (by decide) rfl (by decide)
theorem gP_26_54 (h : SH s) : g_P s 112 54 26 = some (some 57) := gP_s h (by decide) rfl (by decide)
end SHA
