-- written by wip/gen/pure.py: the functions of the methods that take and give numbers alone
def f_Rank_isNumber_17  (s0 : Int32) : Option (Int32) := (if j_z s0 then some s0 else none)
def f_Rank_isNumber_0  (v0 : Int64) : Option (Int32) := (if (9218868437227405312 : Int64) < (v0 &&& (9223372036854775807 : Int64)) then f_Rank_isNumber_17 (0 : Int32) else f_Rank_isNumber_17 (1 : Int32))
def f_Rank_isNumber (a0 : Int64) : Option (Int32) := f_Rank_isNumber_0 a0
def f_Rank_ofBits_18  (s0 : Int64) : Option (Int64) := some s0
def f_Rank_ofBits_0  (v0 : Int64) : Option (Int64) := jlet (v0 &&& (9223372036854775807 : Int64)) fun t1 => (if (0 : Int64) ≤ v0 then f_Rank_ofBits_18 t1 else f_Rank_ofBits_18 (-t1))
def f_Rank_ofBits (a0 : Int64) : Option (Int64) := f_Rank_ofBits_0 a0
def f_Rank_toBits_16  (s0 : Int64) : Option (Int64) := some s0
def f_Rank_toBits_0  (v0 : Int64) : Option (Int64) := (if (0 : Int64) ≤ v0 then f_Rank_toBits_16 v0 else f_Rank_toBits_16 ((-v0) ||| (-9223372036854775808 : Int64)))
def f_Rank_toBits (a0 : Int64) : Option (Int64) := f_Rank_toBits_0 a0
def f_Rank_isFinite_21  (s0 : Int32) : Option (Int32) := (if j_z s0 then some s0 else none)
def f_Rank_isFinite_20   : Option (Int32) := f_Rank_isFinite_21 (0 : Int32)
def f_Rank_isFinite_0  (v0 : Int64) : Option (Int32) := (if v0 ≤ (-9218868437227405312 : Int64) then f_Rank_isFinite_20  else (if (9218868437227405312 : Int64) ≤ v0 then f_Rank_isFinite_20  else f_Rank_isFinite_21 (1 : Int32)))
def f_Rank_isFinite (a0 : Int64) : Option (Int32) := f_Rank_isFinite_0 a0
def f_Rank_significand_26  (s0 : Int64) : Option (Int64) := some s0
def f_Rank_significand_0  (v0 : Int64) : Option (Int64) := jlet (j_absL v0) fun t1 => (if (4503599627370496 : Int64) ≤ t1 then f_Rank_significand_26 ((t1 &&& (4503599627370495 : Int64)) ||| (4503599627370496 : Int64)) else f_Rank_significand_26 t1)
def f_Rank_significand (a0 : Int64) : Option (Int64) := f_Rank_significand_0 a0
def f_Rank_exponent_0  (v0 : Int64) : Option (Int32) := jlet (j_absL v0) fun t1 => jlet ((j_lushr t1 (52 : Int32)).toInt32) fun t2 => jlet (j_maxI t2 (1 : Int32)) fun t3 => some ((t3 - (1 : Int32)) + (-1074 : Int32))
def f_Rank_exponent (a0 : Int64) : Option (Int32) := f_Rank_exponent_0 a0
def f_Rank_sign_25  (s0 : Int64) : Option (Int64) := some s0
def f_Rank_sign_0  (v0 : Int64) : Option (Int64) := (if (0 : Int64) ≤ v0 then (if v0 ≤ (0 : Int64) then f_Rank_sign_25 (0 : Int64) else f_Rank_sign_25 (4607182418800017408 : Int64)) else f_Rank_sign_25 (-4607182418800017408 : Int64))
def f_Rank_sign (a0 : Int64) : Option (Int64) := f_Rank_sign_0 a0
def f_Rank_towardsZero_53  (s0 : Int64) : Option (Int64) := some s0
def f_Rank_towardsZero_37  (s0 : Int64) (v0 : Int64) : Option (Int64) := (if (0 : Int64) ≤ v0 then f_Rank_towardsZero_53 s0 else f_Rank_towardsZero_53 (-s0))
def f_Rank_towardsZero_0  (v0 : Int64) : Option (Int64) := jlet (j_absL v0) fun t1 => (f_Rank_exponent v0).bind fun r2 => jlet (-r2) fun t3 => (if 0 < t3 then (if t3 ≤ (52 : Int32) then f_Rank_towardsZero_37 (j_lshl (j_lushr t1 t3) t3) v0 else f_Rank_towardsZero_37 (0 : Int64) v0) else some v0)
def f_Rank_towardsZero (a0 : Int64) : Option (Int64) := f_Rank_towardsZero_0 a0
def f_Exact_isCut_23  (s0 : Int32) : Option (Int32) := (if j_z s0 then some s0 else none)
def f_Exact_isCut_18   : Option (Int32) := f_Exact_isCut_23 (1 : Int32)
def f_Exact_isCut_0  (v0 : Int64) (v2 : Int32) : Option (Int32) := (if (64 : Int32) ≤ v2 then f_Exact_isCut_18  else (if (v0 &&& ((j_lshl (1 : Int64) v2) - (1 : Int64))) = (0 : Int64) then f_Exact_isCut_23 (0 : Int32) else f_Exact_isCut_18 ))
def f_Exact_isCut (a0 : Int64) (a2 : Int32) : Option (Int32) := f_Exact_isCut_0 a0 a2
def f_Exact_isNearerAbove_64  (s0 : Int32) : Option (Int32) := (if j_z s0 then some s0 else none)
def f_Exact_isNearerAbove_63   : Option (Int32) := f_Exact_isNearerAbove_64 (0 : Int32)
def f_Exact_isNearerAbove_59   : Option (Int32) := f_Exact_isNearerAbove_64 (1 : Int32)
def f_Exact_isNearerAbove_38  (s0 : Int32) (v3 : Int64) (v5 : Int64) : Option (Int32) := (if v3 < v5 then f_Exact_isNearerAbove_59  else (if v5 = v3 then (if s0 = 0 then f_Exact_isNearerAbove_63  else f_Exact_isNearerAbove_59 ) else f_Exact_isNearerAbove_63 ))
def f_Exact_isNearerAbove_0  (v0 : Int64) (v2 : Int32) : Option (Int32) := (if v2 < (64 : Int32) then jlet (j_lshl (1 : Int64) (v2 - (1 : Int32))) fun t2 => jlet (v0 &&& ((j_lshl (1 : Int64) v2) - (1 : Int64))) fun t3 => (if ((j_lushr v0 v2) &&& (1 : Int64)) = (0 : Int64) then f_Exact_isNearerAbove_38 (0 : Int32) t2 t3 else f_Exact_isNearerAbove_38 (1 : Int32) t2 t3) else some (0 : Int32))
def f_Exact_isNearerAbove (a0 : Int64) (a2 : Int32) : Option (Int32) := f_Exact_isNearerAbove_0 a0 a2
def f_Exact_rounded_221  (s0 : Int64) : Option (Int64) := some s0
def f_Exact_rounded_209  (v0 : Int32) (v12 : Int64) : Option (Int64) := (if v0 = 0 then f_Exact_rounded_221 v12 else f_Exact_rounded_221 (-v12))
def f_Exact_rounded_207  (s0 : Int64) (v0 : Int32) : Option (Int64) := f_Exact_rounded_209 v0 s0
def f_Exact_rounded_184  (v0 : Int32) (v9 : Int32) (v12 : Int64) : Option (Int64) := (if v12 < (9218868437227405312 : Int64) then f_Exact_rounded_209 v0 v12 else (if v9 = 0 then f_Exact_rounded_207 (9218868437227405311 : Int64) v0 else f_Exact_rounded_207 (9218868437227405312 : Int64) v0))
def f_Exact_rounded_156  (v0 : Int32) (v7 : Int32) (v9 : Int32) (v10 : Int64) : Option (Int64) := (if (971 : Int32) < v7 then f_Exact_rounded_184 v0 v9 (9218868437227405312 : Int64) else jlet ((j_lshl ((v7 - (-1074 : Int32)).toInt64) (52 : Int32)) + v10) fun t2 => f_Exact_rounded_184 v0 v9 t2)
def f_Exact_rounded_150  (v0 : Int32) (v7 : Int32) (v9 : Int32) (v10 : Int64) : Option (Int64) := jlet (v10 + (1 : Int64)) fun t1 => f_Exact_rounded_156 v0 v7 v9 t1
def f_Exact_rounded_115  (s0 : Int64) (v0 : Int32) (v4 : Int32) (v5 : Int64) (v7 : Int32) (v8 : Int32) (v9 : Int32) : Option (Int64) := (if v4 = 0 then (f_Exact_isNearerAbove v5 v8).bind fun r5 => (if r5 = 0 then f_Exact_rounded_156 v0 v7 v9 s0 else f_Exact_rounded_150 v0 v7 v9 s0) else (if v9 = 0 then f_Exact_rounded_156 v0 v7 v9 s0 else (f_Exact_isCut v5 v8).bind fun r3 => (if r3 = 0 then f_Exact_rounded_156 v0 v7 v9 s0 else f_Exact_rounded_150 v0 v7 v9 s0)))
def f_Exact_rounded_97  (s0 : Int32) (v0 : Int32) (v4 : Int32) (v5 : Int64) (v7 : Int32) (v8 : Int32) : Option (Int64) := (if (64 : Int32) ≤ v8 then f_Exact_rounded_115 (0 : Int64) v0 v4 v5 v7 v8 s0 else f_Exact_rounded_115 (j_lushr v5 v8) v0 v4 v5 v7 v8 s0)
def f_Exact_rounded_48  (v0 : Int32) (v4 : Int32) (v5 : Int64) (v7 : Int32) : Option (Int64) := jlet (j_maxI (10 : Int32) ((-1074 : Int32) - v7)) fun t1 => jlet (v7 + t1) fun t2 => (if v0 = 0 then (if v4 = (1 : Int32) then f_Exact_rounded_97 (1 : Int32) v0 v4 v5 t2 t1 else f_Exact_rounded_97 (0 : Int32) v0 v4 v5 t2 t1) else (if v4 = (-1 : Int32) then f_Exact_rounded_97 (1 : Int32) v0 v4 v5 t2 t1 else f_Exact_rounded_97 (0 : Int32) v0 v4 v5 t2 t1))
def f_Exact_rounded_17  : Nat → Int32 → Int32 → Int64 → Int32 → Int32 → Option (Int64)
  | 0, _, _, _, _, _ => none
  | n + 1, v0, v4, v5, v7, v8 => (if (63 : Int32) ≤ v8 then f_Exact_rounded_48 v0 v4 v5 v7 else (if (4611686018427387904 : Int64) ≤ v5 then f_Exact_rounded_48 v0 v4 v5 v7 else jlet (j_lshl v5 (1 : Int32)) fun t3 => jlet (v7 + (-1 : Int32)) fun t4 => jlet (v8 + (1 : Int32)) fun t5 => f_Exact_rounded_17  n v0 v4 t3 t4 t5))
def f_Exact_rounded_0  (v0 : Int32) (v1 : Int64) (v3 : Int32) (v4 : Int32) : Option (Int64) := (if v1 = (0 : Int64) then some (0 : Int64) else f_Exact_rounded_17 5000 v0 v4 v1 v3 (0 : Int32))
def f_Exact_rounded (a0 : Int32) (a1 : Int64) (a3 : Int32) (a4 : Int32) : Option (Int64) := f_Exact_rounded_0 a0 a1 a3 a4
def f_Exact_traced_11  (s0 : Int64) : Option (Int64) := some s0
def f_Exact_traced_0  (v0 : Int64) (v2 : Int32) : Option (Int64) := (if v2 = 0 then f_Exact_traced_11 v0 else f_Exact_traced_11 (v0 ||| (1 : Int64)))
def f_Exact_traced (a0 : Int64) (a2 : Int32) : Option (Int64) := f_Exact_traced_0 a0 a2
def f_Exact_shifted_36  (s0 : Int32) (s1 : Int64) : Option (Int64) := (f_Exact_traced s1 s0).bind fun r1 => some r1
def f_Exact_shifted_17  (s0 : Int64) : Option (Int64) := some s0
def f_Exact_shifted_0  (v0 : Int64) (v2 : Int32) : Option (Int64) := (if v2 < (63 : Int32) then jlet (j_lushr v0 v2) fun t2 => (if (j_lshl t2 v2) = v0 then f_Exact_shifted_36 (0 : Int32) t2 else f_Exact_shifted_36 (1 : Int32) t2) else (if v0 = (0 : Int64) then f_Exact_shifted_17 (0 : Int64) else f_Exact_shifted_17 (1 : Int64)))
def f_Exact_shifted (a0 : Int64) (a2 : Int32) : Option (Int64) := f_Exact_shifted_0 a0 a2
def f_Exact_scaledSum_135  (s0 : Int32) (v4 : Int32) (v5 : Int32) (v11 : Int32) (v16 : Int64) : Option (Int64) := (f_Exact_rounded s0 v16 ((v11 - (9 : Int32)) + v4) v5).bind fun r1 => some r1
def f_Exact_scaledSum_121  (s0 : Int64) (v4 : Int32) (v5 : Int32) (v7 : Int64) (v11 : Int32) : Option (Int64) := (if (0 : Int64) ≤ v7 then f_Exact_scaledSum_135 (0 : Int32) v4 v5 v11 s0 else f_Exact_scaledSum_135 (1 : Int32) v4 v5 v11 s0)
def f_Exact_scaledSum_105  (s0 : Int32) (s1 : Int32) (v4 : Int32) (v5 : Int32) (v7 : Int64) (v11 : Int32) (v12 : Int64) (v14 : Int64) : Option (Int64) := (if s1 = s0 then f_Exact_scaledSum_121 (v12 + v14) v4 v5 v7 v11 else f_Exact_scaledSum_121 (v12 - v14) v4 v5 v7 v11)
def f_Exact_scaledSum_93  (s0 : Int32) (v4 : Int32) (v5 : Int32) (v7 : Int64) (v9 : Int64) (v11 : Int32) (v12 : Int64) (v14 : Int64) : Option (Int64) := (if (0 : Int64) ≤ v9 then f_Exact_scaledSum_105 (0 : Int32) s0 v4 v5 v7 v11 v12 v14 else f_Exact_scaledSum_105 (1 : Int32) s0 v4 v5 v7 v11 v12 v14)
def f_Exact_scaledSum_41  (s0 : Int64) (v4 : Int32) (v5 : Int32) (v7 : Int64) : Option (Int64) := (f_Rank_exponent v7).bind fun r1 => (f_Rank_significand v7).bind fun r2 => jlet (j_lshl r2 (9 : Int32)) fun t3 => (f_Rank_significand s0).bind fun r4 => (f_Rank_exponent s0).bind fun r5 => (f_Exact_shifted (j_lshl r4 (9 : Int32)) (r1 - r5)).bind fun r6 => (if (0 : Int64) ≤ v7 then f_Exact_scaledSum_93 (0 : Int32) v4 v5 v7 s0 r1 t3 r6 else f_Exact_scaledSum_93 (1 : Int32) v4 v5 v7 s0 r1 t3 r6)
def f_Exact_scaledSum_29  (s0 : Int64) (v0 : Int64) (v2 : Int64) (v4 : Int32) (v5 : Int32) (v6 : Int32) : Option (Int64) := (if v6 = 0 then f_Exact_scaledSum_41 v0 v4 v5 s0 else f_Exact_scaledSum_41 v2 v4 v5 s0)
def f_Exact_scaledSum_17  (s0 : Int32) (v0 : Int64) (v2 : Int64) (v4 : Int32) (v5 : Int32) : Option (Int64) := (if s0 = 0 then f_Exact_scaledSum_29 v2 v0 v2 v4 v5 s0 else f_Exact_scaledSum_29 v0 v0 v2 v4 v5 s0)
def f_Exact_scaledSum_0  (v0 : Int64) (v2 : Int64) (v4 : Int32) (v5 : Int32) : Option (Int64) := jlet (j_absL v0) fun t1 => jlet (j_absL v2) fun t2 => (if t1 < t2 then f_Exact_scaledSum_17 (0 : Int32) v0 v2 v4 v5 else f_Exact_scaledSum_17 (1 : Int32) v0 v2 v4 v5)
def f_Exact_scaledSum (a0 : Int64) (a2 : Int64) (a4 : Int32) (a5 : Int32) : Option (Int64) := f_Exact_scaledSum_0 a0 a2 a4 a5
def f_Exact_sum_28  (s0 : Int64) : Option (Int64) := some s0
def f_Exact_sum_0  (v0 : Int64) (v2 : Int64) (v4 : Int32) : Option (Int64) := (f_Rank_isFinite v0).bind fun r1 => (if r1 = 0 then some v0 else (f_Rank_isFinite v2).bind fun r3 => (if r3 = 0 then f_Exact_sum_28 v2 else (f_Exact_scaledSum v0 v2 (0 : Int32) v4).bind fun r5 => f_Exact_sum_28 r5))
def f_Exact_sum (a0 : Int64) (a2 : Int64) (a4 : Int32) : Option (Int64) := f_Exact_sum_0 a0 a2 a4
def f_Exact_halfSum_0  (v0 : Int64) (v2 : Int64) : Option (Int64) := (f_Exact_scaledSum v0 v2 (-1 : Int32) (0 : Int32)).bind fun r1 => some r1
def f_Exact_halfSum (a0 : Int64) (a2 : Int64) : Option (Int64) := f_Exact_halfSum_0 a0 a2
def f_Exact_lift_39  (v4 : Int32) : Option (Int32) := some v4
def f_Exact_lift_11  : Nat → Int64 → Int32 → Int32 → Option (Int32)
  | 0, _, _, _ => none
  | n + 1, v2, v4, v5 => (if (52 : Int32) ≤ v5 then f_Exact_lift_39 v4 else (if (4503599627370496 : Int64) ≤ v2 then f_Exact_lift_39 v4 else jlet (j_lshl v2 (1 : Int32)) fun t3 => jlet (v4 + (1 : Int32)) fun t4 => jlet (v5 + (1 : Int32)) fun t5 => f_Exact_lift_11  n t3 t4 t5))
def f_Exact_lift_0  (v0 : Int64) : Option (Int32) := (f_Rank_significand v0).bind fun r1 => f_Exact_lift_11 5000 r1 (0 : Int32) (0 : Int32)
def f_Exact_lift (a0 : Int64) : Option (Int32) := f_Exact_lift_0 a0
def f_Exact_product_241  (s0 : Int32) (s1 : Int64) (v4 : Int32) (v5 : Int32) (v12 : Int32) (v21 : Int32) : Option (Int64) := (f_Exact_traced s1 s0).bind fun r1 => (f_Exact_rounded v5 r1 (v12 + v21) v4).bind fun r2 => some r2
def f_Exact_product_74  (s0 : Int64) : Option (Int64) := some s0
def f_Exact_product_60  (v5 : Int32) : Option (Int64) := (if v5 = 0 then f_Exact_product_74 (9218868437227405312 : Int64) else f_Exact_product_74 (-9218868437227405312 : Int64))
def f_Exact_product_44  (s0 : Int32) (v0 : Int64) (v2 : Int64) (v4 : Int32) : Option (Int64) := (f_Rank_isFinite v0).bind fun r1 => (if r1 = 0 then f_Exact_product_60 s0 else (f_Rank_isFinite v2).bind fun r3 => (if r3 = 0 then f_Exact_product_60 s0 else (f_Exact_lift v0).bind fun r5 => (f_Exact_lift v2).bind fun r6 => (f_Rank_significand v0).bind fun r7 => jlet (j_lshl r7 r5) fun t8 => (f_Rank_significand v2).bind fun r9 => jlet (j_lshl r9 r6) fun t10 => (f_Rank_exponent v0).bind fun r11 => (f_Rank_exponent v2).bind fun r12 => jlet (((r11 - r5) + r12) - r6) fun t13 => jlet (((j_lushr t8 (26 : Int32)) * (t10 &&& (67108863 : Int64))) + ((t8 &&& (67108863 : Int64)) * (j_lushr t10 (26 : Int32)))) fun t14 => jlet ((j_lshl (t14 &&& (67108863 : Int64)) (26 : Int32)) + ((t8 &&& (67108863 : Int64)) * (t10 &&& (67108863 : Int64)))) fun t15 => jlet ((((j_lushr t8 (26 : Int32)) * (j_lushr t10 (26 : Int32))) + (j_lushr t14 (26 : Int32))) + (j_lushr t15 (52 : Int32))) fun t16 => jlet (t15 &&& (4503599627370495 : Int64)) fun t17 => (if (t17 &&& ((j_lshl (1 : Int64) (43 : Int32)) - (1 : Int64))) = (0 : Int64) then f_Exact_product_241 (0 : Int32) ((j_lshl t16 (9 : Int32)) ||| (j_lushr t17 (43 : Int32))) v4 s0 t13 (43 : Int32) else f_Exact_product_241 (1 : Int32) ((j_lshl t16 (9 : Int32)) ||| (j_lushr t17 (43 : Int32))) v4 s0 t13 (43 : Int32))))
def f_Exact_product_36  (s0 : Int32) (s1 : Int32) (v0 : Int64) (v2 : Int64) (v4 : Int32) : Option (Int64) := (if s1 = s0 then f_Exact_product_44 (0 : Int32) v0 v2 v4 else f_Exact_product_44 (1 : Int32) v0 v2 v4)
def f_Exact_product_25  (s0 : Int32) (v0 : Int64) (v2 : Int64) (v4 : Int32) : Option (Int64) := (if (0 : Int64) ≤ v2 then f_Exact_product_36 (0 : Int32) s0 v0 v2 v4 else f_Exact_product_36 (1 : Int32) s0 v0 v2 v4)
def f_Exact_product_12   : Option (Int64) := some (0 : Int64)
def f_Exact_product_0  (v0 : Int64) (v2 : Int64) (v4 : Int32) : Option (Int64) := (if v0 = (0 : Int64) then f_Exact_product_12  else (if v2 = (0 : Int64) then f_Exact_product_12  else (if (0 : Int64) ≤ v0 then f_Exact_product_25 (0 : Int32) v0 v2 v4 else f_Exact_product_25 (1 : Int32) v0 v2 v4)))
def f_Exact_product (a0 : Int64) (a2 : Int64) (a4 : Int32) : Option (Int64) := f_Exact_product_0 a0 a2 a4
def f_Exact_quotient_190  (s0 : Int32) (s1 : Int64) (s2 : Int32) (v4 : Int32) (v12 : Int32) : Option (Int64) := (f_Exact_traced s1 s0).bind fun r1 => (f_Exact_rounded s2 r1 (v12 - (60 : Int32)) v4).bind fun r2 => some r2
def f_Exact_quotient_162 (k128 : Int32 → Int32 → Int64 → Int64 → Int32 → Int64 → Int32 → Option (Int64)) (v4 : Int32) (v5 : Int32) (v8 : Int64) (v10 : Int64) (v12 : Int32) (v13 : Int64) (v15 : Int32) : Option (Int64) := jlet (j_lshl v8 (1 : Int32)) fun t1 => jlet (v15 + (1 : Int32)) fun t2 => k128 v4 v5 t1 v10 v12 v13 t2
def f_Exact_quotient_128  : Nat → Int32 → Int32 → Int64 → Int64 → Int32 → Int64 → Int32 → Option (Int64)
  | 0, _, _, _, _, _, _, _ => none
  | n + 1, v4, v5, v8, v10, v12, v13, v15 => (if (60 : Int32) < v15 then (if v8 = (0 : Int64) then f_Exact_quotient_190 (0 : Int32) v13 v5 v4 v12 else f_Exact_quotient_190 (1 : Int32) v13 v5 v4 v12) else jlet (j_lshl v13 (1 : Int32)) fun t3 => (if v8 < v10 then f_Exact_quotient_162 (f_Exact_quotient_128  n) v4 v5 v8 v10 v12 t3 v15 else jlet (v8 - v10) fun t5 => jlet (t3 ||| (1 : Int64)) fun t6 => f_Exact_quotient_162 (f_Exact_quotient_128  n) v4 v5 t5 v10 v12 t6 v15))
def f_Exact_quotient_74  (s0 : Int64) : Option (Int64) := some s0
def f_Exact_quotient_60  (v5 : Int32) : Option (Int64) := (if v5 = 0 then f_Exact_quotient_74 (9218868437227405312 : Int64) else f_Exact_quotient_74 (-9218868437227405312 : Int64))
def f_Exact_quotient_45  (s0 : Int32) (v0 : Int64) (v2 : Int64) (v4 : Int32) : Option (Int64) := (if v2 = (0 : Int64) then f_Exact_quotient_60 s0 else (f_Rank_isFinite v0).bind fun r2 => (if r2 = 0 then f_Exact_quotient_60 s0 else (f_Exact_lift v0).bind fun r4 => (f_Exact_lift v2).bind fun r5 => (f_Rank_significand v0).bind fun r6 => jlet (j_lshl r6 r4) fun t7 => (f_Rank_significand v2).bind fun r8 => jlet (j_lshl r8 r5) fun t9 => (f_Rank_exponent v0).bind fun r10 => (f_Rank_exponent v2).bind fun r11 => jlet (((r10 - r4) - r11) + r5) fun t12 => f_Exact_quotient_128 5000 v4 s0 t7 t9 t12 (0 : Int64) (0 : Int32)))
def f_Exact_quotient_37  (s0 : Int32) (s1 : Int32) (v0 : Int64) (v2 : Int64) (v4 : Int32) : Option (Int64) := (if s1 = s0 then f_Exact_quotient_45 (0 : Int32) v0 v2 v4 else f_Exact_quotient_45 (1 : Int32) v0 v2 v4)
def f_Exact_quotient_26  (s0 : Int32) (v0 : Int64) (v2 : Int64) (v4 : Int32) : Option (Int64) := (if (0 : Int64) ≤ v2 then f_Exact_quotient_37 (0 : Int32) s0 v0 v2 v4 else f_Exact_quotient_37 (1 : Int32) s0 v0 v2 v4)
def f_Exact_quotient_13   : Option (Int64) := some (0 : Int64)
def f_Exact_quotient_0  (v0 : Int64) (v2 : Int64) (v4 : Int32) : Option (Int64) := (if v0 = (0 : Int64) then f_Exact_quotient_13  else (f_Rank_isFinite v2).bind fun r2 => (if r2 = 0 then f_Exact_quotient_13  else (if (0 : Int64) ≤ v0 then f_Exact_quotient_26 (0 : Int32) v0 v2 v4 else f_Exact_quotient_26 (1 : Int32) v0 v2 v4)))
def f_Exact_quotient (a0 : Int64) (a2 : Int64) (a4 : Int32) : Option (Int64) := f_Exact_quotient_0 a0 a2 a4
def f_Exact_root_163  (s0 : Int32) (s1 : Int64) (s2 : Int32) (v2 : Int32) (v12 : Int32) : Option (Int64) := (f_Exact_traced s1 s0).bind fun r1 => (f_Exact_rounded s2 r1 v12 v2).bind fun r2 => some r2
def f_Exact_root_130 (k54 : Int32 → Int32 → Int32 → Int64 → Int64 → Int64 → Int32 → Option (Int64)) (v2 : Int32) (v4 : Int32) (v5 : Int32) (v6 : Int64) (v8 : Int64) (v10 : Int64) (v12 : Int32) : Option (Int64) := jlet (v12 + (1 : Int32)) fun t1 => k54 v2 v4 v5 v6 v8 v10 t1
def f_Exact_root_92 (k54 : Int32 → Int32 → Int32 → Int64 → Int64 → Int64 → Int32 → Option (Int64)) (s0 : Int64) (s1 : Int64) (v2 : Int32) (v4 : Int32) (v5 : Int32) (v6 : Int64) (v10 : Int64) (v12 : Int32) : Option (Int64) := jlet (s1 ||| s0) fun t1 => jlet ((j_lshl v10 (2 : Int32)) ||| (1 : Int64)) fun t2 => jlet (j_lshl v10 (1 : Int32)) fun t3 => (if t1 < t2 then f_Exact_root_130 k54 v2 v4 v5 v6 t1 t3 v12 else jlet (t1 - t2) fun t5 => jlet (t3 ||| (1 : Int64)) fun t6 => f_Exact_root_130 k54 v2 v4 v5 v6 t5 t6 v12)
def f_Exact_root_54  : Nat → Int32 → Int32 → Int32 → Int64 → Int64 → Int64 → Int32 → Option (Int64)
  | 0, _, _, _, _, _, _, _ => none
  | n + 1, v2, v4, v5, v6, v8, v10, v12 => (if (57 : Int32) ≤ v12 then jlet (((v4 - v5) / (2 : Int32)) - (30 : Int32)) fun t2 => (if v8 = (0 : Int64) then f_Exact_root_163 (0 : Int32) v10 (0 : Int32) v2 t2 else f_Exact_root_163 (1 : Int32) v10 (0 : Int32) v2 t2) else jlet ((2 : Int32) * ((26 : Int32) - v12)) fun t4 => (if t4 < 0 then f_Exact_root_92 (f_Exact_root_54  n) (0 : Int64) (j_lshl v8 (2 : Int32)) v2 v4 v5 v6 v10 v12 else f_Exact_root_92 (f_Exact_root_54  n) ((j_lushr v6 t4) &&& (3 : Int64)) (j_lshl v8 (2 : Int32)) v2 v4 v5 v6 v10 v12))
def f_Exact_root_13  (v0 : Int64) : Option (Int64) := some v0
def f_Exact_root_0  (v0 : Int64) (v2 : Int32) : Option (Int64) := (if v0 = (0 : Int64) then f_Exact_root_13 v0 else (f_Rank_isFinite v0).bind fun r2 => (if r2 = 0 then f_Exact_root_13 v0 else (f_Exact_lift v0).bind fun r4 => (f_Rank_exponent v0).bind fun r5 => jlet (r5 - r4) fun t6 => jlet (t6 &&& (1 : Int32)) fun t7 => (f_Rank_significand v0).bind fun r8 => jlet (j_lshl r8 (r4 + t7)) fun t9 => f_Exact_root_54 5000 v2 t6 t7 t9 (0 : Int64) (0 : Int64) (0 : Int32)))
def f_Exact_root (a0 : Int64) (a2 : Int32) : Option (Int64) := f_Exact_root_0 a0 a2
def f_Rank_floor_23  (s0 : Int64) : Option (Int64) := some s0
def f_Rank_floor_0  (v0 : Int64) : Option (Int64) := (f_Rank_towardsZero v0).bind fun r1 => (if v0 < r1 then (f_Exact_sum r1 (-4607182418800017408 : Int64) (-1 : Int32)).bind fun r3 => f_Rank_floor_23 r3 else f_Rank_floor_23 r1)
def f_Rank_floor (a0 : Int64) : Option (Int64) := f_Rank_floor_0 a0
def f_Rel_isBelow_24  (s0 : Int32) : Option (Int32) := (if j_z s0 then some s0 else none)
def f_Rel_isBelow_23   : Option (Int32) := f_Rel_isBelow_24 (0 : Int32)
def f_Rel_isBelow_19   : Option (Int32) := f_Rel_isBelow_24 (1 : Int32)
def f_Rel_isBelow_0  (v0 : Int64) (v2 : Int64) : Option (Int32) := (if v0 < v2 then f_Rel_isBelow_19  else (if v0 = v2 then (f_Rank_isFinite v0).bind fun r3 => (if r3 = 0 then f_Rel_isBelow_19  else f_Rel_isBelow_23 ) else f_Rel_isBelow_23 ))
def f_Rel_isBelow (a0 : Int64) (a2 : Int64) : Option (Int32) := f_Rel_isBelow_0 a0 a2
def f_Rd_isDigit_17  (s0 : Int32) : Option (Int32) := (if j_z s0 then some s0 else none)
def f_Rd_isDigit_16   : Option (Int32) := f_Rd_isDigit_17 (0 : Int32)
def f_Rd_isDigit_0  (v0 : Int32) : Option (Int32) := (if v0 < (48 : Int32) then f_Rd_isDigit_16  else (if (57 : Int32) < v0 then f_Rd_isDigit_16  else f_Rd_isDigit_17 (1 : Int32)))
def f_Rd_isDigit (a0 : Int32) : Option (Int32) := f_Rd_isDigit_0 a0
def f_Ref_mantissa_29  (s0 : Int64) : Option (Int64) := some s0
def f_Ref_mantissa_0  (v0 : Int64) : Option (Int64) := jlet (j_lshr v0 (52 : Int32)) fun t1 => jlet (v0 &&& (4503599627370495 : Int64)) fun t2 => (if t1 = (0 : Int64) then f_Ref_mantissa_29 t2 else f_Ref_mantissa_29 (t2 ||| (4503599627370496 : Int64)))
def f_Ref_mantissa (a0 : Int64) : Option (Int64) := f_Ref_mantissa_0 a0
def f_Ref_exponent_21  (s0 : Int32) : Option (Int32) := some s0
def f_Ref_exponent_0  (v0 : Int64) : Option (Int32) := jlet ((j_lshr v0 (52 : Int32)).toInt32) fun t1 => (if t1 = 0 then f_Ref_exponent_21 (-1074 : Int32) else f_Ref_exponent_21 (t1 - (1075 : Int32)))
def f_Ref_exponent (a0 : Int64) : Option (Int32) := f_Ref_exponent_0 a0
def f_Ref_absolute_12  (s0 : Int64) : Option (Int64) := some s0
def f_Ref_absolute_0  (v0 : Int64) : Option (Int64) := (if (0 : Int64) ≤ v0 then f_Ref_absolute_12 v0 else f_Ref_absolute_12 (-v0))
def f_Ref_absolute (a0 : Int64) : Option (Int64) := f_Ref_absolute_0 a0
def f_Ref_infinite_16  (s0 : Int32) : Option (Int32) := (if j_z s0 then some s0 else none)
def f_Ref_infinite_0  (v0 : Int64) : Option (Int32) := (f_Ref_absolute v0).bind fun r1 => (if r1 = (9218868437227405312 : Int64) then f_Ref_infinite_16 (1 : Int32) else f_Ref_infinite_16 (0 : Int32))
def f_Ref_infinite (a0 : Int64) : Option (Int32) := f_Ref_infinite_0 a0
def f_Ref_signOf_26  (s0 : Int64) : Option (Int64) := some s0
def f_Ref_signOf_0  (v0 : Int64) : Option (Int64) := (if v0 ≤ (0 : Int64) then (if (0 : Int64) ≤ v0 then f_Ref_signOf_26 (0 : Int64) else f_Ref_signOf_26 (-(4607182418800017408 : Int64))) else f_Ref_signOf_26 (4607182418800017408 : Int64))
def f_Ref_signOf (a0 : Int64) : Option (Int64) := f_Ref_signOf_0 a0
def f_Ref_less_11  (s0 : Int64) : Option (Int64) := some s0
def f_Ref_less_0  (v0 : Int64) (v2 : Int64) : Option (Int64) := (if v2 ≤ v0 then f_Ref_less_11 v2 else f_Ref_less_11 v0)
def f_Ref_less (a0 : Int64) (a2 : Int64) : Option (Int64) := f_Ref_less_0 a0 a2
def f_Ref_greater_11  (s0 : Int64) : Option (Int64) := some s0
def f_Ref_greater_0  (v0 : Int64) (v2 : Int64) : Option (Int64) := (if v0 ≤ v2 then f_Ref_greater_11 v2 else f_Ref_greater_11 v0)
def f_Ref_greater (a0 : Int64) (a2 : Int64) : Option (Int64) := f_Ref_greater_0 a0 a2
def f_Ref_magnitude_0  (v0 : Int64) (v2 : Int64) : Option (Int64) := (f_Ref_absolute v0).bind fun r1 => (f_Ref_absolute v2).bind fun r2 => (f_Ref_greater r1 r2).bind fun r3 => some r3
def f_Ref_magnitude (a0 : Int64) (a2 : Int64) : Option (Int64) := f_Ref_magnitude_0 a0 a2
def f_Ref_mignitude_27  (s0 : Int64) : Option (Int64) := some s0
def f_Ref_mignitude_16  (v0 : Int64) (v2 : Int64) : Option (Int64) := (f_Ref_absolute v0).bind fun r1 => (f_Ref_absolute v2).bind fun r2 => (f_Ref_less r1 r2).bind fun r3 => f_Ref_mignitude_27 r3
def f_Ref_mignitude_0  (v0 : Int64) (v2 : Int64) : Option (Int64) := (if (0 : Int64) < v0 then f_Ref_mignitude_16 v0 v2 else (if v2 < (0 : Int64) then f_Ref_mignitude_16 v0 v2 else f_Ref_mignitude_27 (0 : Int64)))
def f_Ref_mignitude (a0 : Int64) (a2 : Int64) : Option (Int64) := f_Ref_mignitude_0 a0 a2
def f_Ref_bounded_19  (s0 : Int32) : Option (Int32) := (if j_z s0 then some s0 else none)
def f_Ref_bounded_18   : Option (Int32) := f_Ref_bounded_19 (0 : Int32)
def f_Ref_bounded_0  (v0 : Int64) (v2 : Int64) : Option (Int32) := (f_Ref_infinite v0).bind fun r1 => (if r1 = 0 then (f_Ref_infinite v2).bind fun r3 => (if r3 = 0 then f_Ref_bounded_19 (1 : Int32) else f_Ref_bounded_18 ) else f_Ref_bounded_18 )
def f_Ref_bounded (a0 : Int64) (a2 : Int64) : Option (Int32) := f_Ref_bounded_0 a0 a2
def f_Ref_order_16  (s0 : Int64) : Option (Int64) := some s0
def f_Ref_order_0  (v0 : Int64) : Option (Int64) := (if (0 : Int64) ≤ v0 then f_Ref_order_16 v0 else f_Ref_order_16 (-(v0 &&& (9223372036854775807 : Int64))))
def f_Ref_order (a0 : Int64) : Option (Int64) := f_Ref_order_0 a0
def f_Ref_least_10  (s0 : Int32) : Option (Int32) := some s0
def f_Ref_least_0  (v0 : Int32) (v1 : Int32) : Option (Int32) := (if v1 ≤ v0 then f_Ref_least_10 v1 else f_Ref_least_10 v0)
def f_Ref_least (a0 : Int32) (a1 : Int32) : Option (Int32) := f_Ref_least_0 a0 a1
def f_Ref_spelt_0  (v0 : Int32) (v1 : Int32) (v2 : Int32) : Option (Int64) := some ((((((v0 - (97 : Int32)).toInt64) + (1 : Int64)) * (1024 : Int64)) + ((((v1 - (97 : Int32)).toInt64) + (1 : Int64)) * (32 : Int64))) + (((v2 - (97 : Int32)).toInt64) + (1 : Int64)))
def f_Ref_spelt (a0 : Int32) (a1 : Int32) (a2 : Int32) : Option (Int64) := f_Ref_spelt_0 a0 a1 a2
def f_Ref_speltSix_0  (v0 : Int32) (v1 : Int32) (v2 : Int32) (v3 : Int32) (v4 : Int32) (v5 : Int32) : Option (Int64) := (f_Ref_spelt v0 v1 v2).bind fun r1 => (f_Ref_spelt v3 v4 v5).bind fun r2 => some ((r1 * (32768 : Int64)) + r2)
def f_Ref_speltSix (a0 : Int32) (a1 : Int32) (a2 : Int32) (a3 : Int32) (a4 : Int32) (a5 : Int32) : Option (Int64) := f_Ref_speltSix_0 a0 a1 a2 a3 a4 a5
def f_Ref_bits_16  (s0 : Int64) : Option (Int64) := some s0
def f_Ref_bits_0  (v0 : Int64) : Option (Int64) := (if (0 : Int64) ≤ v0 then f_Ref_bits_16 v0 else f_Ref_bits_16 ((-9223372036854775808 : Int64) ||| (-v0)))
def f_Ref_bits (a0 : Int64) : Option (Int64) := f_Ref_bits_0 a0
def f_Ref_under_24  (s0 : Int32) : Option (Int32) := (if j_z s0 then some s0 else none)
def f_Ref_under_23   : Option (Int32) := f_Ref_under_24 (0 : Int32)
def f_Ref_under_19   : Option (Int32) := f_Ref_under_24 (1 : Int32)
def f_Ref_under_0  (v0 : Int64) (v2 : Int64) : Option (Int32) := (if v0 < v2 then f_Ref_under_19  else (if v0 = v2 then (f_Ref_infinite v0).bind fun r3 => (if r3 = 0 then f_Ref_under_23  else f_Ref_under_19 ) else f_Ref_under_23 ))
def f_Ref_under (a0 : Int64) (a2 : Int64) : Option (Int32) := f_Ref_under_0 a0 a2
