/-! the heap behind both constructors: shapes by numbers -/
def zSH : Nat → zShp := fun k => match k with
  | 0 => .inl (5, [some (some 1), some (some 8), some (some 17), some (some 26), some (some 35), none, some (some 36), some (some 40), some (some 41), none])
  | 1 => .inr (.inr (0, [some 2, some 4, some 6]))
  | 2 => .inl (4, [none, none, some (some 3), none, none])
  | 3 => .inr (.inl 23)
  | 4 => .inl (4, [none, none, some (some 5), none, none])
  | 5 => .inr (.inl 31)
  | 6 => .inl (4, [none, none, some (some 7), none, none])
  | 7 => .inr (.inl 24)
  | 8 => .inl (1, [none, some (some 9), some (some 10), none, some (some 11), some (some 12), some (some 13), some (some 14), none, none, some (some 15), some (some 16), none])
  | 9 => .inr (.inl 8)
  | 10 => .inr (.inl 8)
  | 11 => .inr (.inl 8)
  | 12 => .inr (.inl 8)
  | 13 => .inr (.inl 8)
  | 14 => .inr (.inl 24)
  | 15 => .inr (.inl 8)
  | 16 => .inr (.inl 8)
  | 17 => .inl (0, [some (some 8), none, none, none, none, none, some (some 18), some (some 19), some (some 20), some (some 21), some (some 22), some (some 23), some (some 24), some (some 25)])
  | 18 => .inr (.inl 8)
  | 19 => .inr (.inl 8)
  | 20 => .inr (.inl 8)
  | 21 => .inr (.inl 8)
  | 22 => .inr (.inl 8)
  | 23 => .inr (.inl 8)
  | 24 => .inr (.inl 8)
  | 25 => .inr (.inl 192)
  | 26 => .inl (0, [some (some 8), none, none, none, none, none, some (some 27), some (some 28), some (some 29), some (some 30), some (some 31), some (some 32), some (some 33), some (some 34)])
  | 27 => .inr (.inl 8)
  | 28 => .inr (.inl 8)
  | 29 => .inr (.inl 8)
  | 30 => .inr (.inl 8)
  | 31 => .inr (.inl 8)
  | 32 => .inr (.inl 8)
  | 33 => .inr (.inl 8)
  | 34 => .inr (.inl 192)
  | 35 => .inr (.inl 256)
  | 36 => .inl (3, [none, some (some 37), some (some 38), some (some 39)])
  | 37 => .inr (.inl 8)
  | 38 => .inr (.inl 8)
  | 39 => .inr (.inl 8)
  | 40 => .inr (.inl 240)
  | 41 => .inr (.inr (1, [some 42, some 44, some 46, some 48]))
  | 42 => .inl (2, [none, none, some (some 43)])
  | 43 => .inr (.inl 60)
  | 44 => .inl (2, [none, none, some (some 45)])
  | 45 => .inr (.inl 60)
  | 46 => .inl (2, [none, none, some (some 47)])
  | 47 => .inr (.inl 60)
  | 48 => .inl (2, [none, none, some (some 49)])
  | 49 => .inr (.inl 60)
  | 50 => .inl (6, [some (some 51), some (some 52), some (some 53), some (some 54), none, some (some 55), some (some 56), none, some (some 57), none, some (some 58), none, some (some 59), none, some (some 60), none, none, some (some 61), some (some 62), some (some 63), some (some 64), some (some 65), some (some 66), some (some 67), none, none, some (some 68), some (some 69), some (some 70), some (some 71), some (some 72), some (some 73), some (some 74), none, some (some 75), some (some 76), none])
  | 51 => .inr (.inl 4)
  | 52 => .inr (.inl 4)
  | 53 => .inr (.inl 240)
  | 54 => .inr (.inl 60)
  | 55 => .inr (.inl 96)
  | 56 => .inr (.inl 3)
  | 57 => .inr (.inl 16)
  | 58 => .inr (.inl 24)
  | 59 => .inr (.inl 24)
  | 60 => .inr (.inl 16)
  | 61 => .inr (.inl 8)
  | 62 => .inr (.inl 8)
  | 63 => .inr (.inl 8)
  | 64 => .inr (.inl 8)
  | 65 => .inr (.inl 8)
  | 66 => .inr (.inl 8)
  | 67 => .inr (.inl 8)
  | 68 => .inr (.inl 192)
  | 69 => .inr (.inl 192)
  | 70 => .inr (.inl 192)
  | 71 => .inr (.inl 192)
  | 72 => .inr (.inl 192)
  | 73 => .inr (.inl 192)
  | 74 => .inr (.inl 24)
  | 75 => .inr (.inl 24)
  | 76 => .inr (.inl 240)
  | _ => .inr (.inl 0)
theorem zf_0_0 : zfk zSH 77 0 5 0 = some (some (some 1)) := rfl
theorem zf_0_1 : zfk zSH 77 0 5 1 = some (some (some 8)) := rfl
theorem zf_0_2 : zfk zSH 77 0 5 2 = some (some (some 17)) := rfl
theorem zf_0_3 : zfk zSH 77 0 5 3 = some (some (some 26)) := rfl
theorem zf_0_4 : zfk zSH 77 0 5 4 = some (some (some 35)) := rfl
theorem zf_0_5 : zfk zSH 77 0 5 5 = some (none) := rfl
theorem zf_0_6 : zfk zSH 77 0 5 6 = some (some (some 36)) := rfl
theorem zf_0_7 : zfk zSH 77 0 5 7 = some (some (some 40)) := rfl
theorem zf_0_8 : zfk zSH 77 0 5 8 = some (some (some 41)) := rfl
theorem zf_0_9 : zfk zSH 77 0 5 9 = some (none) := rfl
theorem zo_0 : zcn zSH 77 0 = some 5 := rfl
theorem zr_1 : zrs zSH 77 1 = some (0, [some 2, some 4, some 6]) := rfl
theorem zf_2_0 : zfk zSH 77 2 4 0 = some (none) := rfl
theorem zf_2_1 : zfk zSH 77 2 4 1 = some (none) := rfl
theorem zf_2_2 : zfk zSH 77 2 4 2 = some (some (some 3)) := rfl
theorem zf_2_3 : zfk zSH 77 2 4 3 = some (none) := rfl
theorem zf_2_4 : zfk zSH 77 2 4 4 = some (none) := rfl
theorem zo_2 : zcn zSH 77 2 = some 4 := rfl
theorem zp_3 (E : zE) (I : zI) : zal E zSH 77 I 3 = some (23, I 3) := rfl
theorem zq_3 : zas zSH 77 3 = some 23 := rfl
theorem zf_4_0 : zfk zSH 77 4 4 0 = some (none) := rfl
theorem zf_4_1 : zfk zSH 77 4 4 1 = some (none) := rfl
theorem zf_4_2 : zfk zSH 77 4 4 2 = some (some (some 5)) := rfl
theorem zf_4_3 : zfk zSH 77 4 4 3 = some (none) := rfl
theorem zf_4_4 : zfk zSH 77 4 4 4 = some (none) := rfl
theorem zo_4 : zcn zSH 77 4 = some 4 := rfl
theorem zp_5 (E : zE) (I : zI) : zal E zSH 77 I 5 = some (31, I 5) := rfl
theorem zq_5 : zas zSH 77 5 = some 31 := rfl
theorem zf_6_0 : zfk zSH 77 6 4 0 = some (none) := rfl
theorem zf_6_1 : zfk zSH 77 6 4 1 = some (none) := rfl
theorem zf_6_2 : zfk zSH 77 6 4 2 = some (some (some 7)) := rfl
theorem zf_6_3 : zfk zSH 77 6 4 3 = some (none) := rfl
theorem zf_6_4 : zfk zSH 77 6 4 4 = some (none) := rfl
theorem zo_6 : zcn zSH 77 6 = some 4 := rfl
theorem zp_7 (E : zE) (I : zI) : zal E zSH 77 I 7 = some (24, I 7) := rfl
theorem zq_7 : zas zSH 77 7 = some 24 := rfl
theorem zf_8_0 : zfk zSH 77 8 1 0 = some (none) := rfl
theorem zf_8_1 : zfk zSH 77 8 1 1 = some (some (some 9)) := rfl
theorem zf_8_2 : zfk zSH 77 8 1 2 = some (some (some 10)) := rfl
theorem zf_8_3 : zfk zSH 77 8 1 3 = some (none) := rfl
theorem zf_8_4 : zfk zSH 77 8 1 4 = some (some (some 11)) := rfl
theorem zf_8_5 : zfk zSH 77 8 1 5 = some (some (some 12)) := rfl
theorem zf_8_6 : zfk zSH 77 8 1 6 = some (some (some 13)) := rfl
theorem zf_8_7 : zfk zSH 77 8 1 7 = some (some (some 14)) := rfl
theorem zf_8_8 : zfk zSH 77 8 1 8 = some (none) := rfl
theorem zf_8_9 : zfk zSH 77 8 1 9 = some (none) := rfl
theorem zf_8_10 : zfk zSH 77 8 1 10 = some (some (some 15)) := rfl
theorem zf_8_11 : zfk zSH 77 8 1 11 = some (some (some 16)) := rfl
theorem zf_8_12 : zfk zSH 77 8 1 12 = some (none) := rfl
theorem zo_8 : zcn zSH 77 8 = some 1 := rfl
theorem zp_9 (E : zE) (I : zI) : zal E zSH 77 I 9 = some (8, I 9) := rfl
theorem zq_9 : zas zSH 77 9 = some 8 := rfl
theorem zp_10 (E : zE) (I : zI) : zal E zSH 77 I 10 = some (8, I 10) := rfl
theorem zq_10 : zas zSH 77 10 = some 8 := rfl
theorem zp_11 (E : zE) (I : zI) : zal E zSH 77 I 11 = some (8, I 11) := rfl
theorem zq_11 : zas zSH 77 11 = some 8 := rfl
theorem zp_12 (E : zE) (I : zI) : zal E zSH 77 I 12 = some (8, I 12) := rfl
theorem zq_12 : zas zSH 77 12 = some 8 := rfl
theorem zp_13 (E : zE) (I : zI) : zal E zSH 77 I 13 = some (8, I 13) := rfl
theorem zq_13 : zas zSH 77 13 = some 8 := rfl
theorem zp_14 (E : zE) (I : zI) : zal E zSH 77 I 14 = some (24, I 14) := rfl
theorem zq_14 : zas zSH 77 14 = some 24 := rfl
theorem zp_15 (E : zE) (I : zI) : zal E zSH 77 I 15 = some (8, I 15) := rfl
theorem zq_15 : zas zSH 77 15 = some 8 := rfl
theorem zp_16 (E : zE) (I : zI) : zal E zSH 77 I 16 = some (8, I 16) := rfl
theorem zq_16 : zas zSH 77 16 = some 8 := rfl
theorem zf_17_0 : zfk zSH 77 17 0 0 = some (some (some 8)) := rfl
theorem zf_17_1 : zfk zSH 77 17 0 1 = some (none) := rfl
theorem zf_17_2 : zfk zSH 77 17 0 2 = some (none) := rfl
theorem zf_17_3 : zfk zSH 77 17 0 3 = some (none) := rfl
theorem zf_17_4 : zfk zSH 77 17 0 4 = some (none) := rfl
theorem zf_17_5 : zfk zSH 77 17 0 5 = some (none) := rfl
theorem zf_17_6 : zfk zSH 77 17 0 6 = some (some (some 18)) := rfl
theorem zf_17_7 : zfk zSH 77 17 0 7 = some (some (some 19)) := rfl
theorem zf_17_8 : zfk zSH 77 17 0 8 = some (some (some 20)) := rfl
theorem zf_17_9 : zfk zSH 77 17 0 9 = some (some (some 21)) := rfl
theorem zf_17_10 : zfk zSH 77 17 0 10 = some (some (some 22)) := rfl
theorem zf_17_11 : zfk zSH 77 17 0 11 = some (some (some 23)) := rfl
theorem zf_17_12 : zfk zSH 77 17 0 12 = some (some (some 24)) := rfl
theorem zf_17_13 : zfk zSH 77 17 0 13 = some (some (some 25)) := rfl
theorem zo_17 : zcn zSH 77 17 = some 0 := rfl
theorem zp_18 (E : zE) (I : zI) : zal E zSH 77 I 18 = some (8, I 18) := rfl
theorem zq_18 : zas zSH 77 18 = some 8 := rfl
theorem zp_19 (E : zE) (I : zI) : zal E zSH 77 I 19 = some (8, I 19) := rfl
theorem zq_19 : zas zSH 77 19 = some 8 := rfl
theorem zp_20 (E : zE) (I : zI) : zal E zSH 77 I 20 = some (8, I 20) := rfl
theorem zq_20 : zas zSH 77 20 = some 8 := rfl
theorem zp_21 (E : zE) (I : zI) : zal E zSH 77 I 21 = some (8, I 21) := rfl
theorem zq_21 : zas zSH 77 21 = some 8 := rfl
theorem zp_22 (E : zE) (I : zI) : zal E zSH 77 I 22 = some (8, I 22) := rfl
theorem zq_22 : zas zSH 77 22 = some 8 := rfl
theorem zp_23 (E : zE) (I : zI) : zal E zSH 77 I 23 = some (8, I 23) := rfl
theorem zq_23 : zas zSH 77 23 = some 8 := rfl
theorem zp_24 (E : zE) (I : zI) : zal E zSH 77 I 24 = some (8, I 24) := rfl
theorem zq_24 : zas zSH 77 24 = some 8 := rfl
theorem zp_25 (E : zE) (I : zI) : zal E zSH 77 I 25 = some (192, I 25) := rfl
theorem zq_25 : zas zSH 77 25 = some 192 := rfl
theorem zf_26_0 : zfk zSH 77 26 0 0 = some (some (some 8)) := rfl
theorem zf_26_1 : zfk zSH 77 26 0 1 = some (none) := rfl
theorem zf_26_2 : zfk zSH 77 26 0 2 = some (none) := rfl
theorem zf_26_3 : zfk zSH 77 26 0 3 = some (none) := rfl
theorem zf_26_4 : zfk zSH 77 26 0 4 = some (none) := rfl
theorem zf_26_5 : zfk zSH 77 26 0 5 = some (none) := rfl
theorem zf_26_6 : zfk zSH 77 26 0 6 = some (some (some 27)) := rfl
theorem zf_26_7 : zfk zSH 77 26 0 7 = some (some (some 28)) := rfl
theorem zf_26_8 : zfk zSH 77 26 0 8 = some (some (some 29)) := rfl
theorem zf_26_9 : zfk zSH 77 26 0 9 = some (some (some 30)) := rfl
theorem zf_26_10 : zfk zSH 77 26 0 10 = some (some (some 31)) := rfl
theorem zf_26_11 : zfk zSH 77 26 0 11 = some (some (some 32)) := rfl
theorem zf_26_12 : zfk zSH 77 26 0 12 = some (some (some 33)) := rfl
theorem zf_26_13 : zfk zSH 77 26 0 13 = some (some (some 34)) := rfl
theorem zo_26 : zcn zSH 77 26 = some 0 := rfl
theorem zp_27 (E : zE) (I : zI) : zal E zSH 77 I 27 = some (8, I 27) := rfl
theorem zq_27 : zas zSH 77 27 = some 8 := rfl
theorem zp_28 (E : zE) (I : zI) : zal E zSH 77 I 28 = some (8, I 28) := rfl
theorem zq_28 : zas zSH 77 28 = some 8 := rfl
theorem zp_29 (E : zE) (I : zI) : zal E zSH 77 I 29 = some (8, I 29) := rfl
theorem zq_29 : zas zSH 77 29 = some 8 := rfl
theorem zp_30 (E : zE) (I : zI) : zal E zSH 77 I 30 = some (8, I 30) := rfl
theorem zq_30 : zas zSH 77 30 = some 8 := rfl
theorem zp_31 (E : zE) (I : zI) : zal E zSH 77 I 31 = some (8, I 31) := rfl
theorem zq_31 : zas zSH 77 31 = some 8 := rfl
theorem zp_32 (E : zE) (I : zI) : zal E zSH 77 I 32 = some (8, I 32) := rfl
theorem zq_32 : zas zSH 77 32 = some 8 := rfl
theorem zp_33 (E : zE) (I : zI) : zal E zSH 77 I 33 = some (8, I 33) := rfl
theorem zq_33 : zas zSH 77 33 = some 8 := rfl
theorem zp_34 (E : zE) (I : zI) : zal E zSH 77 I 34 = some (192, I 34) := rfl
theorem zq_34 : zas zSH 77 34 = some 192 := rfl
theorem zp_35 (E : zE) (I : zI) : zal E zSH 77 I 35 = some (256, I 35) := rfl
theorem zq_35 : zas zSH 77 35 = some 256 := rfl
theorem zf_36_0 : zfk zSH 77 36 3 0 = some (none) := rfl
theorem zf_36_1 : zfk zSH 77 36 3 1 = some (some (some 37)) := rfl
theorem zf_36_2 : zfk zSH 77 36 3 2 = some (some (some 38)) := rfl
theorem zf_36_3 : zfk zSH 77 36 3 3 = some (some (some 39)) := rfl
theorem zo_36 : zcn zSH 77 36 = some 3 := rfl
theorem zp_37 (E : zE) (I : zI) : zal E zSH 77 I 37 = some (8, I 37) := rfl
theorem zq_37 : zas zSH 77 37 = some 8 := rfl
theorem zp_38 (E : zE) (I : zI) : zal E zSH 77 I 38 = some (8, I 38) := rfl
theorem zq_38 : zas zSH 77 38 = some 8 := rfl
theorem zp_39 (E : zE) (I : zI) : zal E zSH 77 I 39 = some (8, I 39) := rfl
theorem zq_39 : zas zSH 77 39 = some 8 := rfl
theorem zp_40 (E : zE) (I : zI) : zal E zSH 77 I 40 = some (240, I 40) := rfl
theorem zq_40 : zas zSH 77 40 = some 240 := rfl
theorem zr_41 : zrs zSH 77 41 = some (1, [some 42, some 44, some 46, some 48]) := rfl
theorem zf_42_0 : zfk zSH 77 42 2 0 = some (none) := rfl
theorem zf_42_1 : zfk zSH 77 42 2 1 = some (none) := rfl
theorem zf_42_2 : zfk zSH 77 42 2 2 = some (some (some 43)) := rfl
theorem zo_42 : zcn zSH 77 42 = some 2 := rfl
theorem zp_43 (E : zE) (I : zI) : zal E zSH 77 I 43 = some (60, I 43) := rfl
theorem zq_43 : zas zSH 77 43 = some 60 := rfl
theorem zf_44_0 : zfk zSH 77 44 2 0 = some (none) := rfl
theorem zf_44_1 : zfk zSH 77 44 2 1 = some (none) := rfl
theorem zf_44_2 : zfk zSH 77 44 2 2 = some (some (some 45)) := rfl
theorem zo_44 : zcn zSH 77 44 = some 2 := rfl
theorem zp_45 (E : zE) (I : zI) : zal E zSH 77 I 45 = some (60, I 45) := rfl
theorem zq_45 : zas zSH 77 45 = some 60 := rfl
theorem zf_46_0 : zfk zSH 77 46 2 0 = some (none) := rfl
theorem zf_46_1 : zfk zSH 77 46 2 1 = some (none) := rfl
theorem zf_46_2 : zfk zSH 77 46 2 2 = some (some (some 47)) := rfl
theorem zo_46 : zcn zSH 77 46 = some 2 := rfl
theorem zp_47 (E : zE) (I : zI) : zal E zSH 77 I 47 = some (60, I 47) := rfl
theorem zq_47 : zas zSH 77 47 = some 60 := rfl
theorem zf_48_0 : zfk zSH 77 48 2 0 = some (none) := rfl
theorem zf_48_1 : zfk zSH 77 48 2 1 = some (none) := rfl
theorem zf_48_2 : zfk zSH 77 48 2 2 = some (some (some 49)) := rfl
theorem zo_48 : zcn zSH 77 48 = some 2 := rfl
theorem zp_49 (E : zE) (I : zI) : zal E zSH 77 I 49 = some (60, I 49) := rfl
theorem zq_49 : zas zSH 77 49 = some 60 := rfl
theorem zf_50_0 : zfk zSH 77 50 6 0 = some (some (some 51)) := rfl
theorem zf_50_1 : zfk zSH 77 50 6 1 = some (some (some 52)) := rfl
theorem zf_50_2 : zfk zSH 77 50 6 2 = some (some (some 53)) := rfl
theorem zf_50_3 : zfk zSH 77 50 6 3 = some (some (some 54)) := rfl
theorem zf_50_4 : zfk zSH 77 50 6 4 = some (none) := rfl
theorem zf_50_5 : zfk zSH 77 50 6 5 = some (some (some 55)) := rfl
theorem zf_50_6 : zfk zSH 77 50 6 6 = some (some (some 56)) := rfl
theorem zf_50_7 : zfk zSH 77 50 6 7 = some (none) := rfl
theorem zf_50_8 : zfk zSH 77 50 6 8 = some (some (some 57)) := rfl
theorem zf_50_9 : zfk zSH 77 50 6 9 = some (none) := rfl
theorem zf_50_10 : zfk zSH 77 50 6 10 = some (some (some 58)) := rfl
theorem zf_50_11 : zfk zSH 77 50 6 11 = some (none) := rfl
theorem zf_50_12 : zfk zSH 77 50 6 12 = some (some (some 59)) := rfl
theorem zf_50_13 : zfk zSH 77 50 6 13 = some (none) := rfl
theorem zf_50_14 : zfk zSH 77 50 6 14 = some (some (some 60)) := rfl
theorem zf_50_15 : zfk zSH 77 50 6 15 = some (none) := rfl
theorem zf_50_16 : zfk zSH 77 50 6 16 = some (none) := rfl
theorem zf_50_17 : zfk zSH 77 50 6 17 = some (some (some 61)) := rfl
theorem zf_50_18 : zfk zSH 77 50 6 18 = some (some (some 62)) := rfl
theorem zf_50_19 : zfk zSH 77 50 6 19 = some (some (some 63)) := rfl
theorem zf_50_20 : zfk zSH 77 50 6 20 = some (some (some 64)) := rfl
theorem zf_50_21 : zfk zSH 77 50 6 21 = some (some (some 65)) := rfl
theorem zf_50_22 : zfk zSH 77 50 6 22 = some (some (some 66)) := rfl
theorem zf_50_23 : zfk zSH 77 50 6 23 = some (some (some 67)) := rfl
theorem zf_50_24 : zfk zSH 77 50 6 24 = some (none) := rfl
theorem zf_50_25 : zfk zSH 77 50 6 25 = some (none) := rfl
theorem zf_50_26 : zfk zSH 77 50 6 26 = some (some (some 68)) := rfl
theorem zf_50_27 : zfk zSH 77 50 6 27 = some (some (some 69)) := rfl
theorem zf_50_28 : zfk zSH 77 50 6 28 = some (some (some 70)) := rfl
theorem zf_50_29 : zfk zSH 77 50 6 29 = some (some (some 71)) := rfl
theorem zf_50_30 : zfk zSH 77 50 6 30 = some (some (some 72)) := rfl
theorem zf_50_31 : zfk zSH 77 50 6 31 = some (some (some 73)) := rfl
theorem zf_50_32 : zfk zSH 77 50 6 32 = some (some (some 74)) := rfl
theorem zf_50_33 : zfk zSH 77 50 6 33 = some (none) := rfl
theorem zf_50_34 : zfk zSH 77 50 6 34 = some (some (some 75)) := rfl
theorem zf_50_35 : zfk zSH 77 50 6 35 = some (some (some 76)) := rfl
theorem zf_50_36 : zfk zSH 77 50 6 36 = some (none) := rfl
theorem zo_50 : zcn zSH 77 50 = some 6 := rfl
theorem zp_51 (E : zE) (I : zI) : zal E zSH 77 I 51 = some (4, I 51) := rfl
theorem zq_51 : zas zSH 77 51 = some 4 := rfl
theorem zp_52 (E : zE) (I : zI) : zal E zSH 77 I 52 = some (4, I 52) := rfl
theorem zq_52 : zas zSH 77 52 = some 4 := rfl
theorem zp_53 (E : zE) (I : zI) : zal E zSH 77 I 53 = some (240, I 53) := rfl
theorem zq_53 : zas zSH 77 53 = some 240 := rfl
theorem zp_54 (E : zE) (I : zI) : zal E zSH 77 I 54 = some (60, I 54) := rfl
theorem zq_54 : zas zSH 77 54 = some 60 := rfl
theorem zp_55 (E : zE) (I : zI) : zal E zSH 77 I 55 = some (96, I 55) := rfl
theorem zq_55 : zas zSH 77 55 = some 96 := rfl
theorem zp_56 (E : zE) (I : zI) : zal E zSH 77 I 56 = some (3, I 56) := rfl
theorem zq_56 : zas zSH 77 56 = some 3 := rfl
theorem zp_57 (E : zE) (I : zI) : zal E zSH 77 I 57 = some (16, I 57) := rfl
theorem zq_57 : zas zSH 77 57 = some 16 := rfl
theorem zp_58 (E : zE) (I : zI) : zal E zSH 77 I 58 = some (24, I 58) := rfl
theorem zq_58 : zas zSH 77 58 = some 24 := rfl
theorem zp_59 (E : zE) (I : zI) : zal E zSH 77 I 59 = some (24, I 59) := rfl
theorem zq_59 : zas zSH 77 59 = some 24 := rfl
theorem zp_60 (E : zE) (I : zI) : zal E zSH 77 I 60 = some (16, I 60) := rfl
theorem zq_60 : zas zSH 77 60 = some 16 := rfl
theorem zp_61 (E : zE) (I : zI) : zal E zSH 77 I 61 = some (8, I 61) := rfl
theorem zq_61 : zas zSH 77 61 = some 8 := rfl
theorem zp_62 (E : zE) (I : zI) : zal E zSH 77 I 62 = some (8, I 62) := rfl
theorem zq_62 : zas zSH 77 62 = some 8 := rfl
theorem zp_63 (E : zE) (I : zI) : zal E zSH 77 I 63 = some (8, I 63) := rfl
theorem zq_63 : zas zSH 77 63 = some 8 := rfl
theorem zp_64 (E : zE) (I : zI) : zal E zSH 77 I 64 = some (8, I 64) := rfl
theorem zq_64 : zas zSH 77 64 = some 8 := rfl
theorem zp_65 (E : zE) (I : zI) : zal E zSH 77 I 65 = some (8, I 65) := rfl
theorem zq_65 : zas zSH 77 65 = some 8 := rfl
theorem zp_66 (E : zE) (I : zI) : zal E zSH 77 I 66 = some (8, I 66) := rfl
theorem zq_66 : zas zSH 77 66 = some 8 := rfl
theorem zp_67 (E : zE) (I : zI) : zal E zSH 77 I 67 = some (8, I 67) := rfl
theorem zq_67 : zas zSH 77 67 = some 8 := rfl
theorem zp_68 (E : zE) (I : zI) : zal E zSH 77 I 68 = some (192, I 68) := rfl
theorem zq_68 : zas zSH 77 68 = some 192 := rfl
theorem zp_69 (E : zE) (I : zI) : zal E zSH 77 I 69 = some (192, I 69) := rfl
theorem zq_69 : zas zSH 77 69 = some 192 := rfl
theorem zp_70 (E : zE) (I : zI) : zal E zSH 77 I 70 = some (192, I 70) := rfl
theorem zq_70 : zas zSH 77 70 = some 192 := rfl
theorem zp_71 (E : zE) (I : zI) : zal E zSH 77 I 71 = some (192, I 71) := rfl
theorem zq_71 : zas zSH 77 71 = some 192 := rfl
theorem zp_72 (E : zE) (I : zI) : zal E zSH 77 I 72 = some (192, I 72) := rfl
theorem zq_72 : zas zSH 77 72 = some 192 := rfl
theorem zp_73 (E : zE) (I : zI) : zal E zSH 77 I 73 = some (192, I 73) := rfl
theorem zq_73 : zas zSH 77 73 = some 192 := rfl
theorem zp_74 (E : zE) (I : zI) : zal E zSH 77 I 74 = some (24, I 74) := rfl
theorem zq_74 : zas zSH 77 74 = some 24 := rfl
theorem zp_75 (E : zE) (I : zI) : zal E zSH 77 I 75 = some (24, I 75) := rfl
theorem zq_75 : zas zSH 77 75 = some 24 := rfl
theorem zp_76 (E : zE) (I : zI) : zal E zSH 77 I 76 = some (240, I 76) := rfl
theorem zq_76 : zas zSH 77 76 = some 240 := rfl
theorem zp_1000 (E : zE) (I : zI) : zal E zSH 77 I 1000 = some (4, zdd) := rfl
theorem zp_1001 (E : zE) (I : zI) : zal E zSH 77 I 1001 = some (zeL E, zex E) := rfl
theorem zt_f4_9 : zfl 4 9 = some (4, 0, false, true, 0) := by rfl
theorem zt_f4_15 : zfl 4 15 = some (4, 1, false, true, 0) := by rfl
theorem zt_f1_71 : zfl 1 71 = some (4, 1, true, true, 0) := by rfl
theorem zt_f4_18 : zfl 4 18 = some (4, 2, false, true, 2) := by rfl
theorem zt_f1_64 : zfl 1 64 = some (4, 2, true, true, 2) := by rfl
theorem zt_f4_22 : zfl 4 22 = some (4, 3, false, false, 0) := by rfl
theorem zt_f5_81 : zfl 5 81 = some (4, 3, true, false, 0) := by rfl
theorem zt_f4_25 : zfl 4 25 = some (4, 4, false, false, 0) := by rfl
theorem zt_f5_87 : zfl 5 87 = some (4, 4, true, false, 0) := by rfl
theorem zt_f1_36 : zfl 1 36 = some (1, 0, false, false, 0) := by rfl
theorem zt_f3_31 : zfl 3 31 = some (1, 0, true, false, 0) := by rfl
theorem zt_f5_90 : zfl 5 90 = some (1, 0, true, false, 0) := by rfl
theorem zt_f0_91 : zfl 0 91 = some (1, 0, true, false, 0) := by rfl
theorem zt_f1_9 : zfl 1 9 = some (1, 1, false, true, 2) := by rfl
theorem zt_f5_93 : zfl 5 93 = some (1, 1, true, true, 2) := by rfl
theorem zt_f0_109 : zfl 0 109 = some (1, 1, true, true, 2) := by rfl
theorem zt_f1_15 : zfl 1 15 = some (1, 2, false, true, 2) := by rfl
theorem zt_f0_78 : zfl 0 78 = some (1, 2, true, true, 2) := by rfl
theorem zt_f5_96 : zfl 5 96 = some (1, 2, true, true, 2) := by rfl
theorem zt_f1_40 : zfl 1 40 = some (1, 3, false, false, 0) := by rfl
theorem zt_f0_69 : zfl 0 69 = some (1, 3, true, false, 0) := by rfl
theorem zt_f5_99 : zfl 5 99 = some (1, 3, true, false, 0) := by rfl
theorem zt_f1_18 : zfl 1 18 = some (1, 4, false, true, 2) := by rfl
theorem zt_f0_81 : zfl 0 81 = some (1, 4, true, true, 2) := by rfl
theorem zt_f5_102 : zfl 5 102 = some (1, 4, true, true, 2) := by rfl
theorem zt_f1_21 : zfl 1 21 = some (1, 5, false, true, 2) := by rfl
theorem zt_f0_84 : zfl 0 84 = some (1, 5, true, true, 2) := by rfl
theorem zt_f5_105 : zfl 5 105 = some (1, 5, true, true, 2) := by rfl
theorem zt_f1_24 : zfl 1 24 = some (1, 6, false, true, 2) := by rfl
theorem zt_f0_106 : zfl 0 106 = some (1, 6, true, true, 2) := by rfl
theorem zt_f5_108 : zfl 5 108 = some (1, 6, true, true, 2) := by rfl
theorem zt_f1_27 : zfl 1 27 = some (1, 7, false, true, 2) := by rfl
theorem zt_f5_111 : zfl 5 111 = some (1, 7, true, true, 2) := by rfl
theorem zt_f1_49 : zfl 1 49 = some (1, 8, false, false, 0) := by rfl
theorem zt_f5_202 : zfl 5 202 = some (1, 8, true, false, 0) := by rfl
theorem zt_f1_52 : zfl 1 52 = some (1, 9, false, false, 0) := by rfl
theorem zt_f5_117 : zfl 5 117 = some (1, 9, true, false, 0) := by rfl
theorem zt_f1_30 : zfl 1 30 = some (1, 10, false, true, 2) := by rfl
theorem zt_f1_33 : zfl 1 33 = some (1, 11, false, true, 2) := by rfl
theorem zt_f1_55 : zfl 1 55 = some (1, 12, false, false, 0) := by rfl
theorem zt_f5_220 : zfl 5 220 = some (1, 12, true, false, 0) := by rfl
theorem zt_f0_36 : zfl 0 36 = some (0, 0, false, true, 2) := by rfl
theorem zt_f3_25 : zfl 3 25 = some (0, 0, true, true, 2) := by rfl
theorem zt_f0_40 : zfl 0 40 = some (0, 1, false, false, 0) := by rfl
theorem zt_f0_51 : zfl 0 51 = some (0, 2, false, false, 0) := by rfl
theorem zt_f5_162 : zfl 5 162 = some (0, 2, true, false, 0) := by rfl
theorem zt_f0_54 : zfl 0 54 = some (0, 3, false, false, 0) := by rfl
theorem zt_f5_178 : zfl 5 178 = some (0, 3, true, false, 0) := by rfl
theorem zt_f0_57 : zfl 0 57 = some (0, 4, false, false, 0) := by rfl
theorem zt_f5_172 : zfl 5 172 = some (0, 4, true, false, 0) := by rfl
theorem zt_f0_60 : zfl 0 60 = some (0, 5, false, false, 0) := by rfl
theorem zt_f5_175 : zfl 5 175 = some (0, 5, true, false, 0) := by rfl
theorem zt_f0_9 : zfl 0 9 = some (0, 6, false, true, 2) := by rfl
theorem zt_f5_153 : zfl 5 153 = some (0, 6, true, true, 2) := by rfl
theorem zt_f0_15 : zfl 0 15 = some (0, 7, false, true, 2) := by rfl
theorem zt_f5_156 : zfl 5 156 = some (0, 7, true, true, 2) := by rfl
theorem zt_f0_18 : zfl 0 18 = some (0, 8, false, true, 2) := by rfl
theorem zt_f5_159 : zfl 5 159 = some (0, 8, true, true, 2) := by rfl
theorem zt_f0_21 : zfl 0 21 = some (0, 9, false, true, 2) := by rfl
theorem zt_f5_147 : zfl 5 147 = some (0, 9, true, true, 2) := by rfl
theorem zt_f0_24 : zfl 0 24 = some (0, 10, false, true, 2) := by rfl
theorem zt_f5_150 : zfl 5 150 = some (0, 10, true, true, 2) := by rfl
theorem zt_f0_27 : zfl 0 27 = some (0, 11, false, true, 2) := by rfl
theorem zt_f0_30 : zfl 0 30 = some (0, 12, false, true, 2) := by rfl
theorem zt_f5_169 : zfl 5 169 = some (0, 12, true, true, 2) := by rfl
theorem zt_f0_33 : zfl 0 33 = some (0, 13, false, true, 2) := by rfl
theorem zt_f3_21 : zfl 3 21 = some (3, 0, false, false, 0) := by rfl
theorem zt_f5_211 : zfl 5 211 = some (3, 0, true, false, 0) := by rfl
theorem zt_f3_9 : zfl 3 9 = some (3, 1, false, true, 2) := by rfl
theorem zt_f3_15 : zfl 3 15 = some (3, 2, false, true, 2) := by rfl
theorem zt_f3_18 : zfl 3 18 = some (3, 3, false, true, 2) := by rfl
theorem zt_f2_15 : zfl 2 15 = some (2, 0, false, false, 0) := by rfl
theorem zt_f5_270 : zfl 5 270 = some (2, 0, true, false, 0) := by rfl
theorem zt_f2_19 : zfl 2 19 = some (2, 1, false, false, 0) := by rfl
theorem zt_f5_137 : zfl 5 137 = some (2, 1, true, false, 0) := by rfl
theorem zt_f2_9 : zfl 2 9 = some (2, 2, false, true, 2) := by rfl
theorem zt_f5_138 : zfl 5 138 = some (2, 2, true, true, 2) := by rfl
theorem zt_f5_11 : zfl 5 11 = some (5, 0, false, true, 2) := by rfl
theorem zt_f5_21 : zfl 5 21 = some (5, 1, false, true, 2) := by rfl
theorem zt_f5_30 : zfl 5 30 = some (5, 2, false, true, 2) := by rfl
theorem zt_f5_34 : zfl 5 34 = some (5, 3, false, true, 2) := by rfl
theorem zt_f5_37 : zfl 5 37 = some (5, 4, false, true, 2) := by rfl
theorem zt_f5_41 : zfl 5 41 = some (5, 5, false, false, 1) := by rfl
theorem zt_f5_48 : zfl 5 48 = some (5, 6, false, true, 2) := by rfl
theorem zt_f5_52 : zfl 5 52 = some (5, 7, false, true, 2) := by rfl
theorem zt_f5_57 : zfl 5 57 = some (5, 8, false, true, 2) := by rfl
theorem zt_f5_62 : zfl 5 62 = some (5, 9, false, false, 0) := by rfl
theorem zt_f6_7 : zfl 6 7 = some (6, 0, false, true, 2) := by rfl
theorem zt_f6_13 : zfl 6 13 = some (6, 1, false, true, 2) := by rfl
theorem zt_f6_16 : zfl 6 16 = some (6, 2, false, true, 2) := by rfl
theorem zt_f6_19 : zfl 6 19 = some (6, 3, false, true, 2) := by rfl
theorem zt_f6_98 : zfl 6 98 = some (6, 4, false, false, 0) := by rfl
theorem zt_f6_22 : zfl 6 22 = some (6, 5, false, true, 2) := by rfl
theorem zt_f6_25 : zfl 6 25 = some (6, 6, false, true, 2) := by rfl
theorem zt_f6_131 : zfl 6 131 = some (6, 7, false, false, 0) := by rfl
theorem zt_f6_28 : zfl 6 28 = some (6, 8, false, true, 2) := by rfl
theorem zt_f6_145 : zfl 6 145 = some (6, 9, false, false, 0) := by rfl
theorem zt_f6_31 : zfl 6 31 = some (6, 10, false, true, 2) := by rfl
theorem zt_f6_151 : zfl 6 151 = some (6, 11, false, false, 0) := by rfl
theorem zt_f6_34 : zfl 6 34 = some (6, 12, false, true, 2) := by rfl
theorem zt_f6_184 : zfl 6 184 = some (6, 13, false, false, 0) := by rfl
theorem zt_f6_37 : zfl 6 37 = some (6, 14, false, true, 2) := by rfl
theorem zt_f6_189 : zfl 6 189 = some (6, 15, false, false, 0) := by rfl
theorem zt_f6_88 : zfl 6 88 = some (6, 16, false, false, 0) := by rfl
theorem zt_f6_40 : zfl 6 40 = some (6, 17, false, true, 2) := by rfl
theorem zt_f6_43 : zfl 6 43 = some (6, 18, false, true, 2) := by rfl
theorem zt_f6_46 : zfl 6 46 = some (6, 19, false, true, 2) := by rfl
theorem zt_f6_49 : zfl 6 49 = some (6, 20, false, true, 2) := by rfl
theorem zt_f6_52 : zfl 6 52 = some (6, 21, false, true, 2) := by rfl
theorem zt_f6_55 : zfl 6 55 = some (6, 22, false, true, 2) := by rfl
theorem zt_f6_58 : zfl 6 58 = some (6, 23, false, true, 2) := by rfl
theorem zt_f6_196 : zfl 6 196 = some (6, 24, false, false, 0) := by rfl
theorem zt_f6_199 : zfl 6 199 = some (6, 25, false, false, 0) := by rfl
theorem zt_f6_61 : zfl 6 61 = some (6, 26, false, true, 2) := by rfl
theorem zt_f6_64 : zfl 6 64 = some (6, 27, false, true, 2) := by rfl
theorem zt_f6_67 : zfl 6 67 = some (6, 28, false, true, 2) := by rfl
theorem zt_f6_70 : zfl 6 70 = some (6, 29, false, true, 2) := by rfl
theorem zt_f6_73 : zfl 6 73 = some (6, 30, false, true, 2) := by rfl
theorem zt_f6_76 : zfl 6 76 = some (6, 31, false, true, 2) := by rfl
theorem zt_f6_79 : zfl 6 79 = some (6, 32, false, true, 2) := by rfl
theorem zt_f6_270 : zfl 6 270 = some (6, 33, false, false, 0) := by rfl
theorem zt_f6_82 : zfl 6 82 = some (6, 34, false, true, 2) := by rfl
theorem zt_f6_85 : zfl 6 85 = some (6, 35, false, true, 2) := by rfl
theorem zt_f6_310 : zfl 6 310 = some (6, 36, false, false, 0) := by rfl
theorem zt_m7_9 : zml 7 9 = some (501, 1, 2) := by rfl
theorem zt_m5_1 : zml 5 1 = some (0, 1, 3) := by rfl
theorem zt_m5_15 : zml 5 15 = some (401, 4, 2) := by rfl
theorem zt_m4_3 : zml 4 3 = some (0, 1, 3) := by rfl
theorem zt_m5_20 : zml 5 20 = some (101, 1, 2) := by rfl
theorem zt_m1_3 : zml 1 3 = some (0, 1, 3) := by rfl
theorem zt_m1_43 : zml 1 43 = some (901, 2, 0) := by rfl
theorem zt_m5_27 : zml 5 27 = some (1, 2, 2) := by rfl
theorem zt_m0_3 : zml 0 3 = some (0, 1, 3) := by rfl
theorem zt_m5_47 : zml 5 47 = some (301, 1, 2) := by rfl
theorem zt_m3_3 : zml 3 3 = some (0, 1, 3) := by rfl
theorem zt_m5_61 : zml 5 61 = some (201, 1, 2) := by rfl
theorem zt_m2_3 : zml 2 3 = some (0, 1, 3) := by rfl
theorem zt_m7_13 : zml 7 13 = some (502, 3, 1) := by rfl
theorem zt_m5_66 : zml 5 66 = some (541, 2, 0) := by rfl
theorem zt_m5_70 : zml 5 70 = some (402, 1, 1) := by rfl
theorem zt_m5_74 : zml 5 74 = some (403, 2, 1) := by rfl
theorem zt_m4_28 : zml 4 28 = some (406, 1, 1) := by rfl
theorem zt_m4_32 : zml 4 32 = some (407, 3, 1) := by rfl
theorem zt_m4_36 : zml 4 36 = some (408, 3, 0) := by rfl
theorem zt_m4_40 : zml 4 40 = some (409, 1, 0) := by rfl
theorem zt_m5_78 : zml 5 78 = some (544, 2, 1) := by rfl
theorem zt_m5_369 : zml 5 369 = some (102, 2, 1) := by rfl
theorem zt_m1_58 : zml 1 58 = some (405, 1, 1) := by rfl
theorem zt_m1_67 : zml 1 67 = some (409, 1, 0) := by rfl
theorem zt_m5_372 : zml 5 372 = some (103, 2, 1) := by rfl
theorem zt_m5_253 : zml 5 253 = some (104, 2, 1) := by rfl
theorem zt_m5_124 : zml 5 124 = some (545, 1, 1) := by rfl
theorem zt_m5_375 : zml 5 375 = some (2, 1, 1) := by rfl
theorem zt_m7_18 : zml 7 18 = some (503, 2, 1) := by rfl
theorem zt_m5_84 : zml 5 84 = some (404, 2, 1) := by rfl
theorem zt_m7_23 : zml 7 23 = some (504, 2, 1) := by rfl
theorem zt_m7_27 : zml 7 27 = some (505, 2, 1) := by rfl
theorem zt_m7_31 : zml 7 31 = some (506, 3, 1) := by rfl
theorem zt_m7_35 : zml 7 35 = some (507, 3, 1) := by rfl
theorem zt_m7_39 : zml 7 39 = some (508, 2, 1) := by rfl
theorem zt_m7_43 : zml 7 43 = some (509, 3, 1) := by rfl
theorem zt_m5_114 : zml 5 114 = some (106, 2, 0) := by rfl
theorem zt_m1_75 : zml 1 75 = some (541, 2, 5) := by rfl
theorem zt_m5_120 : zml 5 120 = some (107, 3, 1) := by rfl
theorem zt_m1_79 : zml 1 79 = some (109, 1, 1) := by rfl
theorem zt_m7_47 : zml 7 47 = some (510, 1, 1) := by rfl
theorem zt_m5_127 : zml 5 127 = some (108, 1, 1) := by rfl
theorem zt_m7_52 : zml 7 52 = some (511, 2, 1) := by rfl
theorem zt_m5_130 : zml 5 130 = some (202, 1, 1) := by rfl
theorem zt_m5_133 : zml 5 133 = some (543, 2, 1) := by rfl
theorem zt_m7_56 : zml 7 56 = some (512, 4, 1) := by rfl
theorem zt_m5_141 : zml 5 141 = some (3, 2, 1) := by rfl
theorem zt_m0_44 : zml 0 44 = some (5, 1, 1) := by rfl
theorem zt_m0_63 : zml 0 63 = some (901, 2, 0) := by rfl
theorem zt_m0_74 : zml 0 74 = some (113, 2, 1) := by rfl
theorem zt_m0_47 : zml 0 47 = some (6, 2, 1) := by rfl
theorem zt_m0_87 : zml 0 87 = some (110, 3, 1) := by rfl
theorem zt_m0_94 : zml 0 94 = some (0, 2, 6) := by rfl
theorem zt_m0_99 : zml 0 99 = some (111, 2, 1) := by rfl
theorem zt_m1_82 : zml 1 82 = some (110, 3, 1) := by rfl
theorem zt_m0_103 : zml 0 103 = some (0, 2, 7) := by rfl
theorem zt_m0_112 : zml 0 112 = some (7, 4, 1) := by rfl
theorem zt_m0_116 : zml 0 116 = some (8, 4, 1) := by rfl
theorem zt_m0_119 : zml 0 119 = some (9, 3, 1) := by rfl
theorem zt_m0_123 : zml 0 123 = some (10, 2, 1) := by rfl
theorem zt_m5_144 : zml 5 144 = some (13, 2, 1) := by rfl
theorem zt_m7_61 : zml 7 61 = some (513, 4, 1) := by rfl
theorem zt_m7_65 : zml 7 65 = some (514, 3, 1) := by rfl
theorem zt_m5_165 : zml 5 165 = some (14, 1, 1) := by rfl
theorem zt_m0_126 : zml 0 126 = some (13, 2, 1) := by rfl
theorem zt_m7_69 : zml 7 69 = some (515, 2, 1) := by rfl
theorem zt_m7_73 : zml 7 73 = some (516, 2, 1) := by rfl
theorem zt_m7_77 : zml 7 77 = some (517, 1, 1) := by rfl
theorem zt_m7_81 : zml 7 81 = some (518, 1, 1) := by rfl
theorem zt_m7_85 : zml 7 85 = some (519, 1, 1) := by rfl
theorem zt_m5_181 : zml 5 181 = some (15, 1, 1) := by rfl
theorem zt_m7_89 : zml 7 89 = some (520, 3, 1) := by rfl
theorem zt_m5_184 : zml 5 184 = some (4, 1, 1) := by rfl
theorem zt_m5_187 : zml 5 187 = some (112, 2, 1) := by rfl
theorem zt_m5_190 : zml 5 190 = some (0, 2, 7) := by rfl
theorem zt_m7_93 : zml 7 93 = some (521, 3, 1) := by rfl
theorem zt_m5_196 : zml 5 196 = some (801, 1, 0) := by rfl
theorem zt_m7_97 : zml 7 97 = some (522, 2, 1) := by rfl
theorem zt_m7_101 : zml 7 101 = some (523, 2, 1) := by rfl
theorem zt_m5_205 : zml 5 205 = some (547, 1, 1) := by rfl
theorem zt_m5_217 : zml 5 217 = some (109, 1, 1) := by rfl
theorem zt_m5_384 : zml 5 384 = some (114, 1, 1) := by rfl
theorem zt_m1_86 : zml 1 86 = some (113, 2, 1) := by rfl
theorem zt_m5_239 : zml 5 239 = some (546, 2, 1) := by rfl
theorem zt_m5_378 : zml 5 378 = some (901, 2, 0) := by rfl
theorem zt_m5_208 : zml 5 208 = some (542, 1, 0) := by rfl
theorem zt_m7_105 : zml 7 105 = some (524, 4, 1) := by rfl
theorem zt_m5_214 : zml 5 214 = some (302, 4, 1) := by rfl
theorem zt_m7_109 : zml 7 109 = some (525, 1, 1) := by rfl
theorem zt_m7_113 : zml 7 113 = some (526, 1, 1) := by rfl
theorem zt_m5_223 : zml 5 223 = some (303, 2, 1) := by rfl
theorem zt_m3_36 : zml 3 36 = some (11, 3, 1) := by rfl
theorem zt_m7_117 : zml 7 117 = some (527, 3, 1) := by rfl
theorem zt_m5_227 : zml 5 227 = some (548, 5, 1) := by rfl
theorem zt_m7_121 : zml 7 121 = some (528, 2, 1) := by rfl
theorem zt_m5_231 : zml 5 231 = some (549, 2, 1) := by rfl
theorem zt_m5_282 : zml 5 282 = some (11, 3, 1) := by rfl
theorem zt_m5_234 : zml 5 234 = some (550, 2, 1) := by rfl
theorem zt_m5_387 : zml 5 387 = some (0, 2, 6) := by rfl
theorem zt_m7_125 : zml 7 125 = some (529, 4, 1) := by rfl
theorem zt_m5_242 : zml 5 242 = some (551, 3, 1) := by rfl
theorem zt_m5_246 : zml 5 246 = some (552, 3, 0) := by rfl
theorem zt_m7_130 : zml 7 130 = some (530, 4, 1) := by rfl
theorem zt_m5_250 : zml 5 250 = some (105, 3, 1) := by rfl
theorem zt_m5_257 : zml 5 257 = some (12, 1, 1) := by rfl
theorem zt_m7_134 : zml 7 134 = some (531, 4, 1) := by rfl
theorem zt_m5_260 : zml 5 260 = some (203, 3, 1) := by rfl
theorem zt_m2_22 : zml 2 22 = some (901, 2, 0) := by rfl
theorem zt_m7_138 : zml 7 138 = some (532, 2, 1) := by rfl
theorem zt_m7_142 : zml 7 142 = some (533, 5, 1) := by rfl
theorem zt_m5_263 : zml 5 263 = some (204, 3, 1) := by rfl
theorem zt_m2_28 : zml 2 28 = some (202, 1, 1) := by rfl
theorem zt_m2_32 : zml 2 32 = some (541, 2, 5) := by rfl
theorem zt_m5_266 : zml 5 266 = some (206, 3, 1) := by rfl
theorem zt_m7_147 : zml 7 147 = some (534, 4, 1) := by rfl
theorem zt_m7_151 : zml 7 151 = some (535, 6, 1) := by rfl
theorem zt_m5_273 : zml 5 273 = some (205, 3, 1) := by rfl
theorem zt_m5_276 : zml 5 276 = some (0, 5, 4) := by rfl
theorem zt_m7_156 : zml 7 156 = some (536, 3, 1) := by rfl
theorem zt_m7_160 : zml 7 160 = some (537, 2, 1) := by rfl
theorem zt_m5_285 : zml 5 285 = some (405, 1, 1) := by rfl
theorem zt_m7_164 : zml 7 164 = some (538, 1, 1) := by rfl
theorem zt_m5_292 : zml 5 292 = some (537, 2, 1) := by rfl
theorem zt_m5_295 : zml 5 295 = some (505, 2, 1) := by rfl
theorem zt_m5_298 : zml 5 298 = some (539, 3, 1) := by rfl
theorem zt_m5_335 : zml 5 335 = some (507, 3, 1) := by rfl
theorem zt_m5_341 : zml 5 341 = some (512, 4, 1) := by rfl
theorem zt_m5_344 : zml 5 344 = some (515, 2, 1) := by rfl
theorem zt_m5_347 : zml 5 347 = some (520, 3, 1) := by rfl
theorem zt_m5_350 : zml 5 350 = some (521, 3, 1) := by rfl
theorem zt_m5_353 : zml 5 353 = some (529, 4, 1) := by rfl
theorem zt_m5_302 : zml 5 302 = some (540, 3, 1) := by rfl
theorem zt_m5_357 : zml 5 357 = some (506, 3, 1) := by rfl
theorem zt_m5_360 : zml 5 360 = some (513, 4, 1) := by rfl
theorem zt_m5_363 : zml 5 363 = some (527, 3, 1) := by rfl
theorem zt_m5_366 : zml 5 366 = some (528, 2, 1) := by rfl
theorem zt_m5_305 : zml 5 305 = some (508, 2, 1) := by rfl
theorem zt_m5_308 : zml 5 308 = some (514, 3, 1) := by rfl
theorem zt_m5_311 : zml 5 311 = some (516, 2, 1) := by rfl
theorem zt_m5_314 : zml 5 314 = some (517, 1, 1) := by rfl
theorem zt_m5_317 : zml 5 317 = some (518, 1, 1) := by rfl
theorem zt_m5_320 : zml 5 320 = some (519, 1, 1) := by rfl
theorem zt_m5_323 : zml 5 323 = some (522, 2, 1) := by rfl
theorem zt_m5_325 : zml 5 325 = some (523, 2, 1) := by rfl
theorem zt_m5_328 : zml 5 328 = some (526, 1, 1) := by rfl
theorem zt_m5_331 : zml 5 331 = some (530, 4, 1) := by rfl
theorem zt_m7_12 : zml 7 12 = some (601, 1, 2) := by rfl
theorem zt_m6_1 : zml 6 1 = some (0, 1, 3) := by rfl
theorem zt_m7_137 : zml 7 137 = some (612, 4, 1) := by rfl
theorem zt_m6_103 : zml 6 103 = some (611, 1, 0) := by rfl
theorem zt_m6_94 : zml 6 94 = some (602, 3, 0) := by rfl
theorem zt_m6_109 : zml 6 109 = some (610, 2, 1) := by rfl
theorem zt_m7_141 : zml 7 141 = some (613, 2, 1) := by rfl
theorem zt_m7_146 : zml 7 146 = some (616, 5, 1) := by rfl
theorem zt_m6_113 : zml 6 113 = some (614, 4, 1) := by rfl
theorem zt_m6_117 : zml 6 117 = some (615, 2, 0) := by rfl
theorem zt_m7_150 : zml 7 150 = some (617, 4, 1) := by rfl
theorem zt_m7_155 : zml 7 155 = some (618, 6, 1) := by rfl
theorem zt_m7_17 : zml 7 17 = some (620, 3, 1) := by rfl
theorem zt_m6_122 : zml 6 122 = some (619, 1, 0) := by rfl
theorem zt_m7_22 : zml 7 22 = some (621, 2, 1) := by rfl
theorem zt_m7_26 : zml 7 26 = some (622, 2, 1) := by rfl
theorem zt_m7_30 : zml 7 30 = some (630, 2, 1) := by rfl
theorem zt_m6_167 : zml 6 167 = some (629, 2, 1) := by rfl
theorem zt_m6_157 : zml 6 157 = some (624, 1, 1) := by rfl
theorem zt_m6_134 : zml 6 134 = some (623, 2, 0) := by rfl
theorem zt_m6_161 : zml 6 161 = some (626, 1, 1) := by rfl
theorem zt_m6_148 : zml 6 148 = some (625, 2, 0) := by rfl
theorem zt_m6_164 : zml 6 164 = some (628, 1, 1) := by rfl
theorem zt_m6_154 : zml 6 154 = some (627, 2, 1) := by rfl
theorem zt_m7_34 : zml 7 34 = some (634, 3, 1) := by rfl
theorem zt_m6_172 : zml 6 172 = some (631, 2, 1) := by rfl
theorem zt_m6_175 : zml 6 175 = some (604, 1, 0) := by rfl
theorem zt_m7_38 : zml 7 38 = some (635, 3, 1) := by rfl
theorem zt_m6_178 : zml 6 178 = some (632, 2, 1) := by rfl
theorem zt_m7_42 : zml 7 42 = some (636, 2, 1) := by rfl
theorem zt_m6_181 : zml 6 181 = some (633, 1, 0) := by rfl
theorem zt_m7_46 : zml 7 46 = some (637, 3, 1) := by rfl
theorem zt_m7_51 : zml 7 51 = some (638, 1, 1) := by rfl
theorem zt_m7_55 : zml 7 55 = some (639, 2, 1) := by rfl
theorem zt_m6_187 : zml 6 187 = some (637, 3, 1) := by rfl
theorem zt_m7_60 : zml 7 60 = some (646, 4, 1) := by rfl
theorem zt_m6_222 : zml 6 222 = some (644, 1, 1) := by rfl
theorem zt_m6_219 : zml 6 219 = some (643, 1, 1) := by rfl
theorem zt_m6_215 : zml 6 215 = some (642, 2, 1) := by rfl
theorem zt_m6_208 : zml 6 208 = some (640, 3, 1) := by rfl
theorem zt_m6_192 : zml 6 192 = some (605, 2, 0) := by rfl
theorem zt_m6_205 : zml 6 205 = some (608, 2, 0) := by rfl
theorem zt_m6_202 : zml 6 202 = some (607, 2, 0) := by rfl
theorem zt_m6_211 : zml 6 211 = some (641, 3, 1) := by rfl
theorem zt_m6_225 : zml 6 225 = some (645, 4, 1) := by rfl
theorem zt_m7_64 : zml 7 64 = some (648, 4, 1) := by rfl
theorem zt_m6_228 : zml 6 228 = some (647, 4, 1) := by rfl
theorem zt_m7_68 : zml 7 68 = some (650, 3, 1) := by rfl
theorem zt_m6_231 : zml 6 231 = some (649, 3, 1) := by rfl
theorem zt_m7_72 : zml 7 72 = some (651, 2, 1) := by rfl
theorem zt_m7_76 : zml 7 76 = some (653, 2, 1) := by rfl
theorem zt_m6_234 : zml 6 234 = some (652, 2, 1) := by rfl
theorem zt_m7_80 : zml 7 80 = some (654, 1, 1) := by rfl
theorem zt_m7_84 : zml 7 84 = some (656, 1, 1) := by rfl
theorem zt_m6_237 : zml 6 237 = some (655, 1, 1) := by rfl
theorem zt_m7_88 : zml 7 88 = some (658, 1, 1) := by rfl
theorem zt_m6_240 : zml 6 240 = some (657, 1, 1) := by rfl
theorem zt_m7_92 : zml 7 92 = some (661, 3, 1) := by rfl
theorem zt_m6_246 : zml 6 246 = some (660, 3, 1) := by rfl
theorem zt_m6_243 : zml 6 243 = some (659, 2, 1) := by rfl
theorem zt_m7_96 : zml 7 96 = some (663, 3, 1) := by rfl
theorem zt_m6_252 : zml 6 252 = some (662, 3, 1) := by rfl
theorem zt_m6_249 : zml 6 249 = some (606, 1, 0) := by rfl
theorem zt_m7_100 : zml 7 100 = some (665, 2, 1) := by rfl
theorem zt_m6_255 : zml 6 255 = some (664, 2, 1) := by rfl
theorem zt_m7_104 : zml 7 104 = some (668, 2, 1) := by rfl
theorem zt_m6_263 : zml 6 263 = some (667, 2, 1) := by rfl
theorem zt_m6_258 : zml 6 258 = some (666, 2, 1) := by rfl
theorem zt_m7_108 : zml 7 108 = some (669, 4, 1) := by rfl
theorem zt_m7_112 : zml 7 112 = some (670, 1, 1) := by rfl
theorem zt_m7_116 : zml 7 116 = some (673, 1, 1) := by rfl
theorem zt_m6_277 : zml 6 277 = some (672, 1, 1) := by rfl
theorem zt_m6_273 : zml 6 273 = some (671, 1, 1) := by rfl
theorem zt_m7_120 : zml 7 120 = some (677, 3, 1) := by rfl
theorem zt_m6_286 : zml 6 286 = some (676, 3, 1) := by rfl
theorem zt_m6_280 : zml 6 280 = some (674, 2, 1) := by rfl
theorem zt_m6_283 : zml 6 283 = some (675, 2, 1) := by rfl
theorem zt_m7_124 : zml 7 124 = some (680, 2, 1) := by rfl
theorem zt_m6_292 : zml 6 292 = some (679, 2, 1) := by rfl
theorem zt_m6_289 : zml 6 289 = some (678, 3, 1) := by rfl
theorem zt_m7_129 : zml 7 129 = some (682, 4, 1) := by rfl
theorem zt_m6_301 : zml 6 301 = some (681, 4, 1) := by rfl
theorem zt_m6_295 : zml 6 295 = some (609, 3, 0) := by rfl
theorem zt_m6_305 : zml 6 305 = some (603, 1, 0) := by rfl
theorem zt_m7_133 : zml 7 133 = some (686, 4, 1) := by rfl
theorem zt_m6_321 : zml 6 321 = some (685, 4, 1) := by rfl
theorem zt_m6_313 : zml 6 313 = some (683, 2, 1) := by rfl
theorem zt_m6_316 : zml 6 316 = some (684, 1, 1) := by rfl
theorem zt_m7_159 : zml 7 159 = some (687, 3, 1) := by rfl
theorem zt_m7_163 : zml 7 163 = some (688, 2, 1) := by rfl
theorem zt_m7_168 : zml 7 168 = some (693, 1, 1) := by rfl
theorem zt_m6_335 : zml 6 335 = some (688, 2, 1) := by rfl
theorem zt_m6_338 : zml 6 338 = some (690, 3, 1) := by rfl
theorem zt_m6_326 : zml 6 326 = some (689, 4, 1) := by rfl
theorem zt_m6_342 : zml 6 342 = some (692, 3, 1) := by rfl
theorem zt_m6_330 : zml 6 330 = some (691, 4, 1) := by rfl
theorem zt_k8_265 : zki 8 265 = some (1431655765) := by rfl
theorem zt_k8_266 : zki 8 266 = some (858993459) := by rfl
theorem zt_k8_267 : zki 8 267 = some (252645135) := by rfl
theorem zt_k5_201 : zki 5 201 = some (2147483647) := by rfl
theorem zt_k1_74 : zki 1 74 = some (1103515245) := by rfl
theorem zt_k5_269 : zki 5 269 = some (-2147483648) := by rfl
theorem zt_k6_121 : zki 6 121 = some (-2147483648) := by rfl
theorem zt_k6_309 : zki 6 309 = some (1103515245) := by rfl
theorem zt_l5_237 : zkL 5 237 = some (-9223372036854775806) := by rfl
theorem zt_l5_288 : zkL 5 288 = some (17) := by rfl
theorem zt_l5_290 : zkL 5 290 = some (31) := by rfl
theorem zt_l6_101 : zkL 6 101 = some (3) := by rfl
theorem zt_l6_107 : zkL 6 107 = some (2) := by rfl
theorem zt_l6_125 : zkL 6 125 = some (255) := by rfl
theorem zt_l6_127 : zkL 6 127 = some (49) := by rfl
theorem zt_l6_129 : zkL 6 129 = some (57) := by rfl
theorem zt_l6_137 : zkL 6 137 = some (48) := by rfl
theorem zt_l6_139 : zkL 6 139 = some (55) := by rfl
theorem zt_l6_141 : zkL 6 141 = some (97) := by rfl
theorem zt_l6_143 : zkL 6 143 = some (120) := by rfl
theorem zt_l6_170 : zkL 6 170 = some (23) := by rfl
theorem zt_l6_261 : zkL 6 261 = some (-1) := by rfl
theorem zt_l6_266 : zkL 6 266 = some (7) := by rfl
theorem zt_l6_268 : zkL 6 268 = some (9) := by rfl
theorem zt_l6_299 : zkL 6 299 = some (16) := by rfl
theorem zt_l6_92 : zkL 6 92 = some (-9223372036854775808) := by rfl
theorem zt_l6_319 : zkL 6 319 = some (24) := by rfl
theorem zt_l6_333 : zkL 6 333 = some (17) := by rfl
theorem zt_l6_324 : zkL 6 324 = some (31) := by rfl
theorem zt_c7_7 : zkC 7 7 = some (5) := by rfl
theorem zt_c5_9 : zkC 5 9 = some (4) := by rfl
theorem zt_c5_18 : zkC 5 18 = some (1) := by rfl
theorem zt_c5_25 : zkC 5 25 = some (0) := by rfl
theorem zt_c5_45 : zkC 5 45 = some (3) := by rfl
theorem zt_c5_55 : zkC 5 55 = some (2) := by rfl
theorem zt_c7_10 : zkC 7 10 = some (6) := by rfl
theorem zi_1 : zmi 1 = (yX0_init, cX0_init, 2, none) := by rfl
theorem zi_2 : zmi 2 = (yX0_restart, cX0_restart, 1, none) := by rfl
theorem zi_3 : zmi 3 = (yX0_runTo, cX0_runTo, 3, none) := by rfl
theorem zi_4 : zmi 4 = (yX0_runAnew, cX0_runAnew, 2, none) := by rfl
theorem zi_5 : zmi 5 = (yX0_clear, cX0_clear, 2, none) := by rfl
theorem zi_6 : zmi 6 = (yX0_pass, cX0_pass, 7, none) := by rfl
theorem zi_7 : zmi 7 = (yX0_waitFor, cX0_waitFor, 4, none) := by rfl
theorem zi_8 : zmi 8 = (yX0_strike, cX0_strike, 5, none) := by rfl
theorem zi_9 : zmi 9 = (yX0_settle, cX0_settle, 4, none) := by rfl
theorem zi_10 : zmi 10 = (yX0_keepGold, cX0_keepGold, 3, none) := by rfl
theorem zi_11 : zmi 11 = (yX0_goldOn, cX0_goldOn, 3, (some .int)) := by rfl
theorem zi_12 : zmi 12 = (yX0_allGold, cX0_allGold, 3, (some .int)) := by rfl
theorem zi_13 : zmi 13 = (yX0_stateOf, cX0_stateOf, 2, (some .int)) := by rfl
theorem zi_14 : zmi 14 = (yX0_openQuarrels, cX0_openQuarrels, 4, (some .int)) := by rfl
theorem zi_15 : zmi 15 = (yX0_endedBits, cX0_endedBits, 3, (some .int)) := by rfl
theorem zi_101 : zmi 101 = (yX1_init, cX1_init, 1, none) := by rfl
theorem zi_102 : zmi 102 = (yX1_takePeople, cX1_takePeople, 3, none) := by rfl
theorem zi_103 : zmi 103 = (yX1_takeQuarrels, cX1_takeQuarrels, 3, none) := by rfl
theorem zi_104 : zmi 104 = (yX1_takeGlass, cX1_takeGlass, 3, none) := by rfl
theorem zi_105 : zmi 105 = (yX1_cutByLots, cX1_cutByLots, 5, none) := by rfl
theorem zi_106 : zmi 106 = (yX1_mayBeEvent, cX1_mayBeEvent, 2, (some .boolean)) := by rfl
theorem zi_107 : zmi 107 = (yX1_addEvent, cX1_addEvent, 3, none) := by rfl
theorem zi_108 : zmi 108 = (yX1_dropEvent, cX1_dropEvent, 1, none) := by rfl
theorem zi_109 : zmi 109 = (yX1_allEvents, cX1_allEvents, 1, (some .int)) := by rfl
theorem zi_110 : zmi 110 = (yX1_eventsOn, cX1_eventsOn, 5, (some .int)) := by rfl
theorem zi_111 : zmi 111 = (yX1_liliesOn, cX1_liliesOn, 3, (some .int)) := by rfl
theorem zi_112 : zmi 112 = (yX1_turnAbout, cX1_turnAbout, 3, none) := by rfl
theorem zi_113 : zmi 113 = (yX1_isVoid, cX1_isVoid, 2, (some .boolean)) := by rfl
theorem zi_114 : zmi 114 = (yX1_earnestBits, cX1_earnestBits, 3, (some .int)) := by rfl
theorem zi_201 : zmi 201 = (yX2_init, cX2_init, 1, none) := by rfl
theorem zi_202 : zmi 202 = (yX2_isLost, cX2_isLost, 1, (some .boolean)) := by rfl
theorem zi_203 : zmi 203 = (yX2_renew, cX2_renew, 3, none) := by rfl
theorem zi_204 : zmi 204 = (yX2_findingOf, cX2_findingOf, 3, (some .int)) := by rfl
theorem zi_205 : zmi 205 = (yX2_hasSpan, cX2_hasSpan, 3, (some .boolean)) := by rfl
theorem zi_206 : zmi 206 = (yX2_put, cX2_put, 3, none) := by rfl
theorem zi_301 : zmi 301 = (yX3_init, cX3_init, 1, none) := by rfl
theorem zi_302 : zmi 302 = (yX3_add, cX3_add, 4, none) := by rfl
theorem zi_303 : zmi 303 = (yX3_fit, cX3_fit, 3, (some .boolean)) := by rfl
theorem zi_401 : zmi 401 = (yX4_init, cX4_init, 4, none) := by rfl
theorem zi_402 : zmi 402 = (yX4_isFull, cX4_isFull, 1, (some .boolean)) := by rfl
theorem zi_403 : zmi 403 = (yX4_append, cX4_append, 2, none) := by rfl
theorem zi_404 : zmi 404 = (yX4_cutTo, cX4_cutTo, 2, none) := by rfl
theorem zi_405 : zmi 405 = (yX4_soundLength, cX4_soundLength, 1, (some .int)) := by rfl
theorem zi_406 : zmi 406 = (yX4_findFault, cX4_findFault, 3, (some .int)) := by rfl
theorem zi_407 : zmi 407 = (yX4_fits, cX4_fits, 3, (some .boolean)) := by rfl
theorem zi_408 : zmi 408 = (yX4_isAmong, cX4_isAmong, 3, (some .boolean)) := by rfl
theorem zi_409 : zmi 409 = (yX4_sortOf, cX4_sortOf, 1, (some .int)) := by rfl
theorem zi_501 : zmi 501 = (yX5_init, cX5_init, 2, none) := by rfl
theorem zi_502 : zmi 502 = (yX5_type, cX5_type, 3, (some .int)) := by rfl
theorem zi_503 : zmi 503 = (yX5_wipe, cX5_wipe, 3, (some .int)) := by rfl
theorem zi_504 : zmi 504 = (yX5_undo, cX5_undo, 2, (some .int)) := by rfl
theorem zi_505 : zmi 505 = (yX5_fault, cX5_fault, 2, (some .int)) := by rfl
theorem zi_506 : zmi 506 = (yX5_person, cX5_person, 3, (some .int)) := by rfl
theorem zi_507 : zmi 507 = (yX5_quarrel, cX5_quarrel, 3, (some .int)) := by rfl
theorem zi_508 : zmi 508 = (yX5_glass, cX5_glass, 2, (some .int)) := by rfl
theorem zi_509 : zmi 509 = (yX5_event, cX5_event, 3, (some .int)) := by rfl
theorem zi_510 : zmi 510 = (yX5_back, cX5_back, 1, (some .int)) := by rfl
theorem zi_511 : zmi 511 = (yX5_read, cX5_read, 6, (some .int)) := by rfl
theorem zi_512 : zmi 512 = (yX5_stands, cX5_stands, 4, (some .int)) := by rfl
theorem zi_513 : zmi 513 = (yX5_at, cX5_at, 4, (some .int)) := by rfl
theorem zi_514 : zmi 514 = (yX5_stock, cX5_stock, 3, (some .int)) := by rfl
theorem zi_515 : zmi 515 = (yX5_over, cX5_over, 2, (some .int)) := by rfl
theorem zi_516 : zmi 516 = (yX5_mist, cX5_mist, 2, (some .int)) := by rfl
theorem zi_517 : zmi 517 = (yX5_waste, cX5_waste, 1, (some .int)) := by rfl
theorem zi_518 : zmi 518 = (yX5_goldest, cX5_goldest, 3, (some .int)) := by rfl
theorem zi_519 : zmi 519 = (yX5_peace, cX5_peace, 1, (some .int)) := by rfl
theorem zi_520 : zmi 520 = (yX5_chin, cX5_chin, 5, (some .int)) := by rfl
theorem zi_521 : zmi 521 = (yX5_dawn, cX5_dawn, 8, (some .int)) := by rfl
theorem zi_522 : zmi 522 = (yX5_monday, cX5_monday, 5, (some .int)) := by rfl
theorem zi_523 : zmi 523 = (yX5_spare, cX5_spare, 3, (some .int)) := by rfl
theorem zi_524 : zmi 524 = (yX5_seen, cX5_seen, 4, (some .int)) := by rfl
theorem zi_525 : zmi 525 = (yX5_forget, cX5_forget, 2, (some .int)) := by rfl
theorem zi_526 : zmi 526 = (yX5_never, cX5_never, 4, (some .int)) := by rfl
theorem zi_527 : zmi 527 = (yX5_was, cX5_was, 3, (some .int)) := by rfl
theorem zi_528 : zmi 528 = (yX5_ask, cX5_ask, 6, (some .int)) := by rfl
theorem zi_529 : zmi 529 = (yX5_chance, cX5_chance, 8, (some .long)) := by rfl
theorem zi_530 : zmi 530 = (yX5_years, cX5_years, 4, (some .int)) := by rfl
theorem zi_531 : zmi 531 = (yX5_sheet, cX5_sheet, 4, (some .int)) := by rfl
theorem zi_532 : zmi 532 = (yX5_lose, cX5_lose, 3, (some .int)) := by rfl
theorem zi_533 : zmi 533 = (yX5_lay, cX5_lay, 6, (some .int)) := by rfl
theorem zi_534 : zmi 534 = (yX5_get, cX5_get, 5, (some .int)) := by rfl
theorem zi_535 : zmi 535 = (yX5_copy, cX5_copy, 6, (some .int)) := by rfl
theorem zi_536 : zmi 536 = (yX5_write, cX5_write, 5, (some .int)) := by rfl
theorem zi_537 : zmi 537 = (yX5_count, cX5_count, 2, (some .int)) := by rfl
theorem zi_538 : zmi 538 = (yX5_digest, cX5_digest, 4, (some .long)) := by rfl
theorem zi_539 : zmi 539 = (yX5_digestQuarrel, cX5_digestQuarrel, 11, (some .long)) := by rfl
theorem zi_540 : zmi 540 = (yX5_digestPerson, cX5_digestPerson, 11, (some .long)) := by rfl
theorem zi_541 : zmi 541 = (yX5_isBelow, cX5_isBelow, 2, (some .boolean)) := by rfl
theorem zi_542 : zmi 542 = (yX5_lowestBit, cX5_lowestBit, 2, (some .int)) := by rfl
theorem zi_543 : zmi 543 = (yX5_found, cX5_found, 2, (some .int)) := by rfl
theorem zi_544 : zmi 544 = (yX5_takeIn, cX5_takeIn, 2, none) := by rfl
theorem zi_545 : zmi 545 = (yX5_forgetCourses, cX5_forgetCourses, 1, none) := by rfl
theorem zi_546 : zmi 546 = (yX5_peaceWith, cX5_peaceWith, 3, (some .int)) := by rfl
theorem zi_547 : zmi 547 = (yX5_sparedEvents, cX5_sparedEvents, 6, (some .int)) := by rfl
theorem zi_548 : zmi 548 = (yX5_fittingValues, cX5_fittingValues, 8, (some .int)) := by rfl
theorem zi_549 : zmi 549 = (yX5_tallyGold, cX5_tallyGold, 5, none) := by rfl
theorem zi_550 : zmi 550 = (yX5_mostAlike, cX5_mostAlike, 4, (some .int)) := by rfl
theorem zi_551 : zmi 551 = (yX5_weightOf, cX5_weightOf, 6, (some .long)) := by rfl
theorem zi_552 : zmi 552 = (yX5_lowestTerm, cX5_lowestTerm, 10, (some .long)) := by rfl
theorem zi_601 : zmi 601 = (yX6_init, cX6_init, 2, none) := by rfl
theorem zi_602 : zmi 602 = (yX6_in, cX6_in, 6, (some .boolean)) := by rfl
theorem zi_603 : zmi 603 = (yX6_no, cX6_no, 1, (some .long)) := by rfl
theorem zi_604 : zmi 604 = (yX6_isTwo, cX6_isTwo, 1, (some .boolean)) := by rfl
theorem zi_605 : zmi 605 = (yX6_isIn, cX6_isIn, 2, (some .boolean)) := by rfl
theorem zi_606 : zmi 606 = (yX6_ones, cX6_ones, 3, (some .int)) := by rfl
theorem zi_607 : zmi 607 = (yX6_lesser, cX6_lesser, 2, (some .int)) := by rfl
theorem zi_608 : zmi 608 = (yX6_greater, cX6_greater, 2, (some .int)) := by rfl
theorem zi_609 : zmi 609 = (yX6_part, cX6_part, 11, (some .long)) := by rfl
theorem zi_610 : zmi 610 = (yX6_finds, cX6_finds, 2, (some .int)) := by rfl
theorem zi_611 : zmi 611 = (yX6_isSheet, cX6_isSheet, 1, (some .boolean)) := by rfl
theorem zi_612 : zmi 612 = (yX6_sheet, cX6_sheet, 5, (some .int)) := by rfl
theorem zi_613 : zmi 613 = (yX6_lose, cX6_lose, 2, (some .int)) := by rfl
theorem zi_614 : zmi 614 = (yX6_lacks, cX6_lacks, 4, (some .int)) := by rfl
theorem zi_615 : zmi 615 = (yX6_cut, cX6_cut, 2, (some .int)) := by rfl
theorem zi_616 : zmi 616 = (yX6_lay, cX6_lay, 6, (some .int)) := by rfl
theorem zi_617 : zmi 617 = (yX6_get, cX6_get, 4, (some .int)) := by rfl
theorem zi_618 : zmi 618 = (yX6_copy, cX6_copy, 7, (some .int)) := by rfl
theorem zi_619 : zmi 619 = (yX6_isText, cX6_isText, 1, (some .boolean)) := by rfl
theorem zi_620 : zmi 620 = (yX6_type, cX6_type, 3, (some .int)) := by rfl
theorem zi_621 : zmi 621 = (yX6_wipe, cX6_wipe, 3, (some .int)) := by rfl
theorem zi_622 : zmi 622 = (yX6_undo, cX6_undo, 2, (some .int)) := by rfl
theorem zi_623 : zmi 623 = (yX6_personOf, cX6_personOf, 2, (some .int)) := by rfl
theorem zi_624 : zmi 624 = (yX6_readsPeople, cX6_readsPeople, 5, (some .int)) := by rfl
theorem zi_625 : zmi 625 = (yX6_quarrelOf, cX6_quarrelOf, 2, (some .int)) := by rfl
theorem zi_626 : zmi 626 = (yX6_readsQuarrels, cX6_readsQuarrels, 5, (some .int)) := by rfl
theorem zi_627 : zmi 627 = (yX6_grows, cX6_grows, 3, (some .int)) := by rfl
theorem zi_628 : zmi 628 = (yX6_readsGlass, cX6_readsGlass, 3, (some .int)) := by rfl
theorem zi_629 : zmi 629 = (yX6_readsText, cX6_readsText, 2, (some .int)) := by rfl
theorem zi_630 : zmi 630 = (yX6_fault, cX6_fault, 2, (some .int)) := by rfl
theorem zi_631 : zmi 631 = (yX6_isPerson, cX6_isPerson, 2, (some .boolean)) := by rfl
theorem zi_632 : zmi 632 = (yX6_isQuarrel, cX6_isQuarrel, 2, (some .boolean)) := by rfl
theorem zi_633 : zmi 633 = (yX6_isDay, cX6_isDay, 1, (some .boolean)) := by rfl
theorem zi_634 : zmi 634 = (yX6_person, cX6_person, 3, (some .int)) := by rfl
theorem zi_635 : zmi 635 = (yX6_quarrel, cX6_quarrel, 3, (some .int)) := by rfl
theorem zi_636 : zmi 636 = (yX6_glass, cX6_glass, 2, (some .int)) := by rfl
theorem zi_637 : zmi 637 = (yX6_event, cX6_event, 3, (some .int)) := by rfl
theorem zi_638 : zmi 638 = (yX6_back, cX6_back, 1, (some .int)) := by rfl
theorem zi_639 : zmi 639 = (yX6_read, cX6_read, 4, (some .int)) := by rfl
theorem zi_640 : zmi 640 = (yX6_many, cX6_many, 5, (some .int)) := by rfl
theorem zi_641 : zmi 641 = (yX6_does, cX6_does, 6, none) := by rfl
theorem zi_642 : zmi 642 = (yX6_passes, cX6_passes, 4, none) := by rfl
theorem zi_643 : zmi 643 = (yX6_lives, cX6_lives, 5, none) := by rfl
theorem zi_644 : zmi 644 = (yX6_find, cX6_find, 1, none) := by rfl
theorem zi_645 : zmi 645 = (yX6_standsBy, cX6_standsBy, 5, (some .int)) := by rfl
theorem zi_646 : zmi 646 = (yX6_stands, cX6_stands, 4, (some .int)) := by rfl
theorem zi_647 : zmi 647 = (yX6_atBy, cX6_atBy, 5, (some .int)) := by rfl
theorem zi_648 : zmi 648 = (yX6_at, cX6_at, 4, (some .int)) := by rfl
theorem zi_649 : zmi 649 = (yX6_stockOf, cX6_stockOf, 5, (some .int)) := by rfl
theorem zi_650 : zmi 650 = (yX6_stock, cX6_stock, 3, (some .int)) := by rfl
theorem zi_651 : zmi 651 = (yX6_over, cX6_over, 2, (some .int)) := by rfl
theorem zi_652 : zmi 652 = (yX6_mistBy, cX6_mistBy, 4, (some .int)) := by rfl
theorem zi_653 : zmi 653 = (yX6_mist, cX6_mist, 2, (some .int)) := by rfl
theorem zi_654 : zmi 654 = (yX6_waste, cX6_waste, 1, (some .int)) := by rfl
theorem zi_655 : zmi 655 = (yX6_goldestNow, cX6_goldestNow, 3, (some .int)) := by rfl
theorem zi_656 : zmi 656 = (yX6_goldest, cX6_goldest, 1, (some .int)) := by rfl
theorem zi_657 : zmi 657 = (yX6_peaceNow, cX6_peaceNow, 3, (some .int)) := by rfl
theorem zi_658 : zmi 658 = (yX6_peace, cX6_peace, 1, (some .int)) := by rfl
theorem zi_659 : zmi 659 = (yX6_changes, cX6_changes, 3, none) := by rfl
theorem zi_660 : zmi 660 = (yX6_chinOf, cX6_chinOf, 5, (some .int)) := by rfl
theorem zi_661 : zmi 661 = (yX6_chin, cX6_chin, 3, (some .int)) := by rfl
theorem zi_662 : zmi 662 = (yX6_dawnOf, cX6_dawnOf, 8, (some .int)) := by rfl
theorem zi_663 : zmi 663 = (yX6_dawn, cX6_dawn, 3, (some .int)) := by rfl
theorem zi_664 : zmi 664 = (yX6_mondayBy, cX6_mondayBy, 5, (some .int)) := by rfl
theorem zi_665 : zmi 665 = (yX6_monday, cX6_monday, 2, (some .int)) := by rfl
theorem zi_666 : zmi 666 = (yX6_isSpared, cX6_isSpared, 4, (some .boolean)) := by rfl
theorem zi_667 : zmi 667 = (yX6_spareBy, cX6_spareBy, 4, (some .int)) := by rfl
theorem zi_668 : zmi 668 = (yX6_spare, cX6_spare, 2, (some .int)) := by rfl
theorem zi_669 : zmi 669 = (yX6_seen, cX6_seen, 4, (some .int)) := by rfl
theorem zi_670 : zmi 670 = (yX6_forget, cX6_forget, 2, (some .int)) := by rfl
theorem zi_671 : zmi 671 = (yX6_isSeen, cX6_isSeen, 4, (some .boolean)) := by rfl
theorem zi_672 : zmi 672 = (yX6_neverNow, cX6_neverNow, 3, (some .int)) := by rfl
theorem zi_673 : zmi 673 = (yX6_never, cX6_never, 1, (some .int)) := by rfl
theorem zi_674 : zmi 674 = (yX6_sortOf, cX6_sortOf, 5, (some .int)) := by rfl
theorem zi_675 : zmi 675 = (yX6_tempersOf, cX6_tempersOf, 6, (some .int)) := by rfl
theorem zi_676 : zmi 676 = (yX6_wasOf, cX6_wasOf, 3, (some .int)) := by rfl
theorem zi_677 : zmi 677 = (yX6_was, cX6_was, 3, (some .int)) := by rfl
theorem zi_678 : zmi 678 = (yX6_alike, cX6_alike, 7, (some .int)) := by rfl
theorem zi_679 : zmi 679 = (yX6_askOf, cX6_askOf, 5, (some .int)) := by rfl
theorem zi_680 : zmi 680 = (yX6_ask, cX6_ask, 2, (some .int)) := by rfl
theorem zi_681 : zmi 681 = (yX6_chanceOf, cX6_chanceOf, 10, (some .long)) := by rfl
theorem zi_682 : zmi 682 = (yX6_chance, cX6_chance, 4, (some .long)) := by rfl
theorem zi_683 : zmi 683 = (yX6_lot, cX6_lot, 2, (some .int)) := by rfl
theorem zi_684 : zmi 684 = (yX6_allGold, cX6_allGold, 3, (some .int)) := by rfl
theorem zi_685 : zmi 685 = (yX6_yearsOf, cX6_yearsOf, 5, (some .int)) := by rfl
theorem zi_686 : zmi 686 = (yX6_years, cX6_years, 4, (some .int)) := by rfl
theorem zi_687 : zmi 687 = (yX6_write, cX6_write, 5, (some .int)) := by rfl
theorem zi_688 : zmi 688 = (yX6_count, cX6_count, 2, (some .int)) := by rfl
theorem zi_689 : zmi 689 = (yX6_tellsStand, cX6_tellsStand, 8, (some .long)) := by rfl
theorem zi_690 : zmi 690 = (yX6_tellsQuarrel, cX6_tellsQuarrel, 7, (some .long)) := by rfl
theorem zi_691 : zmi 691 = (yX6_tellsDay, cX6_tellsDay, 8, (some .long)) := by rfl
theorem zi_692 : zmi 692 = (yX6_tellsPerson, cX6_tellsPerson, 6, (some .long)) := by rfl
theorem zi_693 : zmi 693 = (yX6_digest, cX6_digest, 4, (some .long)) := by rfl
theorem zi_801 : zmi 801 = (yJ6_bitCount_0f7a4, cJ6_bitCount_0f7a4, 1, (some .int)) := by rfl
theorem zi_901 : zmi 901 = (yJ7_fill_53178, cJ7_fill_53178, 4, none) := by rfl
