/-! base rows for the walks (printed by wip/whole/mk.py base) -/
theorem lk_0 {a0 : Value} {l : List Value} : (a0 :: l)[0]? = some a0 := rfl
theorem lk_1 {a0 a1 : Value} {l : List Value} : (a0 :: a1 :: l)[1]? = some a1 := rfl
theorem lk_2 {a0 a1 a2 : Value} {l : List Value} : (a0 :: a1 :: a2 :: l)[2]? = some a2 := rfl
theorem lk_3 {a0 a1 a2 a3 : Value} {l : List Value} : (a0 :: a1 :: a2 :: a3 :: l)[3]? = some a3 := rfl
theorem lk_4 {a0 a1 a2 a3 a4 : Value} {l : List Value} : (a0 :: a1 :: a2 :: a3 :: a4 :: l)[4]? = some a4 := rfl
theorem lk_5 {a0 a1 a2 a3 a4 a5 : Value} {l : List Value} : (a0 :: a1 :: a2 :: a3 :: a4 :: a5 :: l)[5]? = some a5 := rfl
theorem lk_6 {a0 a1 a2 a3 a4 a5 a6 : Value} {l : List Value} : (a0 :: a1 :: a2 :: a3 :: a4 :: a5 :: a6 :: l)[6]? = some a6 := rfl
theorem lk_7 {a0 a1 a2 a3 a4 a5 a6 a7 : Value} {l : List Value} : (a0 :: a1 :: a2 :: a3 :: a4 :: a5 :: a6 :: a7 :: l)[7]? = some a7 := rfl
theorem lk_8 {a0 a1 a2 a3 a4 a5 a6 a7 a8 : Value} {l : List Value} : (a0 :: a1 :: a2 :: a3 :: a4 :: a5 :: a6 :: a7 :: a8 :: l)[8]? = some a8 := rfl
theorem lk_9 {a0 a1 a2 a3 a4 a5 a6 a7 a8 a9 : Value} {l : List Value} : (a0 :: a1 :: a2 :: a3 :: a4 :: a5 :: a6 :: a7 :: a8 :: a9 :: l)[9]? = some a9 := rfl
theorem lk_10 {a0 a1 a2 a3 a4 a5 a6 a7 a8 a9 a10 : Value} {l : List Value} : (a0 :: a1 :: a2 :: a3 :: a4 :: a5 :: a6 :: a7 :: a8 :: a9 :: a10 :: l)[10]? = some a10 := rfl
theorem lk_11 {a0 a1 a2 a3 a4 a5 a6 a7 a8 a9 a10 a11 : Value} {l : List Value} : (a0 :: a1 :: a2 :: a3 :: a4 :: a5 :: a6 :: a7 :: a8 :: a9 :: a10 :: a11 :: l)[11]? = some a11 := rfl
theorem s1_2 {a0 a1 a2 v : Value} {l : List Value} : ww_s1 (a0 :: a1 :: a2 :: l) 2 v = a0 :: ww_k1 a1 :: v :: l := rfl
theorem s1_3 {a0 a1 a2 a3 v : Value} {l : List Value} : ww_s1 (a0 :: a1 :: a2 :: a3 :: l) 3 v = a0 :: a1 :: ww_k1 a2 :: v :: l := rfl
theorem s1_4 {a0 a1 a2 a3 a4 v : Value} {l : List Value} : ww_s1 (a0 :: a1 :: a2 :: a3 :: a4 :: l) 4 v = a0 :: a1 :: a2 :: ww_k1 a3 :: v :: l := rfl
theorem s1_5 {a0 a1 a2 a3 a4 a5 v : Value} {l : List Value} : ww_s1 (a0 :: a1 :: a2 :: a3 :: a4 :: a5 :: l) 5 v = a0 :: a1 :: a2 :: a3 :: ww_k1 a4 :: v :: l := rfl
theorem s1_6 {a0 a1 a2 a3 a4 a5 a6 v : Value} {l : List Value} : ww_s1 (a0 :: a1 :: a2 :: a3 :: a4 :: a5 :: a6 :: l) 6 v = a0 :: a1 :: a2 :: a3 :: a4 :: ww_k1 a5 :: v :: l := rfl
theorem s1_7 {a0 a1 a2 a3 a4 a5 a6 a7 v : Value} {l : List Value} : ww_s1 (a0 :: a1 :: a2 :: a3 :: a4 :: a5 :: a6 :: a7 :: l) 7 v = a0 :: a1 :: a2 :: a3 :: a4 :: a5 :: ww_k1 a6 :: v :: l := rfl
theorem s1_8 {a0 a1 a2 a3 a4 a5 a6 a7 a8 v : Value} {l : List Value} : ww_s1 (a0 :: a1 :: a2 :: a3 :: a4 :: a5 :: a6 :: a7 :: a8 :: l) 8 v = a0 :: a1 :: a2 :: a3 :: a4 :: a5 :: a6 :: ww_k1 a7 :: v :: l := rfl
theorem s1_9 {a0 a1 a2 a3 a4 a5 a6 a7 a8 a9 v : Value} {l : List Value} : ww_s1 (a0 :: a1 :: a2 :: a3 :: a4 :: a5 :: a6 :: a7 :: a8 :: a9 :: l) 9 v = a0 :: a1 :: a2 :: a3 :: a4 :: a5 :: a6 :: a7 :: ww_k1 a8 :: v :: l := rfl
theorem s1_10 {a0 a1 a2 a3 a4 a5 a6 a7 a8 a9 a10 v : Value} {l : List Value} : ww_s1 (a0 :: a1 :: a2 :: a3 :: a4 :: a5 :: a6 :: a7 :: a8 :: a9 :: a10 :: l) 10 v = a0 :: a1 :: a2 :: a3 :: a4 :: a5 :: a6 :: a7 :: a8 :: ww_k1 a9 :: v :: l := rfl
theorem s1_11 {a0 a1 a2 a3 a4 a5 a6 a7 a8 a9 a10 a11 v : Value} {l : List Value} : ww_s1 (a0 :: a1 :: a2 :: a3 :: a4 :: a5 :: a6 :: a7 :: a8 :: a9 :: a10 :: a11 :: l) 11 v = a0 :: a1 :: a2 :: a3 :: a4 :: a5 :: a6 :: a7 :: a8 :: a9 :: ww_k1 a10 :: v :: l := rfl
theorem s2_2 {a0 a1 a2 a3 v : Value} {l : List Value} : ww_s2 (a0 :: a1 :: a2 :: a3 :: l) 2 v = a0 :: ww_k1 a1 :: v :: ww_U :: l := rfl
theorem s2_3 {a0 a1 a2 a3 a4 v : Value} {l : List Value} : ww_s2 (a0 :: a1 :: a2 :: a3 :: a4 :: l) 3 v = a0 :: a1 :: ww_k1 a2 :: v :: ww_U :: l := rfl
theorem s2_4 {a0 a1 a2 a3 a4 a5 v : Value} {l : List Value} : ww_s2 (a0 :: a1 :: a2 :: a3 :: a4 :: a5 :: l) 4 v = a0 :: a1 :: a2 :: ww_k1 a3 :: v :: ww_U :: l := rfl
theorem s2_5 {a0 a1 a2 a3 a4 a5 a6 v : Value} {l : List Value} : ww_s2 (a0 :: a1 :: a2 :: a3 :: a4 :: a5 :: a6 :: l) 5 v = a0 :: a1 :: a2 :: a3 :: ww_k1 a4 :: v :: ww_U :: l := rfl
theorem s2_6 {a0 a1 a2 a3 a4 a5 a6 a7 v : Value} {l : List Value} : ww_s2 (a0 :: a1 :: a2 :: a3 :: a4 :: a5 :: a6 :: a7 :: l) 6 v = a0 :: a1 :: a2 :: a3 :: a4 :: ww_k1 a5 :: v :: ww_U :: l := rfl
theorem s2_7 {a0 a1 a2 a3 a4 a5 a6 a7 a8 v : Value} {l : List Value} : ww_s2 (a0 :: a1 :: a2 :: a3 :: a4 :: a5 :: a6 :: a7 :: a8 :: l) 7 v = a0 :: a1 :: a2 :: a3 :: a4 :: a5 :: ww_k1 a6 :: v :: ww_U :: l := rfl
theorem s2_8 {a0 a1 a2 a3 a4 a5 a6 a7 a8 a9 v : Value} {l : List Value} : ww_s2 (a0 :: a1 :: a2 :: a3 :: a4 :: a5 :: a6 :: a7 :: a8 :: a9 :: l) 8 v = a0 :: a1 :: a2 :: a3 :: a4 :: a5 :: a6 :: ww_k1 a7 :: v :: ww_U :: l := rfl
theorem s2_9 {a0 a1 a2 a3 a4 a5 a6 a7 a8 a9 a10 v : Value} {l : List Value} : ww_s2 (a0 :: a1 :: a2 :: a3 :: a4 :: a5 :: a6 :: a7 :: a8 :: a9 :: a10 :: l) 9 v = a0 :: a1 :: a2 :: a3 :: a4 :: a5 :: a6 :: a7 :: ww_k1 a8 :: v :: ww_U :: l := rfl
theorem s2_10 {a0 a1 a2 a3 a4 a5 a6 a7 a8 a9 a10 a11 v : Value} {l : List Value} : ww_s2 (a0 :: a1 :: a2 :: a3 :: a4 :: a5 :: a6 :: a7 :: a8 :: a9 :: a10 :: a11 :: l) 10 v = a0 :: a1 :: a2 :: a3 :: a4 :: a5 :: a6 :: a7 :: a8 :: ww_k1 a9 :: v :: ww_U :: l := rfl
theorem li_i {x : Int32} : ww_li (some (.int x)) = some x := rfl
theorem lj_l {x : Int64} : ww_lj (some (.long x)) = some x := rfl
theorem lr_r {S : ww_S} {a : Nat} : ww_lr S (some (.ref a)) = some (.ref a) := rfl
theorem lr_s {q : Nat × (Nat → Int32)} : ww_lr (some q) (some (.retAddr 1)) = some (.retAddr 1) := rfl
theorem cat_i {x : Int32} : (Value.int x).category = 1 := rfl
theorem cat_l {x : Int64} : (Value.long x).category = 2 := rfl
theorem cat_r {x : Nat} : (Value.ref x).category = 1 := rfl
theorem cat_u {x : Nat} : (Value.retAddr x).category = 1 := rfl
theorem tv_i {t : Nat} {x : Int32} : ww_tv t (.int x) = (t == 0) := rfl
theorem tv_l {t : Nat} {x : Int64} : ww_tv t (.long x) = (t == 1) := rfl
theorem tv_r {t : Nat} {x : Nat} : ww_tv t (.ref x) = (t == 2) := rfl
theorem dT {h : Decidable True} : @decide True h = true := decide_eq_true trivial
theorem dF {h : Decidable False} : @decide False h = false := decide_eq_false (fun h => h)
theorem le_refl_T {a : Nat} : (a ≤ a) = True := eq_true (Nat.le_refl a)
theorem zero_le_T {a : Nat} : (0 ≤ a) = True := eq_true (Nat.zero_le a)
theorem zero_lt_T {a : Nat} : (0 < a + 1) = True := eq_true (Nat.succ_pos a)
theorem oi_m1 : Int32.ofInt (-1) = (-1) := rfl
theorem oi_0 : Int32.ofInt 0 = nI 0 := rfl
theorem oi_1 : Int32.ofInt 1 = nI 1 := rfl
theorem oi_2 : Int32.ofInt 2 = nI 2 := rfl
theorem oi_3 : Int32.ofInt 3 = nI 3 := rfl
theorem oi_4 : Int32.ofInt 4 = nI 4 := rfl
theorem oi_6 : Int32.ofInt 6 = nI 6 := rfl
theorem oi_8 : Int32.ofInt 8 = nI 8 := rfl
theorem oi_10 : Int32.ofInt 10 = nI 10 := rfl
theorem oi_12 : Int32.ofInt 12 = nI 12 := rfl
theorem oi_16 : Int32.ofInt 16 = nI 16 := rfl
theorem oi_24 : Int32.ofInt 24 = nI 24 := rfl
theorem oi_28 : Int32.ofInt 28 = nI 28 := rfl
theorem oi_31 : Int32.ofInt 31 = nI 31 := rfl
theorem oi_32 : Int32.ofInt 32 = nI 32 := rfl
theorem oi_40 : Int32.ofInt 40 = nI 40 := rfl
theorem oi_50 : Int32.ofInt 50 = nI 50 := rfl
theorem oi_60 : Int32.ofInt 60 = nI 60 := rfl
theorem oi_63 : Int32.ofInt 63 = nI 63 := rfl
theorem oi_100 : Int32.ofInt 100 = nI 100 := rfl
theorem oi_240 : Int32.ofInt 240 = nI 240 := rfl
theorem oi_400 : Int32.ofInt 400 = nI 400 := rfl
theorem oi_1000 : Int32.ofInt 1000 = nI 1000 := rfl
theorem oi_10000 : Int32.ofInt 10000 = nI 10000 := rfl
theorem oi_252645135 : Int32.ofInt 252645135 = nI 252645135 := rfl
theorem oi_858993459 : Int32.ofInt 858993459 = nI 858993459 := rfl
theorem oi_1431655765 : Int32.ofInt 1431655765 = nI 1431655765 := rfl
theorem ol_m1 : Int64.ofInt (-1) = (-1) := rfl
theorem ol_0 : Int64.ofInt 0 = lN 0 := rfl
theorem ol_1 : Int64.ofInt 1 = lN 1 := rfl
theorem ol_2 : Int64.ofInt 2 = lN 2 := rfl
theorem ol_30 : Int64.ofInt 30 = lN 30 := rfl
theorem ol_500 : Int64.ofInt 500 = lN 500 := rfl
theorem ol_1000 : Int64.ofInt 1000 = lN 1000 := rfl
theorem ol_1023 : Int64.ofInt 1023 = lN 1023 := rfl
theorem ol_2000 : Int64.ofInt 2000 = lN 2000 := rfl
theorem ol_4294967295 : Int64.ofInt 4294967295 = lN 4294967295 := rfl
theorem mc_0 : ww_mc 0 = 5 := rfl
theorem ms_0 : ww_ms 0 = 102 := rfl
theorem hh_0 : (ww_hh 0).isEmpty = true := rfl
theorem th_0 {pc e : Nat} {h : List ww_E} : ww_thr 0 pc e h = some (.inr e, h) := ww_thr_no hh_0 (by decide)
theorem mc_12 : ww_mc 12 = 1 := rfl
theorem ms_12 : ww_ms 12 = 32 := rfl
theorem hh_12 : (ww_hh 12).isEmpty = true := rfl
theorem th_12 {pc e : Nat} {h : List ww_E} : ww_thr 12 pc e h = some (.inr e, h) := ww_thr_no hh_12 (by decide)
theorem mc_32 : ww_mc 32 = 2 := rfl
theorem ms_32 : ww_ms 32 = 16 := rfl
theorem hh_32 : (ww_hh 32).isEmpty = true := rfl
theorem th_32 {pc e : Nat} {h : List ww_E} : ww_thr 32 pc e h = some (.inr e, h) := ww_thr_no hh_32 (by decide)
theorem mc_41 : ww_mc 41 = 6 := rfl
theorem ms_41 : ww_ms 41 = 68 := rfl
theorem hh_41 : (ww_hh 41).isEmpty = true := rfl
theorem th_41 {pc e : Nat} {h : List ww_E} : ww_thr 41 pc e h = some (.inr e, h) := ww_thr_no hh_41 (by decide)
theorem mc_42 : ww_mc 42 = 1 := rfl
theorem ms_42 : ww_ms 42 = 6 := rfl
theorem hh_42 : (ww_hh 42).isEmpty = true := rfl
theorem th_42 {pc e : Nat} {h : List ww_E} : ww_thr 42 pc e h = some (.inr e, h) := ww_thr_no hh_42 (by decide)
theorem mc_43 : ww_mc 43 = 3 := rfl
theorem ms_43 : ww_ms 43 = 18 := rfl
theorem hh_43 : (ww_hh 43).isEmpty = true := rfl
theorem th_43 {pc e : Nat} {h : List ww_E} : ww_thr 43 pc e h = some (.inr e, h) := ww_thr_no hh_43 (by decide)
theorem mc_44 : ww_mc 44 = 1 := rfl
theorem ms_44 : ww_ms 44 = 6 := rfl
theorem hh_44 : (ww_hh 44).isEmpty = true := rfl
theorem th_44 {pc e : Nat} {h : List ww_E} : ww_thr 44 pc e h = some (.inr e, h) := ww_thr_no hh_44 (by decide)
theorem mc_45 : ww_mc 45 = 8 := rfl
theorem ms_45 : ww_ms 45 = 124 := rfl
theorem hh_45 : (ww_hh 45).isEmpty = true := rfl
theorem th_45 {pc e : Nat} {h : List ww_E} : ww_thr 45 pc e h = some (.inr e, h) := ww_thr_no hh_45 (by decide)
theorem mc_46 : ww_mc 46 = 3 := rfl
theorem ms_46 : ww_ms 46 = 18 := rfl
theorem hh_46 : (ww_hh 46).isEmpty = true := rfl
theorem th_46 {pc e : Nat} {h : List ww_E} : ww_thr 46 pc e h = some (.inr e, h) := ww_thr_no hh_46 (by decide)
theorem mc_47 : ww_mc 47 = 2 := rfl
theorem ms_47 : ww_ms 47 = 12 := rfl
theorem hh_47 : (ww_hh 47).isEmpty = true := rfl
theorem th_47 {pc e : Nat} {h : List ww_E} : ww_thr 47 pc e h = some (.inr e, h) := ww_thr_no hh_47 (by decide)
theorem mc_48 : ww_mc 48 = 1 := rfl
theorem ms_48 : ww_ms 48 = 6 := rfl
theorem hh_48 : (ww_hh 48).isEmpty = true := rfl
theorem th_48 {pc e : Nat} {h : List ww_E} : ww_thr 48 pc e h = some (.inr e, h) := ww_thr_no hh_48 (by decide)
theorem mc_49 : ww_mc 49 = 1 := rfl
theorem ms_49 : ww_ms 49 = 6 := rfl
theorem hh_49 : (ww_hh 49).isEmpty = true := rfl
theorem th_49 {pc e : Nat} {h : List ww_E} : ww_thr 49 pc e h = some (.inr e, h) := ww_thr_no hh_49 (by decide)
theorem mc_50 : ww_mc 50 = 1 := rfl
theorem ms_50 : ww_ms 50 = 6 := rfl
theorem hh_50 : (ww_hh 50).isEmpty = true := rfl
theorem th_50 {pc e : Nat} {h : List ww_E} : ww_thr 50 pc e h = some (.inr e, h) := ww_thr_no hh_50 (by decide)
theorem mc_51 : ww_mc 51 = 1 := rfl
theorem ms_51 : ww_ms 51 = 6 := rfl
theorem hh_51 : (ww_hh 51).isEmpty = true := rfl
theorem th_51 {pc e : Nat} {h : List ww_E} : ww_thr 51 pc e h = some (.inr e, h) := ww_thr_no hh_51 (by decide)
theorem mc_52 : ww_mc 52 = 1 := rfl
theorem ms_52 : ww_ms 52 = 6 := rfl
theorem hh_52 : (ww_hh 52).isEmpty = true := rfl
theorem th_52 {pc e : Nat} {h : List ww_E} : ww_thr 52 pc e h = some (.inr e, h) := ww_thr_no hh_52 (by decide)
theorem mc_53 : ww_mc 53 = 1 := rfl
theorem ms_53 : ww_ms 53 = 6 := rfl
theorem hh_53 : (ww_hh 53).isEmpty = true := rfl
theorem th_53 {pc e : Nat} {h : List ww_E} : ww_thr 53 pc e h = some (.inr e, h) := ww_thr_no hh_53 (by decide)
theorem mc_54 : ww_mc 54 = 2 := rfl
theorem ms_54 : ww_ms 54 = 12 := rfl
theorem hh_54 : (ww_hh 54).isEmpty = true := rfl
theorem th_54 {pc e : Nat} {h : List ww_E} : ww_thr 54 pc e h = some (.inr e, h) := ww_thr_no hh_54 (by decide)
theorem mc_55 : ww_mc 55 = 2 := rfl
theorem ms_55 : ww_ms 55 = 12 := rfl
theorem hh_55 : (ww_hh 55).isEmpty = true := rfl
theorem th_55 {pc e : Nat} {h : List ww_E} : ww_thr 55 pc e h = some (.inr e, h) := ww_thr_no hh_55 (by decide)
theorem mc_56 : ww_mc 56 = 2 := rfl
theorem ms_56 : ww_ms 56 = 12 := rfl
theorem hh_56 : (ww_hh 56).isEmpty = true := rfl
theorem th_56 {pc e : Nat} {h : List ww_E} : ww_thr 56 pc e h = some (.inr e, h) := ww_thr_no hh_56 (by decide)
theorem mc_57 : ww_mc 57 = 2 := rfl
theorem ms_57 : ww_ms 57 = 12 := rfl
theorem hh_57 : (ww_hh 57).isEmpty = true := rfl
theorem th_57 {pc e : Nat} {h : List ww_E} : ww_thr 57 pc e h = some (.inr e, h) := ww_thr_no hh_57 (by decide)
theorem mc_58 : ww_mc 58 = 1 := rfl
theorem ms_58 : ww_ms 58 = 6 := rfl
theorem hh_58 : (ww_hh 58).isEmpty = true := rfl
theorem th_58 {pc e : Nat} {h : List ww_E} : ww_thr 58 pc e h = some (.inr e, h) := ww_thr_no hh_58 (by decide)
theorem mc_59 : ww_mc 59 = 2 := rfl
theorem ms_59 : ww_ms 59 = 12 := rfl
theorem hh_59 : (ww_hh 59).isEmpty = true := rfl
theorem th_59 {pc e : Nat} {h : List ww_E} : ww_thr 59 pc e h = some (.inr e, h) := ww_thr_no hh_59 (by decide)
theorem mc_60 : ww_mc 60 = 2 := rfl
theorem ms_60 : ww_ms 60 = 12 := rfl
theorem hh_60 : (ww_hh 60).isEmpty = true := rfl
theorem th_60 {pc e : Nat} {h : List ww_E} : ww_thr 60 pc e h = some (.inr e, h) := ww_thr_no hh_60 (by decide)
theorem mc_61 : ww_mc 61 = 2 := rfl
theorem ms_61 : ww_ms 61 = 12 := rfl
theorem hh_61 : (ww_hh 61).isEmpty = true := rfl
theorem th_61 {pc e : Nat} {h : List ww_E} : ww_thr 61 pc e h = some (.inr e, h) := ww_thr_no hh_61 (by decide)
theorem mc_62 : ww_mc 62 = 1 := rfl
theorem ms_62 : ww_ms 62 = 6 := rfl
theorem hh_62 : (ww_hh 62).isEmpty = true := rfl
theorem th_62 {pc e : Nat} {h : List ww_E} : ww_thr 62 pc e h = some (.inr e, h) := ww_thr_no hh_62 (by decide)
theorem mc_63 : ww_mc 63 = 1 := rfl
theorem ms_63 : ww_ms 63 = 6 := rfl
theorem hh_63 : (ww_hh 63).isEmpty = true := rfl
theorem th_63 {pc e : Nat} {h : List ww_E} : ww_thr 63 pc e h = some (.inr e, h) := ww_thr_no hh_63 (by decide)
theorem mc_64 : ww_mc 64 = 1 := rfl
theorem ms_64 : ww_ms 64 = 6 := rfl
theorem hh_64 : (ww_hh 64).isEmpty = true := rfl
theorem th_64 {pc e : Nat} {h : List ww_E} : ww_thr 64 pc e h = some (.inr e, h) := ww_thr_no hh_64 (by decide)
theorem mc_65 : ww_mc 65 = 2 := rfl
theorem ms_65 : ww_ms 65 = 12 := rfl
theorem hh_65 : (ww_hh 65).isEmpty = true := rfl
theorem th_65 {pc e : Nat} {h : List ww_E} : ww_thr 65 pc e h = some (.inr e, h) := ww_thr_no hh_65 (by decide)
theorem mc_68 : ww_mc 68 = 23 := rfl
theorem ms_68 : ww_ms 68 = 1466 := rfl
theorem hh_68 : (ww_hh 68).isEmpty = true := rfl
theorem th_68 {pc e : Nat} {h : List ww_E} : ww_thr 68 pc e h = some (.inr e, h) := ww_thr_no hh_68 (by decide)
theorem mc_107 : ww_mc 107 = 1 := rfl
theorem ms_107 : ww_ms 107 = 6 := rfl
theorem th_107_0 {h : List ww_E} : ww_thr 107 3 0 h = some (.inl (some (.int (nI 1))), h) := ww_thr_yes (M := 107) (pc := 3) (e := 0) (v := 1) rfl (by decide +kernel)
theorem mc_108 : ww_mc 108 = 3 := rfl
theorem ms_108 : ww_ms 108 = 18 := rfl
theorem th_108_2 {h : List ww_E} : ww_thr 108 7 2 h = some (.inl (some (.int (nI 1))), h) := ww_thr_yes (M := 108) (pc := 7) (e := 2) (v := 1) rfl (by decide +kernel)
theorem th_108_1 {h : List ww_E} : ww_thr 108 7 1 h = some (.inl (some (.int (nI 2))), h) := ww_thr_yes (M := 108) (pc := 7) (e := 1) (v := 2) rfl (by decide +kernel)
theorem th_108_0 {h : List ww_E} : ww_thr 108 7 0 h = some (.inl (some (.int (nI 3))), h) := ww_thr_yes (M := 108) (pc := 7) (e := 0) (v := 3) rfl (by decide +kernel)
theorem mc_109 : ww_mc 109 = 1 := rfl
theorem ms_109 : ww_ms 109 = 6 := rfl
theorem th_109_2 {h : List ww_E} : ww_thr 109 5 2 h = some (.inl (some (.int (nI 1))), h) := ww_thr_yes (M := 109) (pc := 5) (e := 2) (v := 1) rfl (by decide +kernel)
theorem mc_110 : ww_mc 110 = 8 := rfl
theorem ms_110 : ww_ms 110 = 124 := rfl
theorem th_110_2 {h : List ww_E} : ww_thr 110 4 2 h = some (.inl (some (.int (nI 1))), h) := ww_thr_yes (M := 110) (pc := 4) (e := 2) (v := 1) rfl (by decide +kernel)
theorem th_110_0 {h : List ww_E} : ww_thr 110 4 0 h = some (.inl (some (.int (nI 2))), h) := ww_thr_yes (M := 110) (pc := 4) (e := 0) (v := 2) rfl (by decide +kernel)
theorem mc_111 : ww_mc 111 = 3 := rfl
theorem ms_111 : ww_ms 111 = 18 := rfl
theorem th_111_2 {h : List ww_E} : ww_thr 111 7 2 h = some (.inl (some (.int (nI 1))), h) := ww_thr_yes (M := 111) (pc := 7) (e := 2) (v := 1) rfl (by decide +kernel)
theorem th_111_3 {h : List ww_E} : ww_thr 111 7 3 h = some (.inl (some (.int (nI 2))), h) := ww_thr_yes (M := 111) (pc := 7) (e := 3) (v := 2) rfl (by decide +kernel)
theorem th_111_0 {h : List ww_E} : ww_thr 111 7 0 h = some (.inl (some (.int (nI 3))), h) := ww_thr_yes (M := 111) (pc := 7) (e := 0) (v := 3) rfl (by decide +kernel)
theorem mc_112 : ww_mc 112 = 2 := rfl
theorem ms_112 : ww_ms 112 = 12 := rfl
theorem th_112_2 {h : List ww_E} : ww_thr 112 7 2 h = some (.inl (some (.int (nI 1))), h) := ww_thr_yes (M := 112) (pc := 7) (e := 2) (v := 1) rfl (by decide +kernel)
theorem th_112_3 {h : List ww_E} : ww_thr 112 7 3 h = some (.inl (some (.int (nI 2))), h) := ww_thr_yes (M := 112) (pc := 7) (e := 3) (v := 2) rfl (by decide +kernel)
theorem mc_113 : ww_mc 113 = 1 := rfl
theorem ms_113 : ww_ms 113 = 6 := rfl
theorem th_113_2 {h : List ww_E} : ww_thr 113 4 2 h = some (.inl (some (.int (nI 1))), h) := ww_thr_yes (M := 113) (pc := 4) (e := 2) (v := 1) rfl (by decide +kernel)
theorem mc_114 : ww_mc 114 = 1 := rfl
theorem ms_114 : ww_ms 114 = 6 := rfl
theorem th_114_2 {h : List ww_E} : ww_thr 114 4 2 h = some (.inl (some (.int (nI 1))), h) := ww_thr_yes (M := 114) (pc := 4) (e := 2) (v := 1) rfl (by decide +kernel)
theorem mc_115 : ww_mc 115 = 1 := rfl
theorem ms_115 : ww_ms 115 = 6 := rfl
theorem th_115_2 {h : List ww_E} : ww_thr 115 5 2 h = some (.inl (some (.int (nI 1))), h) := ww_thr_yes (M := 115) (pc := 5) (e := 2) (v := 1) rfl (by decide +kernel)
theorem mc_116 : ww_mc 116 = 1 := rfl
theorem ms_116 : ww_ms 116 = 6 := rfl
theorem th_116_2 {h : List ww_E} : ww_thr 116 4 2 h = some (.inl (some (.int (nI 1))), h) := ww_thr_yes (M := 116) (pc := 4) (e := 2) (v := 1) rfl (by decide +kernel)
theorem mc_117 : ww_mc 117 = 1 := rfl
theorem ms_117 : ww_ms 117 = 6 := rfl
theorem th_117_2 {h : List ww_E} : ww_thr 117 4 2 h = some (.inl (some (.int (nI 1))), h) := ww_thr_yes (M := 117) (pc := 4) (e := 2) (v := 1) rfl (by decide +kernel)
theorem mc_118 : ww_mc 118 = 1 := rfl
theorem ms_118 : ww_ms 118 = 6 := rfl
theorem th_118_1 {h : List ww_E} : ww_thr 118 4 1 h = some (.inl (some (.int (nI 1))), h) := ww_thr_yes (M := 118) (pc := 4) (e := 1) (v := 1) rfl (by decide +kernel)
theorem mc_119 : ww_mc 119 = 2 := rfl
theorem ms_119 : ww_ms 119 = 12 := rfl
theorem th_119_2 {h : List ww_E} : ww_thr 119 7 2 h = some (.inl (some (.int (nI 1))), h) := ww_thr_yes (M := 119) (pc := 7) (e := 2) (v := 1) rfl (by decide +kernel)
theorem th_119_1 {h : List ww_E} : ww_thr 119 7 1 h = some (.inl (some (.int (nI 2))), h) := ww_thr_yes (M := 119) (pc := 7) (e := 1) (v := 2) rfl (by decide +kernel)
theorem th_119_0 {h : List ww_E} : ww_thr 119 7 0 h = some (.inl (some (.int (nI 3))), h) := ww_thr_yes (M := 119) (pc := 7) (e := 0) (v := 3) rfl (by decide +kernel)
theorem mc_120 : ww_mc 120 = 2 := rfl
theorem ms_120 : ww_ms 120 = 12 := rfl
theorem th_120_2 {h : List ww_E} : ww_thr 120 5 2 h = some (.inl (some (.int (nI 1))), h) := ww_thr_yes (M := 120) (pc := 5) (e := 2) (v := 1) rfl (by decide +kernel)
theorem th_120_0 {h : List ww_E} : ww_thr 120 5 0 h = some (.inl (some (.int (nI 2))), h) := ww_thr_yes (M := 120) (pc := 5) (e := 0) (v := 2) rfl (by decide +kernel)
theorem th_120_1 {h : List ww_E} : ww_thr 120 5 1 h = some (.inl (some (.int (nI 3))), h) := ww_thr_yes (M := 120) (pc := 5) (e := 1) (v := 3) rfl (by decide +kernel)
theorem mc_121 : ww_mc 121 = 2 := rfl
theorem ms_121 : ww_ms 121 = 12 := rfl
theorem th_121_2 {h : List ww_E} : ww_thr 121 7 2 h = some (.inl (some (.int (nI 1))), h) := ww_thr_yes (M := 121) (pc := 7) (e := 2) (v := 1) rfl (by decide +kernel)
theorem th_121_3 {h : List ww_E} : ww_thr 121 7 3 h = some (.inl (some (.int (nI 2))), h) := ww_thr_yes (M := 121) (pc := 7) (e := 3) (v := 2) rfl (by decide +kernel)
theorem th_121_1 {h : List ww_E} : ww_thr 121 7 1 h = some (.inl (some (.int (nI 3))), h) := ww_thr_yes (M := 121) (pc := 7) (e := 1) (v := 3) rfl (by decide +kernel)
theorem mc_122 : ww_mc 122 = 2 := rfl
theorem ms_122 : ww_ms 122 = 12 := rfl
theorem th_122_2 {h : List ww_E} : ww_thr 122 7 2 h = some (.inl (some (.int (nI 1))), h) := ww_thr_yes (M := 122) (pc := 7) (e := 2) (v := 1) rfl (by decide +kernel)
theorem th_122_1 {h : List ww_E} : ww_thr 122 7 1 h = some (.inl (some (.int (nI 2))), h) := ww_thr_yes (M := 122) (pc := 7) (e := 1) (v := 2) rfl (by decide +kernel)
theorem th_122_3 {h : List ww_E} : ww_thr 122 7 3 h = some (.inl (some (.int (nI 3))), h) := ww_thr_yes (M := 122) (pc := 7) (e := 3) (v := 3) rfl (by decide +kernel)
theorem mc_123 : ww_mc 123 = 1 := rfl
theorem ms_123 : ww_ms 123 = 6 := rfl
theorem th_123_1 {h : List ww_E} : ww_thr 123 6 1 h = some (.inl (some (.int (nI 1))), h) := ww_thr_yes (M := 123) (pc := 6) (e := 1) (v := 1) rfl (by decide +kernel)
theorem th_123_0 {h : List ww_E} : ww_thr 123 6 0 h = some (.inl (some (.int (nI 2))), h) := ww_thr_yes (M := 123) (pc := 6) (e := 0) (v := 2) rfl (by decide +kernel)
theorem mc_124 : ww_mc 124 = 2 := rfl
theorem ms_124 : ww_ms 124 = 12 := rfl
theorem th_124_2 {h : List ww_E} : ww_thr 124 5 2 h = some (.inl (some (.int (nI 1))), h) := ww_thr_yes (M := 124) (pc := 5) (e := 2) (v := 1) rfl (by decide +kernel)
theorem th_124_1 {h : List ww_E} : ww_thr 124 5 1 h = some (.inl (some (.int (nI 2))), h) := ww_thr_yes (M := 124) (pc := 5) (e := 1) (v := 2) rfl (by decide +kernel)
theorem th_124_0 {h : List ww_E} : ww_thr 124 5 0 h = some (.inl (some (.int (nI 3))), h) := ww_thr_yes (M := 124) (pc := 5) (e := 0) (v := 3) rfl (by decide +kernel)
theorem th_124_3 {h : List ww_E} : ww_thr 124 5 3 h = some (.inl (some (.int (nI 4))), h) := ww_thr_yes (M := 124) (pc := 5) (e := 3) (v := 4) rfl (by decide +kernel)
theorem mc_125 : ww_mc 125 = 2 := rfl
theorem ms_125 : ww_ms 125 = 12 := rfl
theorem th_125_2 {h : List ww_E} : ww_thr 125 4 2 h = some (.inl (some (.int (nI 1))), h) := ww_thr_yes (M := 125) (pc := 4) (e := 2) (v := 1) rfl (by decide +kernel)
theorem th_125_3 {h : List ww_E} : ww_thr 125 4 3 h = some (.inl (some (.int (nI 2))), h) := ww_thr_yes (M := 125) (pc := 4) (e := 3) (v := 2) rfl (by decide +kernel)
theorem mc_126 : ww_mc 126 = 2 := rfl
theorem ms_126 : ww_ms 126 = 12 := rfl
theorem th_126_2 {h : List ww_E} : ww_thr 126 5 2 h = some (.inl (some (.int (nI 1))), h) := ww_thr_yes (M := 126) (pc := 5) (e := 2) (v := 1) rfl (by decide +kernel)
theorem th_126_1 {h : List ww_E} : ww_thr 126 5 1 h = some (.inl (some (.int (nI 2))), h) := ww_thr_yes (M := 126) (pc := 5) (e := 1) (v := 2) rfl (by decide +kernel)
theorem mc_127 : ww_mc 127 = 601024 := rfl
theorem ms_127 : ww_ms 127 = 7293034 := rfl
theorem cc_41_12 {S : ww_S} {len pc k n : Nat} {L r : List Value} {h : List ww_E} {Q : ww_R → Prop} {x0 : Nat} (hb1 : k + 1 ≤ 6) (hb2 : n + 32 ≤ 68) : ww_X (some (.invokespecial 12, len)) S 41 pc L (.ref x0 :: r) h k n Q = ((r.map (fun v => v.category)).sum ≤ 8 ∧ ww_rc h x0 1 ∧ ww_V 12 [.ref x0] h (ww_kc S 41 pc len L r (k + 1) (n + 32) Q)) := c_12 ⟨hb1, hb2⟩
theorem cc_41_32 {S : ww_S} {len pc k n : Nat} {L r : List Value} {h : List ww_E} {Q : ww_R → Prop} {x0 : Nat} (hb1 : k + 2 ≤ 6) (hb2 : n + 16 ≤ 68) : ww_X (some (.invokespecial 32, len)) S 41 pc L (.ref x0 :: r) h k n Q = ((r.map (fun v => v.category)).sum ≤ 8 ∧ ww_rc h x0 2 ∧ ww_V 32 [.ref x0] h (ww_kc S 41 pc len L r (k + 2) (n + 16) Q)) := c_32 ⟨hb1, hb2⟩
theorem cc_43_62 {S : ww_S} {len pc k n : Nat} {L r : List Value} {h : List ww_E} {Q : ww_R → Prop} {x0 : Nat} {x1 : Int32} (hb1 : k + 1 ≤ 3) (hb2 : n + 6 ≤ 18) : ww_X (some (.invokevirtual 62, len)) S 43 pc L (.int x1 :: .ref x0 :: r) h k n Q = ((r.map (fun v => v.category)).sum ≤ 8 ∧ ww_rc h x0 0 ∧ ww_V 62 [.ref x0, .int x1] h (ww_kc S 43 pc len L r (k + 1) (n + 6) Q)) := c_62 ⟨hb1, hb2⟩
theorem cc_44_62 {S : ww_S} {len pc k n : Nat} {L r : List Value} {h : List ww_E} {Q : ww_R → Prop} {x0 : Nat} {x1 : Int32} (hb1 : k + 1 ≤ 1) (hb2 : n + 6 ≤ 6) : ww_X (some (.invokevirtual 62, len)) S 44 pc L (.int x1 :: .ref x0 :: r) h k n Q = ((r.map (fun v => v.category)).sum ≤ 8 ∧ ww_rc h x0 0 ∧ ww_V 62 [.ref x0, .int x1] h (ww_kc S 44 pc len L r (k + 1) (n + 6) Q)) := c_62 ⟨hb1, hb2⟩
theorem cc_45_62 {S : ww_S} {len pc k n : Nat} {L r : List Value} {h : List ww_E} {Q : ww_R → Prop} {x0 : Nat} {x1 : Int32} (hb1 : k + 1 ≤ 8) (hb2 : n + 6 ≤ 124) : ww_X (some (.invokevirtual 62, len)) S 45 pc L (.int x1 :: .ref x0 :: r) h k n Q = ((r.map (fun v => v.category)).sum ≤ 8 ∧ ww_rc h x0 0 ∧ ww_V 62 [.ref x0, .int x1] h (ww_kc S 45 pc len L r (k + 1) (n + 6) Q)) := c_62 ⟨hb1, hb2⟩
theorem cc_45_0 {S : ww_S} {len pc k n : Nat} {L r : List Value} {h : List ww_E} {Q : ww_R → Prop} {x0 : Nat} {x1 : Int32} (hb1 : k + 5 ≤ 8) (hb2 : n + 102 ≤ 124) : ww_X (some (.invokespecial 0, len)) S 45 pc L (.int x1 :: .ref x0 :: r) h k n Q = ((r.map (fun v => v.category)).sum ≤ 8 ∧ ww_rc h x0 3 ∧ ww_V 0 [.ref x0, .int x1] h (ww_kc S 45 pc len L r (k + 5) (n + 102) Q)) := c_0 ⟨hb1, hb2⟩
theorem cc_46_65 {S : ww_S} {len pc k n : Nat} {L r : List Value} {h : List ww_E} {Q : ww_R → Prop} {x0 : Nat} {x1 : Int32} {x2 : Int32} (hb1 : k + 2 ≤ 3) (hb2 : n + 12 ≤ 18) : ww_X (some (.invokevirtual 65, len)) S 46 pc L (.int x2 :: .int x1 :: .ref x0 :: r) h k n Q = ((r.map (fun v => v.category)).sum ≤ 8 ∧ ww_rc h x0 0 ∧ ww_V 65 [.ref x0, .int x1, .int x2] h (ww_kc S 46 pc len L r (k + 2) (n + 12) Q)) := c_65 ⟨hb1, hb2⟩
theorem cc_47_65 {S : ww_S} {len pc k n : Nat} {L r : List Value} {h : List ww_E} {Q : ww_R → Prop} {x0 : Nat} {x1 : Int32} {x2 : Int32} (hb1 : k + 2 ≤ 2) (hb2 : n + 12 ≤ 12) : ww_X (some (.invokevirtual 65, len)) S 47 pc L (.int x2 :: .int x1 :: .ref x0 :: r) h k n Q = ((r.map (fun v => v.category)).sum ≤ 8 ∧ ww_rc h x0 0 ∧ ww_V 65 [.ref x0, .int x1, .int x2] h (ww_kc S 47 pc len L r (k + 2) (n + 12) Q)) := c_65 ⟨hb1, hb2⟩
theorem cc_48_64 {S : ww_S} {len pc k n : Nat} {L r : List Value} {h : List ww_E} {Q : ww_R → Prop} {x0 : Nat} {x1 : Int32} (hb1 : k + 1 ≤ 1) (hb2 : n + 6 ≤ 6) : ww_X (some (.invokevirtual 64, len)) S 48 pc L (.int x1 :: .ref x0 :: r) h k n Q = ((r.map (fun v => v.category)).sum ≤ 8 ∧ ww_rc h x0 0 ∧ ww_V 64 [.ref x0, .int x1] h (ww_kc S 48 pc len L r (k + 1) (n + 6) Q)) := c_64 ⟨hb1, hb2⟩
theorem cc_49_63 {S : ww_S} {len pc k n : Nat} {L r : List Value} {h : List ww_E} {Q : ww_R → Prop} {x0 : Nat} {x1 : Int32} (hb1 : k + 1 ≤ 1) (hb2 : n + 6 ≤ 6) : ww_X (some (.invokevirtual 63, len)) S 49 pc L (.int x1 :: .ref x0 :: r) h k n Q = ((r.map (fun v => v.category)).sum ≤ 8 ∧ ww_rc h x0 0 ∧ ww_V 63 [.ref x0, .int x1] h (ww_kc S 49 pc len L r (k + 1) (n + 6) Q)) := c_63 ⟨hb1, hb2⟩
theorem cc_50_63 {S : ww_S} {len pc k n : Nat} {L r : List Value} {h : List ww_E} {Q : ww_R → Prop} {x0 : Nat} {x1 : Int32} (hb1 : k + 1 ≤ 1) (hb2 : n + 6 ≤ 6) : ww_X (some (.invokevirtual 63, len)) S 50 pc L (.int x1 :: .ref x0 :: r) h k n Q = ((r.map (fun v => v.category)).sum ≤ 8 ∧ ww_rc h x0 0 ∧ ww_V 63 [.ref x0, .int x1] h (ww_kc S 50 pc len L r (k + 1) (n + 6) Q)) := c_63 ⟨hb1, hb2⟩
theorem cc_51_63 {S : ww_S} {len pc k n : Nat} {L r : List Value} {h : List ww_E} {Q : ww_R → Prop} {x0 : Nat} {x1 : Int32} (hb1 : k + 1 ≤ 1) (hb2 : n + 6 ≤ 6) : ww_X (some (.invokevirtual 63, len)) S 51 pc L (.int x1 :: .ref x0 :: r) h k n Q = ((r.map (fun v => v.category)).sum ≤ 8 ∧ ww_rc h x0 0 ∧ ww_V 63 [.ref x0, .int x1] h (ww_kc S 51 pc len L r (k + 1) (n + 6) Q)) := c_63 ⟨hb1, hb2⟩
theorem cc_52_63 {S : ww_S} {len pc k n : Nat} {L r : List Value} {h : List ww_E} {Q : ww_R → Prop} {x0 : Nat} {x1 : Int32} (hb1 : k + 1 ≤ 1) (hb2 : n + 6 ≤ 6) : ww_X (some (.invokevirtual 63, len)) S 52 pc L (.int x1 :: .ref x0 :: r) h k n Q = ((r.map (fun v => v.category)).sum ≤ 8 ∧ ww_rc h x0 0 ∧ ww_V 63 [.ref x0, .int x1] h (ww_kc S 52 pc len L r (k + 1) (n + 6) Q)) := c_63 ⟨hb1, hb2⟩
theorem cc_54_64 {S : ww_S} {len pc k n : Nat} {L r : List Value} {h : List ww_E} {Q : ww_R → Prop} {x0 : Nat} {x1 : Int32} (hb1 : k + 1 ≤ 2) (hb2 : n + 6 ≤ 12) : ww_X (some (.invokevirtual 64, len)) S 54 pc L (.int x1 :: .ref x0 :: r) h k n Q = ((r.map (fun v => v.category)).sum ≤ 8 ∧ ww_rc h x0 0 ∧ ww_V 64 [.ref x0, .int x1] h (ww_kc S 54 pc len L r (k + 1) (n + 6) Q)) := c_64 ⟨hb1, hb2⟩
theorem cc_55_64 {S : ww_S} {len pc k n : Nat} {L r : List Value} {h : List ww_E} {Q : ww_R → Prop} {x0 : Nat} {x1 : Int32} (hb1 : k + 1 ≤ 2) (hb2 : n + 6 ≤ 12) : ww_X (some (.invokevirtual 64, len)) S 55 pc L (.int x1 :: .ref x0 :: r) h k n Q = ((r.map (fun v => v.category)).sum ≤ 8 ∧ ww_rc h x0 0 ∧ ww_V 64 [.ref x0, .int x1] h (ww_kc S 55 pc len L r (k + 1) (n + 6) Q)) := c_64 ⟨hb1, hb2⟩
theorem cc_56_64 {S : ww_S} {len pc k n : Nat} {L r : List Value} {h : List ww_E} {Q : ww_R → Prop} {x0 : Nat} {x1 : Int32} (hb1 : k + 1 ≤ 2) (hb2 : n + 6 ≤ 12) : ww_X (some (.invokevirtual 64, len)) S 56 pc L (.int x1 :: .ref x0 :: r) h k n Q = ((r.map (fun v => v.category)).sum ≤ 8 ∧ ww_rc h x0 0 ∧ ww_V 64 [.ref x0, .int x1] h (ww_kc S 56 pc len L r (k + 1) (n + 6) Q)) := c_64 ⟨hb1, hb2⟩
theorem cc_57_64 {S : ww_S} {len pc k n : Nat} {L r : List Value} {h : List ww_E} {Q : ww_R → Prop} {x0 : Nat} {x1 : Int32} (hb1 : k + 1 ≤ 2) (hb2 : n + 6 ≤ 12) : ww_X (some (.invokevirtual 64, len)) S 57 pc L (.int x1 :: .ref x0 :: r) h k n Q = ((r.map (fun v => v.category)).sum ≤ 8 ∧ ww_rc h x0 0 ∧ ww_V 64 [.ref x0, .int x1] h (ww_kc S 57 pc len L r (k + 1) (n + 6) Q)) := c_64 ⟨hb1, hb2⟩
theorem cc_59_64 {S : ww_S} {len pc k n : Nat} {L r : List Value} {h : List ww_E} {Q : ww_R → Prop} {x0 : Nat} {x1 : Int32} (hb1 : k + 1 ≤ 2) (hb2 : n + 6 ≤ 12) : ww_X (some (.invokevirtual 64, len)) S 59 pc L (.int x1 :: .ref x0 :: r) h k n Q = ((r.map (fun v => v.category)).sum ≤ 8 ∧ ww_rc h x0 0 ∧ ww_V 64 [.ref x0, .int x1] h (ww_kc S 59 pc len L r (k + 1) (n + 6) Q)) := c_64 ⟨hb1, hb2⟩
theorem cc_60_64 {S : ww_S} {len pc k n : Nat} {L r : List Value} {h : List ww_E} {Q : ww_R → Prop} {x0 : Nat} {x1 : Int32} (hb1 : k + 1 ≤ 2) (hb2 : n + 6 ≤ 12) : ww_X (some (.invokevirtual 64, len)) S 60 pc L (.int x1 :: .ref x0 :: r) h k n Q = ((r.map (fun v => v.category)).sum ≤ 8 ∧ ww_rc h x0 0 ∧ ww_V 64 [.ref x0, .int x1] h (ww_kc S 60 pc len L r (k + 1) (n + 6) Q)) := c_64 ⟨hb1, hb2⟩
theorem cc_61_64 {S : ww_S} {len pc k n : Nat} {L r : List Value} {h : List ww_E} {Q : ww_R → Prop} {x0 : Nat} {x1 : Int32} (hb1 : k + 1 ≤ 2) (hb2 : n + 6 ≤ 12) : ww_X (some (.invokevirtual 64, len)) S 61 pc L (.int x1 :: .ref x0 :: r) h k n Q = ((r.map (fun v => v.category)).sum ≤ 8 ∧ ww_rc h x0 0 ∧ ww_V 64 [.ref x0, .int x1] h (ww_kc S 61 pc len L r (k + 1) (n + 6) Q)) := c_64 ⟨hb1, hb2⟩
theorem cc_65_63 {S : ww_S} {len pc k n : Nat} {L r : List Value} {h : List ww_E} {Q : ww_R → Prop} {x0 : Nat} {x1 : Int32} (hb1 : k + 1 ≤ 2) (hb2 : n + 6 ≤ 12) : ww_X (some (.invokevirtual 63, len)) S 65 pc L (.int x1 :: .ref x0 :: r) h k n Q = ((r.map (fun v => v.category)).sum ≤ 8 ∧ ww_rc h x0 0 ∧ ww_V 63 [.ref x0, .int x1] h (ww_kc S 65 pc len L r (k + 1) (n + 6) Q)) := c_63 ⟨hb1, hb2⟩
theorem cc_107_42 {S : ww_S} {len pc k n : Nat} {L r : List Value} {h : List ww_E} {Q : ww_R → Prop} {x0 : Nat} (hb1 : k + 1 ≤ 1) (hb2 : n + 6 ≤ 6) : ww_X (some (.invokevirtual 42, len)) S 107 pc L (.ref x0 :: r) h k n Q = ((r.map (fun v => v.category)).sum ≤ 8 ∧ ww_rc h x0 0 ∧ ww_V 42 [.ref x0] h (ww_kc S 107 pc len L r (k + 1) (n + 6) Q)) := c_42 ⟨hb1, hb2⟩
theorem cc_108_43 {S : ww_S} {len pc k n : Nat} {L r : List Value} {h : List ww_E} {Q : ww_R → Prop} {x0 : Nat} {x1 : Int32} {x2 : Int32} {x3 : Int32} (hb1 : k + 3 ≤ 3) (hb2 : n + 18 ≤ 18) : ww_X (some (.invokevirtual 43, len)) S 108 pc L (.int x3 :: .int x2 :: .int x1 :: .ref x0 :: r) h k n Q = ((r.map (fun v => v.category)).sum ≤ 8 ∧ ww_rc h x0 0 ∧ ww_V 43 [.ref x0, .int x1, .int x2, .int x3] h (ww_kc S 108 pc len L r (k + 3) (n + 18) Q)) := c_43 ⟨hb1, hb2⟩
theorem cc_109_44 {S : ww_S} {len pc k n : Nat} {L r : List Value} {h : List ww_E} {Q : ww_R → Prop} {x0 : Nat} {x1 : Int32} {x2 : Int32} (hb1 : k + 1 ≤ 1) (hb2 : n + 6 ≤ 6) : ww_X (some (.invokevirtual 44, len)) S 109 pc L (.int x2 :: .int x1 :: .ref x0 :: r) h k n Q = ((r.map (fun v => v.category)).sum ≤ 8 ∧ ww_rc h x0 0 ∧ ww_V 44 [.ref x0, .int x1, .int x2] h (ww_kc S 109 pc len L r (k + 1) (n + 6) Q)) := c_44 ⟨hb1, hb2⟩
theorem cc_110_45 {S : ww_S} {len pc k n : Nat} {L r : List Value} {h : List ww_E} {Q : ww_R → Prop} {x0 : Nat} {x1 : Int32} (hb1 : k + 8 ≤ 8) (hb2 : n + 124 ≤ 124) : ww_X (some (.invokevirtual 45, len)) S 110 pc L (.int x1 :: .ref x0 :: r) h k n Q = ((r.map (fun v => v.category)).sum ≤ 8 ∧ ww_rc h x0 0 ∧ ww_V 45 [.ref x0, .int x1] h (ww_kc S 110 pc len L r (k + 8) (n + 124) Q)) := c_45 ⟨hb1, hb2⟩
theorem cc_111_46 {S : ww_S} {len pc k n : Nat} {L r : List Value} {h : List ww_E} {Q : ww_R → Prop} {x0 : Nat} {x1 : Int32} {x2 : Int32} {x3 : Int32} (hb1 : k + 3 ≤ 3) (hb2 : n + 18 ≤ 18) : ww_X (some (.invokevirtual 46, len)) S 111 pc L (.int x3 :: .int x2 :: .int x1 :: .ref x0 :: r) h k n Q = ((r.map (fun v => v.category)).sum ≤ 8 ∧ ww_rc h x0 0 ∧ ww_V 46 [.ref x0, .int x1, .int x2, .int x3] h (ww_kc S 111 pc len L r (k + 3) (n + 18) Q)) := c_46 ⟨hb1, hb2⟩
theorem cc_112_47 {S : ww_S} {len pc k n : Nat} {L r : List Value} {h : List ww_E} {Q : ww_R → Prop} {x0 : Nat} {x1 : Int32} {x2 : Int32} {x3 : Int32} (hb1 : k + 2 ≤ 2) (hb2 : n + 12 ≤ 12) : ww_X (some (.invokevirtual 47, len)) S 112 pc L (.int x3 :: .int x2 :: .int x1 :: .ref x0 :: r) h k n Q = ((r.map (fun v => v.category)).sum ≤ 8 ∧ ww_rc h x0 0 ∧ ww_V 47 [.ref x0, .int x1, .int x2, .int x3] h (ww_kc S 112 pc len L r (k + 2) (n + 12) Q)) := c_47 ⟨hb1, hb2⟩
theorem cc_113_48 {S : ww_S} {len pc k n : Nat} {L r : List Value} {h : List ww_E} {Q : ww_R → Prop} {x0 : Nat} {x1 : Int32} (hb1 : k + 1 ≤ 1) (hb2 : n + 6 ≤ 6) : ww_X (some (.invokevirtual 48, len)) S 113 pc L (.int x1 :: .ref x0 :: r) h k n Q = ((r.map (fun v => v.category)).sum ≤ 8 ∧ ww_rc h x0 0 ∧ ww_V 48 [.ref x0, .int x1] h (ww_kc S 113 pc len L r (k + 1) (n + 6) Q)) := c_48 ⟨hb1, hb2⟩
theorem cc_114_49 {S : ww_S} {len pc k n : Nat} {L r : List Value} {h : List ww_E} {Q : ww_R → Prop} {x0 : Nat} {x1 : Int32} (hb1 : k + 1 ≤ 1) (hb2 : n + 6 ≤ 6) : ww_X (some (.invokevirtual 49, len)) S 114 pc L (.int x1 :: .ref x0 :: r) h k n Q = ((r.map (fun v => v.category)).sum ≤ 8 ∧ ww_rc h x0 0 ∧ ww_V 49 [.ref x0, .int x1] h (ww_kc S 114 pc len L r (k + 1) (n + 6) Q)) := c_49 ⟨hb1, hb2⟩
theorem cc_115_50 {S : ww_S} {len pc k n : Nat} {L r : List Value} {h : List ww_E} {Q : ww_R → Prop} {x0 : Nat} {x1 : Int32} {x2 : Int32} (hb1 : k + 1 ≤ 1) (hb2 : n + 6 ≤ 6) : ww_X (some (.invokevirtual 50, len)) S 115 pc L (.int x2 :: .int x1 :: .ref x0 :: r) h k n Q = ((r.map (fun v => v.category)).sum ≤ 8 ∧ ww_rc h x0 0 ∧ ww_V 50 [.ref x0, .int x1, .int x2] h (ww_kc S 115 pc len L r (k + 1) (n + 6) Q)) := c_50 ⟨hb1, hb2⟩
theorem cc_116_51 {S : ww_S} {len pc k n : Nat} {L r : List Value} {h : List ww_E} {Q : ww_R → Prop} {x0 : Nat} {x1 : Int32} (hb1 : k + 1 ≤ 1) (hb2 : n + 6 ≤ 6) : ww_X (some (.invokevirtual 51, len)) S 116 pc L (.int x1 :: .ref x0 :: r) h k n Q = ((r.map (fun v => v.category)).sum ≤ 8 ∧ ww_rc h x0 0 ∧ ww_V 51 [.ref x0, .int x1] h (ww_kc S 116 pc len L r (k + 1) (n + 6) Q)) := c_51 ⟨hb1, hb2⟩
theorem cc_117_52 {S : ww_S} {len pc k n : Nat} {L r : List Value} {h : List ww_E} {Q : ww_R → Prop} {x0 : Nat} {x1 : Int32} (hb1 : k + 1 ≤ 1) (hb2 : n + 6 ≤ 6) : ww_X (some (.invokevirtual 52, len)) S 117 pc L (.int x1 :: .ref x0 :: r) h k n Q = ((r.map (fun v => v.category)).sum ≤ 8 ∧ ww_rc h x0 0 ∧ ww_V 52 [.ref x0, .int x1] h (ww_kc S 117 pc len L r (k + 1) (n + 6) Q)) := c_52 ⟨hb1, hb2⟩
theorem cc_118_53 {S : ww_S} {len pc k n : Nat} {L r : List Value} {h : List ww_E} {Q : ww_R → Prop} {x0 : Nat} {x1 : Int32} (hb1 : k + 1 ≤ 1) (hb2 : n + 6 ≤ 6) : ww_X (some (.invokevirtual 53, len)) S 118 pc L (.int x1 :: .ref x0 :: r) h k n Q = ((r.map (fun v => v.category)).sum ≤ 8 ∧ ww_rc h x0 0 ∧ ww_V 53 [.ref x0, .int x1] h (ww_kc S 118 pc len L r (k + 1) (n + 6) Q)) := c_53 ⟨hb1, hb2⟩
theorem cc_119_54 {S : ww_S} {len pc k n : Nat} {L r : List Value} {h : List ww_E} {Q : ww_R → Prop} {x0 : Nat} {x1 : Int32} {x2 : Int32} {x3 : Int32} (hb1 : k + 2 ≤ 2) (hb2 : n + 12 ≤ 12) : ww_X (some (.invokevirtual 54, len)) S 119 pc L (.int x3 :: .int x2 :: .int x1 :: .ref x0 :: r) h k n Q = ((r.map (fun v => v.category)).sum ≤ 8 ∧ ww_rc h x0 0 ∧ ww_V 54 [.ref x0, .int x1, .int x2, .int x3] h (ww_kc S 119 pc len L r (k + 2) (n + 12) Q)) := c_54 ⟨hb1, hb2⟩
theorem cc_120_55 {S : ww_S} {len pc k n : Nat} {L r : List Value} {h : List ww_E} {Q : ww_R → Prop} {x0 : Nat} {x1 : Int32} {x2 : Int32} (hb1 : k + 2 ≤ 2) (hb2 : n + 12 ≤ 12) : ww_X (some (.invokevirtual 55, len)) S 120 pc L (.int x2 :: .int x1 :: .ref x0 :: r) h k n Q = ((r.map (fun v => v.category)).sum ≤ 8 ∧ ww_rc h x0 0 ∧ ww_V 55 [.ref x0, .int x1, .int x2] h (ww_kc S 120 pc len L r (k + 2) (n + 12) Q)) := c_55 ⟨hb1, hb2⟩
theorem cc_121_56 {S : ww_S} {len pc k n : Nat} {L r : List Value} {h : List ww_E} {Q : ww_R → Prop} {x0 : Nat} {x1 : Int32} {x2 : Int32} {x3 : Int32} (hb1 : k + 2 ≤ 2) (hb2 : n + 12 ≤ 12) : ww_X (some (.invokevirtual 56, len)) S 121 pc L (.int x3 :: .int x2 :: .int x1 :: .ref x0 :: r) h k n Q = ((r.map (fun v => v.category)).sum ≤ 8 ∧ ww_rc h x0 0 ∧ ww_V 56 [.ref x0, .int x1, .int x2, .int x3] h (ww_kc S 121 pc len L r (k + 2) (n + 12) Q)) := c_56 ⟨hb1, hb2⟩
theorem cc_122_57 {S : ww_S} {len pc k n : Nat} {L r : List Value} {h : List ww_E} {Q : ww_R → Prop} {x0 : Nat} {x1 : Int32} {x2 : Int32} {x3 : Int32} (hb1 : k + 2 ≤ 2) (hb2 : n + 12 ≤ 12) : ww_X (some (.invokevirtual 57, len)) S 122 pc L (.int x3 :: .int x2 :: .int x1 :: .ref x0 :: r) h k n Q = ((r.map (fun v => v.category)).sum ≤ 8 ∧ ww_rc h x0 0 ∧ ww_V 57 [.ref x0, .int x1, .int x2, .int x3] h (ww_kc S 122 pc len L r (k + 2) (n + 12) Q)) := c_57 ⟨hb1, hb2⟩
theorem cc_123_58 {S : ww_S} {len pc k n : Nat} {L r : List Value} {h : List ww_E} {Q : ww_R → Prop} {x0 : Nat} {x1 : Int32} {x2 : Int64} (hb1 : k + 1 ≤ 1) (hb2 : n + 6 ≤ 6) : ww_X (some (.invokevirtual 58, len)) S 123 pc L (.long x2 :: .int x1 :: .ref x0 :: r) h k n Q = ((r.map (fun v => v.category)).sum ≤ 8 ∧ ww_rc h x0 0 ∧ ww_V 58 [.ref x0, .int x1, .long x2] h (ww_kc S 123 pc len L r (k + 1) (n + 6) Q)) := c_58 ⟨hb1, hb2⟩
theorem cc_124_59 {S : ww_S} {len pc k n : Nat} {L r : List Value} {h : List ww_E} {Q : ww_R → Prop} {x0 : Nat} {x1 : Int32} {x2 : Int32} (hb1 : k + 2 ≤ 2) (hb2 : n + 12 ≤ 12) : ww_X (some (.invokevirtual 59, len)) S 124 pc L (.int x2 :: .int x1 :: .ref x0 :: r) h k n Q = ((r.map (fun v => v.category)).sum ≤ 8 ∧ ww_rc h x0 0 ∧ ww_V 59 [.ref x0, .int x1, .int x2] h (ww_kc S 124 pc len L r (k + 2) (n + 12) Q)) := c_59 ⟨hb1, hb2⟩
theorem cc_125_60 {S : ww_S} {len pc k n : Nat} {L r : List Value} {h : List ww_E} {Q : ww_R → Prop} {x0 : Nat} {x1 : Int32} (hb1 : k + 2 ≤ 2) (hb2 : n + 12 ≤ 12) : ww_X (some (.invokevirtual 60, len)) S 125 pc L (.int x1 :: .ref x0 :: r) h k n Q = ((r.map (fun v => v.category)).sum ≤ 8 ∧ ww_rc h x0 0 ∧ ww_V 60 [.ref x0, .int x1] h (ww_kc S 125 pc len L r (k + 2) (n + 12) Q)) := c_60 ⟨hb1, hb2⟩
theorem cc_126_61 {S : ww_S} {len pc k n : Nat} {L r : List Value} {h : List ww_E} {Q : ww_R → Prop} {x0 : Nat} {x1 : Int32} {x2 : Int32} (hb1 : k + 2 ≤ 2) (hb2 : n + 12 ≤ 12) : ww_X (some (.invokevirtual 61, len)) S 126 pc L (.int x2 :: .int x1 :: .ref x0 :: r) h k n Q = ((r.map (fun v => v.category)).sum ≤ 8 ∧ ww_rc h x0 0 ∧ ww_V 61 [.ref x0, .int x1, .int x2] h (ww_kc S 126 pc len L r (k + 2) (n + 12) Q)) := c_61 ⟨hb1, hb2⟩
theorem cc_127_41 {S : ww_S} {len pc k n : Nat} {L r : List Value} {h : List ww_E} {Q : ww_R → Prop} {x0 : Nat} (hb1 : k + 6 ≤ 601024) (hb2 : n + 68 ≤ 7293034) : ww_X (some (.invokespecial 41, len)) S 127 pc L (.ref x0 :: r) h k n Q = ((r.map (fun v => v.category)).sum ≤ 8 ∧ ww_rc h x0 0 ∧ ww_V 41 [.ref x0] h (ww_kc S 127 pc len L r (k + 6) (n + 68) Q)) := c_41 ⟨hb1, hb2⟩
theorem cc_127_68 {S : ww_S} {len pc k n : Nat} {L r : List Value} {h : List ww_E} {Q : ww_R → Prop} {x0 : Nat} (hb1 : k + 23 ≤ 601024) (hb2 : n + 1466 ≤ 7293034) : ww_X (some (.invokespecial 68, len)) S 127 pc L (.ref x0 :: r) h k n Q = ((r.map (fun v => v.category)).sum ≤ 8 ∧ ww_rc h x0 4 ∧ ww_V 68 [.ref x0] h (ww_kc S 127 pc len L r (k + 23) (n + 1466) Q)) := c_68 ⟨hb1, hb2⟩
theorem cc_127_107 {S : ww_S} {len pc k n : Nat} {L r : List Value} {h : List ww_E} {Q : ww_R → Prop} {x0 : Nat} {x1 : Nat} (hb1 : k + 1 ≤ 601024) (hb2 : n + 6 ≤ 7293034) : ww_X (some (.invokestatic 107, len)) S 127 pc L (.ref x1 :: .ref x0 :: r) h k n Q = ((r.map (fun v => v.category)).sum ≤ 8 ∧ ww_V 107 [.ref x0, .ref x1] h (ww_kc S 127 pc len L r (k + 1) (n + 6) Q)) := c_107 ⟨hb1, hb2⟩
theorem cc_127_108 {S : ww_S} {len pc k n : Nat} {L r : List Value} {h : List ww_E} {Q : ww_R → Prop} {x0 : Nat} {x1 : Int32} {x2 : Int32} {x3 : Int32} {x4 : Nat} (hb1 : k + 3 ≤ 601024) (hb2 : n + 18 ≤ 7293034) : ww_X (some (.invokestatic 108, len)) S 127 pc L (.ref x4 :: .int x3 :: .int x2 :: .int x1 :: .ref x0 :: r) h k n Q = ((r.map (fun v => v.category)).sum ≤ 8 ∧ ww_V 108 [.ref x0, .int x1, .int x2, .int x3, .ref x4] h (ww_kc S 127 pc len L r (k + 3) (n + 18) Q)) := c_108 ⟨hb1, hb2⟩
theorem cc_127_109 {S : ww_S} {len pc k n : Nat} {L r : List Value} {h : List ww_E} {Q : ww_R → Prop} {x0 : Nat} {x1 : Int32} {x2 : Int32} {x3 : Nat} (hb1 : k + 1 ≤ 601024) (hb2 : n + 6 ≤ 7293034) : ww_X (some (.invokestatic 109, len)) S 127 pc L (.ref x3 :: .int x2 :: .int x1 :: .ref x0 :: r) h k n Q = ((r.map (fun v => v.category)).sum ≤ 8 ∧ ww_V 109 [.ref x0, .int x1, .int x2, .ref x3] h (ww_kc S 127 pc len L r (k + 1) (n + 6) Q)) := c_109 ⟨hb1, hb2⟩
theorem cc_127_110 {S : ww_S} {len pc k n : Nat} {L r : List Value} {h : List ww_E} {Q : ww_R → Prop} {x0 : Nat} {x1 : Int32} {x2 : Nat} (hb1 : k + 8 ≤ 601024) (hb2 : n + 124 ≤ 7293034) : ww_X (some (.invokestatic 110, len)) S 127 pc L (.ref x2 :: .int x1 :: .ref x0 :: r) h k n Q = ((r.map (fun v => v.category)).sum ≤ 8 ∧ ww_V 110 [.ref x0, .int x1, .ref x2] h (ww_kc S 127 pc len L r (k + 8) (n + 124) Q)) := c_110 ⟨hb1, hb2⟩
theorem cc_127_111 {S : ww_S} {len pc k n : Nat} {L r : List Value} {h : List ww_E} {Q : ww_R → Prop} {x0 : Nat} {x1 : Int32} {x2 : Int32} {x3 : Int32} {x4 : Nat} (hb1 : k + 3 ≤ 601024) (hb2 : n + 18 ≤ 7293034) : ww_X (some (.invokestatic 111, len)) S 127 pc L (.ref x4 :: .int x3 :: .int x2 :: .int x1 :: .ref x0 :: r) h k n Q = ((r.map (fun v => v.category)).sum ≤ 8 ∧ ww_V 111 [.ref x0, .int x1, .int x2, .int x3, .ref x4] h (ww_kc S 127 pc len L r (k + 3) (n + 18) Q)) := c_111 ⟨hb1, hb2⟩
theorem cc_127_112 {S : ww_S} {len pc k n : Nat} {L r : List Value} {h : List ww_E} {Q : ww_R → Prop} {x0 : Nat} {x1 : Int32} {x2 : Int32} {x3 : Int32} {x4 : Nat} (hb1 : k + 2 ≤ 601024) (hb2 : n + 12 ≤ 7293034) : ww_X (some (.invokestatic 112, len)) S 127 pc L (.ref x4 :: .int x3 :: .int x2 :: .int x1 :: .ref x0 :: r) h k n Q = ((r.map (fun v => v.category)).sum ≤ 8 ∧ ww_V 112 [.ref x0, .int x1, .int x2, .int x3, .ref x4] h (ww_kc S 127 pc len L r (k + 2) (n + 12) Q)) := c_112 ⟨hb1, hb2⟩
theorem cc_127_113 {S : ww_S} {len pc k n : Nat} {L r : List Value} {h : List ww_E} {Q : ww_R → Prop} {x0 : Nat} {x1 : Int32} {x2 : Nat} (hb1 : k + 1 ≤ 601024) (hb2 : n + 6 ≤ 7293034) : ww_X (some (.invokestatic 113, len)) S 127 pc L (.ref x2 :: .int x1 :: .ref x0 :: r) h k n Q = ((r.map (fun v => v.category)).sum ≤ 8 ∧ ww_V 113 [.ref x0, .int x1, .ref x2] h (ww_kc S 127 pc len L r (k + 1) (n + 6) Q)) := c_113 ⟨hb1, hb2⟩
theorem cc_127_114 {S : ww_S} {len pc k n : Nat} {L r : List Value} {h : List ww_E} {Q : ww_R → Prop} {x0 : Nat} {x1 : Int32} {x2 : Nat} (hb1 : k + 1 ≤ 601024) (hb2 : n + 6 ≤ 7293034) : ww_X (some (.invokestatic 114, len)) S 127 pc L (.ref x2 :: .int x1 :: .ref x0 :: r) h k n Q = ((r.map (fun v => v.category)).sum ≤ 8 ∧ ww_V 114 [.ref x0, .int x1, .ref x2] h (ww_kc S 127 pc len L r (k + 1) (n + 6) Q)) := c_114 ⟨hb1, hb2⟩
theorem cc_127_115 {S : ww_S} {len pc k n : Nat} {L r : List Value} {h : List ww_E} {Q : ww_R → Prop} {x0 : Nat} {x1 : Int32} {x2 : Int32} {x3 : Nat} (hb1 : k + 1 ≤ 601024) (hb2 : n + 6 ≤ 7293034) : ww_X (some (.invokestatic 115, len)) S 127 pc L (.ref x3 :: .int x2 :: .int x1 :: .ref x0 :: r) h k n Q = ((r.map (fun v => v.category)).sum ≤ 8 ∧ ww_V 115 [.ref x0, .int x1, .int x2, .ref x3] h (ww_kc S 127 pc len L r (k + 1) (n + 6) Q)) := c_115 ⟨hb1, hb2⟩
theorem cc_127_116 {S : ww_S} {len pc k n : Nat} {L r : List Value} {h : List ww_E} {Q : ww_R → Prop} {x0 : Nat} {x1 : Int32} {x2 : Nat} (hb1 : k + 1 ≤ 601024) (hb2 : n + 6 ≤ 7293034) : ww_X (some (.invokestatic 116, len)) S 127 pc L (.ref x2 :: .int x1 :: .ref x0 :: r) h k n Q = ((r.map (fun v => v.category)).sum ≤ 8 ∧ ww_V 116 [.ref x0, .int x1, .ref x2] h (ww_kc S 127 pc len L r (k + 1) (n + 6) Q)) := c_116 ⟨hb1, hb2⟩
theorem cc_127_117 {S : ww_S} {len pc k n : Nat} {L r : List Value} {h : List ww_E} {Q : ww_R → Prop} {x0 : Nat} {x1 : Int32} {x2 : Nat} (hb1 : k + 1 ≤ 601024) (hb2 : n + 6 ≤ 7293034) : ww_X (some (.invokestatic 117, len)) S 127 pc L (.ref x2 :: .int x1 :: .ref x0 :: r) h k n Q = ((r.map (fun v => v.category)).sum ≤ 8 ∧ ww_V 117 [.ref x0, .int x1, .ref x2] h (ww_kc S 127 pc len L r (k + 1) (n + 6) Q)) := c_117 ⟨hb1, hb2⟩
theorem cc_127_118 {S : ww_S} {len pc k n : Nat} {L r : List Value} {h : List ww_E} {Q : ww_R → Prop} {x0 : Nat} {x1 : Int32} {x2 : Nat} (hb1 : k + 1 ≤ 601024) (hb2 : n + 6 ≤ 7293034) : ww_X (some (.invokestatic 118, len)) S 127 pc L (.ref x2 :: .int x1 :: .ref x0 :: r) h k n Q = ((r.map (fun v => v.category)).sum ≤ 8 ∧ ww_V 118 [.ref x0, .int x1, .ref x2] h (ww_kc S 127 pc len L r (k + 1) (n + 6) Q)) := c_118 ⟨hb1, hb2⟩
theorem cc_127_119 {S : ww_S} {len pc k n : Nat} {L r : List Value} {h : List ww_E} {Q : ww_R → Prop} {x0 : Nat} {x1 : Int32} {x2 : Int32} {x3 : Int32} {x4 : Nat} (hb1 : k + 2 ≤ 601024) (hb2 : n + 12 ≤ 7293034) : ww_X (some (.invokestatic 119, len)) S 127 pc L (.ref x4 :: .int x3 :: .int x2 :: .int x1 :: .ref x0 :: r) h k n Q = ((r.map (fun v => v.category)).sum ≤ 8 ∧ ww_V 119 [.ref x0, .int x1, .int x2, .int x3, .ref x4] h (ww_kc S 127 pc len L r (k + 2) (n + 12) Q)) := c_119 ⟨hb1, hb2⟩
theorem cc_127_120 {S : ww_S} {len pc k n : Nat} {L r : List Value} {h : List ww_E} {Q : ww_R → Prop} {x0 : Nat} {x1 : Int32} {x2 : Int32} {x3 : Nat} (hb1 : k + 2 ≤ 601024) (hb2 : n + 12 ≤ 7293034) : ww_X (some (.invokestatic 120, len)) S 127 pc L (.ref x3 :: .int x2 :: .int x1 :: .ref x0 :: r) h k n Q = ((r.map (fun v => v.category)).sum ≤ 8 ∧ ww_V 120 [.ref x0, .int x1, .int x2, .ref x3] h (ww_kc S 127 pc len L r (k + 2) (n + 12) Q)) := c_120 ⟨hb1, hb2⟩
theorem cc_127_121 {S : ww_S} {len pc k n : Nat} {L r : List Value} {h : List ww_E} {Q : ww_R → Prop} {x0 : Nat} {x1 : Int32} {x2 : Int32} {x3 : Int32} {x4 : Nat} (hb1 : k + 2 ≤ 601024) (hb2 : n + 12 ≤ 7293034) : ww_X (some (.invokestatic 121, len)) S 127 pc L (.ref x4 :: .int x3 :: .int x2 :: .int x1 :: .ref x0 :: r) h k n Q = ((r.map (fun v => v.category)).sum ≤ 8 ∧ ww_V 121 [.ref x0, .int x1, .int x2, .int x3, .ref x4] h (ww_kc S 127 pc len L r (k + 2) (n + 12) Q)) := c_121 ⟨hb1, hb2⟩
theorem cc_127_122 {S : ww_S} {len pc k n : Nat} {L r : List Value} {h : List ww_E} {Q : ww_R → Prop} {x0 : Nat} {x1 : Int32} {x2 : Int32} {x3 : Int32} {x4 : Nat} (hb1 : k + 2 ≤ 601024) (hb2 : n + 12 ≤ 7293034) : ww_X (some (.invokestatic 122, len)) S 127 pc L (.ref x4 :: .int x3 :: .int x2 :: .int x1 :: .ref x0 :: r) h k n Q = ((r.map (fun v => v.category)).sum ≤ 8 ∧ ww_V 122 [.ref x0, .int x1, .int x2, .int x3, .ref x4] h (ww_kc S 127 pc len L r (k + 2) (n + 12) Q)) := c_122 ⟨hb1, hb2⟩
theorem cc_127_123 {S : ww_S} {len pc k n : Nat} {L r : List Value} {h : List ww_E} {Q : ww_R → Prop} {x0 : Nat} {x1 : Int32} {x2 : Int64} {x3 : Nat} (hb1 : k + 1 ≤ 601024) (hb2 : n + 6 ≤ 7293034) : ww_X (some (.invokestatic 123, len)) S 127 pc L (.ref x3 :: .long x2 :: .int x1 :: .ref x0 :: r) h k n Q = ((r.map (fun v => v.category)).sum ≤ 8 ∧ ww_V 123 [.ref x0, .int x1, .long x2, .ref x3] h (ww_kc S 127 pc len L r (k + 1) (n + 6) Q)) := c_123 ⟨hb1, hb2⟩
theorem cc_127_124 {S : ww_S} {len pc k n : Nat} {L r : List Value} {h : List ww_E} {Q : ww_R → Prop} {x0 : Nat} {x1 : Int32} {x2 : Int32} {x3 : Nat} (hb1 : k + 2 ≤ 601024) (hb2 : n + 12 ≤ 7293034) : ww_X (some (.invokestatic 124, len)) S 127 pc L (.ref x3 :: .int x2 :: .int x1 :: .ref x0 :: r) h k n Q = ((r.map (fun v => v.category)).sum ≤ 8 ∧ ww_V 124 [.ref x0, .int x1, .int x2, .ref x3] h (ww_kc S 127 pc len L r (k + 2) (n + 12) Q)) := c_124 ⟨hb1, hb2⟩
theorem cc_127_125 {S : ww_S} {len pc k n : Nat} {L r : List Value} {h : List ww_E} {Q : ww_R → Prop} {x0 : Nat} {x1 : Int32} {x2 : Nat} (hb1 : k + 2 ≤ 601024) (hb2 : n + 12 ≤ 7293034) : ww_X (some (.invokestatic 125, len)) S 127 pc L (.ref x2 :: .int x1 :: .ref x0 :: r) h k n Q = ((r.map (fun v => v.category)).sum ≤ 8 ∧ ww_V 125 [.ref x0, .int x1, .ref x2] h (ww_kc S 127 pc len L r (k + 2) (n + 12) Q)) := c_125 ⟨hb1, hb2⟩
theorem cc_127_126 {S : ww_S} {len pc k n : Nat} {L r : List Value} {h : List ww_E} {Q : ww_R → Prop} {x0 : Nat} {x1 : Int32} {x2 : Int32} {x3 : Nat} (hb1 : k + 2 ≤ 601024) (hb2 : n + 12 ≤ 7293034) : ww_X (some (.invokestatic 126, len)) S 127 pc L (.ref x3 :: .int x2 :: .int x1 :: .ref x0 :: r) h k n Q = ((r.map (fun v => v.category)).sum ≤ 8 ∧ ww_V 126 [.ref x0, .int x1, .int x2, .ref x3] h (ww_kc S 127 pc len L r (k + 2) (n + 12) Q)) := c_126 ⟨hb1, hb2⟩
