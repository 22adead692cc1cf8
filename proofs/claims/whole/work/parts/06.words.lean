theorem iX0 : ∀ w ∈ u_ws RX0 TX0 18, w ∈ lw_k := by decide +kernel
theorem fk0 : FK 0 RX0 TX0 18 := ⟨rfl, iX0, ⟨tyX0, tyX0_ok⟩, nmX0⟩
theorem iX1 : ∀ w ∈ u_ws RX1 TX1 7, w ∈ lw_k := by decide +kernel
theorem fk1 : FK 1 RX1 TX1 7 := ⟨rfl, iX1, ⟨tyX1, tyX1_ok⟩, nmX1⟩
theorem iX2 : ∀ w ∈ u_ws RX2 TX2 2, w ∈ lw_k := by decide +kernel
theorem fk2 : FK 2 RX2 TX2 2 := ⟨rfl, iX2, ⟨tyX2, tyX2_ok⟩, nmX2⟩
theorem iX3 : ∀ w ∈ u_ws RX3 TX3 14, w ∈ lw_k := by decide +kernel
theorem fk3 : FK 3 RX3 TX3 14 := ⟨rfl, iX3, ⟨tyX3, tyX3_ok⟩, nmX3⟩
theorem iX4 : ∀ w ∈ u_ws RX4 TX4 5, w ∈ lw_k := by decide +kernel
theorem fk4 : FK 4 RX4 TX4 5 := ⟨rfl, iX4, ⟨tyX4, tyX4_ok⟩, nmX4⟩
theorem iX5 : ∀ w ∈ u_ws RX5 TX5 7, w ∈ lw_k := by decide +kernel
theorem fk5 : FK 5 RX5 TX5 7 := ⟨rfl, iX5, ⟨tyX5, tyX5_ok⟩, nmX5⟩
theorem iX6 : ∀ w ∈ u_ws RX6 TX6 6, w ∈ lw_k := by decide +kernel
theorem fk6 : FK 6 RX6 TX6 6 := ⟨rfl, iX6, ⟨tyX6, tyX6_ok⟩, nmX6⟩
theorem iX7 : ∀ w ∈ u_ws RX7 TX7 3, w ∈ lw_k := by decide +kernel
theorem fk7 : FK 7 RX7 TX7 3 := ⟨rfl, iX7, ⟨tyX7, tyX7_ok⟩, nmX7⟩
theorem iX8 : ∀ w ∈ u_ws RX8 TX8 8, w ∈ lw_k := by decide +kernel
theorem fk8 : FK 8 RX8 TX8 8 := ⟨rfl, iX8, ⟨tyX8, tyX8_ok⟩, nmX8⟩
theorem iX9 : ∀ w ∈ u_ws RX9 TX9 18, w ∈ lw_k := by decide +kernel
theorem fk9 : FK 9 RX9 TX9 18 := ⟨rfl, iX9, ⟨tyX9, tyX9_ok⟩, nmX9⟩
theorem iX10 : ∀ w ∈ u_ws RX10 TX10 55, w ∈ lw_k := by decide +kernel
theorem fk10 : FK 10 RX10 TX10 55 := ⟨rfl, iX10, ⟨tyX10, tyX10_ok⟩, nmX10⟩
theorem oi_X0_3 : Cond.methodLink RX0 3 objectInit ∈ lw_k := mk_k (List.mem_of_getElem? (i := 161) (by decide +kernel)) rfl
theorem oiw : Cond.instanceMethod objectInit ∈ lw_k ∧ Cond.code objectInit ⟨#[0xb1]⟩ 1 none ∈ lw_k := ⟨mk_k (List.mem_of_getElem? (i := 154) (by decide +kernel)) rfl, mk_k (List.mem_of_getElem? (i := 155) (by decide +kernel)) rfl⟩
theorem fp_X0_9 : FP RX0 9 0 0 .int false := ⟨RX0, TX0, 18, fk0, by decide, mk_k (List.mem_of_getElem? (i := 162) (by decide +kernel)) rfl, by decide +kernel, rfl, fun q => by cases q⟩
theorem fp_X0_15 : FP RX0 15 0 5 .int false := ⟨RX0, TX0, 18, fk0, by decide, mk_k (List.mem_of_getElem? (i := 180) (by decide +kernel)) rfl, by decide +kernel, rfl, fun q => by cases q⟩
theorem arr_int : Cond.arrayClass (newarray.typeOf .int) ∈ lw_k := mk_k (List.mem_of_getElem? (i := 259) (by decide +kernel)) rfl
theorem fp_X0_18 : FP RX0 18 0 7 (.array .int) true := ⟨RX0, TX0, 18, fk0, by decide, mk_k (List.mem_of_getElem? (i := 191) (by decide +kernel)) rfl, by decide +kernel, rfl, fun _ => rfl⟩
theorem fp_X0_22 : FP RX0 22 0 8 (.array .int) true := ⟨RX0, TX0, 18, fk0, by decide, mk_k (List.mem_of_getElem? (i := 194) (by decide +kernel)) rfl, by decide +kernel, rfl, fun _ => rfl⟩
theorem fp_X0_25 : FP RX0 25 0 10 (.array .int) true := ⟨RX0, TX0, 18, fk0, by decide, mk_k (List.mem_of_getElem? (i := 201) (by decide +kernel)) rfl, by decide +kernel, rfl, fun _ => rfl⟩
theorem fp_X0_28 : FP RX0 28 0 11 (.array .int) true := ⟨RX0, TX0, 18, fk0, by decide, mk_k (List.mem_of_getElem? (i := 204) (by decide +kernel)) rfl, by decide +kernel, rfl, fun _ => rfl⟩
theorem fp_X0_31 : FP RX0 31 0 12 (.array .int) true := ⟨RX0, TX0, 18, fk0, by decide, mk_k (List.mem_of_getElem? (i := 207) (by decide +kernel)) rfl, by decide +kernel, rfl, fun _ => rfl⟩
theorem fp_X0_34 : FP RX0 34 0 13 (.array .int) true := ⟨RX0, TX0, 18, fk0, by decide, mk_k (List.mem_of_getElem? (i := 208) (by decide +kernel)) rfl, by decide +kernel, rfl, fun _ => rfl⟩
theorem fp_X0_37 : FP RX0 37 0 14 (.array .int) true := ⟨RX0, TX0, 18, fk0, by decide, mk_k (List.mem_of_getElem? (i := 211) (by decide +kernel)) rfl, by decide +kernel, rfl, fun _ => rfl⟩
theorem fp_X0_40 : FP RX0 40 0 16 (.array .int) true := ⟨RX0, TX0, 18, fk0, by decide, mk_k (List.mem_of_getElem? (i := 216) (by decide +kernel)) rfl, by decide +kernel, rfl, fun _ => rfl⟩
theorem fp_X0_43 : FP RX0 43 0 17 (.array .int) true := ⟨RX0, TX0, 18, fk0, by decide, mk_k (List.mem_of_getElem? (i := 219) (by decide +kernel)) rfl, by decide +kernel, rfl, fun _ => rfl⟩
theorem fp_X0_46 : FP RX0 46 0 1 .int false := ⟨RX0, TX0, 18, fk0, by decide, mk_k (List.mem_of_getElem? (i := 166) (by decide +kernel)) rfl, by decide +kernel, rfl, fun q => by cases q⟩
theorem fp_X0_49 : FP RX0 49 0 2 .int false := ⟨RX0, TX0, 18, fk0, by decide, mk_k (List.mem_of_getElem? (i := 170) (by decide +kernel)) rfl, by decide +kernel, rfl, fun q => by cases q⟩
theorem fp_X0_52 : FP RX0 52 0 3 .int false := ⟨RX0, TX0, 18, fk0, by decide, mk_k (List.mem_of_getElem? (i := 173) (by decide +kernel)) rfl, by decide +kernel, rfl, fun q => by cases q⟩
theorem fp_X0_55 : FP RX0 55 0 4 .int false := ⟨RX0, TX0, 18, fk0, by decide, mk_k (List.mem_of_getElem? (i := 176) (by decide +kernel)) rfl, by decide +kernel, rfl, fun q => by cases q⟩
theorem fp_X0_58 : FP RX0 58 0 6 .int false := ⟨RX0, TX0, 18, fk0, by decide, mk_k (List.mem_of_getElem? (i := 186) (by decide +kernel)) rfl, by decide +kernel, rfl, fun q => by cases q⟩
theorem fp_X0_61 : FP RX0 61 0 9 .int false := ⟨RX0, TX0, 18, fk0, by decide, mk_k (List.mem_of_getElem? (i := 197) (by decide +kernel)) rfl, by decide +kernel, rfl, fun q => by cases q⟩
theorem fp_X0_64 : FP RX0 64 0 15 .int false := ⟨RX0, TX0, 18, fk0, by decide, mk_k (List.mem_of_getElem? (i := 213) (by decide +kernel)) rfl, by decide +kernel, rfl, fun q => by cases q⟩
theorem fl_X0_9 : FL RX0 9 0 0 := ⟨RX0, TX0, 18, fk0, by decide, mk_k (List.mem_of_getElem? (i := 162) (by decide +kernel)) rfl⟩
theorem fl_X0_46 : FL RX0 46 0 1 := ⟨RX0, TX0, 18, fk0, by decide, mk_k (List.mem_of_getElem? (i := 166) (by decide +kernel)) rfl⟩
theorem fl_X0_49 : FL RX0 49 0 2 := ⟨RX0, TX0, 18, fk0, by decide, mk_k (List.mem_of_getElem? (i := 170) (by decide +kernel)) rfl⟩
theorem fl_X0_52 : FL RX0 52 0 3 := ⟨RX0, TX0, 18, fk0, by decide, mk_k (List.mem_of_getElem? (i := 173) (by decide +kernel)) rfl⟩
theorem fl_X0_55 : FL RX0 55 0 4 := ⟨RX0, TX0, 18, fk0, by decide, mk_k (List.mem_of_getElem? (i := 176) (by decide +kernel)) rfl⟩
theorem fl_X0_15 : FL RX0 15 0 5 := ⟨RX0, TX0, 18, fk0, by decide, mk_k (List.mem_of_getElem? (i := 180) (by decide +kernel)) rfl⟩
theorem fl_X0_58 : FL RX0 58 0 6 := ⟨RX0, TX0, 18, fk0, by decide, mk_k (List.mem_of_getElem? (i := 186) (by decide +kernel)) rfl⟩
theorem fl_X0_18 : FL RX0 18 0 7 := ⟨RX0, TX0, 18, fk0, by decide, mk_k (List.mem_of_getElem? (i := 191) (by decide +kernel)) rfl⟩
theorem ac_X0_67 : Cond.methodLink RX0 67 arraycopyName ∈ lw_k := mk_k (List.mem_of_getElem? (i := 664) (by decide +kernel)) rfl
theorem acw : Cond.native arraycopyName ∈ lw_k ∧ Cond.static arraycopyName ∈ lw_k ∧ Cond.initialized "java/lang/System" ∈ lw_k := ⟨mk_k (List.mem_of_getElem? (i := 666) (by decide +kernel)) rfl, mk_k (List.mem_of_getElem? (i := 665) (by decide +kernel)) rfl, mk_k (List.mem_of_getElem? (i := 141) (by decide +kernel)) rfl⟩
theorem fl_X0_22 : FL RX0 22 0 8 := ⟨RX0, TX0, 18, fk0, by decide, mk_k (List.mem_of_getElem? (i := 194) (by decide +kernel)) rfl⟩
theorem fl_X0_61 : FL RX0 61 0 9 := ⟨RX0, TX0, 18, fk0, by decide, mk_k (List.mem_of_getElem? (i := 197) (by decide +kernel)) rfl⟩
theorem fl_X0_25 : FL RX0 25 0 10 := ⟨RX0, TX0, 18, fk0, by decide, mk_k (List.mem_of_getElem? (i := 201) (by decide +kernel)) rfl⟩
theorem fl_X0_28 : FL RX0 28 0 11 := ⟨RX0, TX0, 18, fk0, by decide, mk_k (List.mem_of_getElem? (i := 204) (by decide +kernel)) rfl⟩
theorem fl_X0_31 : FL RX0 31 0 12 := ⟨RX0, TX0, 18, fk0, by decide, mk_k (List.mem_of_getElem? (i := 207) (by decide +kernel)) rfl⟩
theorem fl_X0_37 : FL RX0 37 0 14 := ⟨RX0, TX0, 18, fk0, by decide, mk_k (List.mem_of_getElem? (i := 211) (by decide +kernel)) rfl⟩
theorem fl_X0_64 : FL RX0 64 0 15 := ⟨RX0, TX0, 18, fk0, by decide, mk_k (List.mem_of_getElem? (i := 213) (by decide +kernel)) rfl⟩
theorem fl_X0_40 : FL RX0 40 0 16 := ⟨RX0, TX0, 18, fk0, by decide, mk_k (List.mem_of_getElem? (i := 216) (by decide +kernel)) rfl⟩
theorem fl_X0_43 : FL RX0 43 0 17 := ⟨RX0, TX0, 18, fk0, by decide, mk_k (List.mem_of_getElem? (i := 219) (by decide +kernel)) rfl⟩
theorem cl2_X0_73 : Cond.constantLong RX0 73 (1000000) ∈ lw_k := mk_k (List.mem_of_getElem? (i := 651) (by decide +kernel)) rfl
theorem fl_X0_34 : FL RX0 34 0 13 := ⟨RX0, TX0, 18, fk0, by decide, mk_k (List.mem_of_getElem? (i := 208) (by decide +kernel)) rfl⟩
theorem ml_X0_75 : Cond.methodLink RX0 75 yX0_toldBelow ∈ lw_k := mk_k (List.mem_of_getElem? (i := 660) (by decide +kernel)) rfl
theorem mv_X0_toldBelow : MV0 yX0_toldBelow cX0_toldBelow 7 (some .int) 2 := ⟨mk_k (List.mem_of_getElem? (i := 663) (by decide +kernel)) rfl, mk_k (List.mem_of_getElem? (i := 130) (by decide +kernel)) rfl, by decide +kernel, by decide +kernel, by decide +kernel⟩
theorem vi_X0_toldBelow : Cond.instanceMethod yX0_toldBelow ∈ lw_k ∧ Cond.selects RX0 yX0_toldBelow yX0_toldBelow ∈ lw_k := ⟨mk_k (List.mem_of_getElem? (i := 661) (by decide +kernel)) rfl, mk_k (List.mem_of_getElem? (i := 662) (by decide +kernel)) rfl⟩
theorem fp_X2_7 : FP RX2 7 2 0 .long false := ⟨RX2, TX2, 2, fk2, by decide, mk_k (List.mem_of_getElem? (i := 298) (by decide +kernel)) rfl, by decide +kernel, rfl, fun q => by cases q⟩
theorem fp_X2_13 : FP RX2 13 2 1 .long false := ⟨RX2, TX2, 2, fk2, by decide, mk_k (List.mem_of_getElem? (i := 301) (by decide +kernel)) rfl, by decide +kernel, rfl, fun q => by cases q⟩
theorem mv_X9_commonFactor : MV0 yX9_commonFactor cX9_commonFactor 11 (some .long) 2 := ⟨mk_k (List.mem_of_getElem? (i := 646) (by decide +kernel)) rfl, mk_k (List.mem_of_getElem? (i := 129) (by decide +kernel)) rfl, by decide +kernel, by decide +kernel, by decide +kernel⟩
theorem st_X9_commonFactor : Cond.static yX9_commonFactor ∈ lw_k := mk_k (List.mem_of_getElem? (i := 645) (by decide +kernel)) rfl
theorem ml_X0_89 : Cond.methodLink RX0 89 yX0_widthBetween ∈ lw_k := mk_k (List.mem_of_getElem? (i := 808) (by decide +kernel)) rfl
theorem mv_X0_widthBetween : MV0 yX0_widthBetween cX0_widthBetween 3 (some .long) 2 := ⟨mk_k (List.mem_of_getElem? (i := 811) (by decide +kernel)) rfl, mk_k (List.mem_of_getElem? (i := 130) (by decide +kernel)) rfl, by decide +kernel, by decide +kernel, by decide +kernel⟩
theorem vi_X0_widthBetween : Cond.instanceMethod yX0_widthBetween ∈ lw_k ∧ Cond.selects RX0 yX0_widthBetween yX0_widthBetween ∈ lw_k := ⟨mk_k (List.mem_of_getElem? (i := 809) (by decide +kernel)) rfl, mk_k (List.mem_of_getElem? (i := 810) (by decide +kernel)) rfl⟩
theorem ml_X0_85 : Cond.methodLink RX0 85 yX0_stuffOf ∈ lw_k := mk_k (List.mem_of_getElem? (i := 807) (by decide +kernel)) rfl
theorem mv_X0_stuffOf : MV0 yX0_stuffOf cX0_stuffOf 4 (some .int) 2 := ⟨mk_k (List.mem_of_getElem? (i := 703) (by decide +kernel)) rfl, mk_k (List.mem_of_getElem? (i := 130) (by decide +kernel)) rfl, by decide +kernel, by decide +kernel, by decide +kernel⟩
theorem vi_X0_stuffOf : Cond.instanceMethod yX0_stuffOf ∈ lw_k ∧ Cond.selects RX0 yX0_stuffOf yX0_stuffOf ∈ lw_k := ⟨mk_k (List.mem_of_getElem? (i := 701) (by decide +kernel)) rfl, mk_k (List.mem_of_getElem? (i := 702) (by decide +kernel)) rfl⟩
theorem ml_X0_79 : Cond.methodLink RX0 79 yX2_put ∈ lw_k := mk_k (List.mem_of_getElem? (i := 806) (by decide +kernel)) rfl
theorem mv_X2_put : MV0 yX2_put cX2_put 7 none 2 := ⟨mk_k (List.mem_of_getElem? (i := 643) (by decide +kernel)) rfl, mk_k (List.mem_of_getElem? (i := 132) (by decide +kernel)) rfl, by decide +kernel, by decide +kernel, by decide +kernel⟩
theorem vi_X2_put : Cond.instanceMethod yX2_put ∈ lw_k ∧ Cond.selects RX2 yX2_put yX2_put ∈ lw_k := ⟨mk_k (List.mem_of_getElem? (i := 641) (by decide +kernel)) rfl, mk_k (List.mem_of_getElem? (i := 642) (by decide +kernel)) rfl⟩
theorem ml_X0_97 : Cond.methodLink RX0 97 yX0_putCrossing ∈ lw_k := mk_k (List.mem_of_getElem? (i := 828) (by decide +kernel)) rfl
theorem mv_X0_putCrossing : MV0 yX0_putCrossing cX0_putCrossing 12 none 5 := ⟨mk_k (List.mem_of_getElem? (i := 831) (by decide +kernel)) rfl, mk_k (List.mem_of_getElem? (i := 130) (by decide +kernel)) rfl, by decide +kernel, by decide +kernel, by decide +kernel⟩
theorem vi_X0_putCrossing : Cond.instanceMethod yX0_putCrossing ∈ lw_k ∧ Cond.selects RX0 yX0_putCrossing yX0_putCrossing ∈ lw_k := ⟨mk_k (List.mem_of_getElem? (i := 829) (by decide +kernel)) rfl, mk_k (List.mem_of_getElem? (i := 830) (by decide +kernel)) rfl⟩
theorem ml_X0_93 : Cond.methodLink RX0 93 yX0_overAt ∈ lw_k := mk_k (List.mem_of_getElem? (i := 824) (by decide +kernel)) rfl
theorem mv_X0_overAt : MV0 yX0_overAt cX0_overAt 5 (some .int) 4 := ⟨mk_k (List.mem_of_getElem? (i := 827) (by decide +kernel)) rfl, mk_k (List.mem_of_getElem? (i := 130) (by decide +kernel)) rfl, by decide +kernel, by decide +kernel, by decide +kernel⟩
theorem vi_X0_overAt : Cond.instanceMethod yX0_overAt ∈ lw_k ∧ Cond.selects RX0 yX0_overAt yX0_overAt ∈ lw_k := ⟨mk_k (List.mem_of_getElem? (i := 825) (by decide +kernel)) rfl, mk_k (List.mem_of_getElem? (i := 826) (by decide +kernel)) rfl⟩
theorem ml_X0_101 : Cond.methodLink RX0 101 yX0_stuffAt ∈ lw_k := mk_k (List.mem_of_getElem? (i := 1122) (by decide +kernel)) rfl
theorem mv_X0_stuffAt : MV0 yX0_stuffAt cX0_stuffAt 16 none 4 := ⟨mk_k (List.mem_of_getElem? (i := 805) (by decide +kernel)) rfl, mk_k (List.mem_of_getElem? (i := 130) (by decide +kernel)) rfl, by decide +kernel, by decide +kernel, by decide +kernel⟩
theorem vi_X0_stuffAt : Cond.instanceMethod yX0_stuffAt ∈ lw_k ∧ Cond.selects RX0 yX0_stuffAt yX0_stuffAt ∈ lw_k := ⟨mk_k (List.mem_of_getElem? (i := 803) (by decide +kernel)) rfl, mk_k (List.mem_of_getElem? (i := 804) (by decide +kernel)) rfl⟩
theorem oi_X1_3 : Cond.methodLink RX1 3 objectInit ∈ lw_k := mk_k (List.mem_of_getElem? (i := 871) (by decide +kernel)) rfl
theorem fp_X1_9 : FP RX1 9 1 0 (.array .int) true := ⟨RX1, TX1, 7, fk1, by decide, mk_k (List.mem_of_getElem? (i := 872) (by decide +kernel)) rfl, by decide +kernel, rfl, fun _ => rfl⟩
theorem fp_X1_15 : FP RX1 15 1 1 (.array .int) true := ⟨RX1, TX1, 7, fk1, by decide, mk_k (List.mem_of_getElem? (i := 875) (by decide +kernel)) rfl, by decide +kernel, rfl, fun _ => rfl⟩
theorem fp_X1_18 : FP RX1 18 1 2 (.array .int) true := ⟨RX1, TX1, 7, fk1, by decide, mk_k (List.mem_of_getElem? (i := 878) (by decide +kernel)) rfl, by decide +kernel, rfl, fun _ => rfl⟩
theorem fp_X1_21 : FP RX1 21 1 6 (.array .int) true := ⟨RX1, TX1, 7, fk1, by decide, mk_k (List.mem_of_getElem? (i := 886) (by decide +kernel)) rfl, by decide +kernel, rfl, fun _ => rfl⟩
theorem fp_X1_24 : FP RX1 24 1 5 (.array .int) true := ⟨RX1, TX1, 7, fk1, by decide, mk_k (List.mem_of_getElem? (i := 885) (by decide +kernel)) rfl, by decide +kernel, rfl, fun _ => rfl⟩
theorem arr_long : Cond.arrayClass (newarray.typeOf .long) ∈ lw_k := mk_k (List.mem_of_getElem? (i := 291) (by decide +kernel)) rfl
theorem fp_X1_27 : FP RX1 27 1 3 (.array .long) true := ⟨RX1, TX1, 7, fk1, by decide, mk_k (List.mem_of_getElem? (i := 880) (by decide +kernel)) rfl, by decide +kernel, rfl, fun _ => rfl⟩
theorem fp_X1_31 : FP RX1 31 1 4 .int false := ⟨RX1, TX1, 7, fk1, by decide, mk_k (List.mem_of_getElem? (i := 882) (by decide +kernel)) rfl, by decide +kernel, rfl, fun q => by cases q⟩
theorem fl_X1_24 : FL RX1 24 1 5 := ⟨RX1, TX1, 7, fk1, by decide, mk_k (List.mem_of_getElem? (i := 885) (by decide +kernel)) rfl⟩
theorem ml_X1_35 : Cond.methodLink RX1 35 yJ7_fill_53178 ∈ lw_k := mk_k (List.mem_of_getElem? (i := 936) (by decide +kernel)) rfl
theorem mv_J7_fill_53178 : MV0 yJ7_fill_53178 cJ7_fill_53178 4 none 2 := ⟨mk_k (List.mem_of_getElem? (i := 938) (by decide +kernel)) rfl, mk_k (List.mem_of_getElem? (i := 144) (by decide +kernel)) rfl, by decide +kernel, by decide +kernel, by decide +kernel⟩
theorem st_J7_fill_53178 : Cond.static yJ7_fill_53178 ∈ lw_k := mk_k (List.mem_of_getElem? (i := 937) (by decide +kernel)) rfl
theorem cc_X1_41 : Cond.constant RX1 41 1000003 ∈ lw_k := mk_k (List.mem_of_getElem? (i := 946) (by decide +kernel)) rfl
theorem fl_X1_31 : FL RX1 31 1 4 := ⟨RX1, TX1, 7, fk1, by decide, mk_k (List.mem_of_getElem? (i := 882) (by decide +kernel)) rfl⟩
theorem ml_X1_42 : Cond.methodLink RX1 42 yX1_headOf ∈ lw_k := mk_k (List.mem_of_getElem? (i := 943) (by decide +kernel)) rfl
theorem mv_X1_headOf : MV0 yX1_headOf cX1_headOf 3 (some .int) 2 := ⟨mk_k (List.mem_of_getElem? (i := 945) (by decide +kernel)) rfl, mk_k (List.mem_of_getElem? (i := 143) (by decide +kernel)) rfl, by decide +kernel, by decide +kernel, by decide +kernel⟩
theorem st_X1_headOf : Cond.static yX1_headOf ∈ lw_k := mk_k (List.mem_of_getElem? (i := 944) (by decide +kernel)) rfl
theorem fl_X1_9 : FL RX1 9 1 0 := ⟨RX1, TX1, 7, fk1, by decide, mk_k (List.mem_of_getElem? (i := 872) (by decide +kernel)) rfl⟩
theorem fl_X1_15 : FL RX1 15 1 1 := ⟨RX1, TX1, 7, fk1, by decide, mk_k (List.mem_of_getElem? (i := 875) (by decide +kernel)) rfl⟩
theorem fl_X1_18 : FL RX1 18 1 2 := ⟨RX1, TX1, 7, fk1, by decide, mk_k (List.mem_of_getElem? (i := 878) (by decide +kernel)) rfl⟩
theorem fl_X1_21 : FL RX1 21 1 6 := ⟨RX1, TX1, 7, fk1, by decide, mk_k (List.mem_of_getElem? (i := 886) (by decide +kernel)) rfl⟩
theorem ml_X1_46 : Cond.methodLink RX1 46 yX1_find ∈ lw_k := mk_k (List.mem_of_getElem? (i := 1250) (by decide +kernel)) rfl
theorem mv_X1_find : MV0 yX1_find cX1_find 7 (some .int) 4 := ⟨mk_k (List.mem_of_getElem? (i := 959) (by decide +kernel)) rfl, mk_k (List.mem_of_getElem? (i := 143) (by decide +kernel)) rfl, by decide +kernel, by decide +kernel, by decide +kernel⟩
theorem vi_X1_find : Cond.instanceMethod yX1_find ∈ lw_k ∧ Cond.selects RX1 yX1_find yX1_find ∈ lw_k := ⟨mk_k (List.mem_of_getElem? (i := 957) (by decide +kernel)) rfl, mk_k (List.mem_of_getElem? (i := 958) (by decide +kernel)) rfl⟩
theorem fl_X1_27 : FL RX1 27 1 3 := ⟨RX1, TX1, 7, fk1, by decide, mk_k (List.mem_of_getElem? (i := 880) (by decide +kernel)) rfl⟩
theorem ml_X1_50 : Cond.methodLink RX1 50 yX1_put ∈ lw_k := mk_k (List.mem_of_getElem? (i := 1251) (by decide +kernel)) rfl
theorem mv_X1_put : MV0 yX1_put cX1_put 5 none 3 := ⟨mk_k (List.mem_of_getElem? (i := 942) (by decide +kernel)) rfl, mk_k (List.mem_of_getElem? (i := 143) (by decide +kernel)) rfl, by decide +kernel, by decide +kernel, by decide +kernel⟩
theorem vi_X1_put : Cond.instanceMethod yX1_put ∈ lw_k ∧ Cond.selects RX1 yX1_put yX1_put ∈ lw_k := ⟨mk_k (List.mem_of_getElem? (i := 940) (by decide +kernel)) rfl, mk_k (List.mem_of_getElem? (i := 941) (by decide +kernel)) rfl⟩
theorem oi_X2_1 : Cond.methodLink RX2 1 objectInit ∈ lw_k := mk_k (List.mem_of_getElem? (i := 297) (by decide +kernel)) rfl
theorem fl_X2_13 : FL RX2 13 2 1 := ⟨RX2, TX2, 2, fk2, by decide, mk_k (List.mem_of_getElem? (i := 301) (by decide +kernel)) rfl⟩
theorem fl_X2_7 : FL RX2 7 2 0 := ⟨RX2, TX2, 2, fk2, by decide, mk_k (List.mem_of_getElem? (i := 298) (by decide +kernel)) rfl⟩
theorem ml_X2_22 : Cond.methodLink RX2 22 yJ13_compare_74951 ∈ lw_k := mk_k (List.mem_of_getElem? (i := 1086) (by decide +kernel)) rfl
theorem mv_J13_compare_74951 : MV0 yJ13_compare_74951 cJ13_compare_74951 4 (some .int) 2 := ⟨mk_k (List.mem_of_getElem? (i := 1088) (by decide +kernel)) rfl, mk_k (List.mem_of_getElem? (i := 145) (by decide +kernel)) rfl, by decide +kernel, by decide +kernel, by decide +kernel⟩
theorem st_J13_compare_74951 : Cond.static yJ13_compare_74951 ∈ lw_k := mk_k (List.mem_of_getElem? (i := 1087) (by decide +kernel)) rfl
theorem oi_X6_3 : Cond.methodLink RX6 3 objectInit ∈ lw_k := mk_k (List.mem_of_getElem? (i := 389) (by decide +kernel)) rfl
theorem fp_X6_9 : FP RX6 9 6 1 (.array .int) true := ⟨RX6, TX6, 6, fk6, by decide, mk_k (List.mem_of_getElem? (i := 392) (by decide +kernel)) rfl, by decide +kernel, rfl, fun _ => rfl⟩
theorem fp_X6_15 : FP RX6 15 6 2 (.array .int) true := ⟨RX6, TX6, 6, fk6, by decide, mk_k (List.mem_of_getElem? (i := 394) (by decide +kernel)) rfl, by decide +kernel, rfl, fun _ => rfl⟩
theorem fp_X6_18 : FP RX6 18 6 3 (.array .int) true := ⟨RX6, TX6, 6, fk6, by decide, mk_k (List.mem_of_getElem? (i := 396) (by decide +kernel)) rfl, by decide +kernel, rfl, fun _ => rfl⟩
theorem oi_X3_3 : Cond.methodLink RX3 3 objectInit ∈ lw_k := mk_k (List.mem_of_getElem? (i := 381) (by decide +kernel)) rfl
theorem nw_X3_9 : NW RX3 9 0 18 df0 := ⟨RX0, TX0, tyX0, fk0, mk_k (List.mem_of_getElem? (i := 382) (by decide +kernel)) rfl, mk_k (List.mem_of_getElem? (i := 157) (by decide +kernel)) rfl, mk_k (List.mem_of_getElem? (i := 130) (by decide +kernel)) rfl, tyX0_ok, by decide +kernel, fun _ => rfl⟩
theorem ml_X3_11 : Cond.methodLink RX3 11 yX0_init ∈ lw_k := mk_k (List.mem_of_getElem? (i := 383) (by decide +kernel)) rfl
theorem mv_X0_init : MV0 yX0_init cX0_init 1 none 0 := ⟨mk_k (List.mem_of_getElem? (i := 160) (by decide +kernel)) rfl, mk_k (List.mem_of_getElem? (i := 130) (by decide +kernel)) rfl, by decide +kernel, by decide +kernel, by decide +kernel⟩
theorem im_X0_init : Cond.instanceMethod yX0_init ∈ lw_k := mk_k (List.mem_of_getElem? (i := 159) (by decide +kernel)) rfl
theorem fp_X3_12 : FP RX3 12 3 0 (.object "FractionLift$House") false := ⟨RX3, TX3, 14, fk3, by decide, mk_k (List.mem_of_getElem? (i := 415) (by decide +kernel)) rfl, by decide +kernel, rfl, fun q => by cases q⟩
theorem nw_X3_18 : NW RX3 18 6 6 df6 := ⟨RX6, TX6, tyX6, fk6, mk_k (List.mem_of_getElem? (i := 384) (by decide +kernel)) rfl, mk_k (List.mem_of_getElem? (i := 385) (by decide +kernel)) rfl, mk_k (List.mem_of_getElem? (i := 135) (by decide +kernel)) rfl, tyX6_ok, by decide +kernel, fun _ => rfl⟩
theorem ml_X3_20 : Cond.methodLink RX3 20 yX6_init ∈ lw_k := mk_k (List.mem_of_getElem? (i := 386) (by decide +kernel)) rfl
theorem mv_X6_init : MV0 yX6_init cX6_init 1 none 0 := ⟨mk_k (List.mem_of_getElem? (i := 388) (by decide +kernel)) rfl, mk_k (List.mem_of_getElem? (i := 135) (by decide +kernel)) rfl, by decide +kernel, by decide +kernel, by decide +kernel⟩
theorem im_X6_init : Cond.instanceMethod yX6_init ∈ lw_k := mk_k (List.mem_of_getElem? (i := 387) (by decide +kernel)) rfl
theorem fp_X3_21 : FP RX3 21 3 3 (.object "FractionLift$Tokens") true := ⟨RX3, TX3, 14, fk3, by decide, mk_k (List.mem_of_getElem? (i := 421) (by decide +kernel)) rfl, by decide +kernel, rfl, fun _ => rfl⟩
theorem fp_X3_25 : FP RX3 25 3 11 (.array .int) true := ⟨RX3, TX3, 14, fk3, by decide, mk_k (List.mem_of_getElem? (i := 429) (by decide +kernel)) rfl, by decide +kernel, rfl, fun _ => rfl⟩
theorem nw_X3_29 : NW RX3 29 2 2 df2 := ⟨RX2, TX2, tyX2, fk2, mk_k (List.mem_of_getElem? (i := 413) (by decide +kernel)) rfl, mk_k (List.mem_of_getElem? (i := 293) (by decide +kernel)) rfl, mk_k (List.mem_of_getElem? (i := 132) (by decide +kernel)) rfl, tyX2_ok, by decide +kernel, fun _ => rfl⟩
theorem ml_X3_31 : Cond.methodLink RX3 31 yX2_init ∈ lw_k := mk_k (List.mem_of_getElem? (i := 414) (by decide +kernel)) rfl
theorem mv_X2_init : MV0 yX2_init cX2_init 1 none 0 := ⟨mk_k (List.mem_of_getElem? (i := 296) (by decide +kernel)) rfl, mk_k (List.mem_of_getElem? (i := 132) (by decide +kernel)) rfl, by decide +kernel, by decide +kernel, by decide +kernel⟩
theorem im_X2_init : Cond.instanceMethod yX2_init ∈ lw_k := mk_k (List.mem_of_getElem? (i := 295) (by decide +kernel)) rfl
theorem fp_X3_32 : FP RX3 32 3 13 (.object "FractionLift$Ratio") true := ⟨RX3, TX3, 14, fk3, by decide, mk_k (List.mem_of_getElem? (i := 431) (by decide +kernel)) rfl, by decide +kernel, rfl, fun _ => rfl⟩
theorem fl_X6_30 : FL RX6 30 6 5 := ⟨RX6, TX6, 6, fk6, by decide, mk_k (List.mem_of_getElem? (i := 399) (by decide +kernel)) rfl⟩
theorem fl_X6_21 : FL RX6 21 6 4 := ⟨RX6, TX6, 6, fk6, by decide, mk_k (List.mem_of_getElem? (i := 398) (by decide +kernel)) rfl⟩
theorem ml_X6_54 : Cond.methodLink RX6 54 yX6_isDigit ∈ lw_k := mk_k (List.mem_of_getElem? (i := 484) (by decide +kernel)) rfl
theorem mv_X6_isDigit : MV0 yX6_isDigit cX6_isDigit 1 (some .boolean) 1 := ⟨mk_k (List.mem_of_getElem? (i := 486) (by decide +kernel)) rfl, mk_k (List.mem_of_getElem? (i := 135) (by decide +kernel)) rfl, by decide +kernel, by decide +kernel, by decide +kernel⟩
theorem st_X6_isDigit : Cond.static yX6_isDigit ∈ lw_k := mk_k (List.mem_of_getElem? (i := 485) (by decide +kernel)) rfl
theorem ml_X6_58 : Cond.methodLink RX6 58 yX6_isLetter ∈ lw_k := mk_k (List.mem_of_getElem? (i := 487) (by decide +kernel)) rfl
theorem mv_X6_isLetter : MV0 yX6_isLetter cX6_isLetter 1 (some .boolean) 1 := ⟨mk_k (List.mem_of_getElem? (i := 489) (by decide +kernel)) rfl, mk_k (List.mem_of_getElem? (i := 135) (by decide +kernel)) rfl, by decide +kernel, by decide +kernel, by decide +kernel⟩
theorem st_X6_isLetter : Cond.static yX6_isLetter ∈ lw_k := mk_k (List.mem_of_getElem? (i := 488) (by decide +kernel)) rfl
theorem ml_X6_92 : Cond.methodLink RX6 92 yJ0_charAt_5068e ∈ lw_k := mk_k (List.mem_of_getElem? (i := 513) (by decide +kernel)) rfl
theorem ml_X6_87 : Cond.methodLink RX6 87 yJ0_length_8abf5 ∈ lw_k := mk_k (List.mem_of_getElem? (i := 503) (by decide +kernel)) rfl
theorem ml_X6_69 : Cond.methodLink RX6 69 yX6_isWord ∈ lw_k := mk_k (List.mem_of_getElem? (i := 499) (by decide +kernel)) rfl
theorem mv_X6_isWord : MV0 yX6_isWord cX6_isWord 5 (some .boolean) 3 := ⟨mk_k (List.mem_of_getElem? (i := 502) (by decide +kernel)) rfl, mk_k (List.mem_of_getElem? (i := 135) (by decide +kernel)) rfl, by decide +kernel, by decide +kernel, by decide +kernel⟩
theorem vi_X6_isWord : Cond.instanceMethod yX6_isWord ∈ lw_k ∧ Cond.selects RX6 yX6_isWord yX6_isWord ∈ lw_k := ⟨mk_k (List.mem_of_getElem? (i := 501) (by decide +kernel)) rfl, mk_k (List.mem_of_getElem? (i := 5) (by decide +kernel)) rfl⟩
theorem ml_X6_64 : Cond.methodLink RX6 64 yX6_isSign ∈ lw_k := mk_k (List.mem_of_getElem? (i := 558) (by decide +kernel)) rfl
theorem mv_X6_isSign : MV0 yX6_isSign cX6_isSign 1 (some .boolean) 1 := ⟨mk_k (List.mem_of_getElem? (i := 560) (by decide +kernel)) rfl, mk_k (List.mem_of_getElem? (i := 135) (by decide +kernel)) rfl, by decide +kernel, by decide +kernel, by decide +kernel⟩
theorem st_X6_isSign : Cond.static yX6_isSign ∈ lw_k := mk_k (List.mem_of_getElem? (i := 559) (by decide +kernel)) rfl
theorem ml_X6_61 : Cond.methodLink RX6 61 yX6_wordKind ∈ lw_k := mk_k (List.mem_of_getElem? (i := 494) (by decide +kernel)) rfl
theorem mv_X6_wordKind : MV0 yX6_wordKind cX6_wordKind 3 (some .int) 2 := ⟨mk_k (List.mem_of_getElem? (i := 497) (by decide +kernel)) rfl, mk_k (List.mem_of_getElem? (i := 135) (by decide +kernel)) rfl, by decide +kernel, by decide +kernel, by decide +kernel⟩
theorem vi_X6_wordKind : Cond.instanceMethod yX6_wordKind ∈ lw_k ∧ Cond.selects RX6 yX6_wordKind yX6_wordKind ∈ lw_k := ⟨mk_k (List.mem_of_getElem? (i := 496) (by decide +kernel)) rfl, mk_k (List.mem_of_getElem? (i := 4) (by decide +kernel)) rfl⟩
theorem fl_X6_34 : FL RX6 34 6 0 := ⟨RX6, TX6, 6, fk6, by decide, mk_k (List.mem_of_getElem? (i := 390) (by decide +kernel)) rfl⟩
theorem fl_X6_9 : FL RX6 9 6 1 := ⟨RX6, TX6, 6, fk6, by decide, mk_k (List.mem_of_getElem? (i := 392) (by decide +kernel)) rfl⟩
theorem fl_X6_15 : FL RX6 15 6 2 := ⟨RX6, TX6, 6, fk6, by decide, mk_k (List.mem_of_getElem? (i := 394) (by decide +kernel)) rfl⟩
theorem fl_X6_18 : FL RX6 18 6 3 := ⟨RX6, TX6, 6, fk6, by decide, mk_k (List.mem_of_getElem? (i := 396) (by decide +kernel)) rfl⟩
theorem fp_X6_34 : FP RX6 34 6 0 .int false := ⟨RX6, TX6, 6, fk6, by decide, mk_k (List.mem_of_getElem? (i := 390) (by decide +kernel)) rfl, by decide +kernel, rfl, fun q => by cases q⟩
theorem ml_X6_50 : Cond.methodLink RX6 50 yX6_add ∈ lw_k := mk_k (List.mem_of_getElem? (i := 565) (by decide +kernel)) rfl
theorem mv_X6_add : MV0 yX6_add cX6_add 4 none 3 := ⟨mk_k (List.mem_of_getElem? (i := 568) (by decide +kernel)) rfl, mk_k (List.mem_of_getElem? (i := 135) (by decide +kernel)) rfl, by decide +kernel, by decide +kernel, by decide +kernel⟩
theorem vi_X6_add : Cond.instanceMethod yX6_add ∈ lw_k ∧ Cond.selects RX6 yX6_add yX6_add ∈ lw_k := ⟨mk_k (List.mem_of_getElem? (i := 567) (by decide +kernel)) rfl, mk_k (List.mem_of_getElem? (i := 7) (by decide +kernel)) rfl⟩
theorem ml_X6_37 : Cond.methodLink RX6 37 yX6_behindBlanks ∈ lw_k := mk_k (List.mem_of_getElem? (i := 476) (by decide +kernel)) rfl
theorem mv_X6_behindBlanks : MV0 yX6_behindBlanks cX6_behindBlanks 3 (some .int) 1 := ⟨mk_k (List.mem_of_getElem? (i := 479) (by decide +kernel)) rfl, mk_k (List.mem_of_getElem? (i := 135) (by decide +kernel)) rfl, by decide +kernel, by decide +kernel, by decide +kernel⟩
theorem vi_X6_behindBlanks : Cond.instanceMethod yX6_behindBlanks ∈ lw_k ∧ Cond.selects RX6 yX6_behindBlanks yX6_behindBlanks ∈ lw_k := ⟨mk_k (List.mem_of_getElem? (i := 478) (by decide +kernel)) rfl, mk_k (List.mem_of_getElem? (i := 1) (by decide +kernel)) rfl⟩
theorem ml_X6_41 : Cond.methodLink RX6 41 yX6_endOf ∈ lw_k := mk_k (List.mem_of_getElem? (i := 480) (by decide +kernel)) rfl
theorem mv_X6_endOf : MV0 yX6_endOf cX6_endOf 3 (some .int) 1 := ⟨mk_k (List.mem_of_getElem? (i := 483) (by decide +kernel)) rfl, mk_k (List.mem_of_getElem? (i := 135) (by decide +kernel)) rfl, by decide +kernel, by decide +kernel, by decide +kernel⟩
theorem vi_X6_endOf : Cond.instanceMethod yX6_endOf ∈ lw_k ∧ Cond.selects RX6 yX6_endOf yX6_endOf ∈ lw_k := ⟨mk_k (List.mem_of_getElem? (i := 482) (by decide +kernel)) rfl, mk_k (List.mem_of_getElem? (i := 2) (by decide +kernel)) rfl⟩
theorem ml_X6_44 : Cond.methodLink RX6 44 yX6_kindOf ∈ lw_k := mk_k (List.mem_of_getElem? (i := 490) (by decide +kernel)) rfl
theorem mv_X6_kindOf : MV0 yX6_kindOf cX6_kindOf 4 (some .int) 2 := ⟨mk_k (List.mem_of_getElem? (i := 493) (by decide +kernel)) rfl, mk_k (List.mem_of_getElem? (i := 135) (by decide +kernel)) rfl, by decide +kernel, by decide +kernel, by decide +kernel⟩
theorem vi_X6_kindOf : Cond.instanceMethod yX6_kindOf ∈ lw_k ∧ Cond.selects RX6 yX6_kindOf yX6_kindOf ∈ lw_k := ⟨mk_k (List.mem_of_getElem? (i := 492) (by decide +kernel)) rfl, mk_k (List.mem_of_getElem? (i := 3) (by decide +kernel)) rfl⟩
theorem ml_X6_47 : Cond.methodLink RX6 47 yX6_amountOf ∈ lw_k := mk_k (List.mem_of_getElem? (i := 561) (by decide +kernel)) rfl
theorem mv_X6_amountOf : MV0 yX6_amountOf cX6_amountOf 5 (some .int) 2 := ⟨mk_k (List.mem_of_getElem? (i := 564) (by decide +kernel)) rfl, mk_k (List.mem_of_getElem? (i := 135) (by decide +kernel)) rfl, by decide +kernel, by decide +kernel, by decide +kernel⟩
theorem vi_X6_amountOf : Cond.instanceMethod yX6_amountOf ∈ lw_k ∧ Cond.selects RX6 yX6_amountOf yX6_amountOf ∈ lw_k := ⟨mk_k (List.mem_of_getElem? (i := 563) (by decide +kernel)) rfl, mk_k (List.mem_of_getElem? (i := 6) (by decide +kernel)) rfl⟩
theorem fp_X6_21 : FP RX6 21 6 4 (.array .int) false := ⟨RX6, TX6, 6, fk6, by decide, mk_k (List.mem_of_getElem? (i := 398) (by decide +kernel)) rfl, by decide +kernel, rfl, fun q => by cases q⟩
theorem ml_X6_24 : Cond.methodLink RX6 24 yJ9_min_7cf53 ∈ lw_k := mk_k (List.mem_of_getElem? (i := 473) (by decide +kernel)) rfl
theorem mv_J9_min_7cf53 : MV0 yJ9_min_7cf53 cJ9_min_7cf53 2 (some .int) 2 := ⟨mk_k (List.mem_of_getElem? (i := 475) (by decide +kernel)) rfl, mk_k (List.mem_of_getElem? (i := 136) (by decide +kernel)) rfl, by decide +kernel, by decide +kernel, by decide +kernel⟩
theorem st_J9_min_7cf53 : Cond.static yJ9_min_7cf53 ∈ lw_k := mk_k (List.mem_of_getElem? (i := 474) (by decide +kernel)) rfl
theorem fp_X6_30 : FP RX6 30 6 5 .int false := ⟨RX6, TX6, 6, fk6, by decide, mk_k (List.mem_of_getElem? (i := 399) (by decide +kernel)) rfl, by decide +kernel, rfl, fun q => by cases q⟩
theorem fp_X3_206 : FP RX3 206 3 4 .int false := ⟨RX3, TX3, 14, fk3, by decide, mk_k (List.mem_of_getElem? (i := 422) (by decide +kernel)) rfl, by decide +kernel, rfl, fun q => by cases q⟩
theorem fl_X3_206 : FL RX3 206 3 4 := ⟨RX3, TX3, 14, fk3, by decide, mk_k (List.mem_of_getElem? (i := 422) (by decide +kernel)) rfl⟩
theorem fl_X3_21 : FL RX3 21 3 3 := ⟨RX3, TX3, 14, fk3, by decide, mk_k (List.mem_of_getElem? (i := 421) (by decide +kernel)) rfl⟩
theorem fl_X3_209 : FL RX3 209 6 1 := ⟨RX6, TX6, 6, fk6, by decide, mk_k (List.mem_of_getElem? (i := 393) (by decide +kernel)) rfl⟩
theorem fp_X3_64 : FP RX3 64 3 5 .int false := ⟨RX3, TX3, 14, fk3, by decide, mk_k (List.mem_of_getElem? (i := 423) (by decide +kernel)) rfl, by decide +kernel, rfl, fun q => by cases q⟩
theorem fl_X3_212 : FL RX3 212 6 2 := ⟨RX6, TX6, 6, fk6, by decide, mk_k (List.mem_of_getElem? (i := 395) (by decide +kernel)) rfl⟩
theorem fp_X3_203 : FP RX3 203 3 6 .int false := ⟨RX3, TX3, 14, fk3, by decide, mk_k (List.mem_of_getElem? (i := 424) (by decide +kernel)) rfl, by decide +kernel, rfl, fun q => by cases q⟩
theorem fl_X3_215 : FL RX3 215 6 3 := ⟨RX6, TX6, 6, fk6, by decide, mk_k (List.mem_of_getElem? (i := 397) (by decide +kernel)) rfl⟩
theorem fp_X3_171 : FP RX3 171 3 7 .int false := ⟨RX3, TX3, 14, fk3, by decide, mk_k (List.mem_of_getElem? (i := 425) (by decide +kernel)) rfl, by decide +kernel, rfl, fun q => by cases q⟩
theorem fl_X3_61 : FL RX3 61 6 0 := ⟨RX6, TX6, 6, fk6, by decide, mk_k (List.mem_of_getElem? (i := 391) (by decide +kernel)) rfl⟩
theorem fp_X3_36 : FP RX3 36 3 1 .int false := ⟨RX3, TX3, 14, fk3, by decide, mk_k (List.mem_of_getElem? (i := 417) (by decide +kernel)) rfl, by decide +kernel, rfl, fun q => by cases q⟩
theorem fl_X3_203 : FL RX3 203 3 6 := ⟨RX3, TX3, 14, fk3, by decide, mk_k (List.mem_of_getElem? (i := 424) (by decide +kernel)) rfl⟩
theorem fp_X3_40 : FP RX3 40 3 2 .int false := ⟨RX3, TX3, 14, fk3, by decide, mk_k (List.mem_of_getElem? (i := 419) (by decide +kernel)) rfl, by decide +kernel, rfl, fun q => by cases q⟩
theorem ml_X3_137 : Cond.methodLink RX3 137 yX3_failed ∈ lw_k := mk_k (List.mem_of_getElem? (i := 585) (by decide +kernel)) rfl
theorem mv_X3_failed : MV0 yX3_failed cX3_failed 2 (some .boolean) 1 := ⟨mk_k (List.mem_of_getElem? (i := 588) (by decide +kernel)) rfl, mk_k (List.mem_of_getElem? (i := 134) (by decide +kernel)) rfl, by decide +kernel, by decide +kernel, by decide +kernel⟩
theorem vi_X3_failed : Cond.instanceMethod yX3_failed ∈ lw_k ∧ Cond.selects RX3 yX3_failed yX3_failed ∈ lw_k := ⟨mk_k (List.mem_of_getElem? (i := 587) (by decide +kernel)) rfl, mk_k (List.mem_of_getElem? (i := 12) (by decide +kernel)) rfl⟩
theorem fl_X3_64 : FL RX3 64 3 5 := ⟨RX3, TX3, 14, fk3, by decide, mk_k (List.mem_of_getElem? (i := 423) (by decide +kernel)) rfl⟩
theorem ml_X3_57 : Cond.methodLink RX3 57 yX3_lookAt ∈ lw_k := mk_k (List.mem_of_getElem? (i := 569) (by decide +kernel)) rfl
theorem mv_X3_lookAt : MV0 yX3_lookAt cX3_lookAt 2 none 1 := ⟨mk_k (List.mem_of_getElem? (i := 572) (by decide +kernel)) rfl, mk_k (List.mem_of_getElem? (i := 134) (by decide +kernel)) rfl, by decide +kernel, by decide +kernel, by decide +kernel⟩
theorem vi_X3_lookAt : Cond.instanceMethod yX3_lookAt ∈ lw_k ∧ Cond.selects RX3 yX3_lookAt yX3_lookAt ∈ lw_k := ⟨mk_k (List.mem_of_getElem? (i := 571) (by decide +kernel)) rfl, mk_k (List.mem_of_getElem? (i := 8) (by decide +kernel)) rfl⟩
theorem fl_X3_171 : FL RX3 171 3 7 := ⟨RX3, TX3, 14, fk3, by decide, mk_k (List.mem_of_getElem? (i := 425) (by decide +kernel)) rfl⟩
theorem fp_X3_111 : FP RX3 111 3 8 .int false := ⟨RX3, TX3, 14, fk3, by decide, mk_k (List.mem_of_getElem? (i := 426) (by decide +kernel)) rfl, by decide +kernel, rfl, fun q => by cases q⟩
theorem ml_X3_98 : Cond.methodLink RX3 98 yX3_next ∈ lw_k := mk_k (List.mem_of_getElem? (i := 589) (by decide +kernel)) rfl
theorem mv_X3_next : MV0 yX3_next cX3_next 1 none 0 := ⟨mk_k (List.mem_of_getElem? (i := 592) (by decide +kernel)) rfl, mk_k (List.mem_of_getElem? (i := 134) (by decide +kernel)) rfl, by decide +kernel, by decide +kernel, by decide +kernel⟩
theorem vi_X3_next : Cond.instanceMethod yX3_next ∈ lw_k ∧ Cond.selects RX3 yX3_next yX3_next ∈ lw_k := ⟨mk_k (List.mem_of_getElem? (i := 591) (by decide +kernel)) rfl, mk_k (List.mem_of_getElem? (i := 13) (by decide +kernel)) rfl⟩
theorem ml_X3_92 : Cond.methodLink RX3 92 yX3_cantStand ∈ lw_k := mk_k (List.mem_of_getElem? (i := 581) (by decide +kernel)) rfl
theorem mv_X3_cantStand : MV0 yX3_cantStand cX3_cantStand 1 (some .boolean) 0 := ⟨mk_k (List.mem_of_getElem? (i := 584) (by decide +kernel)) rfl, mk_k (List.mem_of_getElem? (i := 134) (by decide +kernel)) rfl, by decide +kernel, by decide +kernel, by decide +kernel⟩
theorem vi_X3_cantStand : Cond.instanceMethod yX3_cantStand ∈ lw_k ∧ Cond.selects RX3 yX3_cantStand yX3_cantStand ∈ lw_k := ⟨mk_k (List.mem_of_getElem? (i := 583) (by decide +kernel)) rfl, mk_k (List.mem_of_getElem? (i := 11) (by decide +kernel)) rfl⟩
theorem fl_X3_43 : FL RX3 43 3 9 := ⟨RX3, TX3, 14, fk3, by decide, mk_k (List.mem_of_getElem? (i := 427) (by decide +kernel)) rfl⟩
theorem fl_X3_12 : FL RX3 12 3 0 := ⟨RX3, TX3, 14, fk3, by decide, mk_k (List.mem_of_getElem? (i := 415) (by decide +kernel)) rfl⟩
theorem fl_X3_101 : FL RX3 101 0 9 := ⟨RX0, TX0, 18, fk0, by decide, mk_k (List.mem_of_getElem? (i := 199) (by decide +kernel)) rfl⟩
theorem fl_X3_104 : FL RX3 104 0 15 := ⟨RX0, TX0, 18, fk0, by decide, mk_k (List.mem_of_getElem? (i := 214) (by decide +kernel)) rfl⟩
theorem ml_X3_107 : Cond.methodLink RX3 107 yX3_numberWithin ∈ lw_k := mk_k (List.mem_of_getElem? (i := 593) (by decide +kernel)) rfl
theorem mv_X3_numberWithin : MV0 yX3_numberWithin cX3_numberWithin 3 (some .boolean) 2 := ⟨mk_k (List.mem_of_getElem? (i := 596) (by decide +kernel)) rfl, mk_k (List.mem_of_getElem? (i := 134) (by decide +kernel)) rfl, by decide +kernel, by decide +kernel, by decide +kernel⟩
theorem vi_X3_numberWithin : Cond.instanceMethod yX3_numberWithin ∈ lw_k ∧ Cond.selects RX3 yX3_numberWithin yX3_numberWithin ∈ lw_k := ⟨mk_k (List.mem_of_getElem? (i := 595) (by decide +kernel)) rfl, mk_k (List.mem_of_getElem? (i := 14) (by decide +kernel)) rfl⟩
theorem fl_X3_111 : FL RX3 111 3 8 := ⟨RX3, TX3, 14, fk3, by decide, mk_k (List.mem_of_getElem? (i := 426) (by decide +kernel)) rfl⟩
theorem fp_X3_114 : FP RX3 114 0 0 .int false := ⟨RX0, TX0, 18, fk0, by decide, mk_k (List.mem_of_getElem? (i := 164) (by decide +kernel)) rfl, by decide +kernel, rfl, fun q => by cases q⟩
theorem fl_X3_174 : FL RX3 174 3 12 := ⟨RX3, TX3, 14, fk3, by decide, mk_k (List.mem_of_getElem? (i := 430) (by decide +kernel)) rfl⟩
theorem fl_X3_25 : FL RX3 25 3 11 := ⟨RX3, TX3, 14, fk3, by decide, mk_k (List.mem_of_getElem? (i := 429) (by decide +kernel)) rfl⟩
theorem fp_X3_174 : FP RX3 174 3 12 .int false := ⟨RX3, TX3, 14, fk3, by decide, mk_k (List.mem_of_getElem? (i := 430) (by decide +kernel)) rfl, by decide +kernel, rfl, fun q => by cases q⟩
theorem fl_X3_47 : FL RX3 47 3 10 := ⟨RX3, TX3, 14, fk3, by decide, mk_k (List.mem_of_getElem? (i := 428) (by decide +kernel)) rfl⟩
theorem fl_X3_200 : FL RX3 200 0 8 := ⟨RX0, TX0, 18, fk0, by decide, mk_k (List.mem_of_getElem? (i := 196) (by decide +kernel)) rfl⟩
theorem fp_X3_47 : FP RX3 47 3 10 .int false := ⟨RX3, TX3, 14, fk3, by decide, mk_k (List.mem_of_getElem? (i := 428) (by decide +kernel)) rfl, by decide +kernel, rfl, fun q => by cases q⟩
theorem ml_X3_197 : Cond.methodLink RX3 197 yX3_emit ∈ lw_k := mk_k (List.mem_of_getElem? (i := 613) (by decide +kernel)) rfl
theorem mv_X3_emit : MV0 yX3_emit cX3_emit 2 none 1 := ⟨mk_k (List.mem_of_getElem? (i := 616) (by decide +kernel)) rfl, mk_k (List.mem_of_getElem? (i := 134) (by decide +kernel)) rfl, by decide +kernel, by decide +kernel, by decide +kernel⟩
theorem vi_X3_emit : Cond.instanceMethod yX3_emit ∈ lw_k ∧ Cond.selects RX3 yX3_emit yX3_emit ∈ lw_k := ⟨mk_k (List.mem_of_getElem? (i := 615) (by decide +kernel)) rfl, mk_k (List.mem_of_getElem? (i := 19) (by decide +kernel)) rfl⟩
theorem ml_X3_193 : Cond.methodLink RX3 193 yX3_strength ∈ lw_k := mk_k (List.mem_of_getElem? (i := 621) (by decide +kernel)) rfl
theorem mv_X3_strength : MV0 yX3_strength cX3_strength 1 (some .int) 1 := ⟨mk_k (List.mem_of_getElem? (i := 623) (by decide +kernel)) rfl, mk_k (List.mem_of_getElem? (i := 134) (by decide +kernel)) rfl, by decide +kernel, by decide +kernel, by decide +kernel⟩
theorem st_X3_strength : Cond.static yX3_strength ∈ lw_k := mk_k (List.mem_of_getElem? (i := 622) (by decide +kernel)) rfl
theorem ml_X3_189 : Cond.methodLink RX3 189 yX3_signCode ∈ lw_k := mk_k (List.mem_of_getElem? (i := 628) (by decide +kernel)) rfl
theorem mv_X3_signCode : MV0 yX3_signCode cX3_signCode 1 (some .int) 0 := ⟨mk_k (List.mem_of_getElem? (i := 631) (by decide +kernel)) rfl, mk_k (List.mem_of_getElem? (i := 134) (by decide +kernel)) rfl, by decide +kernel, by decide +kernel, by decide +kernel⟩
theorem vi_X3_signCode : Cond.instanceMethod yX3_signCode ∈ lw_k ∧ Cond.selects RX3 yX3_signCode yX3_signCode ∈ lw_k := ⟨mk_k (List.mem_of_getElem? (i := 630) (by decide +kernel)) rfl, mk_k (List.mem_of_getElem? (i := 22) (by decide +kernel)) rfl⟩
theorem ml_X3_183 : Cond.methodLink RX3 183 yX3_popSigns ∈ lw_k := mk_k (List.mem_of_getElem? (i := 617) (by decide +kernel)) rfl
theorem mv_X3_popSigns : MV0 yX3_popSigns cX3_popSigns 3 none 1 := ⟨mk_k (List.mem_of_getElem? (i := 620) (by decide +kernel)) rfl, mk_k (List.mem_of_getElem? (i := 134) (by decide +kernel)) rfl, by decide +kernel, by decide +kernel, by decide +kernel⟩
theorem vi_X3_popSigns : Cond.instanceMethod yX3_popSigns ∈ lw_k ∧ Cond.selects RX3 yX3_popSigns yX3_popSigns ∈ lw_k := ⟨mk_k (List.mem_of_getElem? (i := 619) (by decide +kernel)) rfl, mk_k (List.mem_of_getElem? (i := 20) (by decide +kernel)) rfl⟩
theorem ml_X3_177 : Cond.methodLink RX3 177 yX3_pushSign ∈ lw_k := mk_k (List.mem_of_getElem? (i := 605) (by decide +kernel)) rfl
theorem mv_X3_pushSign : MV0 yX3_pushSign cX3_pushSign 2 none 1 := ⟨mk_k (List.mem_of_getElem? (i := 608) (by decide +kernel)) rfl, mk_k (List.mem_of_getElem? (i := 134) (by decide +kernel)) rfl, by decide +kernel, by decide +kernel, by decide +kernel⟩
theorem vi_X3_pushSign : Cond.instanceMethod yX3_pushSign ∈ lw_k ∧ Cond.selects RX3 yX3_pushSign yX3_pushSign ∈ lw_k := ⟨mk_k (List.mem_of_getElem? (i := 607) (by decide +kernel)) rfl, mk_k (List.mem_of_getElem? (i := 17) (by decide +kernel)) rfl⟩
theorem ml_X3_186 : Cond.methodLink RX3 186 yX3_dropSign ∈ lw_k := mk_k (List.mem_of_getElem? (i := 624) (by decide +kernel)) rfl
theorem mv_X3_dropSign : MV0 yX3_dropSign cX3_dropSign 1 none 0 := ⟨mk_k (List.mem_of_getElem? (i := 627) (by decide +kernel)) rfl, mk_k (List.mem_of_getElem? (i := 134) (by decide +kernel)) rfl, by decide +kernel, by decide +kernel, by decide +kernel⟩
theorem vi_X3_dropSign : Cond.instanceMethod yX3_dropSign ∈ lw_k ∧ Cond.selects RX3 yX3_dropSign yX3_dropSign ∈ lw_k := ⟨mk_k (List.mem_of_getElem? (i := 626) (by decide +kernel)) rfl, mk_k (List.mem_of_getElem? (i := 21) (by decide +kernel)) rfl⟩
theorem ml_X3_180 : Cond.methodLink RX3 180 yX3_atom ∈ lw_k := mk_k (List.mem_of_getElem? (i := 609) (by decide +kernel)) rfl
theorem mv_X3_atom : MV0 yX3_atom cX3_atom 1 (some .boolean) 0 := ⟨mk_k (List.mem_of_getElem? (i := 612) (by decide +kernel)) rfl, mk_k (List.mem_of_getElem? (i := 134) (by decide +kernel)) rfl, by decide +kernel, by decide +kernel, by decide +kernel⟩
theorem vi_X3_atom : Cond.instanceMethod yX3_atom ∈ lw_k ∧ Cond.selects RX3 yX3_atom yX3_atom ∈ lw_k := ⟨mk_k (List.mem_of_getElem? (i := 611) (by decide +kernel)) rfl, mk_k (List.mem_of_getElem? (i := 18) (by decide +kernel)) rfl⟩
theorem fl_X3_154 : FL RX3 154 0 6 := ⟨RX0, TX0, 18, fk0, by decide, mk_k (List.mem_of_getElem? (i := 189) (by decide +kernel)) rfl⟩
theorem fl_X3_157 : FL RX3 157 0 7 := ⟨RX0, TX0, 18, fk0, by decide, mk_k (List.mem_of_getElem? (i := 193) (by decide +kernel)) rfl⟩
theorem ml_X3_160 : Cond.methodLink RX3 160 yX3_sumToEnd ∈ lw_k := mk_k (List.mem_of_getElem? (i := 601) (by decide +kernel)) rfl
theorem mv_X3_sumToEnd : MV0 yX3_sumToEnd cX3_sumToEnd 4 (some .boolean) 0 := ⟨mk_k (List.mem_of_getElem? (i := 604) (by decide +kernel)) rfl, mk_k (List.mem_of_getElem? (i := 134) (by decide +kernel)) rfl, by decide +kernel, by decide +kernel, by decide +kernel⟩
theorem vi_X3_sumToEnd : Cond.instanceMethod yX3_sumToEnd ∈ lw_k ∧ Cond.selects RX3 yX3_sumToEnd yX3_sumToEnd ∈ lw_k := ⟨mk_k (List.mem_of_getElem? (i := 603) (by decide +kernel)) rfl, mk_k (List.mem_of_getElem? (i := 16) (by decide +kernel)) rfl⟩
theorem fp_X3_154 : FP RX3 154 0 6 .int false := ⟨RX0, TX0, 18, fk0, by decide, mk_k (List.mem_of_getElem? (i := 189) (by decide +kernel)) rfl, by decide +kernel, rfl, fun q => by cases q⟩
theorem fl_X3_32 : FL RX3 32 3 13 := ⟨RX3, TX3, 14, fk3, by decide, mk_k (List.mem_of_getElem? (i := 431) (by decide +kernel)) rfl⟩
theorem ml_X3_163 : Cond.methodLink RX3 163 yX2_put ∈ lw_k := mk_k (List.mem_of_getElem? (i := 640) (by decide +kernel)) rfl
theorem fl_X3_124 : FL RX3 124 2 0 := ⟨RX2, TX2, 2, fk2, by decide, mk_k (List.mem_of_getElem? (i := 299) (by decide +kernel)) rfl⟩
theorem fl_X3_131 : FL RX3 131 2 1 := ⟨RX2, TX2, 2, fk2, by decide, mk_k (List.mem_of_getElem? (i := 302) (by decide +kernel)) rfl⟩
theorem ml_X3_167 : Cond.methodLink RX3 167 yX0_isFloor ∈ lw_k := mk_k (List.mem_of_getElem? (i := 647) (by decide +kernel)) rfl
theorem mv_X0_isFloor : MV0 yX0_isFloor cX0_isFloor 5 (some .boolean) 2 := ⟨mk_k (List.mem_of_getElem? (i := 650) (by decide +kernel)) rfl, mk_k (List.mem_of_getElem? (i := 130) (by decide +kernel)) rfl, by decide +kernel, by decide +kernel, by decide +kernel⟩
theorem vi_X0_isFloor : Cond.instanceMethod yX0_isFloor ∈ lw_k ∧ Cond.selects RX0 yX0_isFloor yX0_isFloor ∈ lw_k := ⟨mk_k (List.mem_of_getElem? (i := 648) (by decide +kernel)) rfl, mk_k (List.mem_of_getElem? (i := 649) (by decide +kernel)) rfl⟩
theorem ml_X3_151 : Cond.methodLink RX3 151 yX0_addFloor ∈ lw_k := mk_k (List.mem_of_getElem? (i := 656) (by decide +kernel)) rfl
theorem mv_X0_addFloor : MV0 yX0_addFloor cX0_addFloor 5 none 2 := ⟨mk_k (List.mem_of_getElem? (i := 659) (by decide +kernel)) rfl, mk_k (List.mem_of_getElem? (i := 130) (by decide +kernel)) rfl, by decide +kernel, by decide +kernel, by decide +kernel⟩
theorem vi_X0_addFloor : Cond.instanceMethod yX0_addFloor ∈ lw_k ∧ Cond.selects RX0 yX0_addFloor yX0_addFloor ∈ lw_k := ⟨mk_k (List.mem_of_getElem? (i := 657) (by decide +kernel)) rfl, mk_k (List.mem_of_getElem? (i := 658) (by decide +kernel)) rfl⟩
theorem fl_X3_148 : FL RX3 148 0 13 := ⟨RX0, TX0, 18, fk0, by decide, mk_k (List.mem_of_getElem? (i := 209) (by decide +kernel)) rfl⟩
theorem ml_X3_120 : Cond.methodLink RX3 120 yX3_fractionThen ∈ lw_k := mk_k (List.mem_of_getElem? (i := 636) (by decide +kernel)) rfl
theorem mv_X3_fractionThen : MV0 yX3_fractionThen cX3_fractionThen 4 (some .boolean) 1 := ⟨mk_k (List.mem_of_getElem? (i := 639) (by decide +kernel)) rfl, mk_k (List.mem_of_getElem? (i := 134) (by decide +kernel)) rfl, by decide +kernel, by decide +kernel, by decide +kernel⟩
theorem vi_X3_fractionThen : Cond.instanceMethod yX3_fractionThen ∈ lw_k ∧ Cond.selects RX3 yX3_fractionThen yX3_fractionThen ∈ lw_k := ⟨mk_k (List.mem_of_getElem? (i := 638) (by decide +kernel)) rfl, mk_k (List.mem_of_getElem? (i := 24) (by decide +kernel)) rfl⟩
theorem ml_X3_144 : Cond.methodLink RX3 144 yX0_floorAt ∈ lw_k := mk_k (List.mem_of_getElem? (i := 652) (by decide +kernel)) rfl
theorem mv_X0_floorAt : MV0 yX0_floorAt cX0_floorAt 6 (some .int) 2 := ⟨mk_k (List.mem_of_getElem? (i := 655) (by decide +kernel)) rfl, mk_k (List.mem_of_getElem? (i := 130) (by decide +kernel)) rfl, by decide +kernel, by decide +kernel, by decide +kernel⟩
theorem vi_X0_floorAt : Cond.instanceMethod yX0_floorAt ∈ lw_k ∧ Cond.selects RX0 yX0_floorAt yX0_floorAt ∈ lw_k := ⟨mk_k (List.mem_of_getElem? (i := 653) (by decide +kernel)) rfl, mk_k (List.mem_of_getElem? (i := 654) (by decide +kernel)) rfl⟩
theorem ml_X3_140 : Cond.methodLink RX3 140 yX0_addTenant ∈ lw_k := mk_k (List.mem_of_getElem? (i := 671) (by decide +kernel)) rfl
theorem mv_X0_addTenant : MV0 yX0_addTenant cX0_addTenant 3 none 2 := ⟨mk_k (List.mem_of_getElem? (i := 674) (by decide +kernel)) rfl, mk_k (List.mem_of_getElem? (i := 130) (by decide +kernel)) rfl, by decide +kernel, by decide +kernel, by decide +kernel⟩
theorem vi_X0_addTenant : Cond.instanceMethod yX0_addTenant ∈ lw_k ∧ Cond.selects RX0 yX0_addTenant yX0_addTenant ∈ lw_k := ⟨mk_k (List.mem_of_getElem? (i := 672) (by decide +kernel)) rfl, mk_k (List.mem_of_getElem? (i := 673) (by decide +kernel)) rfl⟩
theorem fp_X3_128 : FP RX3 128 0 4 .int false := ⟨RX0, TX0, 18, fk0, by decide, mk_k (List.mem_of_getElem? (i := 179) (by decide +kernel)) rfl, by decide +kernel, rfl, fun q => by cases q⟩
theorem fp_X3_134 : FP RX3 134 0 5 .int false := ⟨RX0, TX0, 18, fk0, by decide, mk_k (List.mem_of_getElem? (i := 184) (by decide +kernel)) rfl, by decide +kernel, rfl, fun q => by cases q⟩
theorem fp_X3_43 : FP RX3 43 3 9 .boolean false := ⟨RX3, TX3, 14, fk3, by decide, mk_k (List.mem_of_getElem? (i := 427) (by decide +kernel)) rfl, by decide +kernel, rfl, fun q => by cases q⟩
theorem fp_X3_117 : FP RX3 117 0 1 .int false := ⟨RX0, TX0, 18, fk0, by decide, mk_k (List.mem_of_getElem? (i := 167) (by decide +kernel)) rfl, by decide +kernel, rfl, fun q => by cases q⟩
theorem ml_X3_74 : Cond.methodLink RX3 74 yX3_topLine ∈ lw_k := mk_k (List.mem_of_getElem? (i := 577) (by decide +kernel)) rfl
theorem mv_X3_topLine : MV0 yX3_topLine cX3_topLine 1 (some .boolean) 0 := ⟨mk_k (List.mem_of_getElem? (i := 580) (by decide +kernel)) rfl, mk_k (List.mem_of_getElem? (i := 134) (by decide +kernel)) rfl, by decide +kernel, by decide +kernel, by decide +kernel⟩
theorem vi_X3_topLine : Cond.instanceMethod yX3_topLine ∈ lw_k ∧ Cond.selects RX3 yX3_topLine yX3_topLine ∈ lw_k := ⟨mk_k (List.mem_of_getElem? (i := 579) (by decide +kernel)) rfl, mk_k (List.mem_of_getElem? (i := 10) (by decide +kernel)) rfl⟩
theorem ml_X3_77 : Cond.methodLink RX3 77 yX3_buttonLine ∈ lw_k := mk_k (List.mem_of_getElem? (i := 597) (by decide +kernel)) rfl
theorem mv_X3_buttonLine : MV0 yX3_buttonLine cX3_buttonLine 2 (some .boolean) 0 := ⟨mk_k (List.mem_of_getElem? (i := 600) (by decide +kernel)) rfl, mk_k (List.mem_of_getElem? (i := 134) (by decide +kernel)) rfl, by decide +kernel, by decide +kernel, by decide +kernel⟩
theorem vi_X3_buttonLine : Cond.instanceMethod yX3_buttonLine ∈ lw_k ∧ Cond.selects RX3 yX3_buttonLine yX3_buttonLine ∈ lw_k := ⟨mk_k (List.mem_of_getElem? (i := 599) (by decide +kernel)) rfl, mk_k (List.mem_of_getElem? (i := 15) (by decide +kernel)) rfl⟩
theorem ml_X3_80 : Cond.methodLink RX3 80 yX3_floorLine ∈ lw_k := mk_k (List.mem_of_getElem? (i := 632) (by decide +kernel)) rfl
theorem mv_X3_floorLine : MV0 yX3_floorLine cX3_floorLine 2 (some .boolean) 0 := ⟨mk_k (List.mem_of_getElem? (i := 635) (by decide +kernel)) rfl, mk_k (List.mem_of_getElem? (i := 134) (by decide +kernel)) rfl, by decide +kernel, by decide +kernel, by decide +kernel⟩
theorem vi_X3_floorLine : Cond.instanceMethod yX3_floorLine ∈ lw_k ∧ Cond.selects RX3 yX3_floorLine yX3_floorLine ∈ lw_k := ⟨mk_k (List.mem_of_getElem? (i := 634) (by decide +kernel)) rfl, mk_k (List.mem_of_getElem? (i := 23) (by decide +kernel)) rfl⟩
theorem ml_X3_83 : Cond.methodLink RX3 83 yX3_tenantLine ∈ lw_k := mk_k (List.mem_of_getElem? (i := 667) (by decide +kernel)) rfl
theorem mv_X3_tenantLine : MV0 yX3_tenantLine cX3_tenantLine 1 (some .boolean) 0 := ⟨mk_k (List.mem_of_getElem? (i := 670) (by decide +kernel)) rfl, mk_k (List.mem_of_getElem? (i := 134) (by decide +kernel)) rfl, by decide +kernel, by decide +kernel, by decide +kernel⟩
theorem vi_X3_tenantLine : Cond.instanceMethod yX3_tenantLine ∈ lw_k ∧ Cond.selects RX3 yX3_tenantLine yX3_tenantLine ∈ lw_k := ⟨mk_k (List.mem_of_getElem? (i := 669) (by decide +kernel)) rfl, mk_k (List.mem_of_getElem? (i := 25) (by decide +kernel)) rfl⟩
theorem ml_X3_86 : Cond.methodLink RX3 86 yX3_atLine ∈ lw_k := mk_k (List.mem_of_getElem? (i := 675) (by decide +kernel)) rfl
theorem mv_X3_atLine : MV0 yX3_atLine cX3_atLine 1 (some .boolean) 0 := ⟨mk_k (List.mem_of_getElem? (i := 678) (by decide +kernel)) rfl, mk_k (List.mem_of_getElem? (i := 134) (by decide +kernel)) rfl, by decide +kernel, by decide +kernel, by decide +kernel⟩
theorem vi_X3_atLine : Cond.instanceMethod yX3_atLine ∈ lw_k ∧ Cond.selects RX3 yX3_atLine yX3_atLine ∈ lw_k := ⟨mk_k (List.mem_of_getElem? (i := 677) (by decide +kernel)) rfl, mk_k (List.mem_of_getElem? (i := 26) (by decide +kernel)) rfl⟩
theorem ml_X3_89 : Cond.methodLink RX3 89 yX3_stickLine ∈ lw_k := mk_k (List.mem_of_getElem? (i := 679) (by decide +kernel)) rfl
theorem mv_X3_stickLine : MV0 yX3_stickLine cX3_stickLine 1 (some .boolean) 0 := ⟨mk_k (List.mem_of_getElem? (i := 682) (by decide +kernel)) rfl, mk_k (List.mem_of_getElem? (i := 134) (by decide +kernel)) rfl, by decide +kernel, by decide +kernel, by decide +kernel⟩
theorem vi_X3_stickLine : Cond.instanceMethod yX3_stickLine ∈ lw_k ∧ Cond.selects RX3 yX3_stickLine yX3_stickLine ∈ lw_k := ⟨mk_k (List.mem_of_getElem? (i := 681) (by decide +kernel)) rfl, mk_k (List.mem_of_getElem? (i := 27) (by decide +kernel)) rfl⟩
theorem fl_X3_95 : FL RX3 95 0 2 := ⟨RX0, TX0, 18, fk0, by decide, mk_k (List.mem_of_getElem? (i := 172) (by decide +kernel)) rfl⟩
theorem fp_X3_95 : FP RX3 95 0 2 .int false := ⟨RX0, TX0, 18, fk0, by decide, mk_k (List.mem_of_getElem? (i := 172) (by decide +kernel)) rfl, by decide +kernel, rfl, fun q => by cases q⟩
theorem ml_X3_67 : Cond.methodLink RX3 67 yX3_line ∈ lw_k := mk_k (List.mem_of_getElem? (i := 573) (by decide +kernel)) rfl
theorem mv_X3_line : MV0 yX3_line cX3_line 1 (some .boolean) 0 := ⟨mk_k (List.mem_of_getElem? (i := 576) (by decide +kernel)) rfl, mk_k (List.mem_of_getElem? (i := 134) (by decide +kernel)) rfl, by decide +kernel, by decide +kernel, by decide +kernel⟩
theorem vi_X3_line : Cond.instanceMethod yX3_line ∈ lw_k ∧ Cond.selects RX3 yX3_line yX3_line ∈ lw_k := ⟨mk_k (List.mem_of_getElem? (i := 575) (by decide +kernel)) rfl, mk_k (List.mem_of_getElem? (i := 9) (by decide +kernel)) rfl⟩
theorem ml_X3_71 : Cond.methodLink RX3 71 yX3_closes ∈ lw_k := mk_k (List.mem_of_getElem? (i := 683) (by decide +kernel)) rfl
theorem mv_X3_closes : MV0 yX3_closes cX3_closes 1 (some .boolean) 0 := ⟨mk_k (List.mem_of_getElem? (i := 686) (by decide +kernel)) rfl, mk_k (List.mem_of_getElem? (i := 134) (by decide +kernel)) rfl, by decide +kernel, by decide +kernel, by decide +kernel⟩
theorem vi_X3_closes : Cond.instanceMethod yX3_closes ∈ lw_k ∧ Cond.selects RX3 yX3_closes yX3_closes ∈ lw_k := ⟨mk_k (List.mem_of_getElem? (i := 685) (by decide +kernel)) rfl, mk_k (List.mem_of_getElem? (i := 28) (by decide +kernel)) rfl⟩
theorem ml_X3_50 : Cond.methodLink RX3 50 yX0_untell ∈ lw_k := mk_k (List.mem_of_getElem? (i := 465) (by decide +kernel)) rfl
theorem mv_X0_untell : MV0 yX0_untell cX0_untell 1 none 0 := ⟨mk_k (List.mem_of_getElem? (i := 468) (by decide +kernel)) rfl, mk_k (List.mem_of_getElem? (i := 130) (by decide +kernel)) rfl, by decide +kernel, by decide +kernel, by decide +kernel⟩
theorem vi_X0_untell : Cond.instanceMethod yX0_untell ∈ lw_k ∧ Cond.selects RX0 yX0_untell yX0_untell ∈ lw_k := ⟨mk_k (List.mem_of_getElem? (i := 466) (by decide +kernel)) rfl, mk_k (List.mem_of_getElem? (i := 467) (by decide +kernel)) rfl⟩
theorem ml_X3_53 : Cond.methodLink RX3 53 yX6_scanAll ∈ lw_k := mk_k (List.mem_of_getElem? (i := 469) (by decide +kernel)) rfl
theorem mv_X6_scanAll : MV0 yX6_scanAll cX6_scanAll 7 none 2 := ⟨mk_k (List.mem_of_getElem? (i := 472) (by decide +kernel)) rfl, mk_k (List.mem_of_getElem? (i := 135) (by decide +kernel)) rfl, by decide +kernel, by decide +kernel, by decide +kernel⟩
theorem vi_X6_scanAll : Cond.instanceMethod yX6_scanAll ∈ lw_k ∧ Cond.selects RX6 yX6_scanAll yX6_scanAll ∈ lw_k := ⟨mk_k (List.mem_of_getElem? (i := 470) (by decide +kernel)) rfl, mk_k (List.mem_of_getElem? (i := 471) (by decide +kernel)) rfl⟩
theorem oi_X4_3 : Cond.methodLink RX4 3 objectInit ∈ lw_k := mk_k (List.mem_of_getElem? (i := 268) (by decide +kernel)) rfl
theorem fp_X4_9 : FP RX4 9 4 2 (.array .long) true := ⟨RX4, TX4, 5, fk4, by decide, mk_k (List.mem_of_getElem? (i := 277) (by decide +kernel)) rfl, by decide +kernel, rfl, fun _ => rfl⟩
theorem fp_X4_15 : FP RX4 15 4 3 (.array .long) true := ⟨RX4, TX4, 5, fk4, by decide, mk_k (List.mem_of_getElem? (i := 278) (by decide +kernel)) rfl, by decide +kernel, rfl, fun _ => rfl⟩
theorem fl_X4_24 : FL RX4 24 4 4 := ⟨RX4, TX4, 5, fk4, by decide, mk_k (List.mem_of_getElem? (i := 279) (by decide +kernel)) rfl⟩
theorem fl_X4_9 : FL RX4 9 4 2 := ⟨RX4, TX4, 5, fk4, by decide, mk_k (List.mem_of_getElem? (i := 277) (by decide +kernel)) rfl⟩
theorem fl_X4_15 : FL RX4 15 4 3 := ⟨RX4, TX4, 5, fk4, by decide, mk_k (List.mem_of_getElem? (i := 278) (by decide +kernel)) rfl⟩
theorem fp_X4_24 : FP RX4 24 4 4 .int false := ⟨RX4, TX4, 5, fk4, by decide, mk_k (List.mem_of_getElem? (i := 279) (by decide +kernel)) rfl, by decide +kernel, rfl, fun q => by cases q⟩
theorem ml_X4_63 : Cond.methodLink RX4 63 yJ9_abs_067f4 ∈ lw_k := mk_k (List.mem_of_getElem? (i := 733) (by decide +kernel)) rfl
theorem mv_J9_abs_067f4 : MV0 yJ9_abs_067f4 cJ9_abs_067f4 2 (some .long) 1 := ⟨mk_k (List.mem_of_getElem? (i := 735) (by decide +kernel)) rfl, mk_k (List.mem_of_getElem? (i := 136) (by decide +kernel)) rfl, by decide +kernel, by decide +kernel, by decide +kernel⟩
theorem st_J9_abs_067f4 : Cond.static yJ9_abs_067f4 ∈ lw_k := mk_k (List.mem_of_getElem? (i := 734) (by decide +kernel)) rfl
theorem cl2_X4_69 : Cond.constantLong RX4 69 (1000000000) ∈ lw_k := mk_k (List.mem_of_getElem? (i := 736) (by decide +kernel)) rfl
theorem ml_X4_55 : Cond.methodLink RX4 55 yX4_settle ∈ lw_k := mk_k (List.mem_of_getElem? (i := 728) (by decide +kernel)) rfl
theorem mv_X4_settle : MV0 yX4_settle cX4_settle 11 (some .int) 2 := ⟨mk_k (List.mem_of_getElem? (i := 731) (by decide +kernel)) rfl, mk_k (List.mem_of_getElem? (i := 131) (by decide +kernel)) rfl, by decide +kernel, by decide +kernel, by decide +kernel⟩
theorem vi_X4_settle : Cond.instanceMethod yX4_settle ∈ lw_k ∧ Cond.selects RX4 yX4_settle yX4_settle ∈ lw_k := ⟨mk_k (List.mem_of_getElem? (i := 730) (by decide +kernel)) rfl, mk_k (List.mem_of_getElem? (i := 31) (by decide +kernel)) rfl⟩
theorem ml_X4_45 : Cond.methodLink RX4 45 yX0_isFloor ∈ lw_k := mk_k (List.mem_of_getElem? (i := 737) (by decide +kernel)) rfl
theorem fp_X4_49 : FP RX4 49 4 0 .int false := ⟨RX4, TX4, 5, fk4, by decide, mk_k (List.mem_of_getElem? (i := 269) (by decide +kernel)) rfl, by decide +kernel, rfl, fun q => by cases q⟩
theorem fp_X4_52 : FP RX4 52 4 1 .int false := ⟨RX4, TX4, 5, fk4, by decide, mk_k (List.mem_of_getElem? (i := 273) (by decide +kernel)) rfl, by decide +kernel, rfl, fun q => by cases q⟩
theorem fl_X4_31 : FL RX4 31 0 8 := ⟨RX0, TX0, 18, fk0, by decide, mk_k (List.mem_of_getElem? (i := 195) (by decide +kernel)) rfl⟩
theorem ml_X4_41 : Cond.methodLink RX4 41 yX4_join ∈ lw_k := mk_k (List.mem_of_getElem? (i := 724) (by decide +kernel)) rfl
theorem mv_X4_join : MV0 yX4_join cX4_join 10 (some .int) 1 := ⟨mk_k (List.mem_of_getElem? (i := 727) (by decide +kernel)) rfl, mk_k (List.mem_of_getElem? (i := 131) (by decide +kernel)) rfl, by decide +kernel, by decide +kernel, by decide +kernel⟩
theorem vi_X4_join : Cond.instanceMethod yX4_join ∈ lw_k ∧ Cond.selects RX4 yX4_join yX4_join ∈ lw_k := ⟨mk_k (List.mem_of_getElem? (i := 726) (by decide +kernel)) rfl, mk_k (List.mem_of_getElem? (i := 30) (by decide +kernel)) rfl⟩
theorem fl_X4_38 : FL RX4 38 0 0 := ⟨RX0, TX0, 18, fk0, by decide, mk_k (List.mem_of_getElem? (i := 163) (by decide +kernel)) rfl⟩
theorem ml_X4_34 : Cond.methodLink RX4 34 yX4_pile ∈ lw_k := mk_k (List.mem_of_getElem? (i := 720) (by decide +kernel)) rfl
theorem mv_X4_pile : MV0 yX4_pile cX4_pile 5 none 2 := ⟨mk_k (List.mem_of_getElem? (i := 723) (by decide +kernel)) rfl, mk_k (List.mem_of_getElem? (i := 131) (by decide +kernel)) rfl, by decide +kernel, by decide +kernel, by decide +kernel⟩
theorem vi_X4_pile : Cond.instanceMethod yX4_pile ∈ lw_k ∧ Cond.selects RX4 yX4_pile yX4_pile ∈ lw_k := ⟨mk_k (List.mem_of_getElem? (i := 722) (by decide +kernel)) rfl, mk_k (List.mem_of_getElem? (i := 29) (by decide +kernel)) rfl⟩
theorem fl_X4_18 : FL RX4 18 0 6 := ⟨RX0, TX0, 18, fk0, by decide, mk_k (List.mem_of_getElem? (i := 185) (by decide +kernel)) rfl⟩
theorem fl_X4_27 : FL RX4 27 0 7 := ⟨RX0, TX0, 18, fk0, by decide, mk_k (List.mem_of_getElem? (i := 192) (by decide +kernel)) rfl⟩
theorem mv_X9_inverseBy : MV0 yX9_inverseBy cX9_inverseBy 3 (some .int) 2 := ⟨mk_k (List.mem_of_getElem? (i := 1016) (by decide +kernel)) rfl, mk_k (List.mem_of_getElem? (i := 129) (by decide +kernel)) rfl, by decide +kernel, by decide +kernel, by decide +kernel⟩
theorem st_X9_inverseBy : Cond.static yX9_inverseBy ∈ lw_k := mk_k (List.mem_of_getElem? (i := 1015) (by decide +kernel)) rfl
theorem ml_X4_71 : Cond.methodLink RX4 71 yX4_joinBy ∈ lw_k := mk_k (List.mem_of_getElem? (i := 1029) (by decide +kernel)) rfl
theorem mv_X4_joinBy : MV0 yX4_joinBy cX4_joinBy 7 (some .boolean) 2 := ⟨mk_k (List.mem_of_getElem? (i := 1032) (by decide +kernel)) rfl, mk_k (List.mem_of_getElem? (i := 131) (by decide +kernel)) rfl, by decide +kernel, by decide +kernel, by decide +kernel⟩
theorem vi_X4_joinBy : Cond.instanceMethod yX4_joinBy ∈ lw_k ∧ Cond.selects RX4 yX4_joinBy yX4_joinBy ∈ lw_k := ⟨mk_k (List.mem_of_getElem? (i := 1031) (by decide +kernel)) rfl, mk_k (List.mem_of_getElem? (i := 45) (by decide +kernel)) rfl⟩
theorem oi_X5_3 : Cond.methodLink RX5 3 objectInit ∈ lw_k := mk_k (List.mem_of_getElem? (i := 865) (by decide +kernel)) rfl
theorem fp_X5_9 : FP RX5 9 5 4 (.object "FractionLift$Reckoner") true := ⟨RX5, TX5, 7, fk5, by decide, mk_k (List.mem_of_getElem? (i := 910) (by decide +kernel)) rfl, by decide +kernel, rfl, fun _ => rfl⟩
theorem nw_X5_15 : NW RX5 15 1 7 df1 := ⟨RX1, TX1, tyX1, fk1, mk_k (List.mem_of_getElem? (i := 866) (by decide +kernel)) rfl, mk_k (List.mem_of_getElem? (i := 867) (by decide +kernel)) rfl, mk_k (List.mem_of_getElem? (i := 143) (by decide +kernel)) rfl, tyX1_ok, by decide +kernel, fun _ => rfl⟩
theorem ml_X5_17 : Cond.methodLink RX5 17 yX1_init ∈ lw_k := mk_k (List.mem_of_getElem? (i := 868) (by decide +kernel)) rfl
theorem mv_X1_init : MV0 yX1_init cX1_init 1 none 0 := ⟨mk_k (List.mem_of_getElem? (i := 870) (by decide +kernel)) rfl, mk_k (List.mem_of_getElem? (i := 143) (by decide +kernel)) rfl, by decide +kernel, by decide +kernel, by decide +kernel⟩
theorem im_X1_init : Cond.instanceMethod yX1_init ∈ lw_k := mk_k (List.mem_of_getElem? (i := 869) (by decide +kernel)) rfl
theorem fp_X5_18 : FP RX5 18 5 0 (.object "FractionLift$Landings") true := ⟨RX5, TX5, 7, fk5, by decide, mk_k (List.mem_of_getElem? (i := 902) (by decide +kernel)) rfl, by decide +kernel, rfl, fun _ => rfl⟩
theorem fp_X5_22 : FP RX5 22 5 1 (.array .int) true := ⟨RX5, TX5, 7, fk5, by decide, mk_k (List.mem_of_getElem? (i := 904) (by decide +kernel)) rfl, by decide +kernel, rfl, fun _ => rfl⟩
theorem fp_X5_26 : FP RX5 26 5 2 (.array .int) true := ⟨RX5, TX5, 7, fk5, by decide, mk_k (List.mem_of_getElem? (i := 906) (by decide +kernel)) rfl, by decide +kernel, rfl, fun _ => rfl⟩
theorem fp_X5_29 : FP RX5 29 5 5 (.object "FractionLift$House") false := ⟨RX5, TX5, 7, fk5, by decide, mk_k (List.mem_of_getElem? (i := 911) (by decide +kernel)) rfl, by decide +kernel, rfl, fun q => by cases q⟩
theorem fl_X5_18 : FL RX5 18 5 0 := ⟨RX5, TX5, 7, fk5, by decide, mk_k (List.mem_of_getElem? (i := 902) (by decide +kernel)) rfl⟩
theorem ml_X5_33 : Cond.methodLink RX5 33 yX1_clearAll ∈ lw_k := mk_k (List.mem_of_getElem? (i := 932) (by decide +kernel)) rfl
theorem mv_X1_clearAll : MV0 yX1_clearAll cX1_clearAll 1 none 0 := ⟨mk_k (List.mem_of_getElem? (i := 935) (by decide +kernel)) rfl, mk_k (List.mem_of_getElem? (i := 143) (by decide +kernel)) rfl, by decide +kernel, by decide +kernel, by decide +kernel⟩
theorem vi_X1_clearAll : Cond.instanceMethod yX1_clearAll ∈ lw_k ∧ Cond.selects RX1 yX1_clearAll yX1_clearAll ∈ lw_k := ⟨mk_k (List.mem_of_getElem? (i := 933) (by decide +kernel)) rfl, mk_k (List.mem_of_getElem? (i := 934) (by decide +kernel)) rfl⟩
theorem fl_X5_36 : FL RX5 36 0 4 := ⟨RX0, TX0, 18, fk0, by decide, mk_k (List.mem_of_getElem? (i := 175) (by decide +kernel)) rfl⟩
theorem fl_X5_42 : FL RX5 42 0 5 := ⟨RX0, TX0, 18, fk0, by decide, mk_k (List.mem_of_getElem? (i := 181) (by decide +kernel)) rfl⟩
theorem ml_X5_45 : Cond.methodLink RX5 45 yX1_put ∈ lw_k := mk_k (List.mem_of_getElem? (i := 939) (by decide +kernel)) rfl
theorem fl_X5_49 : FL RX5 49 1 4 := ⟨RX1, TX1, 7, fk1, by decide, mk_k (List.mem_of_getElem? (i := 883) (by decide +kernel)) rfl⟩
theorem fl_X5_9 : FL RX5 9 5 4 := ⟨RX5, TX5, 7, fk5, by decide, mk_k (List.mem_of_getElem? (i := 910) (by decide +kernel)) rfl⟩
theorem fl_X5_78 : FL RX5 78 4 0 := ⟨RX4, TX4, 5, fk4, by decide, mk_k (List.mem_of_getElem? (i := 271) (by decide +kernel)) rfl⟩
theorem fl_X5_80 : FL RX5 80 4 1 := ⟨RX4, TX4, 5, fk4, by decide, mk_k (List.mem_of_getElem? (i := 275) (by decide +kernel)) rfl⟩
theorem ml_X5_82 : Cond.methodLink RX5 82 yX1_find ∈ lw_k := mk_k (List.mem_of_getElem? (i := 956) (by decide +kernel)) rfl
theorem fl_X5_29 : FL RX5 29 5 5 := ⟨RX5, TX5, 7, fk5, by decide, mk_k (List.mem_of_getElem? (i := 911) (by decide +kernel)) rfl⟩
theorem fl_X5_63 : FL RX5 63 0 6 := ⟨RX0, TX0, 18, fk0, by decide, mk_k (List.mem_of_getElem? (i := 188) (by decide +kernel)) rfl⟩
theorem fl_X5_66 : FL RX5 66 1 0 := ⟨RX1, TX1, 7, fk1, by decide, mk_k (List.mem_of_getElem? (i := 873) (by decide +kernel)) rfl⟩
theorem fl_X5_69 : FL RX5 69 1 1 := ⟨RX1, TX1, 7, fk1, by decide, mk_k (List.mem_of_getElem? (i := 876) (by decide +kernel)) rfl⟩
theorem ml_X5_72 : Cond.methodLink RX5 72 yX4_lead ∈ lw_k := mk_k (List.mem_of_getElem? (i := 955) (by decide +kernel)) rfl
theorem mv_X4_lead : MV0 yX4_lead cX4_lead 11 (some .int) 4 := ⟨mk_k (List.mem_of_getElem? (i := 719) (by decide +kernel)) rfl, mk_k (List.mem_of_getElem? (i := 131) (by decide +kernel)) rfl, by decide +kernel, by decide +kernel, by decide +kernel⟩
theorem vi_X4_lead : Cond.instanceMethod yX4_lead ∈ lw_k ∧ Cond.selects RX4 yX4_lead yX4_lead ∈ lw_k := ⟨mk_k (List.mem_of_getElem? (i := 717) (by decide +kernel)) rfl, mk_k (List.mem_of_getElem? (i := 718) (by decide +kernel)) rfl⟩
theorem fp_X5_56 : FP RX5 56 5 6 .int false := ⟨RX5, TX5, 7, fk5, by decide, mk_k (List.mem_of_getElem? (i := 912) (by decide +kernel)) rfl, by decide +kernel, rfl, fun q => by cases q⟩
theorem fl_X5_86 : FL RX5 86 1 2 := ⟨RX1, TX1, 7, fk1, by decide, mk_k (List.mem_of_getElem? (i := 879) (by decide +kernel)) rfl⟩
theorem ml_X5_52 : Cond.methodLink RX5 52 yX5_stepTowards ∈ lw_k := mk_k (List.mem_of_getElem? (i := 951) (by decide +kernel)) rfl
theorem mv_X5_stepTowards : MV0 yX5_stepTowards cX5_stepTowards 7 (some .boolean) 4 := ⟨mk_k (List.mem_of_getElem? (i := 954) (by decide +kernel)) rfl, mk_k (List.mem_of_getElem? (i := 142) (by decide +kernel)) rfl, by decide +kernel, by decide +kernel, by decide +kernel⟩
theorem vi_X5_stepTowards : Cond.instanceMethod yX5_stepTowards ∈ lw_k ∧ Cond.selects RX5 yX5_stepTowards yX5_stepTowards ∈ lw_k := ⟨mk_k (List.mem_of_getElem? (i := 953) (by decide +kernel)) rfl, mk_k (List.mem_of_getElem? (i := 38) (by decide +kernel)) rfl⟩
theorem fl_X5_56 : FL RX5 56 5 6 := ⟨RX5, TX5, 7, fk5, by decide, mk_k (List.mem_of_getElem? (i := 912) (by decide +kernel)) rfl⟩
theorem fl_X5_22 : FL RX5 22 5 1 := ⟨RX5, TX5, 7, fk5, by decide, mk_k (List.mem_of_getElem? (i := 904) (by decide +kernel)) rfl⟩
theorem ml_X5_59 : Cond.methodLink RX5 59 yX5_traceRow ∈ lw_k := mk_k (List.mem_of_getElem? (i := 960) (by decide +kernel)) rfl
theorem mv_X5_traceRow : MV0 yX5_traceRow cX5_traceRow 7 none 3 := ⟨mk_k (List.mem_of_getElem? (i := 963) (by decide +kernel)) rfl, mk_k (List.mem_of_getElem? (i := 142) (by decide +kernel)) rfl, by decide +kernel, by decide +kernel, by decide +kernel⟩
theorem vi_X5_traceRow : Cond.instanceMethod yX5_traceRow ∈ lw_k ∧ Cond.selects RX5 yX5_traceRow yX5_traceRow ∈ lw_k := ⟨mk_k (List.mem_of_getElem? (i := 962) (by decide +kernel)) rfl, mk_k (List.mem_of_getElem? (i := 39) (by decide +kernel)) rfl⟩
theorem ml_X5_89 : Cond.methodLink RX5 89 yX5_spread ∈ lw_k := mk_k (List.mem_of_getElem? (i := 972) (by decide +kernel)) rfl
theorem mv_X5_spread : MV0 yX5_spread cX5_spread 6 none 3 := ⟨mk_k (List.mem_of_getElem? (i := 975) (by decide +kernel)) rfl, mk_k (List.mem_of_getElem? (i := 142) (by decide +kernel)) rfl, by decide +kernel, by decide +kernel, by decide +kernel⟩
theorem vi_X5_spread : Cond.instanceMethod yX5_spread ∈ lw_k ∧ Cond.selects RX5 yX5_spread yX5_spread ∈ lw_k := ⟨mk_k (List.mem_of_getElem? (i := 974) (by decide +kernel)) rfl, mk_k (List.mem_of_getElem? (i := 40) (by decide +kernel)) rfl⟩
theorem ml_X5_92 : Cond.methodLink RX5 92 yX1_isBelow ∈ lw_k := mk_k (List.mem_of_getElem? (i := 984) (by decide +kernel)) rfl
theorem mv_X1_isBelow : MV0 yX1_isBelow cX1_isBelow 3 (some .boolean) 2 := ⟨mk_k (List.mem_of_getElem? (i := 987) (by decide +kernel)) rfl, mk_k (List.mem_of_getElem? (i := 143) (by decide +kernel)) rfl, by decide +kernel, by decide +kernel, by decide +kernel⟩
theorem vi_X1_isBelow : Cond.instanceMethod yX1_isBelow ∈ lw_k ∧ Cond.selects RX1 yX1_isBelow yX1_isBelow ∈ lw_k := ⟨mk_k (List.mem_of_getElem? (i := 985) (by decide +kernel)) rfl, mk_k (List.mem_of_getElem? (i := 986) (by decide +kernel)) rfl⟩
theorem fl_X5_26 : FL RX5 26 5 2 := ⟨RX5, TX5, 7, fk5, by decide, mk_k (List.mem_of_getElem? (i := 906) (by decide +kernel)) rfl⟩
theorem ml_X5_96 : Cond.methodLink RX5 96 yX5_stepToTwins ∈ lw_k := mk_k (List.mem_of_getElem? (i := 996) (by decide +kernel)) rfl
theorem mv_X5_stepToTwins : MV0 yX5_stepToTwins cX5_stepToTwins 8 (some .boolean) 3 := ⟨mk_k (List.mem_of_getElem? (i := 999) (by decide +kernel)) rfl, mk_k (List.mem_of_getElem? (i := 142) (by decide +kernel)) rfl, by decide +kernel, by decide +kernel, by decide +kernel⟩
theorem vi_X5_stepToTwins : Cond.instanceMethod yX5_stepToTwins ∈ lw_k ∧ Cond.selects RX5 yX5_stepToTwins yX5_stepToTwins ∈ lw_k := ⟨mk_k (List.mem_of_getElem? (i := 998) (by decide +kernel)) rfl, mk_k (List.mem_of_getElem? (i := 41) (by decide +kernel)) rfl⟩
theorem ml_X5_106 : Cond.methodLink RX5 106 yX5_leastCommon ∈ lw_k := mk_k (List.mem_of_getElem? (i := 1050) (by decide +kernel)) rfl
theorem mv_X5_leastCommon : MV0 yX5_leastCommon cX5_leastCommon 6 (some .int) 3 := ⟨mk_k (List.mem_of_getElem? (i := 1053) (by decide +kernel)) rfl, mk_k (List.mem_of_getElem? (i := 142) (by decide +kernel)) rfl, by decide +kernel, by decide +kernel, by decide +kernel⟩
theorem vi_X5_leastCommon : Cond.instanceMethod yX5_leastCommon ∈ lw_k ∧ Cond.selects RX5 yX5_leastCommon yX5_leastCommon ∈ lw_k := ⟨mk_k (List.mem_of_getElem? (i := 1052) (by decide +kernel)) rfl, mk_k (List.mem_of_getElem? (i := 46) (by decide +kernel)) rfl⟩
theorem fp_X5_110 : FP RX5 110 5 3 .int false := ⟨RX5, TX5, 7, fk5, by decide, mk_k (List.mem_of_getElem? (i := 908) (by decide +kernel)) rfl, by decide +kernel, rfl, fun q => by cases q⟩
theorem fl_X5_110 : FL RX5 110 5 3 := ⟨RX5, TX5, 7, fk5, by decide, mk_k (List.mem_of_getElem? (i := 908) (by decide +kernel)) rfl⟩
theorem ml_X5_113 : Cond.methodLink RX5 113 yX5_stay ∈ lw_k := mk_k (List.mem_of_getElem? (i := 1054) (by decide +kernel)) rfl
theorem mv_X5_stay : MV0 yX5_stay cX5_stay 4 none 2 := ⟨mk_k (List.mem_of_getElem? (i := 1057) (by decide +kernel)) rfl, mk_k (List.mem_of_getElem? (i := 142) (by decide +kernel)) rfl, by decide +kernel, by decide +kernel, by decide +kernel⟩
theorem vi_X5_stay : Cond.instanceMethod yX5_stay ∈ lw_k ∧ Cond.selects RX5 yX5_stay yX5_stay ∈ lw_k := ⟨mk_k (List.mem_of_getElem? (i := 1056) (by decide +kernel)) rfl, mk_k (List.mem_of_getElem? (i := 47) (by decide +kernel)) rfl⟩
theorem fl_X5_100 : FL RX5 100 0 16 := ⟨RX0, TX0, 18, fk0, by decide, mk_k (List.mem_of_getElem? (i := 218) (by decide +kernel)) rfl⟩
theorem fl_X5_103 : FL RX5 103 0 17 := ⟨RX0, TX0, 18, fk0, by decide, mk_k (List.mem_of_getElem? (i := 221) (by decide +kernel)) rfl⟩
theorem fl_X7_25 : FL RX7 25 7 1 := ⟨RX7, TX7, 3, fk7, by decide, mk_k (List.mem_of_getElem? (i := 1270) (by decide +kernel)) rfl⟩
theorem fl_X7_9 : FL RX7 9 7 2 := ⟨RX7, TX7, 3, fk7, by decide, mk_k (List.mem_of_getElem? (i := 1274) (by decide +kernel)) rfl⟩
theorem cl2_X7_40 : Cond.constantLong RX7 40 (100) ∈ lw_k := mk_k (List.mem_of_getElem? (i := 780) (by decide +kernel)) rfl
theorem fl_X5_117 : FL RX5 117 1 3 := ⟨RX1, TX1, 7, fk1, by decide, mk_k (List.mem_of_getElem? (i := 881) (by decide +kernel)) rfl⟩
theorem fl_X5_137 : FL RX5 137 0 1 := ⟨RX0, TX0, 18, fk0, by decide, mk_k (List.mem_of_getElem? (i := 169) (by decide +kernel)) rfl⟩
theorem ml_X5_133 : Cond.methodLink RX5 133 yX1_addWeight ∈ lw_k := mk_k (List.mem_of_getElem? (i := 1246) (by decide +kernel)) rfl
theorem mv_X1_addWeight : MV0 yX1_addWeight cX1_addWeight 7 none 4 := ⟨mk_k (List.mem_of_getElem? (i := 1249) (by decide +kernel)) rfl, mk_k (List.mem_of_getElem? (i := 143) (by decide +kernel)) rfl, by decide +kernel, by decide +kernel, by decide +kernel⟩
theorem vi_X1_addWeight : Cond.instanceMethod yX1_addWeight ∈ lw_k ∧ Cond.selects RX1 yX1_addWeight yX1_addWeight ∈ lw_k := ⟨mk_k (List.mem_of_getElem? (i := 1247) (by decide +kernel)) rfl, mk_k (List.mem_of_getElem? (i := 1248) (by decide +kernel)) rfl⟩
theorem cl2_X5_131 : Cond.constantLong RX5 131 (10) ∈ lw_k := mk_k (List.mem_of_getElem? (i := 1245) (by decide +kernel)) rfl
theorem ml_X5_128 : Cond.methodLink RX5 128 yX5_branch ∈ lw_k := mk_k (List.mem_of_getElem? (i := 1241) (by decide +kernel)) rfl
theorem mv_X5_branch : MV0 yX5_branch cX5_branch 8 none 3 := ⟨mk_k (List.mem_of_getElem? (i := 1244) (by decide +kernel)) rfl, mk_k (List.mem_of_getElem? (i := 142) (by decide +kernel)) rfl, by decide +kernel, by decide +kernel, by decide +kernel⟩
theorem vi_X5_branch : Cond.instanceMethod yX5_branch ∈ lw_k ∧ Cond.selects RX5 yX5_branch yX5_branch ∈ lw_k := ⟨mk_k (List.mem_of_getElem? (i := 1243) (by decide +kernel)) rfl, mk_k (List.mem_of_getElem? (i := 64) (by decide +kernel)) rfl⟩
theorem fl_X5_121 : FL RX5 121 7 1 := ⟨RX7, TX7, 3, fk7, by decide, mk_k (List.mem_of_getElem? (i := 1273) (by decide +kernel)) rfl⟩
theorem ml_X5_124 : Cond.methodLink RX5 124 yX7_smallAt ∈ lw_k := mk_k (List.mem_of_getElem? (i := 1240) (by decide +kernel)) rfl
theorem mv_X7_smallAt : MV0 yX7_smallAt cX7_smallAt 2 (some .int) 1 := ⟨mk_k (List.mem_of_getElem? (i := 779) (by decide +kernel)) rfl, mk_k (List.mem_of_getElem? (i := 147) (by decide +kernel)) rfl, by decide +kernel, by decide +kernel, by decide +kernel⟩
theorem vi_X7_smallAt : Cond.instanceMethod yX7_smallAt ∈ lw_k ∧ Cond.selects RX7 yX7_smallAt yX7_smallAt ∈ lw_k := ⟨mk_k (List.mem_of_getElem? (i := 777) (by decide +kernel)) rfl, mk_k (List.mem_of_getElem? (i := 778) (by decide +kernel)) rfl⟩
theorem oi_X7_3 : Cond.methodLink RX7 3 objectInit ∈ lw_k := mk_k (List.mem_of_getElem? (i := 1268) (by decide +kernel)) rfl
theorem fp_X7_9 : FP RX7 9 7 2 (.array .long) true := ⟨RX7, TX7, 3, fk7, by decide, mk_k (List.mem_of_getElem? (i := 1274) (by decide +kernel)) rfl, by decide +kernel, rfl, fun _ => rfl⟩
theorem fp_X7_15 : FP RX7 15 7 0 .int false := ⟨RX7, TX7, 3, fk7, by decide, mk_k (List.mem_of_getElem? (i := 1269) (by decide +kernel)) rfl, by decide +kernel, rfl, fun q => by cases q⟩
theorem ml_X7_19 : Cond.methodLink RX7 19 yJ9_min_7cf53 ∈ lw_k := mk_k (List.mem_of_getElem? (i := 1287) (by decide +kernel)) rfl
theorem fp_X7_25 : FP RX7 25 7 1 .int false := ⟨RX7, TX7, 3, fk7, by decide, mk_k (List.mem_of_getElem? (i := 1270) (by decide +kernel)) rfl, by decide +kernel, rfl, fun q => by cases q⟩
theorem ml_X7_28 : Cond.methodLink RX7 28 yJ7_fill_d0a16 ∈ lw_k := mk_k (List.mem_of_getElem? (i := 1288) (by decide +kernel)) rfl
theorem mv_J7_fill_d0a16 : MV0 yJ7_fill_d0a16 cJ7_fill_d0a16 5 none 2 := ⟨mk_k (List.mem_of_getElem? (i := 1290) (by decide +kernel)) rfl, mk_k (List.mem_of_getElem? (i := 144) (by decide +kernel)) rfl, by decide +kernel, by decide +kernel, by decide +kernel⟩
theorem st_J7_fill_d0a16 : Cond.static yJ7_fill_d0a16 ∈ lw_k := mk_k (List.mem_of_getElem? (i := 1289) (by decide +kernel)) rfl
theorem fl_X7_15 : FL RX7 15 7 0 := ⟨RX7, TX7, 3, fk7, by decide, mk_k (List.mem_of_getElem? (i := 1269) (by decide +kernel)) rfl⟩
theorem cl2_X7_34 : Cond.constantLong RX7 34 (-7) ∈ lw_k := mk_k (List.mem_of_getElem? (i := 1299) (by decide +kernel)) rfl
theorem ml_X7_36 : Cond.methodLink RX7 36 yX7_cut ∈ lw_k := mk_k (List.mem_of_getElem? (i := 1300) (by decide +kernel)) rfl
theorem mv_X7_cut : MV0 yX7_cut cX7_cut 3 (some .long) 1 := ⟨mk_k (List.mem_of_getElem? (i := 1303) (by decide +kernel)) rfl, mk_k (List.mem_of_getElem? (i := 147) (by decide +kernel)) rfl, by decide +kernel, by decide +kernel, by decide +kernel⟩
theorem vi_X7_cut : Cond.instanceMethod yX7_cut ∈ lw_k ∧ Cond.selects RX7 yX7_cut yX7_cut ∈ lw_k := ⟨mk_k (List.mem_of_getElem? (i := 1302) (by decide +kernel)) rfl, mk_k (List.mem_of_getElem? (i := 65) (by decide +kernel)) rfl⟩
theorem oi_X8_3 : Cond.methodLink RX8 3 objectInit ∈ lw_k := mk_k (List.mem_of_getElem? (i := 1177) (by decide +kernel)) rfl
theorem fp_X8_9 : FP RX8 9 8 4 (.object "FractionLift$Reckoner") true := ⟨RX8, TX8, 8, fk8, by decide, mk_k (List.mem_of_getElem? (i := 1185) (by decide +kernel)) rfl, by decide +kernel, rfl, fun _ => rfl⟩
theorem fp_X8_15 : FP RX8 15 8 2 (.array .int) true := ⟨RX8, TX8, 8, fk8, by decide, mk_k (List.mem_of_getElem? (i := 1182) (by decide +kernel)) rfl, by decide +kernel, rfl, fun _ => rfl⟩
theorem fp_X8_19 : FP RX8 19 8 3 (.array .int) true := ⟨RX8, TX8, 8, fk8, by decide, mk_k (List.mem_of_getElem? (i := 1184) (by decide +kernel)) rfl, by decide +kernel, rfl, fun _ => rfl⟩
theorem fl_X8_34 : FL RX8 34 8 0 := ⟨RX8, TX8, 8, fk8, by decide, mk_k (List.mem_of_getElem? (i := 1178) (by decide +kernel)) rfl⟩
theorem fp_X8_34 : FP RX8 34 8 0 .int false := ⟨RX8, TX8, 8, fk8, by decide, mk_k (List.mem_of_getElem? (i := 1178) (by decide +kernel)) rfl, by decide +kernel, rfl, fun q => by cases q⟩
theorem fl_X8_30 : FL RX8 30 8 7 := ⟨RX8, TX8, 8, fk8, by decide, mk_k (List.mem_of_getElem? (i := 1188) (by decide +kernel)) rfl⟩
theorem fp_X8_37 : FP RX8 37 8 1 .int false := ⟨RX8, TX8, 8, fk8, by decide, mk_k (List.mem_of_getElem? (i := 1180) (by decide +kernel)) rfl, by decide +kernel, rfl, fun q => by cases q⟩
theorem fl_X8_19 : FL RX8 19 8 3 := ⟨RX8, TX8, 8, fk8, by decide, mk_k (List.mem_of_getElem? (i := 1184) (by decide +kernel)) rfl⟩
theorem fl_X8_15 : FL RX8 15 8 2 := ⟨RX8, TX8, 8, fk8, by decide, mk_k (List.mem_of_getElem? (i := 1182) (by decide +kernel)) rfl⟩
theorem fl_X8_22 : FL RX8 22 8 5 := ⟨RX8, TX8, 8, fk8, by decide, mk_k (List.mem_of_getElem? (i := 1186) (by decide +kernel)) rfl⟩
theorem fl_X8_84 : FL RX8 84 0 9 := ⟨RX0, TX0, 18, fk0, by decide, mk_k (List.mem_of_getElem? (i := 198) (by decide +kernel)) rfl⟩
theorem fl_X8_87 : FL RX8 87 0 10 := ⟨RX0, TX0, 18, fk0, by decide, mk_k (List.mem_of_getElem? (i := 202) (by decide +kernel)) rfl⟩
theorem fl_X8_9 : FL RX8 9 8 4 := ⟨RX8, TX8, 8, fk8, by decide, mk_k (List.mem_of_getElem? (i := 1185) (by decide +kernel)) rfl⟩
theorem fl_X8_78 : FL RX8 78 4 0 := ⟨RX4, TX4, 5, fk4, by decide, mk_k (List.mem_of_getElem? (i := 270) (by decide +kernel)) rfl⟩
theorem fl_X8_90 : FL RX8 90 0 11 := ⟨RX0, TX0, 18, fk0, by decide, mk_k (List.mem_of_getElem? (i := 205) (by decide +kernel)) rfl⟩
theorem fl_X8_81 : FL RX8 81 4 1 := ⟨RX4, TX4, 5, fk4, by decide, mk_k (List.mem_of_getElem? (i := 274) (by decide +kernel)) rfl⟩
theorem ml_X8_57 : Cond.methodLink RX8 57 yX8_takeRow ∈ lw_k := mk_k (List.mem_of_getElem? (i := 1214) (by decide +kernel)) rfl
theorem mv_X8_takeRow : MV0 yX8_takeRow cX8_takeRow 4 none 1 := ⟨mk_k (List.mem_of_getElem? (i := 1217) (by decide +kernel)) rfl, mk_k (List.mem_of_getElem? (i := 146) (by decide +kernel)) rfl, by decide +kernel, by decide +kernel, by decide +kernel⟩
theorem vi_X8_takeRow : Cond.instanceMethod yX8_takeRow ∈ lw_k ∧ Cond.selects RX8 yX8_takeRow yX8_takeRow ∈ lw_k := ⟨mk_k (List.mem_of_getElem? (i := 1216) (by decide +kernel)) rfl, mk_k (List.mem_of_getElem? (i := 61) (by decide +kernel)) rfl⟩
theorem fl_X8_65 : FL RX8 65 0 6 := ⟨RX0, TX0, 18, fk0, by decide, mk_k (List.mem_of_getElem? (i := 187) (by decide +kernel)) rfl⟩
theorem ml_X8_68 : Cond.methodLink RX8 68 yX4_lead ∈ lw_k := mk_k (List.mem_of_getElem? (i := 1219) (by decide +kernel)) rfl
theorem ml_X8_74 : Cond.methodLink RX8 74 yX8_isSeenAt ∈ lw_k := mk_k (List.mem_of_getElem? (i := 1220) (by decide +kernel)) rfl
theorem mv_X8_isSeenAt : MV0 yX8_isSeenAt cX8_isSeenAt 2 (some .boolean) 1 := ⟨mk_k (List.mem_of_getElem? (i := 1223) (by decide +kernel)) rfl, mk_k (List.mem_of_getElem? (i := 146) (by decide +kernel)) rfl, by decide +kernel, by decide +kernel, by decide +kernel⟩
theorem vi_X8_isSeenAt : Cond.instanceMethod yX8_isSeenAt ∈ lw_k ∧ Cond.selects RX8 yX8_isSeenAt yX8_isSeenAt ∈ lw_k := ⟨mk_k (List.mem_of_getElem? (i := 1222) (by decide +kernel)) rfl, mk_k (List.mem_of_getElem? (i := 62) (by decide +kernel)) rfl⟩
theorem ml_X8_48 : Cond.methodLink RX8 48 yX8_goOn ∈ lw_k := mk_k (List.mem_of_getElem? (i := 1210) (by decide +kernel)) rfl
theorem mv_X8_goOn : MV0 yX8_goOn cX8_goOn 6 none 3 := ⟨mk_k (List.mem_of_getElem? (i := 1213) (by decide +kernel)) rfl, mk_k (List.mem_of_getElem? (i := 146) (by decide +kernel)) rfl, by decide +kernel, by decide +kernel, by decide +kernel⟩
theorem vi_X8_goOn : Cond.instanceMethod yX8_goOn ∈ lw_k ∧ Cond.selects RX8 yX8_goOn yX8_goOn ∈ lw_k := ⟨mk_k (List.mem_of_getElem? (i := 1212) (by decide +kernel)) rfl, mk_k (List.mem_of_getElem? (i := 60) (by decide +kernel)) rfl⟩
theorem fl_X8_26 : FL RX8 26 8 6 := ⟨RX8, TX8, 8, fk8, by decide, mk_k (List.mem_of_getElem? (i := 1187) (by decide +kernel)) rfl⟩
theorem fl_X8_52 : FL RX8 52 7 1 := ⟨RX7, TX7, 3, fk7, by decide, mk_k (List.mem_of_getElem? (i := 1271) (by decide +kernel)) rfl⟩
theorem ml_X8_61 : Cond.methodLink RX8 61 yX7_smallAt ∈ lw_k := mk_k (List.mem_of_getElem? (i := 1218) (by decide +kernel)) rfl
theorem fp_X8_22 : FP RX8 22 8 5 (.object "FractionLift$House") false := ⟨RX8, TX8, 8, fk8, by decide, mk_k (List.mem_of_getElem? (i := 1186) (by decide +kernel)) rfl, by decide +kernel, rfl, fun q => by cases q⟩
theorem fp_X8_26 : FP RX8 26 8 6 (.object "FractionLift$Tray") false := ⟨RX8, TX8, 8, fk8, by decide, mk_k (List.mem_of_getElem? (i := 1187) (by decide +kernel)) rfl, by decide +kernel, rfl, fun q => by cases q⟩
theorem fp_X8_30 : FP RX8 30 8 7 .int false := ⟨RX8, TX8, 8, fk8, by decide, mk_k (List.mem_of_getElem? (i := 1188) (by decide +kernel)) rfl, by decide +kernel, rfl, fun q => by cases q⟩
theorem fl_X8_40 : FL RX8 40 0 4 := ⟨RX0, TX0, 18, fk0, by decide, mk_k (List.mem_of_getElem? (i := 177) (by decide +kernel)) rfl⟩
theorem fl_X8_45 : FL RX8 45 0 5 := ⟨RX0, TX0, 18, fk0, by decide, mk_k (List.mem_of_getElem? (i := 182) (by decide +kernel)) rfl⟩
theorem oi_X9_1 : Cond.methodLink RX9 1 objectInit ∈ lw_k := mk_k (List.mem_of_getElem? (i := 153) (by decide +kernel)) rfl
theorem fp_X9_9 : FP RX9 9 9 0 (.array .int) true := ⟨RX9, TX9, 18, fk9, by decide, mk_k (List.mem_of_getElem? (i := 309) (by decide +kernel)) rfl, by decide +kernel, rfl, fun _ => rfl⟩
theorem fp_X9_13 : FP RX9 13 9 1 .int false := ⟨RX9, TX9, 18, fk9, by decide, mk_k (List.mem_of_getElem? (i := 310) (by decide +kernel)) rfl, by decide +kernel, rfl, fun q => by cases q⟩
theorem fp_X9_17 : FP RX9 17 9 2 .int false := ⟨RX9, TX9, 18, fk9, by decide, mk_k (List.mem_of_getElem? (i := 311) (by decide +kernel)) rfl, by decide +kernel, rfl, fun q => by cases q⟩
theorem fp_X9_20 : FP RX9 20 9 3 .int false := ⟨RX9, TX9, 18, fk9, by decide, mk_k (List.mem_of_getElem? (i := 312) (by decide +kernel)) rfl, by decide +kernel, rfl, fun q => by cases q⟩
theorem nw_X9_23 : NW RX9 23 0 18 df0 := ⟨RX0, TX0, tyX0, fk0, mk_k (List.mem_of_getElem? (i := 156) (by decide +kernel)) rfl, mk_k (List.mem_of_getElem? (i := 157) (by decide +kernel)) rfl, mk_k (List.mem_of_getElem? (i := 130) (by decide +kernel)) rfl, tyX0_ok, by decide +kernel, fun _ => rfl⟩
theorem ml_X9_25 : Cond.methodLink RX9 25 yX0_init ∈ lw_k := mk_k (List.mem_of_getElem? (i := 158) (by decide +kernel)) rfl
theorem fp_X9_26 : FP RX9 26 9 4 (.object "FractionLift$House") false := ⟨RX9, TX9, 18, fk9, by decide, mk_k (List.mem_of_getElem? (i := 313) (by decide +kernel)) rfl, by decide +kernel, rfl, fun q => by cases q⟩
theorem cl_X9_23 : Cond.classLink RX9 23 "FractionLift$House" ∈ lw_k := mk_k (List.mem_of_getElem? (i := 156) (by decide +kernel)) rfl
theorem fp_X9_30 : FP RX9 30 9 6 (.array (.object "FractionLift$House")) true := ⟨RX9, TX9, 18, fk9, by decide, mk_k (List.mem_of_getElem? (i := 315) (by decide +kernel)) rfl, by decide +kernel, rfl, fun _ => rfl⟩
theorem cl_X9_34 : Cond.classLink RX9 34 "FractionLift$Tray" ∈ lw_k := mk_k (List.mem_of_getElem? (i := 261) (by decide +kernel)) rfl
theorem fp_X9_36 : FP RX9 36 9 7 (.array (.object "FractionLift$Tray")) true := ⟨RX9, TX9, 18, fk9, by decide, mk_k (List.mem_of_getElem? (i := 316) (by decide +kernel)) rfl, by decide +kernel, rfl, fun _ => rfl⟩
theorem fp_X9_40 : FP RX9 40 9 8 (.array .int) true := ⟨RX9, TX9, 18, fk9, by decide, mk_k (List.mem_of_getElem? (i := 317) (by decide +kernel)) rfl, by decide +kernel, rfl, fun _ => rfl⟩
theorem fp_X9_43 : FP RX9 43 9 9 (.array .int) true := ⟨RX9, TX9, 18, fk9, by decide, mk_k (List.mem_of_getElem? (i := 318) (by decide +kernel)) rfl, by decide +kernel, rfl, fun _ => rfl⟩
theorem fp_X9_46 : FP RX9 46 9 10 .int false := ⟨RX9, TX9, 18, fk9, by decide, mk_k (List.mem_of_getElem? (i := 319) (by decide +kernel)) rfl, by decide +kernel, rfl, fun q => by cases q⟩
theorem nw_X9_49 : NW RX9 49 4 5 df4 := ⟨RX4, TX4, tyX4, fk4, mk_k (List.mem_of_getElem? (i := 263) (by decide +kernel)) rfl, mk_k (List.mem_of_getElem? (i := 264) (by decide +kernel)) rfl, mk_k (List.mem_of_getElem? (i := 131) (by decide +kernel)) rfl, tyX4_ok, by decide +kernel, fun _ => rfl⟩
theorem ml_X9_51 : Cond.methodLink RX9 51 yX4_init ∈ lw_k := mk_k (List.mem_of_getElem? (i := 265) (by decide +kernel)) rfl
theorem mv_X4_init : MV0 yX4_init cX4_init 1 none 0 := ⟨mk_k (List.mem_of_getElem? (i := 267) (by decide +kernel)) rfl, mk_k (List.mem_of_getElem? (i := 131) (by decide +kernel)) rfl, by decide +kernel, by decide +kernel, by decide +kernel⟩
theorem im_X4_init : Cond.instanceMethod yX4_init ∈ lw_k := mk_k (List.mem_of_getElem? (i := 266) (by decide +kernel)) rfl
theorem fp_X9_52 : FP RX9 52 9 11 (.object "FractionLift$Reckoner") true := ⟨RX9, TX9, 18, fk9, by decide, mk_k (List.mem_of_getElem? (i := 320) (by decide +kernel)) rfl, by decide +kernel, rfl, fun _ => rfl⟩
theorem nw_X9_56 : NW RX9 56 2 2 df2 := ⟨RX2, TX2, tyX2, fk2, mk_k (List.mem_of_getElem? (i := 292) (by decide +kernel)) rfl, mk_k (List.mem_of_getElem? (i := 293) (by decide +kernel)) rfl, mk_k (List.mem_of_getElem? (i := 132) (by decide +kernel)) rfl, tyX2_ok, by decide +kernel, fun _ => rfl⟩
theorem ml_X9_58 : Cond.methodLink RX9 58 yX2_init ∈ lw_k := mk_k (List.mem_of_getElem? (i := 294) (by decide +kernel)) rfl
theorem fp_X9_59 : FP RX9 59 9 12 (.object "FractionLift$Ratio") true := ⟨RX9, TX9, 18, fk9, by decide, mk_k (List.mem_of_getElem? (i := 321) (by decide +kernel)) rfl, by decide +kernel, rfl, fun _ => rfl⟩
theorem fp_X9_63 : FP RX9 63 9 13 (.object "FractionLift$Ratio") true := ⟨RX9, TX9, 18, fk9, by decide, mk_k (List.mem_of_getElem? (i := 322) (by decide +kernel)) rfl, by decide +kernel, rfl, fun _ => rfl⟩
theorem fp_X9_66 : FP RX9 66 9 14 (.array .long) true := ⟨RX9, TX9, 18, fk9, by decide, mk_k (List.mem_of_getElem? (i := 323) (by decide +kernel)) rfl, by decide +kernel, rfl, fun _ => rfl⟩
theorem fp_X9_70 : FP RX9 70 9 15 (.array .int) true := ⟨RX9, TX9, 18, fk9, by decide, mk_k (List.mem_of_getElem? (i := 324) (by decide +kernel)) rfl, by decide +kernel, rfl, fun _ => rfl⟩
theorem fl_X9_13 : FL RX9 13 9 1 := ⟨RX9, TX9, 18, fk9, by decide, mk_k (List.mem_of_getElem? (i := 310) (by decide +kernel)) rfl⟩
theorem fl_X9_9 : FL RX9 9 9 0 := ⟨RX9, TX9, 18, fk9, by decide, mk_k (List.mem_of_getElem? (i := 309) (by decide +kernel)) rfl⟩
theorem ml_X9_73 : Cond.methodLink RX9 73 yX9_tapeInt ∈ lw_k := mk_k (List.mem_of_getElem? (i := 368) (by decide +kernel)) rfl
theorem mv_X9_tapeInt : MV0 yX9_tapeInt cX9_tapeInt 3 none 1 := ⟨mk_k (List.mem_of_getElem? (i := 371) (by decide +kernel)) rfl, mk_k (List.mem_of_getElem? (i := 129) (by decide +kernel)) rfl, by decide +kernel, by decide +kernel, by decide +kernel⟩
theorem vi_X9_tapeInt : Cond.instanceMethod yX9_tapeInt ∈ lw_k ∧ Cond.selects RX9 yX9_tapeInt yX9_tapeInt ∈ lw_k := ⟨mk_k (List.mem_of_getElem? (i := 370) (by decide +kernel)) rfl, mk_k (List.mem_of_getElem? (i := 0) (by decide +kernel)) rfl⟩
theorem fl_X9_77 : FL RX9 77 9 5 := ⟨RX9, TX9, 18, fk9, by decide, mk_k (List.mem_of_getElem? (i := 314) (by decide +kernel)) rfl⟩
theorem ml_X9_84 : Cond.methodLink RX9 84 yX3_readAll ∈ lw_k := mk_k (List.mem_of_getElem? (i := 461) (by decide +kernel)) rfl
theorem mv_X3_readAll : MV0 yX3_readAll cX3_readAll 4 none 2 := ⟨mk_k (List.mem_of_getElem? (i := 464) (by decide +kernel)) rfl, mk_k (List.mem_of_getElem? (i := 134) (by decide +kernel)) rfl, by decide +kernel, by decide +kernel, by decide +kernel⟩
theorem vi_X3_readAll : Cond.instanceMethod yX3_readAll ∈ lw_k ∧ Cond.selects RX3 yX3_readAll yX3_readAll ∈ lw_k := ⟨mk_k (List.mem_of_getElem? (i := 462) (by decide +kernel)) rfl, mk_k (List.mem_of_getElem? (i := 463) (by decide +kernel)) rfl⟩
theorem fl_X9_88 : FL RX9 88 3 1 := ⟨RX3, TX3, 14, fk3, by decide, mk_k (List.mem_of_getElem? (i := 418) (by decide +kernel)) rfl⟩
theorem fl_X9_89 : FL RX9 89 3 2 := ⟨RX3, TX3, 14, fk3, by decide, mk_k (List.mem_of_getElem? (i := 420) (by decide +kernel)) rfl⟩
theorem fl_X9_17 : FL RX9 17 9 2 := ⟨RX9, TX9, 18, fk9, by decide, mk_k (List.mem_of_getElem? (i := 311) (by decide +kernel)) rfl⟩
theorem fl_X9_90 : FL RX9 90 3 0 := ⟨RX3, TX3, 14, fk3, by decide, mk_k (List.mem_of_getElem? (i := 416) (by decide +kernel)) rfl⟩
theorem fl_X9_26 : FL RX9 26 9 4 := ⟨RX9, TX9, 18, fk9, by decide, mk_k (List.mem_of_getElem? (i := 313) (by decide +kernel)) rfl⟩
theorem fp_X9_90 : FP RX9 90 3 0 (.object "FractionLift$House") false := ⟨RX3, TX3, 14, fk3, by decide, mk_k (List.mem_of_getElem? (i := 416) (by decide +kernel)) rfl, by decide +kernel, rfl, fun q => by cases q⟩
theorem fl_X9_93 : FL RX9 93 0 2 := ⟨RX0, TX0, 18, fk0, by decide, mk_k (List.mem_of_getElem? (i := 171) (by decide +kernel)) rfl⟩
theorem nw_X9_81 : NW RX9 81 3 14 df3 := ⟨RX3, TX3, tyX3, fk3, mk_k (List.mem_of_getElem? (i := 376) (by decide +kernel)) rfl, mk_k (List.mem_of_getElem? (i := 377) (by decide +kernel)) rfl, mk_k (List.mem_of_getElem? (i := 134) (by decide +kernel)) rfl, tyX3_ok, by decide +kernel, fun _ => rfl⟩
theorem ml_X9_83 : Cond.methodLink RX9 83 yX3_init ∈ lw_k := mk_k (List.mem_of_getElem? (i := 378) (by decide +kernel)) rfl
theorem mv_X3_init : MV0 yX3_init cX3_init 1 none 0 := ⟨mk_k (List.mem_of_getElem? (i := 380) (by decide +kernel)) rfl, mk_k (List.mem_of_getElem? (i := 134) (by decide +kernel)) rfl, by decide +kernel, by decide +kernel, by decide +kernel⟩
theorem im_X3_init : Cond.instanceMethod yX3_init ∈ lw_k := mk_k (List.mem_of_getElem? (i := 379) (by decide +kernel)) rfl
theorem fp_X9_77 : FP RX9 77 9 5 (.object "FractionLift$Reader") false := ⟨RX9, TX9, 18, fk9, by decide, mk_k (List.mem_of_getElem? (i := 314) (by decide +kernel)) rfl, by decide +kernel, rfl, fun q => by cases q⟩
theorem fl_X9_20 : FL RX9 20 9 3 := ⟨RX9, TX9, 18, fk9, by decide, mk_k (List.mem_of_getElem? (i := 312) (by decide +kernel)) rfl⟩
theorem fl_X9_99 : FL RX9 99 0 5 := ⟨RX0, TX0, 18, fk0, by decide, mk_k (List.mem_of_getElem? (i := 183) (by decide +kernel)) rfl⟩
theorem fl_X9_96 : FL RX9 96 0 4 := ⟨RX0, TX0, 18, fk0, by decide, mk_k (List.mem_of_getElem? (i := 178) (by decide +kernel)) rfl⟩
theorem ml_X9_111 : Cond.methodLink RX9 111 yX0_stuffOf ∈ lw_k := mk_k (List.mem_of_getElem? (i := 700) (by decide +kernel)) rfl
theorem fl_X9_102 : FL RX9 102 0 9 := ⟨RX0, TX0, 18, fk0, by decide, mk_k (List.mem_of_getElem? (i := 200) (by decide +kernel)) rfl⟩
theorem fl_X9_105 : FL RX9 105 0 10 := ⟨RX0, TX0, 18, fk0, by decide, mk_k (List.mem_of_getElem? (i := 203) (by decide +kernel)) rfl⟩
theorem fl_X9_108 : FL RX9 108 0 11 := ⟨RX0, TX0, 18, fk0, by decide, mk_k (List.mem_of_getElem? (i := 206) (by decide +kernel)) rfl⟩
theorem ml_X9_115 : Cond.methodLink RX9 115 yX0_placeFromBelow ∈ lw_k := mk_k (List.mem_of_getElem? (i := 704) (by decide +kernel)) rfl
theorem mv_X0_placeFromBelow : MV0 yX0_placeFromBelow cX0_placeFromBelow 3 (some .int) 1 := ⟨mk_k (List.mem_of_getElem? (i := 707) (by decide +kernel)) rfl, mk_k (List.mem_of_getElem? (i := 130) (by decide +kernel)) rfl, by decide +kernel, by decide +kernel, by decide +kernel⟩
theorem vi_X0_placeFromBelow : Cond.instanceMethod yX0_placeFromBelow ∈ lw_k ∧ Cond.selects RX0 yX0_placeFromBelow yX0_placeFromBelow ∈ lw_k := ⟨mk_k (List.mem_of_getElem? (i := 705) (by decide +kernel)) rfl, mk_k (List.mem_of_getElem? (i := 706) (by decide +kernel)) rfl⟩
theorem fl_X9_119 : FL RX9 119 0 15 := ⟨RX0, TX0, 18, fk0, by decide, mk_k (List.mem_of_getElem? (i := 215) (by decide +kernel)) rfl⟩
theorem fl_X9_125 : FL RX9 125 0 17 := ⟨RX0, TX0, 18, fk0, by decide, mk_k (List.mem_of_getElem? (i := 220) (by decide +kernel)) rfl⟩
theorem fl_X9_122 : FL RX9 122 0 16 := ⟨RX0, TX0, 18, fk0, by decide, mk_k (List.mem_of_getElem? (i := 217) (by decide +kernel)) rfl⟩
theorem fl_X9_52 : FL RX9 52 9 11 := ⟨RX9, TX9, 18, fk9, by decide, mk_k (List.mem_of_getElem? (i := 320) (by decide +kernel)) rfl⟩
theorem ml_X9_128 : Cond.methodLink RX9 128 yX4_lead ∈ lw_k := mk_k (List.mem_of_getElem? (i := 716) (by decide +kernel)) rfl
theorem fl_X9_59 : FL RX9 59 9 12 := ⟨RX9, TX9, 18, fk9, by decide, mk_k (List.mem_of_getElem? (i := 321) (by decide +kernel)) rfl⟩
theorem ml_X9_271 : Cond.methodLink RX9 271 yX2_put ∈ lw_k := mk_k (List.mem_of_getElem? (i := 746) (by decide +kernel)) rfl
theorem fl_X9_136 : FL RX9 136 2 0 := ⟨RX2, TX2, 2, fk2, by decide, mk_k (List.mem_of_getElem? (i := 300) (by decide +kernel)) rfl⟩
theorem fl_X9_140 : FL RX9 140 2 1 := ⟨RX2, TX2, 2, fk2, by decide, mk_k (List.mem_of_getElem? (i := 303) (by decide +kernel)) rfl⟩
theorem ml_X9_362 : Cond.methodLink RX9 362 yX0_isFloor ∈ lw_k := mk_k (List.mem_of_getElem? (i := 747) (by decide +kernel)) rfl
theorem ml_X9_132 : Cond.methodLink RX9 132 yX9_asksFloor ∈ lw_k := mk_k (List.mem_of_getElem? (i := 742) (by decide +kernel)) rfl
theorem mv_X9_asksFloor : MV0 yX9_asksFloor cX9_asksFloor 3 (some .boolean) 2 := ⟨mk_k (List.mem_of_getElem? (i := 745) (by decide +kernel)) rfl, mk_k (List.mem_of_getElem? (i := 129) (by decide +kernel)) rfl, by decide +kernel, by decide +kernel, by decide +kernel⟩
theorem vi_X9_asksFloor : Cond.instanceMethod yX9_asksFloor ∈ lw_k ∧ Cond.selects RX9 yX9_asksFloor yX9_asksFloor ∈ lw_k := ⟨mk_k (List.mem_of_getElem? (i := 744) (by decide +kernel)) rfl, mk_k (List.mem_of_getElem? (i := 32) (by decide +kernel)) rfl⟩
theorem fl_X9_145 : FL RX9 145 4 1 := ⟨RX4, TX4, 5, fk4, by decide, mk_k (List.mem_of_getElem? (i := 276) (by decide +kernel)) rfl⟩
theorem fl_X9_143 : FL RX9 143 4 0 := ⟨RX4, TX4, 5, fk4, by decide, mk_k (List.mem_of_getElem? (i := 272) (by decide +kernel)) rfl⟩
theorem fl_X9_40 : FL RX9 40 9 8 := ⟨RX9, TX9, 18, fk9, by decide, mk_k (List.mem_of_getElem? (i := 317) (by decide +kernel)) rfl⟩
theorem fl_X9_43 : FL RX9 43 9 9 := ⟨RX9, TX9, 18, fk9, by decide, mk_k (List.mem_of_getElem? (i := 318) (by decide +kernel)) rfl⟩
theorem fl_X9_46 : FL RX9 46 9 10 := ⟨RX9, TX9, 18, fk9, by decide, mk_k (List.mem_of_getElem? (i := 319) (by decide +kernel)) rfl⟩
theorem fp_X9_96 : FP RX9 96 0 4 .int false := ⟨RX0, TX0, 18, fk0, by decide, mk_k (List.mem_of_getElem? (i := 178) (by decide +kernel)) rfl, by decide +kernel, rfl, fun q => by cases q⟩
theorem fp_X9_99 : FP RX9 99 0 5 .int false := ⟨RX0, TX0, 18, fk0, by decide, mk_k (List.mem_of_getElem? (i := 183) (by decide +kernel)) rfl, by decide +kernel, rfl, fun q => by cases q⟩
theorem fl_X9_359 : FL RX9 359 0 3 := ⟨RX0, TX0, 18, fk0, by decide, mk_k (List.mem_of_getElem? (i := 174) (by decide +kernel)) rfl⟩
theorem fp_X9_359 : FP RX9 359 0 3 .int false := ⟨RX0, TX0, 18, fk0, by decide, mk_k (List.mem_of_getElem? (i := 174) (by decide +kernel)) rfl, by decide +kernel, rfl, fun q => by cases q⟩
theorem ml_X9_370 : Cond.methodLink RX9 370 yX9_forgetEldest ∈ lw_k := mk_k (List.mem_of_getElem? (i := 756) (by decide +kernel)) rfl
theorem mv_X9_forgetEldest : MV0 yX9_forgetEldest cX9_forgetEldest 2 none 0 := ⟨mk_k (List.mem_of_getElem? (i := 759) (by decide +kernel)) rfl, mk_k (List.mem_of_getElem? (i := 129) (by decide +kernel)) rfl, by decide +kernel, by decide +kernel, by decide +kernel⟩
theorem vi_X9_forgetEldest : Cond.instanceMethod yX9_forgetEldest ∈ lw_k ∧ Cond.selects RX9 yX9_forgetEldest yX9_forgetEldest ∈ lw_k := ⟨mk_k (List.mem_of_getElem? (i := 758) (by decide +kernel)) rfl, mk_k (List.mem_of_getElem? (i := 34) (by decide +kernel)) rfl⟩
theorem ml_X9_147 : Cond.methodLink RX9 147 yX9_pressOne ∈ lw_k := mk_k (List.mem_of_getElem? (i := 752) (by decide +kernel)) rfl
theorem mv_X9_pressOne : MV0 yX9_pressOne cX9_pressOne 3 (some .int) 1 := ⟨mk_k (List.mem_of_getElem? (i := 755) (by decide +kernel)) rfl, mk_k (List.mem_of_getElem? (i := 129) (by decide +kernel)) rfl, by decide +kernel, by decide +kernel, by decide +kernel⟩
theorem vi_X9_pressOne : Cond.instanceMethod yX9_pressOne ∈ lw_k ∧ Cond.selects RX9 yX9_pressOne yX9_pressOne ∈ lw_k := ⟨mk_k (List.mem_of_getElem? (i := 754) (by decide +kernel)) rfl, mk_k (List.mem_of_getElem? (i := 33) (by decide +kernel)) rfl⟩
theorem fl_X9_36 : FL RX9 36 9 7 := ⟨RX9, TX9, 18, fk9, by decide, mk_k (List.mem_of_getElem? (i := 316) (by decide +kernel)) rfl⟩
theorem ml_X9_343 : Cond.methodLink RX9 343 yX9_refusedTray ∈ lw_k := mk_k (List.mem_of_getElem? (i := 772) (by decide +kernel)) rfl
theorem mv_X9_refusedTray : MV0 yX9_refusedTray cX9_refusedTray 2 (some .int) 1 := ⟨mk_k (List.mem_of_getElem? (i := 775) (by decide +kernel)) rfl, mk_k (List.mem_of_getElem? (i := 129) (by decide +kernel)) rfl, by decide +kernel, by decide +kernel, by decide +kernel⟩
theorem vi_X9_refusedTray : Cond.instanceMethod yX9_refusedTray ∈ lw_k ∧ Cond.selects RX9 yX9_refusedTray yX9_refusedTray ∈ lw_k := ⟨mk_k (List.mem_of_getElem? (i := 774) (by decide +kernel)) rfl, mk_k (List.mem_of_getElem? (i := 36) (by decide +kernel)) rfl⟩
theorem fl_X9_153 : FL RX9 153 7 1 := ⟨RX7, TX7, 3, fk7, by decide, mk_k (List.mem_of_getElem? (i := 1272) (by decide +kernel)) rfl⟩
theorem ml_X9_156 : Cond.methodLink RX9 156 yX7_smallAt ∈ lw_k := mk_k (List.mem_of_getElem? (i := 776) (by decide +kernel)) rfl
theorem ml_X9_150 : Cond.methodLink RX9 150 yX9_refusedRow ∈ lw_k := mk_k (List.mem_of_getElem? (i := 768) (by decide +kernel)) rfl
theorem mv_X9_refusedRow : MV0 yX9_refusedRow cX9_refusedRow 5 (some .int) 2 := ⟨mk_k (List.mem_of_getElem? (i := 771) (by decide +kernel)) rfl, mk_k (List.mem_of_getElem? (i := 129) (by decide +kernel)) rfl, by decide +kernel, by decide +kernel, by decide +kernel⟩
theorem vi_X9_refusedRow : Cond.instanceMethod yX9_refusedRow ∈ lw_k ∧ Cond.selects RX9 yX9_refusedRow yX9_refusedRow ∈ lw_k := ⟨mk_k (List.mem_of_getElem? (i := 770) (by decide +kernel)) rfl, mk_k (List.mem_of_getElem? (i := 35) (by decide +kernel)) rfl⟩
theorem cc_X9_369 : Cond.constant RX9 369 1103515245 ∈ lw_k := mk_k (List.mem_of_getElem? (i := 792) (by decide +kernel)) rfl
theorem ml_X9_162 : Cond.methodLink RX9 162 yX9_nextDraw ∈ lw_k := mk_k (List.mem_of_getElem? (i := 789) (by decide +kernel)) rfl
theorem mv_X9_nextDraw : MV0 yX9_nextDraw cX9_nextDraw 1 (some .int) 1 := ⟨mk_k (List.mem_of_getElem? (i := 791) (by decide +kernel)) rfl, mk_k (List.mem_of_getElem? (i := 129) (by decide +kernel)) rfl, by decide +kernel, by decide +kernel, by decide +kernel⟩
theorem st_X9_nextDraw : Cond.static yX9_nextDraw ∈ lw_k := mk_k (List.mem_of_getElem? (i := 790) (by decide +kernel)) rfl
theorem fl_X9_165 : FL RX9 165 0 1 := ⟨RX0, TX0, 18, fk0, by decide, mk_k (List.mem_of_getElem? (i := 168) (by decide +kernel)) rfl⟩
theorem fl_X9_159 : FL RX9 159 0 6 := ⟨RX0, TX0, 18, fk0, by decide, mk_k (List.mem_of_getElem? (i := 190) (by decide +kernel)) rfl⟩
theorem ml_X9_168 : Cond.methodLink RX9 168 yX9_isStuff ∈ lw_k := mk_k (List.mem_of_getElem? (i := 797) (by decide +kernel)) rfl
theorem mv_X9_isStuff : MV0 yX9_isStuff cX9_isStuff 1 (some .boolean) 1 := ⟨mk_k (List.mem_of_getElem? (i := 799) (by decide +kernel)) rfl, mk_k (List.mem_of_getElem? (i := 129) (by decide +kernel)) rfl, by decide +kernel, by decide +kernel, by decide +kernel⟩
theorem st_X9_isStuff : Cond.static yX9_isStuff ∈ lw_k := mk_k (List.mem_of_getElem? (i := 798) (by decide +kernel)) rfl
theorem cl2_X9_172 : Cond.constantLong RX9 172 (-2) ∈ lw_k := mk_k (List.mem_of_getElem? (i := 800) (by decide +kernel)) rfl
theorem fl_X9_63 : FL RX9 63 9 13 := ⟨RX9, TX9, 18, fk9, by decide, mk_k (List.mem_of_getElem? (i := 322) (by decide +kernel)) rfl⟩
theorem ml_X9_176 : Cond.methodLink RX9 176 yX0_stuffAt ∈ lw_k := mk_k (List.mem_of_getElem? (i := 802) (by decide +kernel)) rfl
theorem ml_X9_180 : Cond.methodLink RX9 180 yX2_part ∈ lw_k := mk_k (List.mem_of_getElem? (i := 812) (by decide +kernel)) rfl
theorem mv_X2_part : MV0 yX2_part cX2_part 2 (some .long) 1 := ⟨mk_k (List.mem_of_getElem? (i := 815) (by decide +kernel)) rfl, mk_k (List.mem_of_getElem? (i := 132) (by decide +kernel)) rfl, by decide +kernel, by decide +kernel, by decide +kernel⟩
theorem vi_X2_part : Cond.instanceMethod yX2_part ∈ lw_k ∧ Cond.selects RX2 yX2_part yX2_part ∈ lw_k := ⟨mk_k (List.mem_of_getElem? (i := 813) (by decide +kernel)) rfl, mk_k (List.mem_of_getElem? (i := 814) (by decide +kernel)) rfl⟩
theorem cl2_X9_174 : Cond.constantLong RX9 174 (-3) ∈ lw_k := mk_k (List.mem_of_getElem? (i := 801) (by decide +kernel)) rfl
theorem ml_X9_184 : Cond.methodLink RX9 184 yX0_leastLevel ∈ lw_k := mk_k (List.mem_of_getElem? (i := 820) (by decide +kernel)) rfl
theorem mv_X0_leastLevel : MV0 yX0_leastLevel cX0_leastLevel 8 (some .boolean) 4 := ⟨mk_k (List.mem_of_getElem? (i := 823) (by decide +kernel)) rfl, mk_k (List.mem_of_getElem? (i := 130) (by decide +kernel)) rfl, by decide +kernel, by decide +kernel, by decide +kernel⟩
theorem vi_X0_leastLevel : Cond.instanceMethod yX0_leastLevel ∈ lw_k ∧ Cond.selects RX0 yX0_leastLevel yX0_leastLevel ∈ lw_k := ⟨mk_k (List.mem_of_getElem? (i := 821) (by decide +kernel)) rfl, mk_k (List.mem_of_getElem? (i := 822) (by decide +kernel)) rfl⟩
theorem cl2_X9_188 : Cond.constantLong RX9 188 (-1) ∈ lw_k := mk_k (List.mem_of_getElem? (i := 832) (by decide +kernel)) rfl
theorem fl_X9_190 : FL RX9 190 0 14 := ⟨RX0, TX0, 18, fk0, by decide, mk_k (List.mem_of_getElem? (i := 212) (by decide +kernel)) rfl⟩
theorem ml_X9_206 : Cond.methodLink RX9 206 yX0_addFloor ∈ lw_k := mk_k (List.mem_of_getElem? (i := 851) (by decide +kernel)) rfl
theorem fl_X9_199 : FL RX9 199 0 13 := ⟨RX0, TX0, 18, fk0, by decide, mk_k (List.mem_of_getElem? (i := 210) (by decide +kernel)) rfl⟩
theorem ml_X9_202 : Cond.methodLink RX9 202 yX2_whole ∈ lw_k := mk_k (List.mem_of_getElem? (i := 847) (by decide +kernel)) rfl
theorem mv_X2_whole : MV0 yX2_whole cX2_whole 1 (some .long) 0 := ⟨mk_k (List.mem_of_getElem? (i := 850) (by decide +kernel)) rfl, mk_k (List.mem_of_getElem? (i := 132) (by decide +kernel)) rfl, by decide +kernel, by decide +kernel, by decide +kernel⟩
theorem vi_X2_whole : Cond.instanceMethod yX2_whole ∈ lw_k ∧ Cond.selects RX2 yX2_whole yX2_whole ∈ lw_k := ⟨mk_k (List.mem_of_getElem? (i := 848) (by decide +kernel)) rfl, mk_k (List.mem_of_getElem? (i := 849) (by decide +kernel)) rfl⟩
theorem cl2_X9_193 : Cond.constantLong RX9 193 (99) ∈ lw_k := mk_k (List.mem_of_getElem? (i := 845) (by decide +kernel)) rfl
theorem ml_X9_195 : Cond.methodLink RX9 195 yX0_floorAt ∈ lw_k := mk_k (List.mem_of_getElem? (i := 846) (by decide +kernel)) rfl
theorem fl_X9_408 : FL RX9 408 9 16 := ⟨RX9, TX9, 18, fk9, by decide, mk_k (List.mem_of_getElem? (i := 325) (by decide +kernel)) rfl⟩
theorem ml_X9_415 : Cond.methodLink RX9 415 yX5_begin ∈ lw_k := mk_k (List.mem_of_getElem? (i := 928) (by decide +kernel)) rfl
theorem mv_X5_begin : MV0 yX5_begin cX5_begin 2 none 1 := ⟨mk_k (List.mem_of_getElem? (i := 931) (by decide +kernel)) rfl, mk_k (List.mem_of_getElem? (i := 142) (by decide +kernel)) rfl, by decide +kernel, by decide +kernel, by decide +kernel⟩
theorem vi_X5_begin : Cond.instanceMethod yX5_begin ∈ lw_k ∧ Cond.selects RX5 yX5_begin yX5_begin ∈ lw_k := ⟨mk_k (List.mem_of_getElem? (i := 929) (by decide +kernel)) rfl, mk_k (List.mem_of_getElem? (i := 930) (by decide +kernel)) rfl⟩
theorem nw_X9_215 : NW RX9 215 5 7 df5 := ⟨RX5, TX5, tyX5, fk5, mk_k (List.mem_of_getElem? (i := 860) (by decide +kernel)) rfl, mk_k (List.mem_of_getElem? (i := 861) (by decide +kernel)) rfl, mk_k (List.mem_of_getElem? (i := 142) (by decide +kernel)) rfl, tyX5_ok, by decide +kernel, fun _ => rfl⟩
theorem ml_X9_412 : Cond.methodLink RX9 412 yX5_init ∈ lw_k := mk_k (List.mem_of_getElem? (i := 862) (by decide +kernel)) rfl
theorem mv_X5_init : MV0 yX5_init cX5_init 2 none 1 := ⟨mk_k (List.mem_of_getElem? (i := 864) (by decide +kernel)) rfl, mk_k (List.mem_of_getElem? (i := 142) (by decide +kernel)) rfl, by decide +kernel, by decide +kernel, by decide +kernel⟩
theorem im_X5_init : Cond.instanceMethod yX5_init ∈ lw_k := mk_k (List.mem_of_getElem? (i := 863) (by decide +kernel)) rfl
theorem fp_X9_408 : FP RX9 408 9 16 (.object "FractionLift$Routes") false := ⟨RX9, TX9, 18, fk9, by decide, mk_k (List.mem_of_getElem? (i := 325) (by decide +kernel)) rfl, by decide +kernel, rfl, fun q => by cases q⟩
theorem ml_X9_210 : Cond.methodLink RX9 210 yX9_routesFromHere ∈ lw_k := mk_k (List.mem_of_getElem? (i := 856) (by decide +kernel)) rfl
theorem mv_X9_routesFromHere : MV0 yX9_routesFromHere cX9_routesFromHere 1 (some (.object "FractionLift$Routes")) 0 := ⟨mk_k (List.mem_of_getElem? (i := 859) (by decide +kernel)) rfl, mk_k (List.mem_of_getElem? (i := 129) (by decide +kernel)) rfl, by decide +kernel, by decide +kernel, by decide +kernel⟩
theorem vi_X9_routesFromHere : Cond.instanceMethod yX9_routesFromHere ∈ lw_k ∧ Cond.selects RX9 yX9_routesFromHere yX9_routesFromHere ∈ lw_k := ⟨mk_k (List.mem_of_getElem? (i := 858) (by decide +kernel)) rfl, mk_k (List.mem_of_getElem? (i := 37) (by decide +kernel)) rfl⟩
theorem ml_X9_214 : Cond.methodLink RX9 214 yX5_seekFewest ∈ lw_k := mk_k (List.mem_of_getElem? (i := 947) (by decide +kernel)) rfl
theorem mv_X5_seekFewest : MV0 yX5_seekFewest cX5_seekFewest 6 (some .int) 2 := ⟨mk_k (List.mem_of_getElem? (i := 950) (by decide +kernel)) rfl, mk_k (List.mem_of_getElem? (i := 142) (by decide +kernel)) rfl, by decide +kernel, by decide +kernel, by decide +kernel⟩
theorem vi_X5_seekFewest : Cond.instanceMethod yX5_seekFewest ∈ lw_k ∧ Cond.selects RX5 yX5_seekFewest yX5_seekFewest ∈ lw_k := ⟨mk_k (List.mem_of_getElem? (i := 948) (by decide +kernel)) rfl, mk_k (List.mem_of_getElem? (i := 949) (by decide +kernel)) rfl⟩
theorem fl_X9_219 : FL RX9 219 5 1 := ⟨RX5, TX5, 7, fk5, by decide, mk_k (List.mem_of_getElem? (i := 905) (by decide +kernel)) rfl⟩
theorem ml_X9_222 : Cond.methodLink RX9 222 yX5_layFloors ∈ lw_k := mk_k (List.mem_of_getElem? (i := 968) (by decide +kernel)) rfl
theorem mv_X5_layFloors : MV0 yX5_layFloors cX5_layFloors 5 (some .int) 1 := ⟨mk_k (List.mem_of_getElem? (i := 971) (by decide +kernel)) rfl, mk_k (List.mem_of_getElem? (i := 142) (by decide +kernel)) rfl, by decide +kernel, by decide +kernel, by decide +kernel⟩
theorem vi_X5_layFloors : Cond.instanceMethod yX5_layFloors ∈ lw_k ∧ Cond.selects RX5 yX5_layFloors yX5_layFloors ∈ lw_k := ⟨mk_k (List.mem_of_getElem? (i := 969) (by decide +kernel)) rfl, mk_k (List.mem_of_getElem? (i := 970) (by decide +kernel)) rfl⟩
theorem fl_X9_225 : FL RX9 225 5 0 := ⟨RX5, TX5, 7, fk5, by decide, mk_k (List.mem_of_getElem? (i := 903) (by decide +kernel)) rfl⟩
theorem fl_X9_229 : FL RX9 229 1 4 := ⟨RX1, TX1, 7, fk1, by decide, mk_k (List.mem_of_getElem? (i := 884) (by decide +kernel)) rfl⟩
theorem ml_X9_232 : Cond.methodLink RX9 232 yX5_greatestFrom ∈ lw_k := mk_k (List.mem_of_getElem? (i := 980) (by decide +kernel)) rfl
theorem mv_X5_greatestFrom : MV0 yX5_greatestFrom cX5_greatestFrom 4 (some .int) 1 := ⟨mk_k (List.mem_of_getElem? (i := 983) (by decide +kernel)) rfl, mk_k (List.mem_of_getElem? (i := 142) (by decide +kernel)) rfl, by decide +kernel, by decide +kernel, by decide +kernel⟩
theorem vi_X5_greatestFrom : Cond.instanceMethod yX5_greatestFrom ∈ lw_k ∧ Cond.selects RX5 yX5_greatestFrom yX5_greatestFrom ∈ lw_k := ⟨mk_k (List.mem_of_getElem? (i := 981) (by decide +kernel)) rfl, mk_k (List.mem_of_getElem? (i := 982) (by decide +kernel)) rfl⟩
theorem fl_X9_237 : FL RX9 237 1 1 := ⟨RX1, TX1, 7, fk1, by decide, mk_k (List.mem_of_getElem? (i := 877) (by decide +kernel)) rfl⟩
theorem fl_X9_235 : FL RX9 235 1 0 := ⟨RX1, TX1, 7, fk1, by decide, mk_k (List.mem_of_getElem? (i := 874) (by decide +kernel)) rfl⟩
theorem ml_X9_239 : Cond.methodLink RX9 239 yX5_seekTwins ∈ lw_k := mk_k (List.mem_of_getElem? (i := 992) (by decide +kernel)) rfl
theorem mv_X5_seekTwins : MV0 yX5_seekTwins cX5_seekTwins 4 (some .int) 0 := ⟨mk_k (List.mem_of_getElem? (i := 995) (by decide +kernel)) rfl, mk_k (List.mem_of_getElem? (i := 142) (by decide +kernel)) rfl, by decide +kernel, by decide +kernel, by decide +kernel⟩
theorem vi_X5_seekTwins : Cond.instanceMethod yX5_seekTwins ∈ lw_k ∧ Cond.selects RX5 yX5_seekTwins yX5_seekTwins ∈ lw_k := ⟨mk_k (List.mem_of_getElem? (i := 993) (by decide +kernel)) rfl, mk_k (List.mem_of_getElem? (i := 994) (by decide +kernel)) rfl⟩
theorem fl_X9_243 : FL RX9 243 5 2 := ⟨RX5, TX5, 7, fk5, by decide, mk_k (List.mem_of_getElem? (i := 907) (by decide +kernel)) rfl⟩
theorem ml_X9_373 : Cond.methodLink RX9 373 yX9_inverseBy ∈ lw_k := mk_k (List.mem_of_getElem? (i := 1014) (by decide +kernel)) rfl
theorem ml_X9_383 : Cond.methodLink RX9 383 yX4_remainderLed ∈ lw_k := mk_k (List.mem_of_getElem? (i := 1025) (by decide +kernel)) rfl
theorem mv_X4_remainderLed : MV0 yX4_remainderLed cX4_remainderLed 8 (some .int) 4 := ⟨mk_k (List.mem_of_getElem? (i := 1028) (by decide +kernel)) rfl, mk_k (List.mem_of_getElem? (i := 131) (by decide +kernel)) rfl, by decide +kernel, by decide +kernel, by decide +kernel⟩
theorem vi_X4_remainderLed : Cond.instanceMethod yX4_remainderLed ∈ lw_k ∧ Cond.selects RX4 yX4_remainderLed yX4_remainderLed ∈ lw_k := ⟨mk_k (List.mem_of_getElem? (i := 1026) (by decide +kernel)) rfl, mk_k (List.mem_of_getElem? (i := 1027) (by decide +kernel)) rfl⟩
theorem ml_X9_379 : Cond.methodLink RX9 379 yX9_remaindersFrom ∈ lw_k := mk_k (List.mem_of_getElem? (i := 1021) (by decide +kernel)) rfl
theorem mv_X9_remaindersFrom : MV0 yX9_remaindersFrom cX9_remaindersFrom 7 (some .int) 3 := ⟨mk_k (List.mem_of_getElem? (i := 1024) (by decide +kernel)) rfl, mk_k (List.mem_of_getElem? (i := 129) (by decide +kernel)) rfl, by decide +kernel, by decide +kernel, by decide +kernel⟩
theorem vi_X9_remaindersFrom : Cond.instanceMethod yX9_remaindersFrom ∈ lw_k ∧ Cond.selects RX9 yX9_remaindersFrom yX9_remaindersFrom ∈ lw_k := ⟨mk_k (List.mem_of_getElem? (i := 1023) (by decide +kernel)) rfl, mk_k (List.mem_of_getElem? (i := 44) (by decide +kernel)) rfl⟩
theorem ml_X9_376 : Cond.methodLink RX9 376 yX9_remainderOf ∈ lw_k := mk_k (List.mem_of_getElem? (i := 1011) (by decide +kernel)) rfl
theorem mv_X9_remainderOf : MV0 yX9_remainderOf cX9_remainderOf 6 (some .int) 3 := ⟨mk_k (List.mem_of_getElem? (i := 1013) (by decide +kernel)) rfl, mk_k (List.mem_of_getElem? (i := 129) (by decide +kernel)) rfl, by decide +kernel, by decide +kernel, by decide +kernel⟩
theorem st_X9_remainderOf : Cond.static yX9_remainderOf ∈ lw_k := mk_k (List.mem_of_getElem? (i := 1012) (by decide +kernel)) rfl
theorem ml_X9_252 : Cond.methodLink RX9 252 yX9_remaindersBy ∈ lw_k := mk_k (List.mem_of_getElem? (i := 1017) (by decide +kernel)) rfl
theorem mv_X9_remaindersBy : MV0 yX9_remaindersBy cX9_remaindersBy 9 (some .int) 1 := ⟨mk_k (List.mem_of_getElem? (i := 1020) (by decide +kernel)) rfl, mk_k (List.mem_of_getElem? (i := 129) (by decide +kernel)) rfl, by decide +kernel, by decide +kernel, by decide +kernel⟩
theorem vi_X9_remaindersBy : Cond.instanceMethod yX9_remaindersBy ∈ lw_k ∧ Cond.selects RX9 yX9_remaindersBy yX9_remaindersBy ∈ lw_k := ⟨mk_k (List.mem_of_getElem? (i := 1019) (by decide +kernel)) rfl, mk_k (List.mem_of_getElem? (i := 43) (by decide +kernel)) rfl⟩
theorem ml_X9_246 : Cond.methodLink RX9 246 yX9_isModulus ∈ lw_k := mk_k (List.mem_of_getElem? (i := 1004) (by decide +kernel)) rfl
theorem mv_X9_isModulus : MV0 yX9_isModulus cX9_isModulus 1 (some .boolean) 1 := ⟨mk_k (List.mem_of_getElem? (i := 1006) (by decide +kernel)) rfl, mk_k (List.mem_of_getElem? (i := 129) (by decide +kernel)) rfl, by decide +kernel, by decide +kernel, by decide +kernel⟩
theorem st_X9_isModulus : Cond.static yX9_isModulus ∈ lw_k := mk_k (List.mem_of_getElem? (i := 1005) (by decide +kernel)) rfl
theorem ml_X9_249 : Cond.methodLink RX9 249 yX9_isNever ∈ lw_k := mk_k (List.mem_of_getElem? (i := 1007) (by decide +kernel)) rfl
theorem mv_X9_isNever : MV0 yX9_isNever cX9_isNever 3 (some .boolean) 1 := ⟨mk_k (List.mem_of_getElem? (i := 1010) (by decide +kernel)) rfl, mk_k (List.mem_of_getElem? (i := 129) (by decide +kernel)) rfl, by decide +kernel, by decide +kernel, by decide +kernel⟩
theorem vi_X9_isNever : Cond.instanceMethod yX9_isNever ∈ lw_k ∧ Cond.selects RX9 yX9_isNever yX9_isNever ∈ lw_k := ⟨mk_k (List.mem_of_getElem? (i := 1009) (by decide +kernel)) rfl, mk_k (List.mem_of_getElem? (i := 42) (by decide +kernel)) rfl⟩
theorem ml_X9_255 : Cond.methodLink RX9 255 yX5_seekMeeting ∈ lw_k := mk_k (List.mem_of_getElem? (i := 1046) (by decide +kernel)) rfl
theorem mv_X5_seekMeeting : MV0 yX5_seekMeeting cX5_seekMeeting 9 (some .int) 3 := ⟨mk_k (List.mem_of_getElem? (i := 1049) (by decide +kernel)) rfl, mk_k (List.mem_of_getElem? (i := 142) (by decide +kernel)) rfl, by decide +kernel, by decide +kernel, by decide +kernel⟩
theorem vi_X5_seekMeeting : Cond.instanceMethod yX5_seekMeeting ∈ lw_k ∧ Cond.selects RX5 yX5_seekMeeting yX5_seekMeeting ∈ lw_k := ⟨mk_k (List.mem_of_getElem? (i := 1047) (by decide +kernel)) rfl, mk_k (List.mem_of_getElem? (i := 1048) (by decide +kernel)) rfl⟩
theorem fl_X9_259 : FL RX9 259 5 3 := ⟨RX5, TX5, 7, fk5, by decide, mk_k (List.mem_of_getElem? (i := 909) (by decide +kernel)) rfl⟩
theorem fl_X9_66 : FL RX9 66 9 14 := ⟨RX9, TX9, 18, fk9, by decide, mk_k (List.mem_of_getElem? (i := 323) (by decide +kernel)) rfl⟩
theorem ml_X9_262 : Cond.methodLink RX9 262 yX9_layTerms ∈ lw_k := mk_k (List.mem_of_getElem? (i := 1062) (by decide +kernel)) rfl
theorem mv_X9_layTerms : MV0 yX9_layTerms cX9_layTerms 13 (some .int) 2 := ⟨mk_k (List.mem_of_getElem? (i := 1065) (by decide +kernel)) rfl, mk_k (List.mem_of_getElem? (i := 129) (by decide +kernel)) rfl, by decide +kernel, by decide +kernel, by decide +kernel⟩
theorem vi_X9_layTerms : Cond.instanceMethod yX9_layTerms ∈ lw_k ∧ Cond.selects RX9 yX9_layTerms yX9_layTerms ∈ lw_k := ⟨mk_k (List.mem_of_getElem? (i := 1064) (by decide +kernel)) rfl, mk_k (List.mem_of_getElem? (i := 48) (by decide +kernel)) rfl⟩
theorem fl_X9_283 : FL RX9 283 0 0 := ⟨RX0, TX0, 18, fk0, by decide, mk_k (List.mem_of_getElem? (i := 165) (by decide +kernel)) rfl⟩
theorem ml_X9_268 : Cond.methodLink RX9 268 yX9_seekBelow ∈ lw_k := mk_k (List.mem_of_getElem? (i := 1074) (by decide +kernel)) rfl
theorem mv_X9_seekBelow : MV0 yX9_seekBelow cX9_seekBelow 9 (some .boolean) 1 := ⟨mk_k (List.mem_of_getElem? (i := 1077) (by decide +kernel)) rfl, mk_k (List.mem_of_getElem? (i := 129) (by decide +kernel)) rfl, by decide +kernel, by decide +kernel, by decide +kernel⟩
theorem vi_X9_seekBelow : Cond.instanceMethod yX9_seekBelow ∈ lw_k ∧ Cond.selects RX9 yX9_seekBelow yX9_seekBelow ∈ lw_k := ⟨mk_k (List.mem_of_getElem? (i := 1076) (by decide +kernel)) rfl, mk_k (List.mem_of_getElem? (i := 50) (by decide +kernel)) rfl⟩
theorem ml_X9_265 : Cond.methodLink RX9 265 yX9_seekAbove ∈ lw_k := mk_k (List.mem_of_getElem? (i := 1070) (by decide +kernel)) rfl
theorem mv_X9_seekAbove : MV0 yX9_seekAbove cX9_seekAbove 9 (some .boolean) 1 := ⟨mk_k (List.mem_of_getElem? (i := 1073) (by decide +kernel)) rfl, mk_k (List.mem_of_getElem? (i := 129) (by decide +kernel)) rfl, by decide +kernel, by decide +kernel, by decide +kernel⟩
theorem vi_X9_seekAbove : Cond.instanceMethod yX9_seekAbove ∈ lw_k ∧ Cond.selects RX9 yX9_seekAbove yX9_seekAbove ∈ lw_k := ⟨mk_k (List.mem_of_getElem? (i := 1072) (by decide +kernel)) rfl, mk_k (List.mem_of_getElem? (i := 49) (by decide +kernel)) rfl⟩
theorem ml_X9_275 : Cond.methodLink RX9 275 yX2_compared ∈ lw_k := mk_k (List.mem_of_getElem? (i := 1082) (by decide +kernel)) rfl
theorem mv_X2_compared : MV0 yX2_compared cX2_compared 2 (some .int) 1 := ⟨mk_k (List.mem_of_getElem? (i := 1085) (by decide +kernel)) rfl, mk_k (List.mem_of_getElem? (i := 132) (by decide +kernel)) rfl, by decide +kernel, by decide +kernel, by decide +kernel⟩
theorem vi_X2_compared : Cond.instanceMethod yX2_compared ∈ lw_k ∧ Cond.selects RX2 yX2_compared yX2_compared ∈ lw_k := ⟨mk_k (List.mem_of_getElem? (i := 1083) (by decide +kernel)) rfl, mk_k (List.mem_of_getElem? (i := 1084) (by decide +kernel)) rfl⟩
theorem ml_X9_279 : Cond.methodLink RX9 279 yX9_seekSimplest ∈ lw_k := mk_k (List.mem_of_getElem? (i := 1089) (by decide +kernel)) rfl
theorem mv_X9_seekSimplest : MV0 yX9_seekSimplest cX9_seekSimplest 39 none 4 := ⟨mk_k (List.mem_of_getElem? (i := 1092) (by decide +kernel)) rfl, mk_k (List.mem_of_getElem? (i := 129) (by decide +kernel)) rfl, by decide +kernel, by decide +kernel, by decide +kernel⟩
theorem vi_X9_seekSimplest : Cond.instanceMethod yX9_seekSimplest ∈ lw_k ∧ Cond.selects RX9 yX9_seekSimplest yX9_seekSimplest ∈ lw_k := ⟨mk_k (List.mem_of_getElem? (i := 1091) (by decide +kernel)) rfl, mk_k (List.mem_of_getElem? (i := 51) (by decide +kernel)) rfl⟩
theorem fl_X9_70 : FL RX9 70 9 15 := ⟨RX9, TX9, 18, fk9, by decide, mk_k (List.mem_of_getElem? (i := 324) (by decide +kernel)) rfl⟩
theorem ml_X9_286 : Cond.methodLink RX9 286 yX9_countBelow ∈ lw_k := mk_k (List.mem_of_getElem? (i := 1097) (by decide +kernel)) rfl
theorem mv_X9_countBelow : MV0 yX9_countBelow cX9_countBelow 9 (some .int) 3 := ⟨mk_k (List.mem_of_getElem? (i := 1100) (by decide +kernel)) rfl, mk_k (List.mem_of_getElem? (i := 129) (by decide +kernel)) rfl, by decide +kernel, by decide +kernel, by decide +kernel⟩
theorem vi_X9_countBelow : Cond.instanceMethod yX9_countBelow ∈ lw_k ∧ Cond.selects RX9 yX9_countBelow yX9_countBelow ∈ lw_k := ⟨mk_k (List.mem_of_getElem? (i := 1099) (by decide +kernel)) rfl, mk_k (List.mem_of_getElem? (i := 52) (by decide +kernel)) rfl⟩
theorem cl2_X9_387 : Cond.constantLong RX9 387 (1000000000) ∈ lw_k := mk_k (List.mem_of_getElem? (i := 1113) (by decide +kernel)) rfl
theorem ml_X9_290 : Cond.methodLink RX9 290 yX9_layParts ∈ lw_k := mk_k (List.mem_of_getElem? (i := 1109) (by decide +kernel)) rfl
theorem mv_X9_layParts : MV0 yX9_layParts cX9_layParts 5 (some .int) 0 := ⟨mk_k (List.mem_of_getElem? (i := 1112) (by decide +kernel)) rfl, mk_k (List.mem_of_getElem? (i := 129) (by decide +kernel)) rfl, by decide +kernel, by decide +kernel, by decide +kernel⟩
theorem vi_X9_layParts : Cond.instanceMethod yX9_layParts ∈ lw_k ∧ Cond.selects RX9 yX9_layParts yX9_layParts ∈ lw_k := ⟨mk_k (List.mem_of_getElem? (i := 1111) (by decide +kernel)) rfl, mk_k (List.mem_of_getElem? (i := 53) (by decide +kernel)) rfl⟩
theorem ml_X9_293 : Cond.methodLink RX9 293 yX0_rentOf ∈ lw_k := mk_k (List.mem_of_getElem? (i := 1118) (by decide +kernel)) rfl
theorem mv_X0_rentOf : MV0 yX0_rentOf cX0_rentOf 3 none 2 := ⟨mk_k (List.mem_of_getElem? (i := 1121) (by decide +kernel)) rfl, mk_k (List.mem_of_getElem? (i := 130) (by decide +kernel)) rfl, by decide +kernel, by decide +kernel, by decide +kernel⟩
theorem vi_X0_rentOf : Cond.instanceMethod yX0_rentOf ∈ lw_k ∧ Cond.selects RX0 yX0_rentOf yX0_rentOf ∈ lw_k := ⟨mk_k (List.mem_of_getElem? (i := 1119) (by decide +kernel)) rfl, mk_k (List.mem_of_getElem? (i := 1120) (by decide +kernel)) rfl⟩
theorem cl2_X9_297 : Cond.constantLong RX9 297 (100) ∈ lw_k := mk_k (List.mem_of_getElem? (i := 1127) (by decide +kernel)) rfl
theorem ml_X9_398 : Cond.methodLink RX9 398 yX9_commonFactor ∈ lw_k := mk_k (List.mem_of_getElem? (i := 1145) (by decide +kernel)) rfl
theorem cl2_X9_396 : Cond.constantLong RX9 396 (27720) ∈ lw_k := mk_k (List.mem_of_getElem? (i := 1144) (by decide +kernel)) rfl
theorem ml_X9_402 : Cond.methodLink RX9 402 yJ9_abs_067f4 ∈ lw_k := mk_k (List.mem_of_getElem? (i := 1150) (by decide +kernel)) rfl
theorem ml_X9_392 : Cond.methodLink RX9 392 yX9_farFromOthers ∈ lw_k := mk_k (List.mem_of_getElem? (i := 1146) (by decide +kernel)) rfl
theorem mv_X9_farFromOthers : MV0 yX9_farFromOthers cX9_farFromOthers 11 (some .long) 3 := ⟨mk_k (List.mem_of_getElem? (i := 1149) (by decide +kernel)) rfl, mk_k (List.mem_of_getElem? (i := 129) (by decide +kernel)) rfl, by decide +kernel, by decide +kernel, by decide +kernel⟩
theorem vi_X9_farFromOthers : Cond.instanceMethod yX9_farFromOthers ∈ lw_k ∧ Cond.selects RX9 yX9_farFromOthers yX9_farFromOthers ∈ lw_k := ⟨mk_k (List.mem_of_getElem? (i := 1148) (by decide +kernel)) rfl, mk_k (List.mem_of_getElem? (i := 56) (by decide +kernel)) rfl⟩
theorem ml_X9_389 : Cond.methodLink RX9 389 yX9_fairUnit ∈ lw_k := mk_k (List.mem_of_getElem? (i := 1140) (by decide +kernel)) rfl
theorem mv_X9_fairUnit : MV0 yX9_fairUnit cX9_fairUnit 9 (some .long) 1 := ⟨mk_k (List.mem_of_getElem? (i := 1143) (by decide +kernel)) rfl, mk_k (List.mem_of_getElem? (i := 129) (by decide +kernel)) rfl, by decide +kernel, by decide +kernel, by decide +kernel⟩
theorem vi_X9_fairUnit : Cond.instanceMethod yX9_fairUnit ∈ lw_k ∧ Cond.selects RX9 yX9_fairUnit yX9_fairUnit ∈ lw_k := ⟨mk_k (List.mem_of_getElem? (i := 1142) (by decide +kernel)) rfl, mk_k (List.mem_of_getElem? (i := 55) (by decide +kernel)) rfl⟩
theorem ml_X9_299 : Cond.methodLink RX9 299 yX9_seekFairest ∈ lw_k := mk_k (List.mem_of_getElem? (i := 1136) (by decide +kernel)) rfl
theorem mv_X9_seekFairest : MV0 yX9_seekFairest cX9_seekFairest 14 none 1 := ⟨mk_k (List.mem_of_getElem? (i := 1139) (by decide +kernel)) rfl, mk_k (List.mem_of_getElem? (i := 129) (by decide +kernel)) rfl, by decide +kernel, by decide +kernel, by decide +kernel⟩
theorem vi_X9_seekFairest : Cond.instanceMethod yX9_seekFairest ∈ lw_k ∧ Cond.selects RX9 yX9_seekFairest yX9_seekFairest ∈ lw_k := ⟨mk_k (List.mem_of_getElem? (i := 1138) (by decide +kernel)) rfl, mk_k (List.mem_of_getElem? (i := 54) (by decide +kernel)) rfl⟩
theorem fl_X9_366 : FL RX9 366 7 2 := ⟨RX7, TX7, 3, fk7, by decide, mk_k (List.mem_of_getElem? (i := 1275) (by decide +kernel)) rfl⟩
theorem cl2_X9_406 : Cond.constantLong RX9 406 (200000) ∈ lw_k := mk_k (List.mem_of_getElem? (i := 1167) (by decide +kernel)) rfl
theorem fl_X9_418 : FL RX9 418 9 17 := ⟨RX9, TX9, 18, fk9, by decide, mk_k (List.mem_of_getElem? (i := 326) (by decide +kernel)) rfl⟩
theorem nw_X9_313 : NW RX9 313 8 8 df8 := ⟨RX8, TX8, tyX8, fk8, mk_k (List.mem_of_getElem? (i := 1172) (by decide +kernel)) rfl, mk_k (List.mem_of_getElem? (i := 1173) (by decide +kernel)) rfl, mk_k (List.mem_of_getElem? (i := 146) (by decide +kernel)) rfl, tyX8_ok, by decide +kernel, fun _ => rfl⟩
theorem ml_X9_422 : Cond.methodLink RX9 422 yX8_init ∈ lw_k := mk_k (List.mem_of_getElem? (i := 1174) (by decide +kernel)) rfl
theorem mv_X8_init : MV0 yX8_init cX8_init 2 none 1 := ⟨mk_k (List.mem_of_getElem? (i := 1176) (by decide +kernel)) rfl, mk_k (List.mem_of_getElem? (i := 146) (by decide +kernel)) rfl, by decide +kernel, by decide +kernel, by decide +kernel⟩
theorem im_X8_init : Cond.instanceMethod yX8_init ∈ lw_k := mk_k (List.mem_of_getElem? (i := 1175) (by decide +kernel)) rfl
theorem fp_X9_418 : FP RX9 418 9 17 (.object "FractionLift$Watcher") false := ⟨RX9, TX9, 18, fk9, by decide, mk_k (List.mem_of_getElem? (i := 326) (by decide +kernel)) rfl, by decide +kernel, rfl, fun q => by cases q⟩
theorem ml_X9_302 : Cond.methodLink RX9 302 yX9_refusedSeen ∈ lw_k := mk_k (List.mem_of_getElem? (i := 1159) (by decide +kernel)) rfl
theorem mv_X9_refusedSeen : MV0 yX9_refusedSeen cX9_refusedSeen 5 (some .int) 1 := ⟨mk_k (List.mem_of_getElem? (i := 1162) (by decide +kernel)) rfl, mk_k (List.mem_of_getElem? (i := 129) (by decide +kernel)) rfl, by decide +kernel, by decide +kernel, by decide +kernel⟩
theorem vi_X9_refusedSeen : Cond.instanceMethod yX9_refusedSeen ∈ lw_k ∧ Cond.selects RX9 yX9_refusedSeen yX9_refusedSeen ∈ lw_k := ⟨mk_k (List.mem_of_getElem? (i := 1161) (by decide +kernel)) rfl, mk_k (List.mem_of_getElem? (i := 57) (by decide +kernel)) rfl⟩
theorem ml_X9_305 : Cond.methodLink RX9 305 yX9_fewRows ∈ lw_k := mk_k (List.mem_of_getElem? (i := 1163) (by decide +kernel)) rfl
theorem mv_X9_fewRows : MV0 yX9_fewRows cX9_fewRows 5 (some .boolean) 1 := ⟨mk_k (List.mem_of_getElem? (i := 1166) (by decide +kernel)) rfl, mk_k (List.mem_of_getElem? (i := 129) (by decide +kernel)) rfl, by decide +kernel, by decide +kernel, by decide +kernel⟩
theorem vi_X9_fewRows : Cond.instanceMethod yX9_fewRows ∈ lw_k ∧ Cond.selects RX9 yX9_fewRows yX9_fewRows ∈ lw_k := ⟨mk_k (List.mem_of_getElem? (i := 1165) (by decide +kernel)) rfl, mk_k (List.mem_of_getElem? (i := 58) (by decide +kernel)) rfl⟩
theorem ml_X9_308 : Cond.methodLink RX9 308 yX9_watcherHere ∈ lw_k := mk_k (List.mem_of_getElem? (i := 1168) (by decide +kernel)) rfl
theorem mv_X9_watcherHere : MV0 yX9_watcherHere cX9_watcherHere 1 (some (.object "FractionLift$Watcher")) 0 := ⟨mk_k (List.mem_of_getElem? (i := 1171) (by decide +kernel)) rfl, mk_k (List.mem_of_getElem? (i := 129) (by decide +kernel)) rfl, by decide +kernel, by decide +kernel, by decide +kernel⟩
theorem vi_X9_watcherHere : Cond.instanceMethod yX9_watcherHere ∈ lw_k ∧ Cond.selects RX9 yX9_watcherHere yX9_watcherHere ∈ lw_k := ⟨mk_k (List.mem_of_getElem? (i := 1170) (by decide +kernel)) rfl, mk_k (List.mem_of_getElem? (i := 59) (by decide +kernel)) rfl⟩
theorem ml_X9_312 : Cond.methodLink RX9 312 yX8_watchAll ∈ lw_k := mk_k (List.mem_of_getElem? (i := 1206) (by decide +kernel)) rfl
theorem mv_X8_watchAll : MV0 yX8_watchAll cX8_watchAll 4 none 3 := ⟨mk_k (List.mem_of_getElem? (i := 1209) (by decide +kernel)) rfl, mk_k (List.mem_of_getElem? (i := 146) (by decide +kernel)) rfl, by decide +kernel, by decide +kernel, by decide +kernel⟩
theorem vi_X8_watchAll : Cond.instanceMethod yX8_watchAll ∈ lw_k ∧ Cond.selects RX8 yX8_watchAll yX8_watchAll ∈ lw_k := ⟨mk_k (List.mem_of_getElem? (i := 1207) (by decide +kernel)) rfl, mk_k (List.mem_of_getElem? (i := 1208) (by decide +kernel)) rfl⟩
theorem fl_X9_321 : FL RX9 321 8 1 := ⟨RX8, TX8, 8, fk8, by decide, mk_k (List.mem_of_getElem? (i := 1181) (by decide +kernel)) rfl⟩
theorem fl_X9_318 : FL RX9 318 8 0 := ⟨RX8, TX8, 8, fk8, by decide, mk_k (List.mem_of_getElem? (i := 1179) (by decide +kernel)) rfl⟩
theorem fl_X9_324 : FL RX9 324 8 2 := ⟨RX8, TX8, 8, fk8, by decide, mk_k (List.mem_of_getElem? (i := 1183) (by decide +kernel)) rfl⟩
theorem ml_X9_327 : Cond.methodLink RX9 327 yX9_hasButtonsAlone ∈ lw_k := mk_k (List.mem_of_getElem? (i := 1232) (by decide +kernel)) rfl
theorem mv_X9_hasButtonsAlone : MV0 yX9_hasButtonsAlone cX9_hasButtonsAlone 3 (some .boolean) 1 := ⟨mk_k (List.mem_of_getElem? (i := 1235) (by decide +kernel)) rfl, mk_k (List.mem_of_getElem? (i := 129) (by decide +kernel)) rfl, by decide +kernel, by decide +kernel, by decide +kernel⟩
theorem vi_X9_hasButtonsAlone : Cond.instanceMethod yX9_hasButtonsAlone ∈ lw_k ∧ Cond.selects RX9 yX9_hasButtonsAlone yX9_hasButtonsAlone ∈ lw_k := ⟨mk_k (List.mem_of_getElem? (i := 1234) (by decide +kernel)) rfl, mk_k (List.mem_of_getElem? (i := 63) (by decide +kernel)) rfl⟩
theorem ml_X9_331 : Cond.methodLink RX9 331 yX5_layChances ∈ lw_k := mk_k (List.mem_of_getElem? (i := 1236) (by decide +kernel)) rfl
theorem mv_X5_layChances : MV0 yX5_layChances cX5_layChances 7 (some .int) 1 := ⟨mk_k (List.mem_of_getElem? (i := 1239) (by decide +kernel)) rfl, mk_k (List.mem_of_getElem? (i := 142) (by decide +kernel)) rfl, by decide +kernel, by decide +kernel, by decide +kernel⟩
theorem vi_X5_layChances : Cond.instanceMethod yX5_layChances ∈ lw_k ∧ Cond.selects RX5 yX5_layChances yX5_layChances ∈ lw_k := ⟨mk_k (List.mem_of_getElem? (i := 1237) (by decide +kernel)) rfl, mk_k (List.mem_of_getElem? (i := 1238) (by decide +kernel)) rfl⟩
theorem ml_X9_335 : Cond.methodLink RX9 335 yX1_weightOf ∈ lw_k := mk_k (List.mem_of_getElem? (i := 1252) (by decide +kernel)) rfl
theorem mv_X1_weightOf : MV0 yX1_weightOf cX1_weightOf 5 (some .long) 3 := ⟨mk_k (List.mem_of_getElem? (i := 1255) (by decide +kernel)) rfl, mk_k (List.mem_of_getElem? (i := 143) (by decide +kernel)) rfl, by decide +kernel, by decide +kernel, by decide +kernel⟩
theorem vi_X1_weightOf : Cond.instanceMethod yX1_weightOf ∈ lw_k ∧ Cond.selects RX1 yX1_weightOf yX1_weightOf ∈ lw_k := ⟨mk_k (List.mem_of_getElem? (i := 1253) (by decide +kernel)) rfl, mk_k (List.mem_of_getElem? (i := 1254) (by decide +kernel)) rfl⟩
theorem ml_X9_340 : Cond.methodLink RX9 340 yX7_layOut ∈ lw_k := mk_k (List.mem_of_getElem? (i := 1283) (by decide +kernel)) rfl
theorem mv_X7_layOut : MV0 yX7_layOut cX7_layOut 3 none 2 := ⟨mk_k (List.mem_of_getElem? (i := 1286) (by decide +kernel)) rfl, mk_k (List.mem_of_getElem? (i := 147) (by decide +kernel)) rfl, by decide +kernel, by decide +kernel, by decide +kernel⟩
theorem vi_X7_layOut : Cond.instanceMethod yX7_layOut ∈ lw_k ∧ Cond.selects RX7 yX7_layOut yX7_layOut ∈ lw_k := ⟨mk_k (List.mem_of_getElem? (i := 1284) (by decide +kernel)) rfl, mk_k (List.mem_of_getElem? (i := 1285) (by decide +kernel)) rfl⟩
theorem nw_X9_34 : NW RX9 34 7 3 df7 := ⟨RX7, TX7, tyX7, fk7, mk_k (List.mem_of_getElem? (i := 261) (by decide +kernel)) rfl, mk_k (List.mem_of_getElem? (i := 1264) (by decide +kernel)) rfl, mk_k (List.mem_of_getElem? (i := 147) (by decide +kernel)) rfl, tyX7_ok, by decide +kernel, fun _ => rfl⟩
theorem ml_X9_339 : Cond.methodLink RX9 339 yX7_init ∈ lw_k := mk_k (List.mem_of_getElem? (i := 1265) (by decide +kernel)) rfl
theorem mv_X7_init : MV0 yX7_init cX7_init 1 none 0 := ⟨mk_k (List.mem_of_getElem? (i := 1267) (by decide +kernel)) rfl, mk_k (List.mem_of_getElem? (i := 147) (by decide +kernel)) rfl, by decide +kernel, by decide +kernel, by decide +kernel⟩
theorem im_X7_init : Cond.instanceMethod yX7_init ∈ lw_k := mk_k (List.mem_of_getElem? (i := 1266) (by decide +kernel)) rfl
theorem ml_X9_346 : Cond.methodLink RX9 346 yX7_lay ∈ lw_k := mk_k (List.mem_of_getElem? (i := 1295) (by decide +kernel)) rfl
theorem mv_X7_lay : MV0 yX7_lay cX7_lay 4 (some .long) 2 := ⟨mk_k (List.mem_of_getElem? (i := 1298) (by decide +kernel)) rfl, mk_k (List.mem_of_getElem? (i := 147) (by decide +kernel)) rfl, by decide +kernel, by decide +kernel, by decide +kernel⟩
theorem vi_X7_lay : Cond.instanceMethod yX7_lay ∈ lw_k ∧ Cond.selects RX7 yX7_lay yX7_lay ∈ lw_k := ⟨mk_k (List.mem_of_getElem? (i := 1296) (by decide +kernel)) rfl, mk_k (List.mem_of_getElem? (i := 1297) (by decide +kernel)) rfl⟩
theorem ml_X9_350 : Cond.methodLink RX9 350 yJ9_min_7cf53 ∈ lw_k := mk_k (List.mem_of_getElem? (i := 1308) (by decide +kernel)) rfl
theorem fl_X9_30 : FL RX9 30 9 6 := ⟨RX9, TX9, 18, fk9, by decide, mk_k (List.mem_of_getElem? (i := 315) (by decide +kernel)) rfl⟩
theorem ml_X9_355 : Cond.methodLink RX9 355 yX0_takeFrom ∈ lw_k := mk_k (List.mem_of_getElem? (i := 1313) (by decide +kernel)) rfl
theorem mv_X0_takeFrom : MV0 yX0_takeFrom cX0_takeFrom 2 none 1 := ⟨mk_k (List.mem_of_getElem? (i := 1316) (by decide +kernel)) rfl, mk_k (List.mem_of_getElem? (i := 130) (by decide +kernel)) rfl, by decide +kernel, by decide +kernel, by decide +kernel⟩
theorem vi_X0_takeFrom : Cond.instanceMethod yX0_takeFrom ∈ lw_k ∧ Cond.selects RX0 yX0_takeFrom yX0_takeFrom ∈ lw_k := ⟨mk_k (List.mem_of_getElem? (i := 1314) (by decide +kernel)) rfl, mk_k (List.mem_of_getElem? (i := 1315) (by decide +kernel)) rfl⟩
theorem oi_X10_7 : Cond.methodLink RX10 7 objectInit ∈ lw_k := mk_k (List.mem_of_getElem? (i := 1330) (by decide +kernel)) rfl
theorem fp_X10_13 : FP RX10 13 10 1 (.array .int) true := ⟨RX10, TX10, 55, fk10, by decide, mk_k (List.mem_of_getElem? (i := 1335) (by decide +kernel)) rfl, by decide +kernel, rfl, fun _ => rfl⟩
theorem arr_boolean : Cond.arrayClass (newarray.typeOf .boolean) ∈ lw_k := mk_k (List.mem_of_getElem? (i := 1500) (by decide +kernel)) rfl
theorem fp_X10_17 : FP RX10 17 10 2 (.array .boolean) true := ⟨RX10, TX10, 55, fk10, by decide, mk_k (List.mem_of_getElem? (i := 1336) (by decide +kernel)) rfl, by decide +kernel, rfl, fun _ => rfl⟩
theorem fp_X10_21 : FP RX10 21 10 3 (.array .int) true := ⟨RX10, TX10, 55, fk10, by decide, mk_k (List.mem_of_getElem? (i := 1337) (by decide +kernel)) rfl, by decide +kernel, rfl, fun _ => rfl⟩
theorem fp_X10_24 : FP RX10 24 10 4 (.array .int) true := ⟨RX10, TX10, 55, fk10, by decide, mk_k (List.mem_of_getElem? (i := 1338) (by decide +kernel)) rfl, by decide +kernel, rfl, fun _ => rfl⟩
theorem fp_X10_27 : FP RX10 27 10 14 .int false := ⟨RX10, TX10, 55, fk10, by decide, mk_k (List.mem_of_getElem? (i := 1348) (by decide +kernel)) rfl, by decide +kernel, rfl, fun q => by cases q⟩
theorem fp_X10_30 : FP RX10 30 10 19 (.array .long) true := ⟨RX10, TX10, 55, fk10, by decide, mk_k (List.mem_of_getElem? (i := 1353) (by decide +kernel)) rfl, by decide +kernel, rfl, fun _ => rfl⟩
theorem fp_X10_34 : FP RX10 34 10 20 (.array .long) true := ⟨RX10, TX10, 55, fk10, by decide, mk_k (List.mem_of_getElem? (i := 1354) (by decide +kernel)) rfl, by decide +kernel, rfl, fun _ => rfl⟩
theorem fp_X10_37 : FP RX10 37 10 23 (.array .int) true := ⟨RX10, TX10, 55, fk10, by decide, mk_k (List.mem_of_getElem? (i := 1357) (by decide +kernel)) rfl, by decide +kernel, rfl, fun _ => rfl⟩
theorem fp_X10_40 : FP RX10 40 10 24 (.array .int) true := ⟨RX10, TX10, 55, fk10, by decide, mk_k (List.mem_of_getElem? (i := 1358) (by decide +kernel)) rfl, by decide +kernel, rfl, fun _ => rfl⟩
theorem fp_X10_43 : FP RX10 43 10 25 (.array .int) true := ⟨RX10, TX10, 55, fk10, by decide, mk_k (List.mem_of_getElem? (i := 1359) (by decide +kernel)) rfl, by decide +kernel, rfl, fun _ => rfl⟩
theorem fp_X10_46 : FP RX10 46 10 26 (.array .int) true := ⟨RX10, TX10, 55, fk10, by decide, mk_k (List.mem_of_getElem? (i := 1360) (by decide +kernel)) rfl, by decide +kernel, rfl, fun _ => rfl⟩
theorem fp_X10_49 : FP RX10 49 10 27 (.array .int) true := ⟨RX10, TX10, 55, fk10, by decide, mk_k (List.mem_of_getElem? (i := 1361) (by decide +kernel)) rfl, by decide +kernel, rfl, fun _ => rfl⟩
theorem fp_X10_52 : FP RX10 52 10 28 (.array .int) true := ⟨RX10, TX10, 55, fk10, by decide, mk_k (List.mem_of_getElem? (i := 1362) (by decide +kernel)) rfl, by decide +kernel, rfl, fun _ => rfl⟩
theorem fp_X10_55 : FP RX10 55 10 30 (.array .int) true := ⟨RX10, TX10, 55, fk10, by decide, mk_k (List.mem_of_getElem? (i := 1364) (by decide +kernel)) rfl, by decide +kernel, rfl, fun _ => rfl⟩
theorem fp_X10_58 : FP RX10 58 10 31 (.array .int) true := ⟨RX10, TX10, 55, fk10, by decide, mk_k (List.mem_of_getElem? (i := 1365) (by decide +kernel)) rfl, by decide +kernel, rfl, fun _ => rfl⟩
theorem fp_X10_61 : FP RX10 61 10 32 (.array .int) true := ⟨RX10, TX10, 55, fk10, by decide, mk_k (List.mem_of_getElem? (i := 1366) (by decide +kernel)) rfl, by decide +kernel, rfl, fun _ => rfl⟩
theorem fp_X10_64 : FP RX10 64 10 36 (.array .int) true := ⟨RX10, TX10, 55, fk10, by decide, mk_k (List.mem_of_getElem? (i := 1370) (by decide +kernel)) rfl, by decide +kernel, rfl, fun _ => rfl⟩
theorem fp_X10_67 : FP RX10 67 10 37 (.array .int) true := ⟨RX10, TX10, 55, fk10, by decide, mk_k (List.mem_of_getElem? (i := 1371) (by decide +kernel)) rfl, by decide +kernel, rfl, fun _ => rfl⟩
theorem fp_X10_70 : FP RX10 70 10 38 (.array .int) true := ⟨RX10, TX10, 55, fk10, by decide, mk_k (List.mem_of_getElem? (i := 1372) (by decide +kernel)) rfl, by decide +kernel, rfl, fun _ => rfl⟩
theorem fp_X10_73 : FP RX10 73 10 41 (.array .int) true := ⟨RX10, TX10, 55, fk10, by decide, mk_k (List.mem_of_getElem? (i := 1375) (by decide +kernel)) rfl, by decide +kernel, rfl, fun _ => rfl⟩
theorem fp_X10_76 : FP RX10 76 10 42 (.array .int) true := ⟨RX10, TX10, 55, fk10, by decide, mk_k (List.mem_of_getElem? (i := 1376) (by decide +kernel)) rfl, by decide +kernel, rfl, fun _ => rfl⟩
theorem fp_X10_79 : FP RX10 79 10 43 (.array .int) true := ⟨RX10, TX10, 55, fk10, by decide, mk_k (List.mem_of_getElem? (i := 1377) (by decide +kernel)) rfl, by decide +kernel, rfl, fun _ => rfl⟩
theorem fp_X10_82 : FP RX10 82 10 44 (.array .int) true := ⟨RX10, TX10, 55, fk10, by decide, mk_k (List.mem_of_getElem? (i := 1378) (by decide +kernel)) rfl, by decide +kernel, rfl, fun _ => rfl⟩
theorem fp_X10_85 : FP RX10 85 10 45 (.array .int) true := ⟨RX10, TX10, 55, fk10, by decide, mk_k (List.mem_of_getElem? (i := 1379) (by decide +kernel)) rfl, by decide +kernel, rfl, fun _ => rfl⟩
theorem fp_X10_88 : FP RX10 88 10 48 (.array .int) true := ⟨RX10, TX10, 55, fk10, by decide, mk_k (List.mem_of_getElem? (i := 1382) (by decide +kernel)) rfl, by decide +kernel, rfl, fun _ => rfl⟩
theorem fp_X10_91 : FP RX10 91 10 49 (.array .int) true := ⟨RX10, TX10, 55, fk10, by decide, mk_k (List.mem_of_getElem? (i := 1383) (by decide +kernel)) rfl, by decide +kernel, rfl, fun _ => rfl⟩
theorem fp_X10_94 : FP RX10 94 10 50 (.array .long) true := ⟨RX10, TX10, 55, fk10, by decide, mk_k (List.mem_of_getElem? (i := 1384) (by decide +kernel)) rfl, by decide +kernel, rfl, fun _ => rfl⟩
theorem fp_X10_97 : FP RX10 97 10 52 (.array .int) true := ⟨RX10, TX10, 55, fk10, by decide, mk_k (List.mem_of_getElem? (i := 1386) (by decide +kernel)) rfl, by decide +kernel, rfl, fun _ => rfl⟩
theorem fp_X10_100 : FP RX10 100 10 53 (.array .int) true := ⟨RX10, TX10, 55, fk10, by decide, mk_k (List.mem_of_getElem? (i := 1387) (by decide +kernel)) rfl, by decide +kernel, rfl, fun _ => rfl⟩
theorem fp_X10_103 : FP RX10 103 10 54 (.array .long) true := ⟨RX10, TX10, 55, fk10, by decide, mk_k (List.mem_of_getElem? (i := 1388) (by decide +kernel)) rfl, by decide +kernel, rfl, fun _ => rfl⟩
theorem fl_X10_13 : FL RX10 13 10 1 := ⟨RX10, TX10, 55, fk10, by decide, mk_k (List.mem_of_getElem? (i := 1335) (by decide +kernel)) rfl⟩
theorem ml_X10_106 : Cond.methodLink RX10 106 yX10_plain ∈ lw_k := mk_k (List.mem_of_getElem? (i := 1331) (by decide +kernel)) rfl
theorem mv_X10_plain : MV0 yX10_plain cX10_plain 2 none 1 := ⟨mk_k (List.mem_of_getElem? (i := 1333) (by decide +kernel)) rfl, mk_k (List.mem_of_getElem? (i := 133) (by decide +kernel)) rfl, by decide +kernel, by decide +kernel, by decide +kernel⟩
theorem st_X10_plain : Cond.static yX10_plain ∈ lw_k := mk_k (List.mem_of_getElem? (i := 1332) (by decide +kernel)) rfl
theorem fl_X10_21 : FL RX10 21 10 3 := ⟨RX10, TX10, 55, fk10, by decide, mk_k (List.mem_of_getElem? (i := 1337) (by decide +kernel)) rfl⟩
theorem fl_X10_110 : FL RX10 110 10 5 := ⟨RX10, TX10, 55, fk10, by decide, mk_k (List.mem_of_getElem? (i := 1339) (by decide +kernel)) rfl⟩
theorem fp_X10_110 : FP RX10 110 10 5 .int false := ⟨RX10, TX10, 55, fk10, by decide, mk_k (List.mem_of_getElem? (i := 1339) (by decide +kernel)) rfl, by decide +kernel, rfl, fun q => by cases q⟩
theorem fp_X10_1 : FP RX10 1 10 0 .int false := ⟨RX10, TX10, 55, fk10, by decide, mk_k (List.mem_of_getElem? (i := 1334) (by decide +kernel)) rfl, by decide +kernel, rfl, fun q => by cases q⟩
theorem fl_X10_113 : FL RX10 113 10 8 := ⟨RX10, TX10, 55, fk10, by decide, mk_k (List.mem_of_getElem? (i := 1342) (by decide +kernel)) rfl⟩
theorem ml_X10_124 : Cond.methodLink RX10 124 yJ0_charAt_5068e ∈ lw_k := mk_k (List.mem_of_getElem? (i := 1529) (by decide +kernel)) rfl
theorem fl_X10_128 : FL RX10 128 10 6 := ⟨RX10, TX10, 55, fk10, by decide, mk_k (List.mem_of_getElem? (i := 1340) (by decide +kernel)) rfl⟩
theorem fl_X10_131 : FL RX10 131 10 7 := ⟨RX10, TX10, 55, fk10, by decide, mk_k (List.mem_of_getElem? (i := 1341) (by decide +kernel)) rfl⟩
theorem ml_X10_118 : Cond.methodLink RX10 118 yJ0_length_8abf5 ∈ lw_k := mk_k (List.mem_of_getElem? (i := 1528) (by decide +kernel)) rfl
theorem fp_X10_128 : FP RX10 128 10 6 .int false := ⟨RX10, TX10, 55, fk10, by decide, mk_k (List.mem_of_getElem? (i := 1340) (by decide +kernel)) rfl, by decide +kernel, rfl, fun q => by cases q⟩
theorem ml_X10_134 : Cond.methodLink RX10 134 yX10_see ∈ lw_k := mk_k (List.mem_of_getElem? (i := 1516) (by decide +kernel)) rfl
theorem mv_X10_see : MV0 yX10_see cX10_see 2 (some .int) 1 := ⟨mk_k (List.mem_of_getElem? (i := 1519) (by decide +kernel)) rfl, mk_k (List.mem_of_getElem? (i := 133) (by decide +kernel)) rfl, by decide +kernel, by decide +kernel, by decide +kernel⟩
theorem vi_X10_see : Cond.instanceMethod yX10_see ∈ lw_k ∧ Cond.selects RX10 yX10_see yX10_see ∈ lw_k := ⟨mk_k (List.mem_of_getElem? (i := 1518) (by decide +kernel)) rfl, mk_k (List.mem_of_getElem? (i := 67) (by decide +kernel)) rfl⟩
theorem ml_X10_141 : Cond.methodLink RX10 141 yX10_isSmall ∈ lw_k := mk_k (List.mem_of_getElem? (i := 1520) (by decide +kernel)) rfl
theorem mv_X10_isSmall : MV0 yX10_isSmall cX10_isSmall 1 (some .boolean) 1 := ⟨mk_k (List.mem_of_getElem? (i := 1522) (by decide +kernel)) rfl, mk_k (List.mem_of_getElem? (i := 133) (by decide +kernel)) rfl, by decide +kernel, by decide +kernel, by decide +kernel⟩
theorem st_X10_isSmall : Cond.static yX10_isSmall ∈ lw_k := mk_k (List.mem_of_getElem? (i := 1521) (by decide +kernel)) rfl
theorem ml_X10_145 : Cond.methodLink RX10 145 yX10_keyAt ∈ lw_k := mk_k (List.mem_of_getElem? (i := 1523) (by decide +kernel)) rfl
theorem mv_X10_keyAt : MV0 yX10_keyAt cX10_keyAt 4 (some .int) 0 := ⟨mk_k (List.mem_of_getElem? (i := 1526) (by decide +kernel)) rfl, mk_k (List.mem_of_getElem? (i := 133) (by decide +kernel)) rfl, by decide +kernel, by decide +kernel, by decide +kernel⟩
theorem vi_X10_keyAt : Cond.instanceMethod yX10_keyAt ∈ lw_k ∧ Cond.selects RX10 yX10_keyAt yX10_keyAt ∈ lw_k := ⟨mk_k (List.mem_of_getElem? (i := 1525) (by decide +kernel)) rfl, mk_k (List.mem_of_getElem? (i := 68) (by decide +kernel)) rfl⟩
theorem fp_X10_138 : FP RX10 138 10 9 .int false := ⟨RX10, TX10, 55, fk10, by decide, mk_k (List.mem_of_getElem? (i := 1343) (by decide +kernel)) rfl, by decide +kernel, rfl, fun q => by cases q⟩
theorem fp_X10_131 : FP RX10 131 10 7 .int false := ⟨RX10, TX10, 55, fk10, by decide, mk_k (List.mem_of_getElem? (i := 1341) (by decide +kernel)) rfl, by decide +kernel, rfl, fun q => by cases q⟩
theorem ml_X10_148 : Cond.methodLink RX10 148 yX10_isDigit ∈ lw_k := mk_k (List.mem_of_getElem? (i := 1530) (by decide +kernel)) rfl
theorem mv_X10_isDigit : MV0 yX10_isDigit cX10_isDigit 1 (some .boolean) 1 := ⟨mk_k (List.mem_of_getElem? (i := 1532) (by decide +kernel)) rfl, mk_k (List.mem_of_getElem? (i := 133) (by decide +kernel)) rfl, by decide +kernel, by decide +kernel, by decide +kernel⟩
theorem st_X10_isDigit : Cond.static yX10_isDigit ∈ lw_k := mk_k (List.mem_of_getElem? (i := 1531) (by decide +kernel)) rfl
theorem fl_X10_151 : FL RX10 151 10 10 := ⟨RX10, TX10, 55, fk10, by decide, mk_k (List.mem_of_getElem? (i := 1344) (by decide +kernel)) rfl⟩
theorem fp_X10_151 : FP RX10 151 10 10 .int false := ⟨RX10, TX10, 55, fk10, by decide, mk_k (List.mem_of_getElem? (i := 1344) (by decide +kernel)) rfl, by decide +kernel, rfl, fun q => by cases q⟩
theorem fp_X10_156 : FP RX10 156 10 11 .int false := ⟨RX10, TX10, 55, fk10, by decide, mk_k (List.mem_of_getElem? (i := 1345) (by decide +kernel)) rfl, by decide +kernel, rfl, fun q => by cases q⟩
theorem fp_X10_159 : FP RX10 159 10 12 .int false := ⟨RX10, TX10, 55, fk10, by decide, mk_k (List.mem_of_getElem? (i := 1346) (by decide +kernel)) rfl, by decide +kernel, rfl, fun q => by cases q⟩
theorem fl_X10_156 : FL RX10 156 10 11 := ⟨RX10, TX10, 55, fk10, by decide, mk_k (List.mem_of_getElem? (i := 1345) (by decide +kernel)) rfl⟩
theorem fl_X10_138 : FL RX10 138 10 9 := ⟨RX10, TX10, 55, fk10, by decide, mk_k (List.mem_of_getElem? (i := 1343) (by decide +kernel)) rfl⟩
theorem ml_X10_162 : Cond.methodLink RX10 162 yX10_is ∈ lw_k := mk_k (List.mem_of_getElem? (i := 1538) (by decide +kernel)) rfl
theorem mv_X10_is : MV0 yX10_is cX10_is 2 (some .boolean) 1 := ⟨mk_k (List.mem_of_getElem? (i := 1541) (by decide +kernel)) rfl, mk_k (List.mem_of_getElem? (i := 133) (by decide +kernel)) rfl, by decide +kernel, by decide +kernel, by decide +kernel⟩
theorem vi_X10_is : Cond.instanceMethod yX10_is ∈ lw_k ∧ Cond.selects RX10 yX10_is yX10_is ∈ lw_k := ⟨mk_k (List.mem_of_getElem? (i := 1540) (by decide +kernel)) rfl, mk_k (List.mem_of_getElem? (i := 70) (by decide +kernel)) rfl⟩
theorem ml_X10_165 : Cond.methodLink RX10 165 yX10_next ∈ lw_k := mk_k (List.mem_of_getElem? (i := 1512) (by decide +kernel)) rfl
theorem mv_X10_next : MV0 yX10_next cX10_next 2 none 0 := ⟨mk_k (List.mem_of_getElem? (i := 1515) (by decide +kernel)) rfl, mk_k (List.mem_of_getElem? (i := 133) (by decide +kernel)) rfl, by decide +kernel, by decide +kernel, by decide +kernel⟩
theorem vi_X10_next : Cond.instanceMethod yX10_next ∈ lw_k ∧ Cond.selects RX10 yX10_next yX10_next ∈ lw_k := ⟨mk_k (List.mem_of_getElem? (i := 1514) (by decide +kernel)) rfl, mk_k (List.mem_of_getElem? (i := 66) (by decide +kernel)) rfl⟩
theorem ml_X10_172 : Cond.methodLink RX10 172 yX10_within ∈ lw_k := mk_k (List.mem_of_getElem? (i := 1509) (by decide +kernel)) rfl
theorem mv_X10_within : MV0 yX10_within cX10_within 6 (some .boolean) 3 := ⟨mk_k (List.mem_of_getElem? (i := 1511) (by decide +kernel)) rfl, mk_k (List.mem_of_getElem? (i := 133) (by decide +kernel)) rfl, by decide +kernel, by decide +kernel, by decide +kernel⟩
theorem st_X10_within : Cond.static yX10_within ∈ lw_k := mk_k (List.mem_of_getElem? (i := 1510) (by decide +kernel)) rfl
theorem ml_X10_168 : Cond.methodLink RX10 168 yX10_fails ∈ lw_k := mk_k (List.mem_of_getElem? (i := 1546) (by decide +kernel)) rfl
theorem mv_X10_fails : MV0 yX10_fails cX10_fails 2 none 1 := ⟨mk_k (List.mem_of_getElem? (i := 1549) (by decide +kernel)) rfl, mk_k (List.mem_of_getElem? (i := 133) (by decide +kernel)) rfl, by decide +kernel, by decide +kernel, by decide +kernel⟩
theorem vi_X10_fails : Cond.instanceMethod yX10_fails ∈ lw_k ∧ Cond.selects RX10 yX10_fails yX10_fails ∈ lw_k := ⟨mk_k (List.mem_of_getElem? (i := 1548) (by decide +kernel)) rfl, mk_k (List.mem_of_getElem? (i := 72) (by decide +kernel)) rfl⟩
theorem ml_X10_176 : Cond.methodLink RX10 176 yX10_common ∈ lw_k := mk_k (List.mem_of_getElem? (i := 1586) (by decide +kernel)) rfl
theorem mv_X10_common : MV0 yX10_common cX10_common 4 (some .long) 2 := ⟨mk_k (List.mem_of_getElem? (i := 1588) (by decide +kernel)) rfl, mk_k (List.mem_of_getElem? (i := 133) (by decide +kernel)) rfl, by decide +kernel, by decide +kernel, by decide +kernel⟩
theorem st_X10_common : Cond.static yX10_common ∈ lw_k := mk_k (List.mem_of_getElem? (i := 1587) (by decide +kernel)) rfl
theorem fp_X10_180 : FP RX10 180 10 15 .long false := ⟨RX10, TX10, 55, fk10, by decide, mk_k (List.mem_of_getElem? (i := 1349) (by decide +kernel)) rfl, by decide +kernel, rfl, fun q => by cases q⟩
theorem fp_X10_184 : FP RX10 184 10 16 .long false := ⟨RX10, TX10, 55, fk10, by decide, mk_k (List.mem_of_getElem? (i := 1350) (by decide +kernel)) rfl, by decide +kernel, rfl, fun q => by cases q⟩
theorem fl_X10_184 : FL RX10 184 10 16 := ⟨RX10, TX10, 55, fk10, by decide, mk_k (List.mem_of_getElem? (i := 1350) (by decide +kernel)) rfl⟩
theorem fl_X10_180 : FL RX10 180 10 15 := ⟨RX10, TX10, 55, fk10, by decide, mk_k (List.mem_of_getElem? (i := 1349) (by decide +kernel)) rfl⟩
theorem fp_X10_198 : FP RX10 198 10 17 .boolean false := ⟨RX10, TX10, 55, fk10, by decide, mk_k (List.mem_of_getElem? (i := 1351) (by decide +kernel)) rfl, by decide +kernel, rfl, fun q => by cases q⟩
theorem ml_X10_194 : Cond.methodLink RX10 194 yX10_lays ∈ lw_k := mk_k (List.mem_of_getElem? (i := 1582) (by decide +kernel)) rfl
theorem mv_X10_lays : MV0 yX10_lays cX10_lays 7 none 2 := ⟨mk_k (List.mem_of_getElem? (i := 1585) (by decide +kernel)) rfl, mk_k (List.mem_of_getElem? (i := 133) (by decide +kernel)) rfl, by decide +kernel, by decide +kernel, by decide +kernel⟩
theorem vi_X10_lays : Cond.instanceMethod yX10_lays ∈ lw_k ∧ Cond.selects RX10 yX10_lays yX10_lays ∈ lw_k := ⟨mk_k (List.mem_of_getElem? (i := 1584) (by decide +kernel)) rfl, mk_k (List.mem_of_getElem? (i := 81) (by decide +kernel)) rfl⟩
theorem fl_X10_24 : FL RX10 24 10 4 := ⟨RX10, TX10, 55, fk10, by decide, mk_k (List.mem_of_getElem? (i := 1338) (by decide +kernel)) rfl⟩
theorem ml_X10_187 : Cond.methodLink RX10 187 yX10_takes ∈ lw_k := mk_k (List.mem_of_getElem? (i := 1542) (by decide +kernel)) rfl
theorem mv_X10_takes : MV0 yX10_takes cX10_takes 4 (some .int) 2 := ⟨mk_k (List.mem_of_getElem? (i := 1545) (by decide +kernel)) rfl, mk_k (List.mem_of_getElem? (i := 133) (by decide +kernel)) rfl, by decide +kernel, by decide +kernel, by decide +kernel⟩
theorem vi_X10_takes : Cond.instanceMethod yX10_takes ∈ lw_k ∧ Cond.selects RX10 yX10_takes yX10_takes ∈ lw_k := ⟨mk_k (List.mem_of_getElem? (i := 1544) (by decide +kernel)) rfl, mk_k (List.mem_of_getElem? (i := 71) (by decide +kernel)) rfl⟩
theorem ml_X10_191 : Cond.methodLink RX10 191 yX10_eats ∈ lw_k := mk_k (List.mem_of_getElem? (i := 1554) (by decide +kernel)) rfl
theorem mv_X10_eats : MV0 yX10_eats cX10_eats 2 (some .boolean) 1 := ⟨mk_k (List.mem_of_getElem? (i := 1557) (by decide +kernel)) rfl, mk_k (List.mem_of_getElem? (i := 133) (by decide +kernel)) rfl, by decide +kernel, by decide +kernel, by decide +kernel⟩
theorem vi_X10_eats : Cond.instanceMethod yX10_eats ∈ lw_k ∧ Cond.selects RX10 yX10_eats yX10_eats ∈ lw_k := ⟨mk_k (List.mem_of_getElem? (i := 1556) (by decide +kernel)) rfl, mk_k (List.mem_of_getElem? (i := 74) (by decide +kernel)) rfl⟩
theorem ml_X10_205 : Cond.methodLink RX10 205 yX10_goesOn ∈ lw_k := mk_k (List.mem_of_getElem? (i := 1589) (by decide +kernel)) rfl
theorem mv_X10_goesOn : MV0 yX10_goesOn cX10_goesOn 3 none 2 := ⟨mk_k (List.mem_of_getElem? (i := 1592) (by decide +kernel)) rfl, mk_k (List.mem_of_getElem? (i := 133) (by decide +kernel)) rfl, by decide +kernel, by decide +kernel, by decide +kernel⟩
theorem vi_X10_goesOn : Cond.instanceMethod yX10_goesOn ∈ lw_k ∧ Cond.selects RX10 yX10_goesOn yX10_goesOn ∈ lw_k := ⟨mk_k (List.mem_of_getElem? (i := 1591) (by decide +kernel)) rfl, mk_k (List.mem_of_getElem? (i := 82) (by decide +kernel)) rfl⟩
theorem ml_X10_202 : Cond.methodLink RX10 202 yX10_takesFraction ∈ lw_k := mk_k (List.mem_of_getElem? (i := 1578) (by decide +kernel)) rfl
theorem mv_X10_takesFraction : MV0 yX10_takesFraction cX10_takesFraction 3 none 0 := ⟨mk_k (List.mem_of_getElem? (i := 1581) (by decide +kernel)) rfl, mk_k (List.mem_of_getElem? (i := 133) (by decide +kernel)) rfl, by decide +kernel, by decide +kernel, by decide +kernel⟩
theorem vi_X10_takesFraction : Cond.instanceMethod yX10_takesFraction ∈ lw_k ∧ Cond.selects RX10 yX10_takesFraction yX10_takesFraction ∈ lw_k := ⟨mk_k (List.mem_of_getElem? (i := 1580) (by decide +kernel)) rfl, mk_k (List.mem_of_getElem? (i := 80) (by decide +kernel)) rfl⟩
theorem fl_X10_198 : FL RX10 198 10 17 := ⟨RX10, TX10, 55, fk10, by decide, mk_k (List.mem_of_getElem? (i := 1351) (by decide +kernel)) rfl⟩
theorem ml_X10_209 : Cond.methodLink RX10 209 yX10_readAt ∈ lw_k := mk_k (List.mem_of_getElem? (i := 1597) (by decide +kernel)) rfl
theorem mv_X10_readAt : MV0 yX10_readAt cX10_readAt 3 none 2 := ⟨mk_k (List.mem_of_getElem? (i := 1600) (by decide +kernel)) rfl, mk_k (List.mem_of_getElem? (i := 133) (by decide +kernel)) rfl, by decide +kernel, by decide +kernel, by decide +kernel⟩
theorem vi_X10_readAt : Cond.instanceMethod yX10_readAt ∈ lw_k ∧ Cond.selects RX10 yX10_readAt yX10_readAt ∈ lw_k := ⟨mk_k (List.mem_of_getElem? (i := 1599) (by decide +kernel)) rfl, mk_k (List.mem_of_getElem? (i := 84) (by decide +kernel)) rfl⟩
theorem fp_X10_213 : FP RX10 213 10 18 .boolean false := ⟨RX10, TX10, 55, fk10, by decide, mk_k (List.mem_of_getElem? (i := 1352) (by decide +kernel)) rfl, by decide +kernel, rfl, fun q => by cases q⟩
theorem ml_X10_219 : Cond.methodLink RX10 219 yX10_readSum ∈ lw_k := mk_k (List.mem_of_getElem? (i := 1558) (by decide +kernel)) rfl
theorem mv_X10_readSum : MV0 yX10_readSum cX10_readSum 3 none 1 := ⟨mk_k (List.mem_of_getElem? (i := 1561) (by decide +kernel)) rfl, mk_k (List.mem_of_getElem? (i := 133) (by decide +kernel)) rfl, by decide +kernel, by decide +kernel, by decide +kernel⟩
theorem vi_X10_readSum : Cond.instanceMethod yX10_readSum ∈ lw_k ∧ Cond.selects RX10 yX10_readSum yX10_readSum ∈ lw_k := ⟨mk_k (List.mem_of_getElem? (i := 1560) (by decide +kernel)) rfl, mk_k (List.mem_of_getElem? (i := 75) (by decide +kernel)) rfl⟩
theorem ml_X10_216 : Cond.methodLink RX10 216 yX10_tellsCode ∈ lw_k := mk_k (List.mem_of_getElem? (i := 1570) (by decide +kernel)) rfl
theorem mv_X10_tellsCode : MV0 yX10_tellsCode cX10_tellsCode 2 none 1 := ⟨mk_k (List.mem_of_getElem? (i := 1573) (by decide +kernel)) rfl, mk_k (List.mem_of_getElem? (i := 133) (by decide +kernel)) rfl, by decide +kernel, by decide +kernel, by decide +kernel⟩
theorem vi_X10_tellsCode : Cond.instanceMethod yX10_tellsCode ∈ lw_k ∧ Cond.selects RX10 yX10_tellsCode yX10_tellsCode ∈ lw_k := ⟨mk_k (List.mem_of_getElem? (i := 1572) (by decide +kernel)) rfl, mk_k (List.mem_of_getElem? (i := 78) (by decide +kernel)) rfl⟩
theorem ml_X10_222 : Cond.methodLink RX10 222 yX10_readAtom ∈ lw_k := mk_k (List.mem_of_getElem? (i := 1566) (by decide +kernel)) rfl
theorem mv_X10_readAtom : MV0 yX10_readAtom cX10_readAtom 2 none 1 := ⟨mk_k (List.mem_of_getElem? (i := 1569) (by decide +kernel)) rfl, mk_k (List.mem_of_getElem? (i := 133) (by decide +kernel)) rfl, by decide +kernel, by decide +kernel, by decide +kernel⟩
theorem vi_X10_readAtom : Cond.instanceMethod yX10_readAtom ∈ lw_k ∧ Cond.selects RX10 yX10_readAtom yX10_readAtom ∈ lw_k := ⟨mk_k (List.mem_of_getElem? (i := 1568) (by decide +kernel)) rfl, mk_k (List.mem_of_getElem? (i := 77) (by decide +kernel)) rfl⟩
theorem ml_X10_225 : Cond.methodLink RX10 225 yX10_readTerm ∈ lw_k := mk_k (List.mem_of_getElem? (i := 1562) (by decide +kernel)) rfl
theorem mv_X10_readTerm : MV0 yX10_readTerm cX10_readTerm 3 none 1 := ⟨mk_k (List.mem_of_getElem? (i := 1565) (by decide +kernel)) rfl, mk_k (List.mem_of_getElem? (i := 133) (by decide +kernel)) rfl, by decide +kernel, by decide +kernel, by decide +kernel⟩
theorem vi_X10_readTerm : Cond.instanceMethod yX10_readTerm ∈ lw_k ∧ Cond.selects RX10 yX10_readTerm yX10_readTerm ∈ lw_k := ⟨mk_k (List.mem_of_getElem? (i := 1564) (by decide +kernel)) rfl, mk_k (List.mem_of_getElem? (i := 76) (by decide +kernel)) rfl⟩
theorem ml_X10_234 : Cond.methodLink RX10 234 yX10_readTenant ∈ lw_k := mk_k (List.mem_of_getElem? (i := 1593) (by decide +kernel)) rfl
theorem mv_X10_readTenant : MV0 yX10_readTenant cX10_readTenant 2 none 0 := ⟨mk_k (List.mem_of_getElem? (i := 1596) (by decide +kernel)) rfl, mk_k (List.mem_of_getElem? (i := 133) (by decide +kernel)) rfl, by decide +kernel, by decide +kernel, by decide +kernel⟩
theorem vi_X10_readTenant : Cond.instanceMethod yX10_readTenant ∈ lw_k ∧ Cond.selects RX10 yX10_readTenant yX10_readTenant ∈ lw_k := ⟨mk_k (List.mem_of_getElem? (i := 1595) (by decide +kernel)) rfl, mk_k (List.mem_of_getElem? (i := 83) (by decide +kernel)) rfl⟩
theorem ml_X10_231 : Cond.methodLink RX10 231 yX10_readFloor ∈ lw_k := mk_k (List.mem_of_getElem? (i := 1574) (by decide +kernel)) rfl
theorem mv_X10_readFloor : MV0 yX10_readFloor cX10_readFloor 7 none 0 := ⟨mk_k (List.mem_of_getElem? (i := 1577) (by decide +kernel)) rfl, mk_k (List.mem_of_getElem? (i := 133) (by decide +kernel)) rfl, by decide +kernel, by decide +kernel, by decide +kernel⟩
theorem vi_X10_readFloor : Cond.instanceMethod yX10_readFloor ∈ lw_k ∧ Cond.selects RX10 yX10_readFloor yX10_readFloor ∈ lw_k := ⟨mk_k (List.mem_of_getElem? (i := 1576) (by decide +kernel)) rfl, mk_k (List.mem_of_getElem? (i := 79) (by decide +kernel)) rfl⟩
theorem ml_X10_228 : Cond.methodLink RX10 228 yX10_readButton ∈ lw_k := mk_k (List.mem_of_getElem? (i := 1550) (by decide +kernel)) rfl
theorem mv_X10_readButton : MV0 yX10_readButton cX10_readButton 3 none 0 := ⟨mk_k (List.mem_of_getElem? (i := 1553) (by decide +kernel)) rfl, mk_k (List.mem_of_getElem? (i := 133) (by decide +kernel)) rfl, by decide +kernel, by decide +kernel, by decide +kernel⟩
theorem vi_X10_readButton : Cond.instanceMethod yX10_readButton ∈ lw_k ∧ Cond.selects RX10 yX10_readButton yX10_readButton ∈ lw_k := ⟨mk_k (List.mem_of_getElem? (i := 1552) (by decide +kernel)) rfl, mk_k (List.mem_of_getElem? (i := 73) (by decide +kernel)) rfl⟩
theorem fl_X10_213 : FL RX10 213 10 18 := ⟨RX10, TX10, 55, fk10, by decide, mk_k (List.mem_of_getElem? (i := 1352) (by decide +kernel)) rfl⟩
theorem fp_X10_240 : FP RX10 240 10 13 .int false := ⟨RX10, TX10, 55, fk10, by decide, mk_k (List.mem_of_getElem? (i := 1347) (by decide +kernel)) rfl, by decide +kernel, rfl, fun q => by cases q⟩
theorem fl_X10_159 : FL RX10 159 10 12 := ⟨RX10, TX10, 55, fk10, by decide, mk_k (List.mem_of_getElem? (i := 1346) (by decide +kernel)) rfl⟩
theorem ml_X10_237 : Cond.methodLink RX10 237 yX10_readLine ∈ lw_k := mk_k (List.mem_of_getElem? (i := 1534) (by decide +kernel)) rfl
theorem mv_X10_readLine : MV0 yX10_readLine cX10_readLine 1 none 0 := ⟨mk_k (List.mem_of_getElem? (i := 1537) (by decide +kernel)) rfl, mk_k (List.mem_of_getElem? (i := 133) (by decide +kernel)) rfl, by decide +kernel, by decide +kernel, by decide +kernel⟩
theorem vi_X10_readLine : Cond.instanceMethod yX10_readLine ∈ lw_k ∧ Cond.selects RX10 yX10_readLine yX10_readLine ∈ lw_k := ⟨mk_k (List.mem_of_getElem? (i := 1536) (by decide +kernel)) rfl, mk_k (List.mem_of_getElem? (i := 69) (by decide +kernel)) rfl⟩
theorem fp_X10_113 : FP RX10 113 10 8 .int false := ⟨RX10, TX10, 55, fk10, by decide, mk_k (List.mem_of_getElem? (i := 1342) (by decide +kernel)) rfl, by decide +kernel, rfl, fun q => by cases q⟩
theorem fl_X10_27 : FL RX10 27 10 14 := ⟨RX10, TX10, 55, fk10, by decide, mk_k (List.mem_of_getElem? (i := 1348) (by decide +kernel)) rfl⟩
theorem fl_X10_240 : FL RX10 240 10 13 := ⟨RX10, TX10, 55, fk10, by decide, mk_k (List.mem_of_getElem? (i := 1347) (by decide +kernel)) rfl⟩
theorem ml_X10_243 : Cond.methodLink RX10 243 yX10_against ∈ lw_k := mk_k (List.mem_of_getElem? (i := 1621) (by decide +kernel)) rfl
theorem mv_X10_against : MV0 yX10_against cX10_against 10 (some .int) 4 := ⟨mk_k (List.mem_of_getElem? (i := 1623) (by decide +kernel)) rfl, mk_k (List.mem_of_getElem? (i := 133) (by decide +kernel)) rfl, by decide +kernel, by decide +kernel, by decide +kernel⟩
theorem st_X10_against : Cond.static yX10_against ∈ lw_k := mk_k (List.mem_of_getElem? (i := 1622) (by decide +kernel)) rfl
theorem ml_X10_247 : Cond.methodLink RX10 247 yX10_isTold ∈ lw_k := mk_k (List.mem_of_getElem? (i := 1613) (by decide +kernel)) rfl
theorem mv_X10_isTold : MV0 yX10_isTold cX10_isTold 3 (some .boolean) 1 := ⟨mk_k (List.mem_of_getElem? (i := 1616) (by decide +kernel)) rfl, mk_k (List.mem_of_getElem? (i := 133) (by decide +kernel)) rfl, by decide +kernel, by decide +kernel, by decide +kernel⟩
theorem vi_X10_isTold : Cond.instanceMethod yX10_isTold ∈ lw_k ∧ Cond.selects RX10 yX10_isTold yX10_isTold ∈ lw_k := ⟨mk_k (List.mem_of_getElem? (i := 1615) (by decide +kernel)) rfl, mk_k (List.mem_of_getElem? (i := 85) (by decide +kernel)) rfl⟩
theorem ml_X10_251 : Cond.methodLink RX10 251 yX10_placeOf ∈ lw_k := mk_k (List.mem_of_getElem? (i := 1617) (by decide +kernel)) rfl
theorem mv_X10_placeOf : MV0 yX10_placeOf cX10_placeOf 4 (some .int) 1 := ⟨mk_k (List.mem_of_getElem? (i := 1620) (by decide +kernel)) rfl, mk_k (List.mem_of_getElem? (i := 133) (by decide +kernel)) rfl, by decide +kernel, by decide +kernel, by decide +kernel⟩
theorem vi_X10_placeOf : Cond.instanceMethod yX10_placeOf ∈ lw_k ∧ Cond.selects RX10 yX10_placeOf yX10_placeOf ∈ lw_k := ⟨mk_k (List.mem_of_getElem? (i := 1619) (by decide +kernel)) rfl, mk_k (List.mem_of_getElem? (i := 86) (by decide +kernel)) rfl⟩
theorem ml_X10_254 : Cond.methodLink RX10 254 yX10_isTenant ∈ lw_k := mk_k (List.mem_of_getElem? (i := 1628) (by decide +kernel)) rfl
theorem mv_X10_isTenant : MV0 yX10_isTenant cX10_isTenant 2 (some .boolean) 1 := ⟨mk_k (List.mem_of_getElem? (i := 1631) (by decide +kernel)) rfl, mk_k (List.mem_of_getElem? (i := 133) (by decide +kernel)) rfl, by decide +kernel, by decide +kernel, by decide +kernel⟩
theorem vi_X10_isTenant : Cond.instanceMethod yX10_isTenant ∈ lw_k ∧ Cond.selects RX10 yX10_isTenant yX10_isTenant ∈ lw_k := ⟨mk_k (List.mem_of_getElem? (i := 1630) (by decide +kernel)) rfl, mk_k (List.mem_of_getElem? (i := 87) (by decide +kernel)) rfl⟩
theorem fl_X10_30 : FL RX10 30 10 19 := ⟨RX10, TX10, 55, fk10, by decide, mk_k (List.mem_of_getElem? (i := 1353) (by decide +kernel)) rfl⟩
theorem fl_X10_257 : FL RX10 257 10 21 := ⟨RX10, TX10, 55, fk10, by decide, mk_k (List.mem_of_getElem? (i := 1355) (by decide +kernel)) rfl⟩
theorem fl_X10_34 : FL RX10 34 10 20 := ⟨RX10, TX10, 55, fk10, by decide, mk_k (List.mem_of_getElem? (i := 1354) (by decide +kernel)) rfl⟩
theorem fp_X10_257 : FP RX10 257 10 21 .int false := ⟨RX10, TX10, 55, fk10, by decide, mk_k (List.mem_of_getElem? (i := 1355) (by decide +kernel)) rfl, by decide +kernel, rfl, fun q => by cases q⟩
theorem cl2_X10_260 : Cond.constantLong RX10 260 (1000000000) ∈ lw_k := mk_k (List.mem_of_getElem? (i := 1648) (by decide +kernel)) rfl
theorem ml_X10_262 : Cond.methodLink RX10 262 yX10_pushes ∈ lw_k := mk_k (List.mem_of_getElem? (i := 1644) (by decide +kernel)) rfl
theorem mv_X10_pushes : MV0 yX10_pushes cX10_pushes 5 (some .int) 2 := ⟨mk_k (List.mem_of_getElem? (i := 1647) (by decide +kernel)) rfl, mk_k (List.mem_of_getElem? (i := 133) (by decide +kernel)) rfl, by decide +kernel, by decide +kernel, by decide +kernel⟩
theorem vi_X10_pushes : Cond.instanceMethod yX10_pushes ∈ lw_k ∧ Cond.selects RX10 yX10_pushes yX10_pushes ∈ lw_k := ⟨mk_k (List.mem_of_getElem? (i := 1646) (by decide +kernel)) rfl, mk_k (List.mem_of_getElem? (i := 90) (by decide +kernel)) rfl⟩
theorem cl2_X10_266 : Cond.constantLong RX10 266 (1000000) ∈ lw_k := mk_k (List.mem_of_getElem? (i := 1657) (by decide +kernel)) rfl
theorem ml_X10_271 : Cond.methodLink RX10 271 yX10_isFloor ∈ lw_k := mk_k (List.mem_of_getElem? (i := 1653) (by decide +kernel)) rfl
theorem mv_X10_isFloor : MV0 yX10_isFloor cX10_isFloor 5 (some .boolean) 2 := ⟨mk_k (List.mem_of_getElem? (i := 1656) (by decide +kernel)) rfl, mk_k (List.mem_of_getElem? (i := 133) (by decide +kernel)) rfl, by decide +kernel, by decide +kernel, by decide +kernel⟩
theorem vi_X10_isFloor : Cond.instanceMethod yX10_isFloor ∈ lw_k ∧ Cond.selects RX10 yX10_isFloor yX10_isFloor ∈ lw_k := ⟨mk_k (List.mem_of_getElem? (i := 1655) (by decide +kernel)) rfl, mk_k (List.mem_of_getElem? (i := 92) (by decide +kernel)) rfl⟩
theorem ml_X10_268 : Cond.methodLink RX10 268 yX10_steps ∈ lw_k := mk_k (List.mem_of_getElem? (i := 1649) (by decide +kernel)) rfl
theorem mv_X10_steps : MV0 yX10_steps cX10_steps 10 (some .int) 1 := ⟨mk_k (List.mem_of_getElem? (i := 1652) (by decide +kernel)) rfl, mk_k (List.mem_of_getElem? (i := 133) (by decide +kernel)) rfl, by decide +kernel, by decide +kernel, by decide +kernel⟩
theorem vi_X10_steps : Cond.instanceMethod yX10_steps ∈ lw_k ∧ Cond.selects RX10 yX10_steps yX10_steps ∈ lw_k := ⟨mk_k (List.mem_of_getElem? (i := 1651) (by decide +kernel)) rfl, mk_k (List.mem_of_getElem? (i := 91) (by decide +kernel)) rfl⟩
theorem ml_X10_275 : Cond.methodLink RX10 275 yX10_leadsFrom ∈ lw_k := mk_k (List.mem_of_getElem? (i := 1640) (by decide +kernel)) rfl
theorem mv_X10_leadsFrom : MV0 yX10_leadsFrom cX10_leadsFrom 9 (some .int) 3 := ⟨mk_k (List.mem_of_getElem? (i := 1643) (by decide +kernel)) rfl, mk_k (List.mem_of_getElem? (i := 133) (by decide +kernel)) rfl, by decide +kernel, by decide +kernel, by decide +kernel⟩
theorem vi_X10_leadsFrom : Cond.instanceMethod yX10_leadsFrom ∈ lw_k ∧ Cond.selects RX10 yX10_leadsFrom yX10_leadsFrom ∈ lw_k := ⟨mk_k (List.mem_of_getElem? (i := 1642) (by decide +kernel)) rfl, mk_k (List.mem_of_getElem? (i := 89) (by decide +kernel)) rfl⟩
theorem ml_X10_279 : Cond.methodLink RX10 279 yX10_leadsNow ∈ lw_k := mk_k (List.mem_of_getElem? (i := 1636) (by decide +kernel)) rfl
theorem mv_X10_leadsNow : MV0 yX10_leadsNow cX10_leadsNow 2 (some .int) 1 := ⟨mk_k (List.mem_of_getElem? (i := 1639) (by decide +kernel)) rfl, mk_k (List.mem_of_getElem? (i := 133) (by decide +kernel)) rfl, by decide +kernel, by decide +kernel, by decide +kernel⟩
theorem vi_X10_leadsNow : Cond.instanceMethod yX10_leadsNow ∈ lw_k ∧ Cond.selects RX10 yX10_leadsNow yX10_leadsNow ∈ lw_k := ⟨mk_k (List.mem_of_getElem? (i := 1638) (by decide +kernel)) rfl, mk_k (List.mem_of_getElem? (i := 88) (by decide +kernel)) rfl⟩
theorem ml_X10_282 : Cond.methodLink RX10 282 yX10_asks ∈ lw_k := mk_k (List.mem_of_getElem? (i := 1662) (by decide +kernel)) rfl
theorem mv_X10_asks : MV0 yX10_asks cX10_asks 5 (some .boolean) 2 := ⟨mk_k (List.mem_of_getElem? (i := 1665) (by decide +kernel)) rfl, mk_k (List.mem_of_getElem? (i := 133) (by decide +kernel)) rfl, by decide +kernel, by decide +kernel, by decide +kernel⟩
theorem vi_X10_asks : Cond.instanceMethod yX10_asks ∈ lw_k ∧ Cond.selects RX10 yX10_asks yX10_asks ∈ lw_k := ⟨mk_k (List.mem_of_getElem? (i := 1664) (by decide +kernel)) rfl, mk_k (List.mem_of_getElem? (i := 93) (by decide +kernel)) rfl⟩
theorem ml_X10_285 : Cond.methodLink RX10 285 yX10_presses ∈ lw_k := mk_k (List.mem_of_getElem? (i := 1670) (by decide +kernel)) rfl
theorem mv_X10_presses : MV0 yX10_presses cX10_presses 4 (some .int) 1 := ⟨mk_k (List.mem_of_getElem? (i := 1673) (by decide +kernel)) rfl, mk_k (List.mem_of_getElem? (i := 133) (by decide +kernel)) rfl, by decide +kernel, by decide +kernel, by decide +kernel⟩
theorem vi_X10_presses : Cond.instanceMethod yX10_presses ∈ lw_k ∧ Cond.selects RX10 yX10_presses yX10_presses ∈ lw_k := ⟨mk_k (List.mem_of_getElem? (i := 1672) (by decide +kernel)) rfl, mk_k (List.mem_of_getElem? (i := 94) (by decide +kernel)) rfl⟩
theorem cl2_X10_288 : Cond.constantLong RX10 288 (12) ∈ lw_k := mk_k (List.mem_of_getElem? (i := 1678) (by decide +kernel)) rfl
theorem cl2_X10_294 : Cond.constantLong RX10 294 (8) ∈ lw_k := mk_k (List.mem_of_getElem? (i := 1689) (by decide +kernel)) rfl
theorem cl2_X10_290 : Cond.constantLong RX10 290 (3) ∈ lw_k := mk_k (List.mem_of_getElem? (i := 1683) (by decide +kernel)) rfl
theorem fl_X10_97 : FL RX10 97 10 52 := ⟨RX10, TX10, 55, fk10, by decide, mk_k (List.mem_of_getElem? (i := 1386) (by decide +kernel)) rfl⟩
theorem fl_X10_100 : FL RX10 100 10 53 := ⟨RX10, TX10, 55, fk10, by decide, mk_k (List.mem_of_getElem? (i := 1387) (by decide +kernel)) rfl⟩
theorem cl2_X10_292 : Cond.constantLong RX10 292 (2) ∈ lw_k := mk_k (List.mem_of_getElem? (i := 1688) (by decide +kernel)) rfl
theorem fl_X10_103 : FL RX10 103 10 54 := ⟨RX10, TX10, 55, fk10, by decide, mk_k (List.mem_of_getElem? (i := 1388) (by decide +kernel)) rfl⟩
theorem ml_X10_299 : Cond.methodLink RX10 299 yX10_told ∈ lw_k := mk_k (List.mem_of_getElem? (i := 1690) (by decide +kernel)) rfl
theorem mv_X10_told : MV0 yX10_told cX10_told 5 (some .int) 2 := ⟨mk_k (List.mem_of_getElem? (i := 1693) (by decide +kernel)) rfl, mk_k (List.mem_of_getElem? (i := 133) (by decide +kernel)) rfl, by decide +kernel, by decide +kernel, by decide +kernel⟩
theorem vi_X10_told : Cond.instanceMethod yX10_told ∈ lw_k ∧ Cond.selects RX10 yX10_told yX10_told ∈ lw_k := ⟨mk_k (List.mem_of_getElem? (i := 1692) (by decide +kernel)) rfl, mk_k (List.mem_of_getElem? (i := 96) (by decide +kernel)) rfl⟩
theorem ml_X10_296 : Cond.methodLink RX10 296 yX10_noRow ∈ lw_k := mk_k (List.mem_of_getElem? (i := 1684) (by decide +kernel)) rfl
theorem mv_X10_noRow : MV0 yX10_noRow cX10_noRow 3 (some .int) 2 := ⟨mk_k (List.mem_of_getElem? (i := 1687) (by decide +kernel)) rfl, mk_k (List.mem_of_getElem? (i := 133) (by decide +kernel)) rfl, by decide +kernel, by decide +kernel, by decide +kernel⟩
theorem vi_X10_noRow : Cond.instanceMethod yX10_noRow ∈ lw_k ∧ Cond.selects RX10 yX10_noRow yX10_noRow ∈ lw_k := ⟨mk_k (List.mem_of_getElem? (i := 1686) (by decide +kernel)) rfl, mk_k (List.mem_of_getElem? (i := 95) (by decide +kernel)) rfl⟩
theorem cc_X10_302 : Cond.constant RX10 302 1103515245 ∈ lw_k := mk_k (List.mem_of_getElem? (i := 1707) (by decide +kernel)) rfl
theorem fl_X10_303 : FL RX10 303 10 22 := ⟨RX10, TX10, 55, fk10, by decide, mk_k (List.mem_of_getElem? (i := 1356) (by decide +kernel)) rfl⟩
theorem fp_X10_303 : FP RX10 303 10 22 .int false := ⟨RX10, TX10, 55, fk10, by decide, mk_k (List.mem_of_getElem? (i := 1356) (by decide +kernel)) rfl, by decide +kernel, rfl, fun q => by cases q⟩
theorem ml_X10_308 : Cond.methodLink RX10 308 yX10_draw ∈ lw_k := mk_k (List.mem_of_getElem? (i := 1703) (by decide +kernel)) rfl
theorem mv_X10_draw : MV0 yX10_draw cX10_draw 2 (some .int) 1 := ⟨mk_k (List.mem_of_getElem? (i := 1706) (by decide +kernel)) rfl, mk_k (List.mem_of_getElem? (i := 133) (by decide +kernel)) rfl, by decide +kernel, by decide +kernel, by decide +kernel⟩
theorem vi_X10_draw : Cond.instanceMethod yX10_draw ∈ lw_k ∧ Cond.selects RX10 yX10_draw yX10_draw ∈ lw_k := ⟨mk_k (List.mem_of_getElem? (i := 1705) (by decide +kernel)) rfl, mk_k (List.mem_of_getElem? (i := 97) (by decide +kernel)) rfl⟩
theorem cl2_X10_306 : Cond.constantLong RX10 306 (60) ∈ lw_k := mk_k (List.mem_of_getElem? (i := 1702) (by decide +kernel)) rfl
theorem fl_X10_37 : FL RX10 37 10 23 := ⟨RX10, TX10, 55, fk10, by decide, mk_k (List.mem_of_getElem? (i := 1357) (by decide +kernel)) rfl⟩
theorem ml_X10_314 : Cond.methodLink RX10 314 yX10_stuffOf ∈ lw_k := mk_k (List.mem_of_getElem? (i := 1725) (by decide +kernel)) rfl
theorem mv_X10_stuffOf : MV0 yX10_stuffOf cX10_stuffOf 3 (some .int) 2 := ⟨mk_k (List.mem_of_getElem? (i := 1728) (by decide +kernel)) rfl, mk_k (List.mem_of_getElem? (i := 133) (by decide +kernel)) rfl, by decide +kernel, by decide +kernel, by decide +kernel⟩
theorem vi_X10_stuffOf : Cond.instanceMethod yX10_stuffOf ∈ lw_k ∧ Cond.selects RX10 yX10_stuffOf yX10_stuffOf ∈ lw_k := ⟨mk_k (List.mem_of_getElem? (i := 1727) (by decide +kernel)) rfl, mk_k (List.mem_of_getElem? (i := 100) (by decide +kernel)) rfl⟩
theorem ml_X10_311 : Cond.methodLink RX10 311 yX10_laysOrder ∈ lw_k := mk_k (List.mem_of_getElem? (i := 1721) (by decide +kernel)) rfl
theorem mv_X10_laysOrder : MV0 yX10_laysOrder cX10_laysOrder 2 none 0 := ⟨mk_k (List.mem_of_getElem? (i := 1724) (by decide +kernel)) rfl, mk_k (List.mem_of_getElem? (i := 133) (by decide +kernel)) rfl, by decide +kernel, by decide +kernel, by decide +kernel⟩
theorem vi_X10_laysOrder : Cond.instanceMethod yX10_laysOrder ∈ lw_k ∧ Cond.selects RX10 yX10_laysOrder yX10_laysOrder ∈ lw_k := ⟨mk_k (List.mem_of_getElem? (i := 1723) (by decide +kernel)) rfl, mk_k (List.mem_of_getElem? (i := 99) (by decide +kernel)) rfl⟩
theorem ml_X10_317 : Cond.methodLink RX10 317 yX10_isStuff ∈ lw_k := mk_k (List.mem_of_getElem? (i := 1712) (by decide +kernel)) rfl
theorem mv_X10_isStuff : MV0 yX10_isStuff cX10_isStuff 1 (some .boolean) 1 := ⟨mk_k (List.mem_of_getElem? (i := 1714) (by decide +kernel)) rfl, mk_k (List.mem_of_getElem? (i := 133) (by decide +kernel)) rfl, by decide +kernel, by decide +kernel, by decide +kernel⟩
theorem st_X10_isStuff : Cond.static yX10_isStuff ∈ lw_k := mk_k (List.mem_of_getElem? (i := 1713) (by decide +kernel)) rfl
theorem cl2_X10_320 : Cond.constantLong RX10 320 (-2) ∈ lw_k := mk_k (List.mem_of_getElem? (i := 1715) (by decide +kernel)) rfl
theorem ml_X10_324 : Cond.methodLink RX10 324 yX10_laysStuff ∈ lw_k := mk_k (List.mem_of_getElem? (i := 1717) (by decide +kernel)) rfl
theorem mv_X10_laysStuff : MV0 yX10_laysStuff cX10_laysStuff 22 none 4 := ⟨mk_k (List.mem_of_getElem? (i := 1720) (by decide +kernel)) rfl, mk_k (List.mem_of_getElem? (i := 133) (by decide +kernel)) rfl, by decide +kernel, by decide +kernel, by decide +kernel⟩
theorem vi_X10_laysStuff : Cond.instanceMethod yX10_laysStuff ∈ lw_k ∧ Cond.selects RX10 yX10_laysStuff yX10_laysStuff ∈ lw_k := ⟨mk_k (List.mem_of_getElem? (i := 1719) (by decide +kernel)) rfl, mk_k (List.mem_of_getElem? (i := 98) (by decide +kernel)) rfl⟩
theorem cl2_X10_322 : Cond.constantLong RX10 322 (-3) ∈ lw_k := mk_k (List.mem_of_getElem? (i := 1716) (by decide +kernel)) rfl
theorem cl2_X10_328 : Cond.constantLong RX10 328 (99) ∈ lw_k := mk_k (List.mem_of_getElem? (i := 1733) (by decide +kernel)) rfl
theorem ml_X10_330 : Cond.methodLink RX10 330 yX10_laysWhere ∈ lw_k := mk_k (List.mem_of_getElem? (i := 1734) (by decide +kernel)) rfl
theorem mv_X10_laysWhere : MV0 yX10_laysWhere cX10_laysWhere 20 (some .boolean) 3 := ⟨mk_k (List.mem_of_getElem? (i := 1737) (by decide +kernel)) rfl, mk_k (List.mem_of_getElem? (i := 133) (by decide +kernel)) rfl, by decide +kernel, by decide +kernel, by decide +kernel⟩
theorem vi_X10_laysWhere : Cond.instanceMethod yX10_laysWhere ∈ lw_k ∧ Cond.selects RX10 yX10_laysWhere yX10_laysWhere ∈ lw_k := ⟨mk_k (List.mem_of_getElem? (i := 1736) (by decide +kernel)) rfl, mk_k (List.mem_of_getElem? (i := 101) (by decide +kernel)) rfl⟩
theorem cl2_X10_334 : Cond.constantLong RX10 334 (-1) ∈ lw_k := mk_k (List.mem_of_getElem? (i := 1738) (by decide +kernel)) rfl
theorem fp_X10_336 : FP RX10 336 10 29 .int false := ⟨RX10, TX10, 55, fk10, by decide, mk_k (List.mem_of_getElem? (i := 1363) (by decide +kernel)) rfl, by decide +kernel, rfl, fun q => by cases q⟩
theorem fl_X10_52 : FL RX10 52 10 28 := ⟨RX10, TX10, 55, fk10, by decide, mk_k (List.mem_of_getElem? (i := 1362) (by decide +kernel)) rfl⟩
theorem cl2_X10_339 : Cond.constantLong RX10 339 (31) ∈ lw_k := mk_k (List.mem_of_getElem? (i := 1772) (by decide +kernel)) rfl
theorem cl2_X10_341 : Cond.constantLong RX10 341 (1009) ∈ lw_k := mk_k (List.mem_of_getElem? (i := 1773) (by decide +kernel)) rfl
theorem cl2_X10_343 : Cond.constantLong RX10 343 (16381) ∈ lw_k := mk_k (List.mem_of_getElem? (i := 1774) (by decide +kernel)) rfl
theorem fl_X10_40 : FL RX10 40 10 24 := ⟨RX10, TX10, 55, fk10, by decide, mk_k (List.mem_of_getElem? (i := 1358) (by decide +kernel)) rfl⟩
theorem fl_X10_43 : FL RX10 43 10 25 := ⟨RX10, TX10, 55, fk10, by decide, mk_k (List.mem_of_getElem? (i := 1359) (by decide +kernel)) rfl⟩
theorem ml_X10_345 : Cond.methodLink RX10 345 yX10_spot ∈ lw_k := mk_k (List.mem_of_getElem? (i := 1769) (by decide +kernel)) rfl
theorem mv_X10_spot : MV0 yX10_spot cX10_spot 4 (some .int) 2 := ⟨mk_k (List.mem_of_getElem? (i := 1771) (by decide +kernel)) rfl, mk_k (List.mem_of_getElem? (i := 133) (by decide +kernel)) rfl, by decide +kernel, by decide +kernel, by decide +kernel⟩
theorem st_X10_spot : Cond.static yX10_spot ∈ lw_k := mk_k (List.mem_of_getElem? (i := 1770) (by decide +kernel)) rfl
theorem fl_X10_336 : FL RX10 336 10 29 := ⟨RX10, TX10, 55, fk10, by decide, mk_k (List.mem_of_getElem? (i := 1363) (by decide +kernel)) rfl⟩
theorem fl_X10_46 : FL RX10 46 10 26 := ⟨RX10, TX10, 55, fk10, by decide, mk_k (List.mem_of_getElem? (i := 1360) (by decide +kernel)) rfl⟩
theorem fl_X10_49 : FL RX10 49 10 27 := ⟨RX10, TX10, 55, fk10, by decide, mk_k (List.mem_of_getElem? (i := 1361) (by decide +kernel)) rfl⟩
theorem ml_X10_355 : Cond.methodLink RX10 355 yX10_metAt ∈ lw_k := mk_k (List.mem_of_getElem? (i := 1775) (by decide +kernel)) rfl
theorem mv_X10_metAt : MV0 yX10_metAt cX10_metAt 6 (some .int) 2 := ⟨mk_k (List.mem_of_getElem? (i := 1778) (by decide +kernel)) rfl, mk_k (List.mem_of_getElem? (i := 133) (by decide +kernel)) rfl, by decide +kernel, by decide +kernel, by decide +kernel⟩
theorem vi_X10_metAt : Cond.instanceMethod yX10_metAt ∈ lw_k ∧ Cond.selects RX10 yX10_metAt yX10_metAt ∈ lw_k := ⟨mk_k (List.mem_of_getElem? (i := 1777) (by decide +kernel)) rfl, mk_k (List.mem_of_getElem? (i := 105) (by decide +kernel)) rfl⟩
theorem ml_X10_351 : Cond.methodLink RX10 351 yX10_meets ∈ lw_k := mk_k (List.mem_of_getElem? (i := 1765) (by decide +kernel)) rfl
theorem mv_X10_meets : MV0 yX10_meets cX10_meets 8 none 4 := ⟨mk_k (List.mem_of_getElem? (i := 1768) (by decide +kernel)) rfl, mk_k (List.mem_of_getElem? (i := 133) (by decide +kernel)) rfl, by decide +kernel, by decide +kernel, by decide +kernel⟩
theorem vi_X10_meets : Cond.instanceMethod yX10_meets ∈ lw_k ∧ Cond.selects RX10 yX10_meets yX10_meets ∈ lw_k := ⟨mk_k (List.mem_of_getElem? (i := 1767) (by decide +kernel)) rfl, mk_k (List.mem_of_getElem? (i := 104) (by decide +kernel)) rfl⟩
theorem fl_X10_55 : FL RX10 55 10 30 := ⟨RX10, TX10, 55, fk10, by decide, mk_k (List.mem_of_getElem? (i := 1364) (by decide +kernel)) rfl⟩
theorem ml_X10_348 : Cond.methodLink RX10 348 yX10_forgets ∈ lw_k := mk_k (List.mem_of_getElem? (i := 1761) (by decide +kernel)) rfl
theorem mv_X10_forgets : MV0 yX10_forgets cX10_forgets 2 none 0 := ⟨mk_k (List.mem_of_getElem? (i := 1764) (by decide +kernel)) rfl, mk_k (List.mem_of_getElem? (i := 133) (by decide +kernel)) rfl, by decide +kernel, by decide +kernel, by decide +kernel⟩
theorem vi_X10_forgets : Cond.instanceMethod yX10_forgets ∈ lw_k ∧ Cond.selects RX10 yX10_forgets yX10_forgets ∈ lw_k := ⟨mk_k (List.mem_of_getElem? (i := 1763) (by decide +kernel)) rfl, mk_k (List.mem_of_getElem? (i := 103) (by decide +kernel)) rfl⟩
theorem ml_X10_362 : Cond.methodLink RX10 362 yX10_seeks ∈ lw_k := mk_k (List.mem_of_getElem? (i := 1757) (by decide +kernel)) rfl
theorem mv_X10_seeks : MV0 yX10_seeks cX10_seeks 12 (some .int) 2 := ⟨mk_k (List.mem_of_getElem? (i := 1760) (by decide +kernel)) rfl, mk_k (List.mem_of_getElem? (i := 133) (by decide +kernel)) rfl, by decide +kernel, by decide +kernel, by decide +kernel⟩
theorem vi_X10_seeks : Cond.instanceMethod yX10_seeks ∈ lw_k ∧ Cond.selects RX10 yX10_seeks yX10_seeks ∈ lw_k := ⟨mk_k (List.mem_of_getElem? (i := 1759) (by decide +kernel)) rfl, mk_k (List.mem_of_getElem? (i := 102) (by decide +kernel)) rfl⟩
theorem cl2_X10_358 : Cond.constantLong RX10 358 (10) ∈ lw_k := mk_k (List.mem_of_getElem? (i := 1755) (by decide +kernel)) rfl
theorem cl2_X10_360 : Cond.constantLong RX10 360 (17) ∈ lw_k := mk_k (List.mem_of_getElem? (i := 1756) (by decide +kernel)) rfl
theorem fl_X10_58 : FL RX10 58 10 31 := ⟨RX10, TX10, 55, fk10, by decide, mk_k (List.mem_of_getElem? (i := 1365) (by decide +kernel)) rfl⟩
theorem fl_X10_61 : FL RX10 61 10 32 := ⟨RX10, TX10, 55, fk10, by decide, mk_k (List.mem_of_getElem? (i := 1366) (by decide +kernel)) rfl⟩
theorem fp_X10_365 : FP RX10 365 10 33 .int false := ⟨RX10, TX10, 55, fk10, by decide, mk_k (List.mem_of_getElem? (i := 1367) (by decide +kernel)) rfl, by decide +kernel, rfl, fun q => by cases q⟩
theorem fl_X10_365 : FL RX10 365 10 33 := ⟨RX10, TX10, 55, fk10, by decide, mk_k (List.mem_of_getElem? (i := 1367) (by decide +kernel)) rfl⟩
theorem ml_X10_371 : Cond.methodLink RX10 371 yX10_goes ∈ lw_k := mk_k (List.mem_of_getElem? (i := 1792) (by decide +kernel)) rfl
theorem mv_X10_goes : MV0 yX10_goes cX10_goes 4 none 1 := ⟨mk_k (List.mem_of_getElem? (i := 1795) (by decide +kernel)) rfl, mk_k (List.mem_of_getElem? (i := 133) (by decide +kernel)) rfl, by decide +kernel, by decide +kernel, by decide +kernel⟩
theorem vi_X10_goes : Cond.instanceMethod yX10_goes ∈ lw_k ∧ Cond.selects RX10 yX10_goes yX10_goes ∈ lw_k := ⟨mk_k (List.mem_of_getElem? (i := 1794) (by decide +kernel)) rfl, mk_k (List.mem_of_getElem? (i := 108) (by decide +kernel)) rfl⟩
theorem ml_X10_375 : Cond.methodLink RX10 375 yX10_becomesMet ∈ lw_k := mk_k (List.mem_of_getElem? (i := 1796) (by decide +kernel)) rfl
theorem mv_X10_becomesMet : MV0 yX10_becomesMet cX10_becomesMet 2 none 0 := ⟨mk_k (List.mem_of_getElem? (i := 1799) (by decide +kernel)) rfl, mk_k (List.mem_of_getElem? (i := 133) (by decide +kernel)) rfl, by decide +kernel, by decide +kernel, by decide +kernel⟩
theorem vi_X10_becomesMet : Cond.instanceMethod yX10_becomesMet ∈ lw_k ∧ Cond.selects RX10 yX10_becomesMet yX10_becomesMet ∈ lw_k := ⟨mk_k (List.mem_of_getElem? (i := 1798) (by decide +kernel)) rfl, mk_k (List.mem_of_getElem? (i := 109) (by decide +kernel)) rfl⟩
theorem ml_X10_368 : Cond.methodLink RX10 368 yX10_begins ∈ lw_k := mk_k (List.mem_of_getElem? (i := 1788) (by decide +kernel)) rfl
theorem mv_X10_begins : MV0 yX10_begins cX10_begins 3 none 2 := ⟨mk_k (List.mem_of_getElem? (i := 1791) (by decide +kernel)) rfl, mk_k (List.mem_of_getElem? (i := 133) (by decide +kernel)) rfl, by decide +kernel, by decide +kernel, by decide +kernel⟩
theorem vi_X10_begins : Cond.instanceMethod yX10_begins ∈ lw_k ∧ Cond.selects RX10 yX10_begins yX10_begins ∈ lw_k := ⟨mk_k (List.mem_of_getElem? (i := 1790) (by decide +kernel)) rfl, mk_k (List.mem_of_getElem? (i := 107) (by decide +kernel)) rfl⟩
theorem cl2_X10_378 : Cond.constantLong RX10 378 (5) ∈ lw_k := mk_k (List.mem_of_getElem? (i := 1783) (by decide +kernel)) rfl
theorem ml_X10_380 : Cond.methodLink RX10 380 yX10_laysReach ∈ lw_k := mk_k (List.mem_of_getElem? (i := 1784) (by decide +kernel)) rfl
theorem mv_X10_laysReach : MV0 yX10_laysReach cX10_laysReach 3 none 1 := ⟨mk_k (List.mem_of_getElem? (i := 1787) (by decide +kernel)) rfl, mk_k (List.mem_of_getElem? (i := 133) (by decide +kernel)) rfl, by decide +kernel, by decide +kernel, by decide +kernel⟩
theorem vi_X10_laysReach : Cond.instanceMethod yX10_laysReach ∈ lw_k ∧ Cond.selects RX10 yX10_laysReach yX10_laysReach ∈ lw_k := ⟨mk_k (List.mem_of_getElem? (i := 1786) (by decide +kernel)) rfl, mk_k (List.mem_of_getElem? (i := 106) (by decide +kernel)) rfl⟩
theorem ml_X10_383 : Cond.methodLink RX10 383 yX10_digit ∈ lw_k := mk_k (List.mem_of_getElem? (i := 1823) (by decide +kernel)) rfl
theorem mv_X10_digit : MV0 yX10_digit cX10_digit 6 (some .int) 3 := ⟨mk_k (List.mem_of_getElem? (i := 1826) (by decide +kernel)) rfl, mk_k (List.mem_of_getElem? (i := 133) (by decide +kernel)) rfl, by decide +kernel, by decide +kernel, by decide +kernel⟩
theorem vi_X10_digit : Cond.instanceMethod yX10_digit ∈ lw_k ∧ Cond.selects RX10 yX10_digit yX10_digit ∈ lw_k := ⟨mk_k (List.mem_of_getElem? (i := 1825) (by decide +kernel)) rfl, mk_k (List.mem_of_getElem? (i := 113) (by decide +kernel)) rfl⟩
theorem ml_X10_387 : Cond.methodLink RX10 387 yX10_rowsOf ∈ lw_k := mk_k (List.mem_of_getElem? (i := 1815) (by decide +kernel)) rfl
theorem mv_X10_rowsOf : MV0 yX10_rowsOf cX10_rowsOf 4 (some .int) 1 := ⟨mk_k (List.mem_of_getElem? (i := 1818) (by decide +kernel)) rfl, mk_k (List.mem_of_getElem? (i := 133) (by decide +kernel)) rfl, by decide +kernel, by decide +kernel, by decide +kernel⟩
theorem vi_X10_rowsOf : Cond.instanceMethod yX10_rowsOf ∈ lw_k ∧ Cond.selects RX10 yX10_rowsOf yX10_rowsOf ∈ lw_k := ⟨mk_k (List.mem_of_getElem? (i := 1817) (by decide +kernel)) rfl, mk_k (List.mem_of_getElem? (i := 111) (by decide +kernel)) rfl⟩
theorem ml_X10_390 : Cond.methodLink RX10 390 yX10_leadsRow ∈ lw_k := mk_k (List.mem_of_getElem? (i := 1819) (by decide +kernel)) rfl
theorem mv_X10_leadsRow : MV0 yX10_leadsRow cX10_leadsRow 8 (some .boolean) 2 := ⟨mk_k (List.mem_of_getElem? (i := 1822) (by decide +kernel)) rfl, mk_k (List.mem_of_getElem? (i := 133) (by decide +kernel)) rfl, by decide +kernel, by decide +kernel, by decide +kernel⟩
theorem vi_X10_leadsRow : Cond.instanceMethod yX10_leadsRow ∈ lw_k ∧ Cond.selects RX10 yX10_leadsRow yX10_leadsRow ∈ lw_k := ⟨mk_k (List.mem_of_getElem? (i := 1821) (by decide +kernel)) rfl, mk_k (List.mem_of_getElem? (i := 112) (by decide +kernel)) rfl⟩
theorem fp_X10_394 : FP RX10 394 10 34 .int false := ⟨RX10, TX10, 55, fk10, by decide, mk_k (List.mem_of_getElem? (i := 1368) (by decide +kernel)) rfl, by decide +kernel, rfl, fun q => by cases q⟩
theorem fp_X10_397 : FP RX10 397 10 35 .int false := ⟨RX10, TX10, 55, fk10, by decide, mk_k (List.mem_of_getElem? (i := 1369) (by decide +kernel)) rfl, by decide +kernel, rfl, fun q => by cases q⟩
theorem ml_X10_406 : Cond.methodLink RX10 406 yX10_laysTwins ∈ lw_k := mk_k (List.mem_of_getElem? (i := 1811) (by decide +kernel)) rfl
theorem mv_X10_laysTwins : MV0 yX10_laysTwins cX10_laysTwins 4 (some .int) 0 := ⟨mk_k (List.mem_of_getElem? (i := 1814) (by decide +kernel)) rfl, mk_k (List.mem_of_getElem? (i := 133) (by decide +kernel)) rfl, by decide +kernel, by decide +kernel, by decide +kernel⟩
theorem vi_X10_laysTwins : Cond.instanceMethod yX10_laysTwins ∈ lw_k ∧ Cond.selects RX10 yX10_laysTwins yX10_laysTwins ∈ lw_k := ⟨mk_k (List.mem_of_getElem? (i := 1813) (by decide +kernel)) rfl, mk_k (List.mem_of_getElem? (i := 110) (by decide +kernel)) rfl⟩
theorem fl_X10_397 : FL RX10 397 10 35 := ⟨RX10, TX10, 55, fk10, by decide, mk_k (List.mem_of_getElem? (i := 1369) (by decide +kernel)) rfl⟩
theorem fl_X10_394 : FL RX10 394 10 34 := ⟨RX10, TX10, 55, fk10, by decide, mk_k (List.mem_of_getElem? (i := 1368) (by decide +kernel)) rfl⟩
theorem cl2_X10_400 : Cond.constantLong RX10 400 (14) ∈ lw_k := mk_k (List.mem_of_getElem? (i := 1808) (by decide +kernel)) rfl
theorem cl2_X10_402 : Cond.constantLong RX10 402 (20) ∈ lw_k := mk_k (List.mem_of_getElem? (i := 1809) (by decide +kernel)) rfl
theorem cl2_X10_404 : Cond.constantLong RX10 404 (24) ∈ lw_k := mk_k (List.mem_of_getElem? (i := 1810) (by decide +kernel)) rfl
theorem ml_X10_409 : Cond.methodLink RX10 409 yX10_inverse ∈ lw_k := mk_k (List.mem_of_getElem? (i := 1839) (by decide +kernel)) rfl
theorem mv_X10_inverse : MV0 yX10_inverse cX10_inverse 3 (some .int) 2 := ⟨mk_k (List.mem_of_getElem? (i := 1841) (by decide +kernel)) rfl, mk_k (List.mem_of_getElem? (i := 133) (by decide +kernel)) rfl, by decide +kernel, by decide +kernel, by decide +kernel⟩
theorem st_X10_inverse : Cond.static yX10_inverse ∈ lw_k := mk_k (List.mem_of_getElem? (i := 1840) (by decide +kernel)) rfl
theorem fl_X10_64 : FL RX10 64 10 36 := ⟨RX10, TX10, 55, fk10, by decide, mk_k (List.mem_of_getElem? (i := 1370) (by decide +kernel)) rfl⟩
theorem ml_X10_416 : Cond.methodLink RX10 416 yX10_leadsRest ∈ lw_k := mk_k (List.mem_of_getElem? (i := 1846) (by decide +kernel)) rfl
theorem mv_X10_leadsRest : MV0 yX10_leadsRest cX10_leadsRest 10 (some .int) 3 := ⟨mk_k (List.mem_of_getElem? (i := 1849) (by decide +kernel)) rfl, mk_k (List.mem_of_getElem? (i := 133) (by decide +kernel)) rfl, by decide +kernel, by decide +kernel, by decide +kernel⟩
theorem vi_X10_leadsRest : Cond.instanceMethod yX10_leadsRest ∈ lw_k ∧ Cond.selects RX10 yX10_leadsRest yX10_leadsRest ∈ lw_k := ⟨mk_k (List.mem_of_getElem? (i := 1848) (by decide +kernel)) rfl, mk_k (List.mem_of_getElem? (i := 116) (by decide +kernel)) rfl⟩
theorem ml_X10_412 : Cond.methodLink RX10 412 yX10_restOf ∈ lw_k := mk_k (List.mem_of_getElem? (i := 1836) (by decide +kernel)) rfl
theorem mv_X10_restOf : MV0 yX10_restOf cX10_restOf 6 (some .int) 3 := ⟨mk_k (List.mem_of_getElem? (i := 1838) (by decide +kernel)) rfl, mk_k (List.mem_of_getElem? (i := 133) (by decide +kernel)) rfl, by decide +kernel, by decide +kernel, by decide +kernel⟩
theorem st_X10_restOf : Cond.static yX10_restOf ∈ lw_k := mk_k (List.mem_of_getElem? (i := 1837) (by decide +kernel)) rfl
theorem ml_X10_419 : Cond.methodLink RX10 419 yX10_restsOf ∈ lw_k := mk_k (List.mem_of_getElem? (i := 1842) (by decide +kernel)) rfl
theorem mv_X10_restsOf : MV0 yX10_restsOf cX10_restsOf 9 (some .int) 1 := ⟨mk_k (List.mem_of_getElem? (i := 1845) (by decide +kernel)) rfl, mk_k (List.mem_of_getElem? (i := 133) (by decide +kernel)) rfl, by decide +kernel, by decide +kernel, by decide +kernel⟩
theorem vi_X10_restsOf : Cond.instanceMethod yX10_restsOf ∈ lw_k ∧ Cond.selects RX10 yX10_restsOf yX10_restsOf ∈ lw_k := ⟨mk_k (List.mem_of_getElem? (i := 1844) (by decide +kernel)) rfl, mk_k (List.mem_of_getElem? (i := 115) (by decide +kernel)) rfl⟩
theorem cl2_X10_422 : Cond.constantLong RX10 422 (30) ∈ lw_k := mk_k (List.mem_of_getElem? (i := 1831) (by decide +kernel)) rfl
theorem ml_X10_424 : Cond.methodLink RX10 424 yX10_isNever ∈ lw_k := mk_k (List.mem_of_getElem? (i := 1832) (by decide +kernel)) rfl
theorem mv_X10_isNever : MV0 yX10_isNever cX10_isNever 7 (some .boolean) 3 := ⟨mk_k (List.mem_of_getElem? (i := 1835) (by decide +kernel)) rfl, mk_k (List.mem_of_getElem? (i := 133) (by decide +kernel)) rfl, by decide +kernel, by decide +kernel, by decide +kernel⟩
theorem vi_X10_isNever : Cond.instanceMethod yX10_isNever ∈ lw_k ∧ Cond.selects RX10 yX10_isNever yX10_isNever ∈ lw_k := ⟨mk_k (List.mem_of_getElem? (i := 1834) (by decide +kernel)) rfl, mk_k (List.mem_of_getElem? (i := 114) (by decide +kernel)) rfl⟩
theorem fl_X10_67 : FL RX10 67 10 37 := ⟨RX10, TX10, 55, fk10, by decide, mk_k (List.mem_of_getElem? (i := 1371) (by decide +kernel)) rfl⟩
theorem fp_X10_428 : FP RX10 428 10 39 .int false := ⟨RX10, TX10, 55, fk10, by decide, mk_k (List.mem_of_getElem? (i := 1373) (by decide +kernel)) rfl, by decide +kernel, rfl, fun q => by cases q⟩
theorem fl_X10_70 : FL RX10 70 10 38 := ⟨RX10, TX10, 55, fk10, by decide, mk_k (List.mem_of_getElem? (i := 1372) (by decide +kernel)) rfl⟩
theorem fp_X10_431 : FP RX10 431 10 40 .int false := ⟨RX10, TX10, 55, fk10, by decide, mk_k (List.mem_of_getElem? (i := 1374) (by decide +kernel)) rfl, by decide +kernel, rfl, fun q => by cases q⟩
theorem fl_X10_428 : FL RX10 428 10 39 := ⟨RX10, TX10, 55, fk10, by decide, mk_k (List.mem_of_getElem? (i := 1373) (by decide +kernel)) rfl⟩
theorem fl_X10_431 : FL RX10 431 10 40 := ⟨RX10, TX10, 55, fk10, by decide, mk_k (List.mem_of_getElem? (i := 1374) (by decide +kernel)) rfl⟩
theorem ml_X10_434 : Cond.methodLink RX10 434 yX10_laysMeet ∈ lw_k := mk_k (List.mem_of_getElem? (i := 1862) (by decide +kernel)) rfl
theorem mv_X10_laysMeet : MV0 yX10_laysMeet cX10_laysMeet 8 (some .boolean) 4 := ⟨mk_k (List.mem_of_getElem? (i := 1865) (by decide +kernel)) rfl, mk_k (List.mem_of_getElem? (i := 133) (by decide +kernel)) rfl, by decide +kernel, by decide +kernel, by decide +kernel⟩
theorem vi_X10_laysMeet : Cond.instanceMethod yX10_laysMeet ∈ lw_k ∧ Cond.selects RX10 yX10_laysMeet yX10_laysMeet ∈ lw_k := ⟨mk_k (List.mem_of_getElem? (i := 1864) (by decide +kernel)) rfl, mk_k (List.mem_of_getElem? (i := 117) (by decide +kernel)) rfl⟩
theorem fl_X10_73 : FL RX10 73 10 41 := ⟨RX10, TX10, 55, fk10, by decide, mk_k (List.mem_of_getElem? (i := 1375) (by decide +kernel)) rfl⟩
theorem ml_X10_438 : Cond.methodLink RX10 438 yX10_laysAddress ∈ lw_k := mk_k (List.mem_of_getElem? (i := 1870) (by decide +kernel)) rfl
theorem mv_X10_laysAddress : MV0 yX10_laysAddress cX10_laysAddress 12 (some .int) 2 := ⟨mk_k (List.mem_of_getElem? (i := 1873) (by decide +kernel)) rfl, mk_k (List.mem_of_getElem? (i := 133) (by decide +kernel)) rfl, by decide +kernel, by decide +kernel, by decide +kernel⟩
theorem vi_X10_laysAddress : Cond.instanceMethod yX10_laysAddress ∈ lw_k ∧ Cond.selects RX10 yX10_laysAddress yX10_laysAddress ∈ lw_k := ⟨mk_k (List.mem_of_getElem? (i := 1872) (by decide +kernel)) rfl, mk_k (List.mem_of_getElem? (i := 118) (by decide +kernel)) rfl⟩
theorem cl2_X10_441 : Cond.constantLong RX10 441 (1000) ∈ lw_k := mk_k (List.mem_of_getElem? (i := 1878) (by decide +kernel)) rfl
theorem cl2_X10_443 : Cond.constantLong RX10 443 (200) ∈ lw_k := mk_k (List.mem_of_getElem? (i := 1887) (by decide +kernel)) rfl
theorem ml_X10_445 : Cond.methodLink RX10 445 yX10_below ∈ lw_k := mk_k (List.mem_of_getElem? (i := 1888) (by decide +kernel)) rfl
theorem mv_X10_below : MV0 yX10_below cX10_below 10 (some .int) 3 := ⟨mk_k (List.mem_of_getElem? (i := 1891) (by decide +kernel)) rfl, mk_k (List.mem_of_getElem? (i := 133) (by decide +kernel)) rfl, by decide +kernel, by decide +kernel, by decide +kernel⟩
theorem vi_X10_below : Cond.instanceMethod yX10_below ∈ lw_k ∧ Cond.selects RX10 yX10_below yX10_below ∈ lw_k := ⟨mk_k (List.mem_of_getElem? (i := 1890) (by decide +kernel)) rfl, mk_k (List.mem_of_getElem? (i := 119) (by decide +kernel)) rfl⟩
theorem fl_X10_76 : FL RX10 76 10 42 := ⟨RX10, TX10, 55, fk10, by decide, mk_k (List.mem_of_getElem? (i := 1376) (by decide +kernel)) rfl⟩
theorem ml_X10_448 : Cond.methodLink RX10 448 yX10_laysParts ∈ lw_k := mk_k (List.mem_of_getElem? (i := 1900) (by decide +kernel)) rfl
theorem mv_X10_laysParts : MV0 yX10_laysParts cX10_laysParts 12 (some .int) 2 := ⟨mk_k (List.mem_of_getElem? (i := 1903) (by decide +kernel)) rfl, mk_k (List.mem_of_getElem? (i := 133) (by decide +kernel)) rfl, by decide +kernel, by decide +kernel, by decide +kernel⟩
theorem vi_X10_laysParts : Cond.instanceMethod yX10_laysParts ∈ lw_k ∧ Cond.selects RX10 yX10_laysParts yX10_laysParts ∈ lw_k := ⟨mk_k (List.mem_of_getElem? (i := 1902) (by decide +kernel)) rfl, mk_k (List.mem_of_getElem? (i := 120) (by decide +kernel)) rfl⟩
theorem ml_X10_451 : Cond.methodLink RX10 451 yX10_laysRent ∈ lw_k := mk_k (List.mem_of_getElem? (i := 1908) (by decide +kernel)) rfl
theorem mv_X10_laysRent : MV0 yX10_laysRent cX10_laysRent 2 none 1 := ⟨mk_k (List.mem_of_getElem? (i := 1911) (by decide +kernel)) rfl, mk_k (List.mem_of_getElem? (i := 133) (by decide +kernel)) rfl, by decide +kernel, by decide +kernel, by decide +kernel⟩
theorem vi_X10_laysRent : Cond.instanceMethod yX10_laysRent ∈ lw_k ∧ Cond.selects RX10 yX10_laysRent yX10_laysRent ∈ lw_k := ⟨mk_k (List.mem_of_getElem? (i := 1910) (by decide +kernel)) rfl, mk_k (List.mem_of_getElem? (i := 121) (by decide +kernel)) rfl⟩
theorem cl2_X10_454 : Cond.constantLong RX10 454 (100) ∈ lw_k := mk_k (List.mem_of_getElem? (i := 1916) (by decide +kernel)) rfl
theorem ml_X10_456 : Cond.methodLink RX10 456 yX10_farOf ∈ lw_k := mk_k (List.mem_of_getElem? (i := 1925) (by decide +kernel)) rfl
theorem mv_X10_farOf : MV0 yX10_farOf cX10_farOf 13 (some .long) 4 := ⟨mk_k (List.mem_of_getElem? (i := 1928) (by decide +kernel)) rfl, mk_k (List.mem_of_getElem? (i := 133) (by decide +kernel)) rfl, by decide +kernel, by decide +kernel, by decide +kernel⟩
theorem vi_X10_farOf : Cond.instanceMethod yX10_farOf ∈ lw_k ∧ Cond.selects RX10 yX10_farOf yX10_farOf ∈ lw_k := ⟨mk_k (List.mem_of_getElem? (i := 1927) (by decide +kernel)) rfl, mk_k (List.mem_of_getElem? (i := 122) (by decide +kernel)) rfl⟩
theorem fl_X10_79 : FL RX10 79 10 43 := ⟨RX10, TX10, 55, fk10, by decide, mk_k (List.mem_of_getElem? (i := 1377) (by decide +kernel)) rfl⟩
theorem ml_X10_466 : Cond.methodLink RX10 466 yX10_goesFit ∈ lw_k := mk_k (List.mem_of_getElem? (i := 1942) (by decide +kernel)) rfl
theorem mv_X10_goesFit : MV0 yX10_goesFit cX10_goesFit 10 none 4 := ⟨mk_k (List.mem_of_getElem? (i := 1945) (by decide +kernel)) rfl, mk_k (List.mem_of_getElem? (i := 133) (by decide +kernel)) rfl, by decide +kernel, by decide +kernel, by decide +kernel⟩
theorem vi_X10_goesFit : Cond.instanceMethod yX10_goesFit ∈ lw_k ∧ Cond.selects RX10 yX10_goesFit yX10_goesFit ∈ lw_k := ⟨mk_k (List.mem_of_getElem? (i := 1944) (by decide +kernel)) rfl, mk_k (List.mem_of_getElem? (i := 124) (by decide +kernel)) rfl⟩
theorem fl_X10_460 : FL RX10 460 10 46 := ⟨RX10, TX10, 55, fk10, by decide, mk_k (List.mem_of_getElem? (i := 1380) (by decide +kernel)) rfl⟩
theorem fp_X10_460 : FP RX10 460 10 46 .int false := ⟨RX10, TX10, 55, fk10, by decide, mk_k (List.mem_of_getElem? (i := 1380) (by decide +kernel)) rfl, by decide +kernel, rfl, fun q => by cases q⟩
theorem fl_X10_85 : FL RX10 85 10 45 := ⟨RX10, TX10, 55, fk10, by decide, mk_k (List.mem_of_getElem? (i := 1379) (by decide +kernel)) rfl⟩
theorem fl_X10_82 : FL RX10 82 10 44 := ⟨RX10, TX10, 55, fk10, by decide, mk_k (List.mem_of_getElem? (i := 1378) (by decide +kernel)) rfl⟩
theorem fl_X10_463 : FL RX10 463 10 47 := ⟨RX10, TX10, 55, fk10, by decide, mk_k (List.mem_of_getElem? (i := 1381) (by decide +kernel)) rfl⟩
theorem fp_X10_463 : FP RX10 463 10 47 .int false := ⟨RX10, TX10, 55, fk10, by decide, mk_k (List.mem_of_getElem? (i := 1381) (by decide +kernel)) rfl, by decide +kernel, rfl, fun q => by cases q⟩
theorem cl2_X10_469 : Cond.constantLong RX10 469 (200000) ∈ lw_k := mk_k (List.mem_of_getElem? (i := 1941) (by decide +kernel)) rfl
theorem ml_X10_471 : Cond.methodLink RX10 471 yX10_laysFits ∈ lw_k := mk_k (List.mem_of_getElem? (i := 1937) (by decide +kernel)) rfl
theorem mv_X10_laysFits : MV0 yX10_laysFits cX10_laysFits 8 (some .int) 3 := ⟨mk_k (List.mem_of_getElem? (i := 1940) (by decide +kernel)) rfl, mk_k (List.mem_of_getElem? (i := 133) (by decide +kernel)) rfl, by decide +kernel, by decide +kernel, by decide +kernel⟩
theorem vi_X10_laysFits : Cond.instanceMethod yX10_laysFits ∈ lw_k ∧ Cond.selects RX10 yX10_laysFits yX10_laysFits ∈ lw_k := ⟨mk_k (List.mem_of_getElem? (i := 1939) (by decide +kernel)) rfl, mk_k (List.mem_of_getElem? (i := 123) (by decide +kernel)) rfl⟩
theorem fl_X10_94 : FL RX10 94 10 50 := ⟨RX10, TX10, 55, fk10, by decide, mk_k (List.mem_of_getElem? (i := 1384) (by decide +kernel)) rfl⟩
theorem fl_X10_475 : FL RX10 475 10 51 := ⟨RX10, TX10, 55, fk10, by decide, mk_k (List.mem_of_getElem? (i := 1385) (by decide +kernel)) rfl⟩
theorem fl_X10_88 : FL RX10 88 10 48 := ⟨RX10, TX10, 55, fk10, by decide, mk_k (List.mem_of_getElem? (i := 1382) (by decide +kernel)) rfl⟩
theorem fl_X10_91 : FL RX10 91 10 49 := ⟨RX10, TX10, 55, fk10, by decide, mk_k (List.mem_of_getElem? (i := 1383) (by decide +kernel)) rfl⟩
theorem fp_X10_475 : FP RX10 475 10 51 .int false := ⟨RX10, TX10, 55, fk10, by decide, mk_k (List.mem_of_getElem? (i := 1385) (by decide +kernel)) rfl, by decide +kernel, rfl, fun q => by cases q⟩
theorem ml_X10_478 : Cond.methodLink RX10 478 yX10_comes ∈ lw_k := mk_k (List.mem_of_getElem? (i := 1962) (by decide +kernel)) rfl
theorem mv_X10_comes : MV0 yX10_comes cX10_comes 8 none 3 := ⟨mk_k (List.mem_of_getElem? (i := 1965) (by decide +kernel)) rfl, mk_k (List.mem_of_getElem? (i := 133) (by decide +kernel)) rfl, by decide +kernel, by decide +kernel, by decide +kernel⟩
theorem vi_X10_comes : Cond.instanceMethod yX10_comes ∈ lw_k ∧ Cond.selects RX10 yX10_comes yX10_comes ∈ lw_k := ⟨mk_k (List.mem_of_getElem? (i := 1964) (by decide +kernel)) rfl, mk_k (List.mem_of_getElem? (i := 127) (by decide +kernel)) rfl⟩
theorem ml_X10_482 : Cond.methodLink RX10 482 yX10_goesOdds ∈ lw_k := mk_k (List.mem_of_getElem? (i := 1958) (by decide +kernel)) rfl
theorem mv_X10_goesOdds : MV0 yX10_goesOdds cX10_goesOdds 13 none 5 := ⟨mk_k (List.mem_of_getElem? (i := 1961) (by decide +kernel)) rfl, mk_k (List.mem_of_getElem? (i := 133) (by decide +kernel)) rfl, by decide +kernel, by decide +kernel, by decide +kernel⟩
theorem vi_X10_goesOdds : Cond.instanceMethod yX10_goesOdds ∈ lw_k ∧ Cond.selects RX10 yX10_goesOdds yX10_goesOdds ∈ lw_k := ⟨mk_k (List.mem_of_getElem? (i := 1960) (by decide +kernel)) rfl, mk_k (List.mem_of_getElem? (i := 126) (by decide +kernel)) rfl⟩
theorem ml_X10_486 : Cond.methodLink RX10 486 yX10_noOdds ∈ lw_k := mk_k (List.mem_of_getElem? (i := 1954) (by decide +kernel)) rfl
theorem mv_X10_noOdds : MV0 yX10_noOdds cX10_noOdds 5 (some .int) 2 := ⟨mk_k (List.mem_of_getElem? (i := 1957) (by decide +kernel)) rfl, mk_k (List.mem_of_getElem? (i := 133) (by decide +kernel)) rfl, by decide +kernel, by decide +kernel, by decide +kernel⟩
theorem vi_X10_noOdds : Cond.instanceMethod yX10_noOdds ∈ lw_k ∧ Cond.selects RX10 yX10_noOdds yX10_noOdds ∈ lw_k := ⟨mk_k (List.mem_of_getElem? (i := 1956) (by decide +kernel)) rfl, mk_k (List.mem_of_getElem? (i := 125) (by decide +kernel)) rfl⟩
theorem cl2_X10_490 : Cond.constantLong RX10 490 (40) ∈ lw_k := mk_k (List.mem_of_getElem? (i := 1974) (by decide +kernel)) rfl
theorem ml_X10_496 : Cond.methodLink RX10 496 yX10_cut ∈ lw_k := mk_k (List.mem_of_getElem? (i := 1981) (by decide +kernel)) rfl
theorem mv_X10_cut : MV0 yX10_cut cX10_cut 3 (some .long) 2 := ⟨mk_k (List.mem_of_getElem? (i := 1983) (by decide +kernel)) rfl, mk_k (List.mem_of_getElem? (i := 133) (by decide +kernel)) rfl, by decide +kernel, by decide +kernel, by decide +kernel⟩
theorem st_X10_cut : Cond.static yX10_cut ∈ lw_k := mk_k (List.mem_of_getElem? (i := 1982) (by decide +kernel)) rfl
theorem cl2_X10_494 : Cond.constantLong RX10 494 (-7) ∈ lw_k := mk_k (List.mem_of_getElem? (i := 1980) (by decide +kernel)) rfl
theorem cl2_X10_492 : Cond.constantLong RX10 492 (-6) ∈ lw_k := mk_k (List.mem_of_getElem? (i := 1979) (by decide +kernel)) rfl
theorem fl_X10_17 : FL RX10 17 10 2 := ⟨RX10, TX10, 55, fk10, by decide, mk_k (List.mem_of_getElem? (i := 1336) (by decide +kernel)) rfl⟩
