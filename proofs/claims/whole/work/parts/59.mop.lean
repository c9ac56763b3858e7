theorem dX11_write_0 : gw_dc cX11_write 0 (.aload_n 0) 1 1 := ⟨by decide +kernel, rfl⟩
theorem dX11_write_1 : gw_dc cX11_write 1 (.aload_n 0) 1 2 := ⟨by decide +kernel, rfl⟩
theorem dX11_write_2 : gw_dc cX11_write 2 (.iload_n 1) 1 3 := ⟨by decide +kernel, rfl⟩
theorem dX11_write_3 : gw_dc cX11_write 3 (.invokevirtual 340) 3 6 := ⟨by decide +kernel, rfl⟩
theorem dX11_write_6 : gw_dc cX11_write 6 (.putfield 88) 3 9 := ⟨by decide +kernel, rfl⟩
theorem dX11_write_9 : gw_dc cX11_write 9 (.aload_n 0) 1 10 := ⟨by decide +kernel, rfl⟩
theorem dX11_write_10 : gw_dc cX11_write 10 (.getfield 88) 3 13 := ⟨by decide +kernel, rfl⟩
theorem dX11_write_13 : gw_dc cX11_write 13 (.ifCond .le 5) 3 16 := ⟨by decide +kernel, rfl⟩
theorem dX11_write_18 : gw_dc cX11_write 18 (.iload_n 2) 1 19 := ⟨by decide +kernel, rfl⟩
theorem dX11_write_19 : gw_dc cX11_write 19 (.i2l) 1 20 := ⟨by decide +kernel, rfl⟩
theorem dX11_write_20 : gw_dc cX11_write 20 (.lconst 0) 1 21 := ⟨by decide +kernel, rfl⟩
theorem dX11_write_21 : gw_dc cX11_write 21 (.aload_n 0) 1 22 := ⟨by decide +kernel, rfl⟩
theorem dX11_write_22 : gw_dc cX11_write 22 (.getfield 81) 3 25 := ⟨by decide +kernel, rfl⟩
theorem dX11_write_25 : gw_dc cX11_write 25 (.iload_n 1) 1 26 := ⟨by decide +kernel, rfl⟩
theorem dX11_write_26 : gw_dc cX11_write 26 (.iaload) 1 27 := ⟨by decide +kernel, rfl⟩
theorem dX11_write_27 : gw_dc cX11_write 27 (.iconst 1) 1 28 := ⟨by decide +kernel, rfl⟩
theorem dX11_write_28 : gw_dc cX11_write 28 (.isub) 1 29 := ⟨by decide +kernel, rfl⟩
theorem dX11_write_29 : gw_dc cX11_write 29 (.i2l) 1 30 := ⟨by decide +kernel, rfl⟩
theorem dX11_write_30 : gw_dc cX11_write 30 (.invokestatic 147) 3 33 := ⟨by decide +kernel, rfl⟩
theorem dX11_write_33 : gw_dc cX11_write 33 (.ifCond .eq 13) 3 36 := ⟨by decide +kernel, rfl⟩
theorem dX11_write_46 : gw_dc cX11_write 46 (.aload_n 0) 1 47 := ⟨by decide +kernel, rfl⟩
theorem dX11_write_47 : gw_dc cX11_write 47 (.iconst 3) 1 48 := ⟨by decide +kernel, rfl⟩
theorem dX11_write_48 : gw_dc cX11_write 48 (.invokevirtual 191) 3 51 := ⟨by decide +kernel, rfl⟩
theorem dX11_write_51 : gw_dc cX11_write 51 (.i2l) 1 52 := ⟨by decide +kernel, rfl⟩
theorem dX11_write_52 : decode cX11_write 52 = .ok (.lreturn, 1) := by decide +kernel
theorem dX11_write_36 : gw_dc cX11_write 36 (.aload_n 0) 1 37 := ⟨by decide +kernel, rfl⟩
theorem dX11_write_37 : gw_dc cX11_write 37 (.iload_n 1) 1 38 := ⟨by decide +kernel, rfl⟩
theorem dX11_write_38 : gw_dc cX11_write 38 (.iload_n 2) 1 39 := ⟨by decide +kernel, rfl⟩
theorem dX11_write_39 : gw_dc cX11_write 39 (.lload_n 3) 1 40 := ⟨by decide +kernel, rfl⟩
theorem dX11_write_40 : gw_dc cX11_write 40 (.invokevirtual 422) 3 43 := ⟨by decide +kernel, rfl⟩
theorem mv_RX11_422 : gw_mv RX11 422 yX11_cut := ⟨gw_mem 1966 (by decide +kernel) rfl, gw_mem 1968 (by decide +kernel) rfl, gw_mem 93 (by decide +kernel) rfl⟩
theorem my_X11_cut : gw_my yX11_cut cX11_cut 6 (some .long) 3 := ⟨gw_mem 1969 (by decide +kernel) rfl, gw_mem 106 (by decide +kernel) rfl, by decide +kernel, by decide⟩
theorem dX11_write_43 : gw_dc cX11_write 43 (.goto 9) 3 46 := ⟨by decide +kernel, rfl⟩
theorem dX11_write_16 : gw_dc cX11_write 16 (.lconst 0) 1 17 := ⟨by decide +kernel, rfl⟩
theorem dX11_write_17 : decode cX11_write 17 = .ok (.lreturn, 1) := by decide +kernel
theorem dX11_pour_0 : gw_dc cX11_pour 0 (.aload_n 0) 1 1 := ⟨by decide +kernel, rfl⟩
theorem dX11_pour_1 : gw_dc cX11_pour 1 (.aload_n 0) 1 2 := ⟨by decide +kernel, rfl⟩
theorem dX11_pour_2 : gw_dc cX11_pour 2 (.iload_n 1) 1 3 := ⟨by decide +kernel, rfl⟩
theorem dX11_pour_3 : gw_dc cX11_pour 3 (.invokevirtual 340) 3 6 := ⟨by decide +kernel, rfl⟩
theorem dX11_pour_6 : gw_dc cX11_pour 6 (.putfield 88) 3 9 := ⟨by decide +kernel, rfl⟩
theorem dX11_pour_9 : gw_dc cX11_pour 9 (.aload_n 0) 1 10 := ⟨by decide +kernel, rfl⟩
theorem dX11_pour_10 : gw_dc cX11_pour 10 (.getfield 88) 3 13 := ⟨by decide +kernel, rfl⟩
theorem dX11_pour_13 : gw_dc cX11_pour 13 (.ifCond .le 5) 3 16 := ⟨by decide +kernel, rfl⟩
theorem dX11_pour_18 : gw_dc cX11_pour 18 (.aload_n 0) 1 19 := ⟨by decide +kernel, rfl⟩
theorem dX11_pour_19 : gw_dc cX11_pour 19 (.invokevirtual 323) 3 22 := ⟨by decide +kernel, rfl⟩
theorem dX11_pour_22 : gw_dc cX11_pour 22 (.aload_n 0) 1 23 := ⟨by decide +kernel, rfl⟩
theorem dX11_pour_23 : gw_dc cX11_pour 23 (.getfield 81) 3 26 := ⟨by decide +kernel, rfl⟩
theorem dX11_pour_26 : gw_dc cX11_pour 26 (.iload_n 1) 1 27 := ⟨by decide +kernel, rfl⟩
theorem dX11_pour_27 : gw_dc cX11_pour 27 (.iaload) 1 28 := ⟨by decide +kernel, rfl⟩
theorem dX11_pour_28 : gw_dc cX11_pour 28 (.aload_n 0) 1 29 := ⟨by decide +kernel, rfl⟩
theorem dX11_pour_29 : gw_dc cX11_pour 29 (.getfield 9) 3 32 := ⟨by decide +kernel, rfl⟩
theorem dX11_pour_32 : gw_dc cX11_pour 32 (.sipush 668) 3 35 := ⟨by decide +kernel, rfl⟩
theorem dX11_pour_35 : gw_dc cX11_pour 35 (.iaload) 1 36 := ⟨by decide +kernel, rfl⟩
theorem dX11_pour_36 : gw_dc cX11_pour 36 (.invokestatic 314) 3 39 := ⟨by decide +kernel, rfl⟩
theorem dX11_pour_39 : gw_dc cX11_pour 39 (.istore_n 2) 1 40 := ⟨by decide +kernel, rfl⟩
theorem dX11_pour_40 : gw_dc cX11_pour 40 (.iconst 0) 1 41 := ⟨by decide +kernel, rfl⟩
theorem dX11_pour_41 : gw_dc cX11_pour 41 (.istore_n 3) 1 42 := ⟨by decide +kernel, rfl⟩
theorem dX11_pour_42 : gw_dc cX11_pour 42 (.iload_n 3) 1 43 := ⟨by decide +kernel, rfl⟩
theorem dX11_pour_43 : gw_dc cX11_pour 43 (.iload_n 2) 1 44 := ⟨by decide +kernel, rfl⟩
theorem dX11_pour_44 : gw_dc cX11_pour 44 (.if_icmp .ge 23) 3 47 := ⟨by decide +kernel, rfl⟩
theorem dX11_pour_67 : gw_dc cX11_pour 67 (.iload_n 2) 1 68 := ⟨by decide +kernel, rfl⟩
theorem dX11_pour_68 : decode cX11_pour 68 = .ok (.ireturn, 1) := by decide +kernel
theorem dX11_pour_47 : gw_dc cX11_pour 47 (.aload_n 0) 1 48 := ⟨by decide +kernel, rfl⟩
theorem dX11_pour_48 : gw_dc cX11_pour 48 (.iload_n 1) 1 49 := ⟨by decide +kernel, rfl⟩
theorem dX11_pour_49 : gw_dc cX11_pour 49 (.iload_n 3) 1 50 := ⟨by decide +kernel, rfl⟩
theorem dX11_pour_50 : gw_dc cX11_pour 50 (.aload_n 0) 1 51 := ⟨by decide +kernel, rfl⟩
theorem dX11_pour_51 : gw_dc cX11_pour 51 (.getfield 48) 3 54 := ⟨by decide +kernel, rfl⟩
theorem dX11_pour_54 : gw_dc cX11_pour 54 (.iload_n 3) 1 55 := ⟨by decide +kernel, rfl⟩
theorem dX11_pour_55 : gw_dc cX11_pour 55 (.iaload) 1 56 := ⟨by decide +kernel, rfl⟩
theorem dX11_pour_56 : gw_dc cX11_pour 56 (.i2l) 1 57 := ⟨by decide +kernel, rfl⟩
theorem dX11_pour_57 : gw_dc cX11_pour 57 (.invokevirtual 422) 3 60 := ⟨by decide +kernel, rfl⟩
theorem dX11_pour_60 : gw_dc cX11_pour 60 (.pop2) 1 61 := ⟨by decide +kernel, rfl⟩
theorem dX11_pour_61 : gw_dc cX11_pour 61 (.iinc 3 1) 3 64 := ⟨by decide +kernel, rfl⟩
theorem dX11_pour_64 : gw_dc cX11_pour 64 (.goto (-22)) 3 67 := ⟨by decide +kernel, rfl⟩
theorem dX11_pour_16 : gw_dc cX11_pour 16 (.iconst 0) 1 17 := ⟨by decide +kernel, rfl⟩
theorem dX11_pour_17 : decode cX11_pour 17 = .ok (.ireturn, 1) := by decide +kernel
theorem dX11_image_18 : gw_dc cX11_image 18 (.putfield 88) 3 21 := ⟨by decide +kernel, rfl⟩
theorem dX11_image_21 : gw_dc cX11_image 21 (.aload_n 0) 1 22 := ⟨by decide +kernel, rfl⟩
theorem dX11_image_22 : gw_dc cX11_image 22 (.getfield 88) 3 25 := ⟨by decide +kernel, rfl⟩
theorem dX11_image_25 : gw_dc cX11_image 25 (.ifCond .le 4) 3 28 := ⟨by decide +kernel, rfl⟩
theorem dX11_image_29 : gw_dc cX11_image 29 (.aload_n 0) 1 30 := ⟨by decide +kernel, rfl⟩
theorem dX11_image_30 : gw_dc cX11_image 30 (.getfield 22) 3 33 := ⟨by decide +kernel, rfl⟩
theorem fk_RX11_22 : gw_fk RX11 22 11 4 42 1 true := ⟨_, _, _, ck_11, by decide, by decide, fun h => absurd h (by decide), fun h => absurd h (by decide), fun _ => Or.inr ⟨_, rfl⟩, rfl, Or.inl (gw_mem 1425 (by decide +kernel) rfl)⟩
theorem rf_223_4 {ad : Nat → Nat} : (gw_M0 ad).2.2 223 4 = some 228 := (by decide +kernel : gw_rh 223 4 = some 228)
theorem dX11_image_33 : gw_dc cX11_image 33 (.iload_n 1) 1 34 := ⟨by decide +kernel, rfl⟩
theorem dX11_image_34 : gw_dc cX11_image 34 (.iconst 1) 1 35 := ⟨by decide +kernel, rfl⟩
theorem dX11_image_35 : gw_dc cX11_image 35 (.bastore) 1 36 := ⟨by decide +kernel, rfl⟩
theorem o_228 {ad : Nat → Nat} : isO (gw_M0 ad) 228 23 3 := (by decide +kernel : 228 < gw_N0 ∧ gw_sh 228 = (23, 3))
theorem dX11_image_36 : gw_dc cX11_image 36 (.iconst 0) 1 37 := ⟨by decide +kernel, rfl⟩
theorem dX11_image_37 : gw_dc cX11_image 37 (.istore_n 2) 1 38 := ⟨by decide +kernel, rfl⟩
theorem dX11_image_38 : gw_dc cX11_image 38 (.iload_n 2) 1 39 := ⟨by decide +kernel, rfl⟩
theorem dX11_image_39 : gw_dc cX11_image 39 (.sipush 672) 3 42 := ⟨by decide +kernel, rfl⟩
theorem dX11_image_42 : gw_dc cX11_image 42 (.if_icmp .ge 27) 3 45 := ⟨by decide +kernel, rfl⟩
theorem dX11_image_69 : decode cX11_image 69 = .ok (.return_, 1) := by decide +kernel
theorem dX11_image_45 : gw_dc cX11_image 45 (.aload_n 0) 1 46 := ⟨by decide +kernel, rfl⟩
theorem dX11_image_46 : gw_dc cX11_image 46 (.getfield 19) 3 49 := ⟨by decide +kernel, rfl⟩
theorem fk_RX11_19 : gw_fk RX11 19 11 3 42 1 true := ⟨_, _, _, ck_11, by decide, by decide, fun h => absurd h (by decide), fun h => absurd h (by decide), fun _ => Or.inr ⟨_, rfl⟩, rfl, Or.inl (gw_mem 1424 (by decide +kernel) rfl)⟩
theorem rf_223_3 {ad : Nat → Nat} : (gw_M0 ad).2.2 223 3 = some 227 := (by decide +kernel : gw_rh 223 3 = some 227)
theorem dX11_image_49 : gw_dc cX11_image 49 (.sipush 672) 3 52 := ⟨by decide +kernel, rfl⟩
theorem dX11_image_52 : gw_dc cX11_image 52 (.iload_n 1) 1 53 := ⟨by decide +kernel, rfl⟩
theorem dX11_image_53 : gw_dc cX11_image 53 (.imul) 1 54 := ⟨by decide +kernel, rfl⟩
theorem dX11_image_54 : gw_dc cX11_image 54 (.iload_n 2) 1 55 := ⟨by decide +kernel, rfl⟩
theorem dX11_image_55 : gw_dc cX11_image 55 (.iadd) 1 56 := ⟨by decide +kernel, rfl⟩
theorem dX11_image_56 : gw_dc cX11_image 56 (.aload_n 0) 1 57 := ⟨by decide +kernel, rfl⟩
theorem dX11_image_57 : gw_dc cX11_image 57 (.getfield 9) 3 60 := ⟨by decide +kernel, rfl⟩
theorem dX11_image_60 : gw_dc cX11_image 60 (.iload_n 2) 1 61 := ⟨by decide +kernel, rfl⟩
theorem dX11_image_61 : gw_dc cX11_image 61 (.iaload) 1 62 := ⟨by decide +kernel, rfl⟩
theorem dX11_image_62 : gw_dc cX11_image 62 (.iastore) 1 63 := ⟨by decide +kernel, rfl⟩
theorem o_227 {ad : Nat → Nat} : isO (gw_M0 ad) 227 21 2016 := (by decide +kernel : 227 < gw_N0 ∧ gw_sh 227 = (21, 2016))
theorem dX11_image_63 : gw_dc cX11_image 63 (.iinc 2 1) 3 66 := ⟨by decide +kernel, rfl⟩
theorem dX11_image_66 : gw_dc cX11_image 66 (.goto (-28)) 3 69 := ⟨by decide +kernel, rfl⟩
theorem dX11_image_28 : decode cX11_image 28 = .ok (.return_, 1) := by decide +kernel
theorem dX11_image_0 : gw_dc cX11_image 0 (.aload_n 0) 1 1 := ⟨by decide +kernel, rfl⟩
theorem dX11_image_1 : gw_dc cX11_image 1 (.iload_n 1) 1 2 := ⟨by decide +kernel, rfl⟩
theorem dX11_image_2 : gw_dc cX11_image 2 (.i2l) 1 3 := ⟨by decide +kernel, rfl⟩
theorem dX11_image_3 : gw_dc cX11_image 3 (.lconst 0) 1 4 := ⟨by decide +kernel, rfl⟩
theorem dX11_image_4 : gw_dc cX11_image 4 (.ldc2_w 398) 3 7 := ⟨by decide +kernel, rfl⟩
theorem kc_RX11_398 : Cond.constantLong RX11 398 (Int64.ofInt 2) ∈ wsG := gw_mem 1902 (by decide +kernel) rfl
theorem dX11_image_7 : gw_dc cX11_image 7 (.invokestatic 147) 3 10 := ⟨by decide +kernel, rfl⟩
theorem dX11_image_10 : gw_dc cX11_image 10 (.ifCond .eq 7) 3 13 := ⟨by decide +kernel, rfl⟩
theorem dX11_image_17 : gw_dc cX11_image 17 (.iconst 1) 1 18 := ⟨by decide +kernel, rfl⟩
theorem dX11_image_13 : gw_dc cX11_image 13 (.iconst 0) 1 14 := ⟨by decide +kernel, rfl⟩
theorem dX11_image_14 : gw_dc cX11_image 14 (.goto 4) 3 17 := ⟨by decide +kernel, rfl⟩
theorem dX11_restore_31 : gw_dc cX11_restore 31 (.putfield 88) 3 34 := ⟨by decide +kernel, rfl⟩
theorem dX11_restore_34 : gw_dc cX11_restore 34 (.aload_n 0) 1 35 := ⟨by decide +kernel, rfl⟩
theorem dX11_restore_35 : gw_dc cX11_restore 35 (.getfield 88) 3 38 := ⟨by decide +kernel, rfl⟩
theorem dX11_restore_38 : gw_dc cX11_restore 38 (.ifCond .le 4) 3 41 := ⟨by decide +kernel, rfl⟩
theorem dX11_restore_42 : gw_dc cX11_restore 42 (.iconst 0) 1 43 := ⟨by decide +kernel, rfl⟩
theorem dX11_restore_43 : gw_dc cX11_restore 43 (.istore_n 2) 1 44 := ⟨by decide +kernel, rfl⟩
theorem dX11_restore_44 : gw_dc cX11_restore 44 (.iload_n 2) 1 45 := ⟨by decide +kernel, rfl⟩
theorem dX11_restore_45 : gw_dc cX11_restore 45 (.sipush 672) 3 48 := ⟨by decide +kernel, rfl⟩
theorem dX11_restore_48 : gw_dc cX11_restore 48 (.if_icmp .ge 27) 3 51 := ⟨by decide +kernel, rfl⟩
theorem dX11_restore_75 : decode cX11_restore 75 = .ok (.return_, 1) := by decide +kernel
theorem dX11_restore_51 : gw_dc cX11_restore 51 (.aload_n 0) 1 52 := ⟨by decide +kernel, rfl⟩
theorem dX11_restore_52 : gw_dc cX11_restore 52 (.getfield 9) 3 55 := ⟨by decide +kernel, rfl⟩
theorem dX11_restore_55 : gw_dc cX11_restore 55 (.iload_n 2) 1 56 := ⟨by decide +kernel, rfl⟩
theorem dX11_restore_56 : gw_dc cX11_restore 56 (.aload_n 0) 1 57 := ⟨by decide +kernel, rfl⟩
theorem dX11_restore_57 : gw_dc cX11_restore 57 (.getfield 19) 3 60 := ⟨by decide +kernel, rfl⟩
theorem dX11_restore_60 : gw_dc cX11_restore 60 (.sipush 672) 3 63 := ⟨by decide +kernel, rfl⟩
theorem dX11_restore_63 : gw_dc cX11_restore 63 (.iload_n 1) 1 64 := ⟨by decide +kernel, rfl⟩
theorem dX11_restore_64 : gw_dc cX11_restore 64 (.imul) 1 65 := ⟨by decide +kernel, rfl⟩
theorem dX11_restore_65 : gw_dc cX11_restore 65 (.iload_n 2) 1 66 := ⟨by decide +kernel, rfl⟩
theorem dX11_restore_66 : gw_dc cX11_restore 66 (.iadd) 1 67 := ⟨by decide +kernel, rfl⟩
theorem dX11_restore_67 : gw_dc cX11_restore 67 (.iaload) 1 68 := ⟨by decide +kernel, rfl⟩
theorem dX11_restore_68 : gw_dc cX11_restore 68 (.iastore) 1 69 := ⟨by decide +kernel, rfl⟩
theorem dX11_restore_69 : gw_dc cX11_restore 69 (.iinc 2 1) 3 72 := ⟨by decide +kernel, rfl⟩
theorem dX11_restore_72 : gw_dc cX11_restore 72 (.goto (-28)) 3 75 := ⟨by decide +kernel, rfl⟩
theorem dX11_restore_41 : decode cX11_restore 41 = .ok (.return_, 1) := by decide +kernel
theorem dX11_restore_0 : gw_dc cX11_restore 0 (.aload_n 0) 1 1 := ⟨by decide +kernel, rfl⟩
theorem dX11_restore_1 : gw_dc cX11_restore 1 (.iload_n 1) 1 2 := ⟨by decide +kernel, rfl⟩
theorem dX11_restore_2 : gw_dc cX11_restore 2 (.i2l) 1 3 := ⟨by decide +kernel, rfl⟩
theorem dX11_restore_3 : gw_dc cX11_restore 3 (.lconst 0) 1 4 := ⟨by decide +kernel, rfl⟩
theorem dX11_restore_4 : gw_dc cX11_restore 4 (.ldc2_w 398) 3 7 := ⟨by decide +kernel, rfl⟩
theorem dX11_restore_7 : gw_dc cX11_restore 7 (.invokestatic 147) 3 10 := ⟨by decide +kernel, rfl⟩
theorem dX11_restore_10 : gw_dc cX11_restore 10 (.ifCond .ne 7) 3 13 := ⟨by decide +kernel, rfl⟩
theorem dX11_restore_17 : gw_dc cX11_restore 17 (.aload_n 0) 1 18 := ⟨by decide +kernel, rfl⟩
theorem dX11_restore_18 : gw_dc cX11_restore 18 (.getfield 22) 3 21 := ⟨by decide +kernel, rfl⟩
theorem dX11_restore_21 : gw_dc cX11_restore 21 (.iload_n 1) 1 22 := ⟨by decide +kernel, rfl⟩
theorem dX11_restore_22 : gw_dc cX11_restore 22 (.baload) 1 23 := ⟨by decide +kernel, rfl⟩
theorem dX11_restore_23 : gw_dc cX11_restore 23 (.ifCond .ne 7) 3 26 := ⟨by decide +kernel, rfl⟩
theorem dX11_restore_30 : gw_dc cX11_restore 30 (.iconst 0) 1 31 := ⟨by decide +kernel, rfl⟩
theorem dX11_restore_26 : gw_dc cX11_restore 26 (.iconst 2) 1 27 := ⟨by decide +kernel, rfl⟩
theorem dX11_restore_27 : gw_dc cX11_restore 27 (.goto 4) 3 30 := ⟨by decide +kernel, rfl⟩
theorem dX11_restore_13 : gw_dc cX11_restore 13 (.iconst 1) 1 14 := ⟨by decide +kernel, rfl⟩
theorem dX11_restore_14 : gw_dc cX11_restore 14 (.goto 17) 3 17 := ⟨by decide +kernel, rfl⟩
theorem dX11_draw_0 : gw_dc cX11_draw 0 (.aload_n 0) 1 1 := ⟨by decide +kernel, rfl⟩
theorem dX11_draw_1 : gw_dc cX11_draw 1 (.ldc_w 403) 3 4 := ⟨by decide +kernel, rfl⟩
theorem kc_RX11_403 : Cond.constant RX11 403 (Int32.ofInt 1103515245) ∈ wsG := gw_mem 1951 (by decide +kernel) rfl
theorem dX11_draw_4 : gw_dc cX11_draw 4 (.aload_n 0) 1 5 := ⟨by decide +kernel, rfl⟩
theorem dX11_draw_5 : gw_dc cX11_draw 5 (.getfield 404) 3 8 := ⟨by decide +kernel, rfl⟩
theorem fk_RX11_404 : gw_fk RX11 404 11 38 42 0 false := ⟨_, _, _, ck_11, by decide, by decide, fun _ => rfl, fun h => absurd h (by decide), fun h => absurd h (by decide), rfl, Or.inl (gw_mem 1459 (by decide +kernel) rfl)⟩
theorem dX11_draw_8 : gw_dc cX11_draw 8 (.imul) 1 9 := ⟨by decide +kernel, rfl⟩
theorem dX11_draw_9 : gw_dc cX11_draw 9 (.sipush 12345) 3 12 := ⟨by decide +kernel, rfl⟩
theorem dX11_draw_12 : gw_dc cX11_draw 12 (.iadd) 1 13 := ⟨by decide +kernel, rfl⟩
theorem dX11_draw_13 : gw_dc cX11_draw 13 (.putfield 404) 3 16 := ⟨by decide +kernel, rfl⟩
theorem dX11_draw_16 : gw_dc cX11_draw 16 (.aload_n 0) 1 17 := ⟨by decide +kernel, rfl⟩
theorem dX11_draw_17 : gw_dc cX11_draw 17 (.getfield 404) 3 20 := ⟨by decide +kernel, rfl⟩
theorem dX11_draw_20 : gw_dc cX11_draw 20 (.bipush 16) 2 22 := ⟨by decide +kernel, rfl⟩
theorem dX11_draw_22 : gw_dc cX11_draw 22 (.iushr) 1 23 := ⟨by decide +kernel, rfl⟩
theorem dX11_draw_23 : gw_dc cX11_draw 23 (.iload_n 1) 1 24 := ⟨by decide +kernel, rfl⟩
theorem dX11_draw_24 : gw_dc cX11_draw 24 (.irem) 1 25 := ⟨by decide +kernel, rfl⟩
theorem dX11_draw_25 : decode cX11_draw 25 = .ok (.ireturn, 1) := by decide +kernel
/-! The model, 15: numbers written, images, draws, walked -/
set_option maxRecDepth 4000 in
theorem s_X11_write (ad : Nat → Nat) (σ : Sg)  (t : Int) (p : Int) (v : Int) (hTr : TrW σ) : gw_Sp yX11_write cX11_write 5 (some .long) 4 0 0 [vR (some 223), vI t, vI p, vJ v] (gw_M0 ad) σ (gw_D (some (vJ (nWr σ t p v).1)) (gw_M0 ad) ((nWr σ t p v).2)) gw_no := by
  refine gw_Sp.of [some (vR (some 223)), some (vI t), some (vI p), some (vJ v), none] (by decide +kernel) rfl (Nat.le_of_ble_eq_true rfl) ?_
  intro X G fx het hnm
  refine g_aload_n fx dX11_write_0 rfl ?_
  refine g_aload_n fx dX11_write_1 rfl ?_
  refine g_iload_n fx dX11_write_2 rfl ?_
  refine g_callVD fx dX11_write_3 mv_RX11_340 my_X11_trayFault (s_X11_trayFault ad _ _) o_223 rfl rfl rfl (Nat.le_of_ble_eq_true rfl) (by decide) (by decide) ?_
  refine g_puti fx dX11_write_6 fk_RX11_88 o_223 ?_
  refine gw_cg (σ' := nThr σ (nTf σ t)) rfl rfl ?_
  refine g_aload_n fx dX11_write_9 rfl ?_
  refine g_geti fx dX11_write_10 fk_RX11_88 (by decide) o_223 ?_
  refine gw_cgt rfl (show nThr σ (nTf σ t) 223 5 = nTf σ t from su_same _ _ _ _) ?_
  refine g_if_le (tgt := 18) fx dX11_write_13 (by decide) (fun h13 => ?_) (fun h13 => ?_)
  · have h := (nTf_0 h13).1
    have ht := hTr.at h.1 h.2
    refine g_iload_n fx dX11_write_18 rfl ?_
    refine g_i2l fx dX11_write_19 ?_
    refine g_lconst0 fx dX11_write_20 ?_
    refine g_aload_n fx dX11_write_21 rfl ?_
    refine g_getr fx dX11_write_22 fk_RX11_81 o_223 rf_223_40 ?_
    refine g_iload_n fx dX11_write_25 rfl ?_
    refine g_iald fx dX11_write_26 o_246 (by omega) (by show _ < ((4 : Nat) : Int); omega) ?_
    refine g_iconst fx dX11_write_27 (by unfold okI; omega) ?_
    refine g_isub fx dX11_write_28 ?_
    refine g_i2l fx dX11_write_29 ?_
    refine g_callSD fx dX11_write_30 ms_RX11_147 my_X11_within (s_X11_within ad _ _ _ _) rfl rfl (Nat.le_of_ble_eq_true rfl) (by decide) (by decide) ?_
    refine g_if_eq (tgt := 46) fx dX11_write_33 (by decide) (fun h33 => ?_) (fun h33 => ?_)
    · refine g_aload_n fx dX11_write_46 rfl ?_
      refine g_iconst fx dX11_write_47 (by unfold okI; omega) ?_
      refine g_callVD fx dX11_write_48 mv_RX11_191 my_X11_fails (s_X11_fails ad _ _) o_223 rfl rfl rfl (Nat.le_of_ble_eq_true rfl) (by decide) (by decide) ?_
      refine g_i2l fx dX11_write_51 ?_
      exact g_lret fx rfl dX11_write_52 (by decide) (by decide) (gw_le.rf _) ⟨by first | (exfalso; omega) | (rw [nWr]; (repeat first | rw [if_pos (by omega)] | rw [if_neg (by omega)]) <;> (try (show _ = some (vJ (nWrA _ t p v).1); rw [nWrA]; (repeat first | rw [if_pos (by omega)] | rw [if_neg (by omega)]))) <;> rfl), rfl, by first | (exfalso; omega) | (rw [nWr]; (repeat first | rw [if_pos (by omega)] | rw [if_neg (by omega)]) <;> (try (show _ = (nWrA _ t p v).2; rw [nWrA]; (repeat first | rw [if_pos (by omega)] | rw [if_neg (by omega)]))) <;> rfl)⟩
    · have hw := wth_1 h33
      change 0 ≤ p ∧ p ≤ wr (σ 246 t.toNat - 1) at hw
      rw [wr_id (by unfold okI; omega)] at hw
      refine g_aload_n fx dX11_write_36 rfl ?_
      refine g_iload_n fx dX11_write_37 rfl ?_
      refine g_iload_n fx dX11_write_38 rfl ?_
      refine g_lload_n fx dX11_write_39 rfl ?_
      refine g_callVD fx dX11_write_40 mv_RX11_422 my_X11_cut (s_X11_cut ad _ _ _ _ h (by omega)) o_223 rfl rfl rfl (Nat.le_of_ble_eq_true rfl) (by decide) (by decide) ?_
      refine g_goto (tgt := 52) fx dX11_write_43 (by decide) ?_
      exact g_lret fx rfl dX11_write_52 (by decide) (by decide) (gw_le.rf _) ⟨by first | (exfalso; omega) | (rw [nWr]; (repeat first | rw [if_pos (by omega)] | rw [if_neg (by omega)]) <;> (try (show _ = some (vJ (nWrA _ t p v).1); rw [nWrA]; (repeat first | rw [if_pos (by omega)] | rw [if_neg (by omega)]))) <;> rfl), rfl, by first | (exfalso; omega) | (rw [nWr]; (repeat first | rw [if_pos (by omega)] | rw [if_neg (by omega)]) <;> (try (show _ = (nWrA _ t p v).2; rw [nWrA]; (repeat first | rw [if_pos (by omega)] | rw [if_neg (by omega)]))) <;> rfl)⟩
  · refine g_lconst0 fx dX11_write_16 ?_
    exact g_lret fx rfl dX11_write_17 (by decide) (by decide) (gw_le.rf _) ⟨by first | (exfalso; omega) | (rw [nWr]; (repeat first | rw [if_pos (by omega)] | rw [if_neg (by omega)]) <;> (try (show _ = some (vJ (nWrA _ t p v).1); rw [nWrA]; (repeat first | rw [if_pos (by omega)] | rw [if_neg (by omega)]))) <;> rfl), rfl, by first | (exfalso; omega) | (rw [nWr]; (repeat first | rw [if_pos (by omega)] | rw [if_neg (by omega)]) <;> (try (show _ = (nWrA _ t p v).2; rw [nWrA]; (repeat first | rw [if_pos (by omega)] | rw [if_neg (by omega)]))) <;> rfl)⟩
set_option maxRecDepth 4000 in
theorem s_X11_pour (ad : Nat → Nat) (σ : Sg)  (t : Int) (hT : TW (σ 224)) (hTr : TrW σ) : gw_Sp yX11_pour cX11_pour 4 (some .int) 7 0 0 [vR (some 223), vI t] (gw_M0 ad) σ (gw_D (some (vI (nPu σ t).1)) (gw_M0 ad) ((nPu σ t).2)) gw_no := by
  refine gw_Sp.of [some (vR (some 223)), some (vI t), none, none] (by decide +kernel) rfl (Nat.le_of_ble_eq_true rfl) ?_
  intro X G fx het hnm
  refine g_aload_n fx dX11_pour_0 rfl ?_
  refine g_aload_n fx dX11_pour_1 rfl ?_
  refine g_iload_n fx dX11_pour_2 rfl ?_
  refine g_callVD fx dX11_pour_3 mv_RX11_340 my_X11_trayFault (s_X11_trayFault ad _ _) o_223 rfl rfl rfl (Nat.le_of_ble_eq_true rfl) (by decide) (by decide) ?_
  refine g_puti fx dX11_pour_6 fk_RX11_88 o_223 ?_
  refine gw_cg (σ' := nThr σ (nTf σ t)) rfl rfl ?_
  refine g_aload_n fx dX11_pour_9 rfl ?_
  refine g_geti fx dX11_pour_10 fk_RX11_88 (by decide) o_223 ?_
  refine gw_cgt rfl (show nThr σ (nTf σ t) 223 5 = nTf σ t from su_same _ _ _ _) ?_
  refine g_if_le (tgt := 18) fx dX11_pour_13 (by decide) (fun h13 => ?_) (fun h13 => ?_)
  · have h := (nTf_0 h13).1
    refine g_aload_n fx dX11_pour_18 rfl ?_
    refine g_callVD0 fx dX11_pour_19 mv_RX11_323 my_X11_runs (s_X11_runs ad _ (by first | exact hT | exact hTx)) o_223 rfl rfl rfl (Nat.le_of_ble_eq_true rfl) (by decide) (by decide) ?_
    have hTrr : TrW (nRu (nThr σ (nTf σ t))) := TrW_ru (σ := (nThr σ (nTf σ t))) hTr
    have ht := hTrr.at h.1 h.2
    refine g_aload_n fx dX11_pour_22 rfl ?_
    refine g_getr fx dX11_pour_23 fk_RX11_81 o_223 rf_223_40 ?_
    refine g_iload_n fx dX11_pour_26 rfl ?_
    refine g_iald fx dX11_pour_27 o_246 (by omega) (by show _ < ((4 : Nat) : Int); omega) ?_
    refine g_aload_n fx dX11_pour_28 rfl ?_
    refine g_getr fx dX11_pour_29 fk_RX11_9 o_223 rf_223_0 ?_
    refine g_sipush fx dX11_pour_32 (by decide) ?_
    refine g_iald fx dX11_pour_35 o_224 (by decide) (by decide) ?_
    rw [show Int.toNat 668 = 668 from rfl]
    refine g_min fx dX11_pour_36 mm_RX11_314 (by decide) (by decide) (by decide) (Nat.le_of_ble_eq_true rfl) ?_
    refine gw_cgt rfl (show min _ _ = npN (nRu (nThr σ (nTf σ t))) t from rfl) ?_
    have hN : npN (nRu (nThr σ (nTf σ t))) t ≤ 60 := by unfold npN; omega
    refine g_istore_n fx dX11_pour_39 (by decide) rfl rfl ?_
    refine g_iconst fx dX11_pour_40 (by unfold okI; omega) ?_
    refine g_istore_n fx dX11_pour_41 (by decide) rfl rfl ?_
    have loop42 : ∀ k : Nat, k ≤ (npN (nRu (nThr σ (nTf σ t))) t).toNat → gw_W X (yX11_pour.cls, cX11_pour, 4, (some .int), 7, 0, 0) G (gw_Z X G (gw_M0 ad) σ (gw_D (some (vI (nPu σ t).1)) (gw_M0 ad) ((nPu σ t).2)) gw_no 0 0) 0 0 (gw_M0 ad) ((itr k (npS t) (nRu (nThr σ (nTf σ t))))) 42 [some (vR (some 223)), some (vI t), some (vI (npN (nRu (nThr σ (nTf σ t))) t)), some (vI (k : Nat))] [] := by
      refine up_ind _ ((npN (nRu (nThr σ (nTf σ t))) t).toNat) (fun k hk ih => ?_)
      refine g_iload_n fx dX11_pour_42 rfl ?_
      refine g_iload_n fx dX11_pour_43 rfl ?_
      refine g_icmp_ge (tgt := 67) fx dX11_pour_44 (by decide) (fun h44 => ?_) (fun h44 => ?_)
      · refine g_iload_n fx dX11_pour_67 rfl ?_
        exact g_iret fx rfl dX11_pour_68 (by decide) (by decide) (gw_le.rf _) ⟨by rw [nPu, if_neg (by omega)], rfl, by rw [nPu, if_neg (by omega), show (npN (nRu (nThr σ (nTf σ t))) t).toNat = k by omega]⟩
      · refine g_aload_n fx dX11_pour_47 rfl ?_
        refine g_iload_n fx dX11_pour_48 rfl ?_
        refine g_iload_n fx dX11_pour_49 rfl ?_
        refine g_aload_n fx dX11_pour_50 rfl ?_
        refine g_getr fx dX11_pour_51 fk_RX11_48 o_223 rf_223_22 ?_
        refine g_iload_n fx dX11_pour_54 rfl ?_
        refine g_iald fx dX11_pour_55 o_235 (by omega) (by show _ < ((60 : Nat) : Int); omega) ?_
        rw [show ((k : Nat) : Int).toNat = k from rfl]
        refine g_i2l fx dX11_pour_56 ?_
        refine g_callVD fx dX11_pour_57 mv_RX11_422 my_X11_cut (s_X11_cut ad _ _ _ _ h (by omega)) o_223 rfl rfl rfl (Nat.le_of_ble_eq_true rfl) (by decide) (by decide) ?_
        refine g_pop2 fx dX11_pour_60 ?_
        refine g_iinc1 fx dX11_pour_61 (by decide) rfl rfl (by unfold okI; omega) rfl ?_
        refine g_goto (tgt := 42) fx dX11_pour_64 (by decide) ?_
        exact gw_cg (by rw [itr_s, npS]) (by rw [show ((k : Nat) : Int) + 1 = ((k + 1 : Nat) : Int) by omega] <;> rfl) (ih (by omega))
    exact loop42 0 (Nat.zero_le _)
  · refine g_iconst fx dX11_pour_16 (by unfold okI; omega) ?_
    exact g_iret fx rfl dX11_pour_17 (by decide) (by decide) (gw_le.rf _) ⟨by rw [nPu, if_pos (by omega)], rfl, by rw [nPu, if_pos (by omega)]⟩
set_option maxRecDepth 4000 in
theorem s_X11_image (ad : Nat → Nat) (σ : Sg)  (i : Int) (N : Nat) (hN : N = 672) : gw_Sp yX11_image cX11_image 3 none 2 0 0 [vR (some 223), vI i] (gw_M0 ad) σ (gw_D none (gw_M0 ad) (nIm σ i N)) gw_no := by
  refine gw_Sp.of [some (vR (some 223)), some (vI i), none] (by decide +kernel) rfl (Nat.le_of_ble_eq_true rfl) ?_
  intro X G fx het hnm
  have j18 : gw_W X (yX11_image.cls, cX11_image, 3, none, 2, 0, 0) G (gw_Z X G (gw_M0 ad) σ (gw_D none (gw_M0 ad) (nIm σ i N)) gw_no 0 0) 0 0 (gw_M0 ad) (σ) 18 [some (vR (some 223)), some (vI i), none] [vI (nImV i), vR (some 223)] := by
    refine g_puti fx dX11_image_18 fk_RX11_88 o_223 ?_
    refine gw_cg (σ' := nThr σ (nImV i)) rfl rfl ?_
    refine g_aload_n fx dX11_image_21 rfl ?_
    refine g_geti fx dX11_image_22 fk_RX11_88 (by decide) o_223 ?_
    refine gw_cgt rfl (show nThr σ (nImV i) 223 5 = nImV i from su_same _ _ _ _) ?_
    refine g_if_le (tgt := 29) fx dX11_image_25 (by decide) (fun h25 => ?_) (fun h25 => ?_)
    · have hi := nImV_0 h25
      refine g_aload_n fx dX11_image_29 rfl ?_
      refine g_getr fx dX11_image_30 fk_RX11_22 o_223 rf_223_4 ?_
      refine g_iload_n fx dX11_image_33 rfl ?_
      refine g_iconst fx dX11_image_34 (by unfold okI; omega) ?_
      refine g_zast fx dX11_image_35 o_228 (by omega) (by omega) (by show _ < ((3 : Nat) : Int); omega) ?_
      refine g_iconst fx dX11_image_36 (by unfold okI; omega) ?_
      refine g_istore_n fx dX11_image_37 (by decide) rfl rfl ?_
      have loop38 : ∀ k : Nat, k ≤ N → gw_W X (yX11_image.cls, cX11_image, 3, none, 2, 0, 0) G (gw_Z X G (gw_M0 ad) σ (gw_D none (gw_M0 ad) (nIm σ i N)) gw_no 0 0) 0 0 (gw_M0 ad) ((itr k (nImS i) (su (nThr σ (nImV i)) 228 i.toNat 1))) 38 [some (vR (some 223)), some (vI i), some (vI (k : Nat))] [] := by
        refine up_ind _ (N) (fun k hk ih => ?_)
        refine g_iload_n fx dX11_image_38 rfl ?_
        refine g_sipush fx dX11_image_39 (by decide) ?_
        refine g_icmp_ge (tgt := 69) fx dX11_image_42 (by decide) (fun h42 => ?_) (fun h42 => ?_)
        · exact g_vret fx rfl dX11_image_69 (by decide) (by decide) (gw_le.rf _) ⟨rfl, rfl, by rw [nIm, if_neg (by omega), show N = k by omega]⟩
        · refine g_aload_n fx dX11_image_45 rfl ?_
          refine g_getr fx dX11_image_46 fk_RX11_19 o_223 rf_223_3 ?_
          refine g_sipush fx dX11_image_49 (by decide) ?_
          refine g_iload_n fx dX11_image_52 rfl ?_
          refine g_imul fx dX11_image_53 ?_
          refine g_iload_n fx dX11_image_54 rfl ?_
          refine g_iadd fx dX11_image_55 ?_
          refine gw_cgt rfl (ix672 hi (by omega)) ?_
          refine g_aload_n fx dX11_image_56 rfl ?_
          refine g_getr fx dX11_image_57 fk_RX11_9 o_223 rf_223_0 ?_
          refine g_iload_n fx dX11_image_60 rfl ?_
          refine g_iald fx dX11_image_61 o_224 (by omega) (by show _ < ((672 : Nat) : Int); omega) ?_
          rw [show ((k : Nat) : Int).toNat = k from rfl]
          refine g_iast fx dX11_image_62 o_227 (by omega) (by show _ < ((2016 : Nat) : Int); omega) ?_
          refine g_iinc1 fx dX11_image_63 (by decide) rfl rfl (by unfold okI; omega) rfl ?_
          refine g_goto (tgt := 38) fx dX11_image_66 (by decide) ?_
          exact gw_cg (by rw [itr_s, nImS]) (by rw [show ((k : Nat) : Int) + 1 = ((k + 1 : Nat) : Int) by omega] <;> rfl) (ih (by omega))
      exact loop38 0 (Nat.zero_le _)
    · exact g_vret fx rfl dX11_image_28 (by decide) (by decide) (gw_le.rf _) ⟨rfl, rfl, by rw [nIm, if_pos (by omega)]⟩
  refine g_aload_n fx dX11_image_0 rfl ?_
  refine g_iload_n fx dX11_image_1 rfl ?_
  refine g_i2l fx dX11_image_2 ?_
  refine g_lconst0 fx dX11_image_3 ?_
  refine g_ldcL fx dX11_image_4 kc_RX11_398 (by unfold okJ; omega) ?_
  refine g_callSD fx dX11_image_7 ms_RX11_147 my_X11_within (s_X11_within ad _ _ _ _) rfl rfl (Nat.le_of_ble_eq_true rfl) (by decide) (by decide) ?_
  refine g_if_eq (tgt := 17) fx dX11_image_10 (by decide) (fun h10 => ?_) (fun h10 => ?_)
  · refine g_iconst fx dX11_image_17 (by unfold okI; omega) ?_
    exact gw_cgt rfl (by rw [nImV]; (repeat first | rw [if_pos (by omega)] | rw [if_neg (by omega)]) <;> rfl) j18
  · refine g_iconst fx dX11_image_13 (by unfold okI; omega) ?_
    refine g_goto (tgt := 18) fx dX11_image_14 (by decide) ?_
    exact gw_cgt rfl (by rw [nImV]; (repeat first | rw [if_pos (by omega)] | rw [if_neg (by omega)]) <;> rfl) j18
set_option maxRecDepth 4000 in
theorem s_X11_restore (ad : Nat → Nat) (σ : Sg)  (i : Int) (N : Nat) (hN : N = 672) : gw_Sp yX11_restore cX11_restore 3 none 2 0 0 [vR (some 223), vI i] (gw_M0 ad) σ (gw_D none (gw_M0 ad) (nRe σ i N)) gw_no := by
  refine gw_Sp.of [some (vR (some 223)), some (vI i), none] (by decide +kernel) rfl (Nat.le_of_ble_eq_true rfl) ?_
  intro X G fx het hnm
  have j31 : gw_W X (yX11_restore.cls, cX11_restore, 3, none, 2, 0, 0) G (gw_Z X G (gw_M0 ad) σ (gw_D none (gw_M0 ad) (nRe σ i N)) gw_no 0 0) 0 0 (gw_M0 ad) (σ) 31 [some (vR (some 223)), some (vI i), none] [vI (nReV σ i), vR (some 223)] := by
    refine g_puti fx dX11_restore_31 fk_RX11_88 o_223 ?_
    refine gw_cg (σ' := nThr σ (nReV σ i)) rfl rfl ?_
    refine g_aload_n fx dX11_restore_34 rfl ?_
    refine g_geti fx dX11_restore_35 fk_RX11_88 (by decide) o_223 ?_
    refine gw_cgt rfl (show nThr σ (nReV σ i) 223 5 = nReV σ i from su_same _ _ _ _) ?_
    refine g_if_le (tgt := 42) fx dX11_restore_38 (by decide) (fun h38 => ?_) (fun h38 => ?_)
    · have hi := nReV_0 h38
      refine g_iconst fx dX11_restore_42 (by unfold okI; omega) ?_
      refine g_istore_n fx dX11_restore_43 (by decide) rfl rfl ?_
      have loop44 : ∀ k : Nat, k ≤ N → gw_W X (yX11_restore.cls, cX11_restore, 3, none, 2, 0, 0) G (gw_Z X G (gw_M0 ad) σ (gw_D none (gw_M0 ad) (nRe σ i N)) gw_no 0 0) 0 0 (gw_M0 ad) ((itr k (nReS i) (nThr σ (nReV σ i)))) 44 [some (vR (some 223)), some (vI i), some (vI (k : Nat))] [] := by
        refine up_ind _ (N) (fun k hk ih => ?_)
        refine g_iload_n fx dX11_restore_44 rfl ?_
        refine g_sipush fx dX11_restore_45 (by decide) ?_
        refine g_icmp_ge (tgt := 75) fx dX11_restore_48 (by decide) (fun h48 => ?_) (fun h48 => ?_)
        · exact g_vret fx rfl dX11_restore_75 (by decide) (by decide) (gw_le.rf _) ⟨rfl, rfl, by rw [nRe, if_neg (by omega), show N = k by omega]⟩
        · refine g_aload_n fx dX11_restore_51 rfl ?_
          refine g_getr fx dX11_restore_52 fk_RX11_9 o_223 rf_223_0 ?_
          refine g_iload_n fx dX11_restore_55 rfl ?_
          refine g_aload_n fx dX11_restore_56 rfl ?_
          refine g_getr fx dX11_restore_57 fk_RX11_19 o_223 rf_223_3 ?_
          refine g_sipush fx dX11_restore_60 (by decide) ?_
          refine g_iload_n fx dX11_restore_63 rfl ?_
          refine g_imul fx dX11_restore_64 ?_
          refine g_iload_n fx dX11_restore_65 rfl ?_
          refine g_iadd fx dX11_restore_66 ?_
          refine gw_cgt rfl (ix672 hi (by omega)) ?_
          refine g_iald fx dX11_restore_67 o_227 (by omega) (by show _ < ((2016 : Nat) : Int); omega) ?_
          refine g_iast fx dX11_restore_68 o_224 (by omega) (by show _ < ((672 : Nat) : Int); omega) ?_
          rw [show ((k : Nat) : Int).toNat = k from rfl]
          refine g_iinc1 fx dX11_restore_69 (by decide) rfl rfl (by unfold okI; omega) rfl ?_
          refine g_goto (tgt := 44) fx dX11_restore_72 (by decide) ?_
          exact gw_cg (by rw [itr_s, nReS]) (by rw [show ((k : Nat) : Int) + 1 = ((k + 1 : Nat) : Int) by omega] <;> rfl) (ih (by omega))
      exact loop44 0 (Nat.zero_le _)
    · exact g_vret fx rfl dX11_restore_41 (by decide) (by decide) (gw_le.rf _) ⟨rfl, rfl, by rw [nRe, if_pos (by omega)]⟩
  refine g_aload_n fx dX11_restore_0 rfl ?_
  refine g_iload_n fx dX11_restore_1 rfl ?_
  refine g_i2l fx dX11_restore_2 ?_
  refine g_lconst0 fx dX11_restore_3 ?_
  refine g_ldcL fx dX11_restore_4 kc_RX11_398 (by unfold okJ; omega) ?_
  refine g_callSD fx dX11_restore_7 ms_RX11_147 my_X11_within (s_X11_within ad _ _ _ _) rfl rfl (Nat.le_of_ble_eq_true rfl) (by decide) (by decide) ?_
  refine g_if_ne (tgt := 17) fx dX11_restore_10 (by decide) (fun h10 => ?_) (fun h10 => ?_)
  · have hi := wth_1 h10
    refine g_aload_n fx dX11_restore_17 rfl ?_
    refine g_getr fx dX11_restore_18 fk_RX11_22 o_223 rf_223_4 ?_
    refine g_iload_n fx dX11_restore_21 rfl ?_
    refine g_zald fx dX11_restore_22 o_228 (by omega) (by show _ < ((3 : Nat) : Int); omega) ?_
    refine g_if_ne (tgt := 30) fx dX11_restore_23 (by decide) (fun h23 => ?_) (fun h23 => ?_)
    · refine g_iconst fx dX11_restore_30 (by unfold okI; omega) ?_
      exact gw_cgt rfl (by rw [nReV]; (repeat first | rw [if_pos (by omega)] | rw [if_neg (by omega)]) <;> rfl) j31
    · refine g_iconst fx dX11_restore_26 (by unfold okI; omega) ?_
      refine g_goto (tgt := 31) fx dX11_restore_27 (by decide) ?_
      exact gw_cgt rfl (by rw [nReV]; (repeat first | rw [if_pos (by omega)] | rw [if_neg (by omega)]) <;> rfl) j31
  · refine g_iconst fx dX11_restore_13 (by unfold okI; omega) ?_
    refine g_goto (tgt := 31) fx dX11_restore_14 (by decide) ?_
    exact gw_cgt rfl (by rw [nReV]; (repeat first | rw [if_pos (by omega)] | rw [if_neg (by omega)]) <;> rfl) j31
set_option maxRecDepth 4000 in
theorem s_X11_draw (ad : Nat → Nat) (σ : Sg)  (n : Int) (h : 0 < n) : gw_Sp yX11_draw cX11_draw 2 (some .int) 1 0 0 [vR (some 223), vI n] (gw_M0 ad) σ (gw_D (some (vI (nDr σ n))) (gw_M0 ad) (nDrX σ)) gw_no := by
  refine gw_Sp.of [some (vR (some 223)), some (vI n)] (by decide +kernel) rfl (Nat.le_of_ble_eq_true rfl) ?_
  intro X G fx het hnm
  refine g_aload_n fx dX11_draw_0 rfl ?_
  refine g_ldcWI fx dX11_draw_1 kc_RX11_403 (by unfold okI; omega) ?_
  refine g_aload_n fx dX11_draw_4 rfl ?_
  refine g_geti fx dX11_draw_5 fk_RX11_404 (by decide) o_223 ?_
  refine g_imul fx dX11_draw_8 ?_
  refine g_sipush fx dX11_draw_9 (by decide) ?_
  refine g_iadd fx dX11_draw_12 ?_
  refine g_puti fx dX11_draw_13 fk_RX11_404 o_223 ?_
  refine gw_cg (σ' := nDrX σ) rfl rfl ?_
  refine g_aload_n fx dX11_draw_16 rfl ?_
  refine g_geti fx dX11_draw_17 fk_RX11_404 (by decide) o_223 ?_
  refine g_bipush fx dX11_draw_20 (by decide) ?_
  refine g_iushr fx dX11_draw_22 ?_
  refine g_iload_n fx dX11_draw_23 rfl ?_
  refine g_irem fx dX11_draw_24 (by omega) ?_
  exact g_iret fx rfl dX11_draw_25 (by decide) (by decide) (gw_le.rf _) ⟨rfl, rfl, rfl⟩
