/-! THE LAW, 9: its rows, one by one -/
theorem orN {a b : Option String} (h : a.or b = none) : a = none := by
  cases a with
  | none => rfl
  | some x => cases h
theorem okW {x y : Int} : okJ (ljor x y) := by
  have h1 := Int64.le_toInt (Int64.ofInt x ||| Int64.ofInt y)
  have h2 := Int64.toInt_lt (Int64.ofInt x ||| Int64.ofInt y)
  unfold okJ ljor; omega
theorem dL_law__208 : gw_dc cL_law_ 208 (.aload_n 1) 1 209 := ⟨by decide +kernel, rfl⟩
theorem ag_209 : gw_ag cL_law_ 209 1 := ⟨⟨by decide +kernel, rfl⟩, ⟨by decide +kernel, rfl⟩, ⟨by decide +kernel, rfl⟩, ⟨by decide +kernel, rfl⟩, ⟨by decide +kernel, rfl⟩⟩
theorem ag_215 : gw_ag cL_law_ 215 2 := ⟨⟨by decide +kernel, rfl⟩, ⟨by decide +kernel, rfl⟩, ⟨by decide +kernel, rfl⟩, ⟨by decide +kernel, rfl⟩, ⟨by decide +kernel, rfl⟩⟩
theorem ag_221 : gw_ag cL_law_ 221 3 := ⟨⟨by decide +kernel, rfl⟩, ⟨by decide +kernel, rfl⟩, ⟨by decide +kernel, rfl⟩, ⟨by decide +kernel, rfl⟩, ⟨by decide +kernel, rfl⟩⟩
theorem ag_227 : gw_ag cL_law_ 227 4 := ⟨⟨by decide +kernel, rfl⟩, ⟨by decide +kernel, rfl⟩, ⟨by decide +kernel, rfl⟩, ⟨by decide +kernel, rfl⟩, ⟨by decide +kernel, rfl⟩⟩
theorem ag_233 : gw_ag cL_law_ 233 5 := ⟨⟨by decide +kernel, rfl⟩, ⟨by decide +kernel, rfl⟩, ⟨by decide +kernel, rfl⟩, ⟨by decide +kernel, rfl⟩, ⟨by decide +kernel, rfl⟩⟩
theorem mv_RL_113 : gw_mv RL 113 yX10_feed := ⟨gw_mem 548 (by decide +kernel) rfl, gw_mem 549 (by decide +kernel) rfl, gw_mem 550 (by decide +kernel) rfl⟩
theorem my_X10_feed : gw_my yX10_feed cX10_feed 6 (some .int) 5 := ⟨gw_mem 551 (by decide +kernel) rfl, gw_mem 95 (by decide +kernel) rfl, by decide +kernel, by decide⟩
theorem dL_law__239 : gw_dc cL_law_ 239 (.invokevirtual 113) 3 242 := ⟨by decide +kernel, rfl⟩
theorem dL_law__242 : gw_dc cL_law_ 242 (.aload_n 2) 1 243 := ⟨by decide +kernel, rfl⟩
theorem ag_243 : gw_ag cL_law_ 243 1 := ⟨⟨by decide +kernel, rfl⟩, ⟨by decide +kernel, rfl⟩, ⟨by decide +kernel, rfl⟩, ⟨by decide +kernel, rfl⟩, ⟨by decide +kernel, rfl⟩⟩
theorem ag_249 : gw_ag cL_law_ 249 2 := ⟨⟨by decide +kernel, rfl⟩, ⟨by decide +kernel, rfl⟩, ⟨by decide +kernel, rfl⟩, ⟨by decide +kernel, rfl⟩, ⟨by decide +kernel, rfl⟩⟩
theorem ag_255 : gw_ag cL_law_ 255 3 := ⟨⟨by decide +kernel, rfl⟩, ⟨by decide +kernel, rfl⟩, ⟨by decide +kernel, rfl⟩, ⟨by decide +kernel, rfl⟩, ⟨by decide +kernel, rfl⟩⟩
theorem ag_261 : gw_ag cL_law_ 261 4 := ⟨⟨by decide +kernel, rfl⟩, ⟨by decide +kernel, rfl⟩, ⟨by decide +kernel, rfl⟩, ⟨by decide +kernel, rfl⟩, ⟨by decide +kernel, rfl⟩⟩
theorem ag_267 : gw_ag cL_law_ 267 5 := ⟨⟨by decide +kernel, rfl⟩, ⟨by decide +kernel, rfl⟩, ⟨by decide +kernel, rfl⟩, ⟨by decide +kernel, rfl⟩, ⟨by decide +kernel, rfl⟩⟩
theorem mv_RL_116 : gw_mv RL 116 yX11_feed := ⟨gw_mem 1553 (by decide +kernel) rfl, gw_mem 1554 (by decide +kernel) rfl, gw_mem 1555 (by decide +kernel) rfl⟩
theorem my_X11_feed : gw_my yX11_feed cX11_feed 8 (some .int) 5 := ⟨gw_mem 1556 (by decide +kernel) rfl, gw_mem 106 (by decide +kernel) rfl, by decide +kernel, by decide⟩
theorem dL_law__273 : gw_dc cL_law_ 273 (.invokevirtual 116) 3 276 := ⟨by decide +kernel, rfl⟩
theorem dL_law__276 : gw_dc cL_law_ 276 (.if_icmp .eq 1997) 3 279 := ⟨by decide +kernel, rfl⟩
theorem dL_law__281 : gw_dc cL_law_ 281 (.aload_n 1) 1 282 := ⟨by decide +kernel, rfl⟩
theorem ag_282 : gw_ag cL_law_ 282 1 := ⟨⟨by decide +kernel, rfl⟩, ⟨by decide +kernel, rfl⟩, ⟨by decide +kernel, rfl⟩, ⟨by decide +kernel, rfl⟩, ⟨by decide +kernel, rfl⟩⟩
theorem dL_law__288 : gw_dc cL_law_ 288 (.aload_n 3) 1 289 := ⟨by decide +kernel, rfl⟩
theorem ms_RL_117 : gw_mst RL 117 yL_mill := ⟨gw_mem 740 (by decide +kernel) rfl, gw_mem 741 (by decide +kernel) rfl⟩
theorem dL_law__289 : gw_dc cL_law_ 289 (.invokestatic 117) 3 292 := ⟨by decide +kernel, rfl⟩
theorem dL_law__292 : gw_dc cL_law_ 292 (.istore 5) 2 294 := ⟨by decide +kernel, rfl⟩
theorem dL_law__294 : gw_dc cL_law_ 294 (.aload_n 2) 1 295 := ⟨by decide +kernel, rfl⟩
theorem ag_295 : gw_ag cL_law_ 295 1 := ⟨⟨by decide +kernel, rfl⟩, ⟨by decide +kernel, rfl⟩, ⟨by decide +kernel, rfl⟩, ⟨by decide +kernel, rfl⟩, ⟨by decide +kernel, rfl⟩⟩
theorem mv_RL_122 : gw_mv RL 122 yX11_mill := ⟨gw_mem 1557 (by decide +kernel) rfl, gw_mem 1558 (by decide +kernel) rfl, gw_mem 1559 (by decide +kernel) rfl⟩
theorem my_X11_mill : gw_my yX11_mill cX11_mill 3 (some .int) 1 := ⟨gw_mem 1560 (by decide +kernel) rfl, gw_mem 106 (by decide +kernel) rfl, by decide +kernel, by decide⟩
theorem dL_law__301 : gw_dc cL_law_ 301 (.invokevirtual 122) 3 304 := ⟨by decide +kernel, rfl⟩
theorem dL_law__304 : gw_dc cL_law_ 304 (.istore 6) 2 306 := ⟨by decide +kernel, rfl⟩
theorem t1_306 : gw_t1 cL_law_ 306 := ⟨⟨by decide +kernel, rfl⟩, ⟨by decide +kernel, rfl⟩, ⟨by decide +kernel, rfl⟩, ⟨by decide +kernel, rfl⟩⟩
theorem t2_317 : gw_t2 cL_law_ 317 1939 := ⟨⟨by decide +kernel, rfl⟩, ⟨by decide +kernel, rfl⟩, ⟨by decide +kernel, rfl⟩, ⟨by decide +kernel, rfl⟩, ⟨by decide +kernel, rfl⟩, ⟨by decide +kernel, rfl⟩, ⟨by decide +kernel, rfl⟩, ⟨by decide +kernel, rfl⟩, ⟨by decide +kernel, rfl⟩, ⟨by decide +kernel, rfl⟩⟩
theorem dL_law__337 : gw_dc cL_law_ 337 (.aload_n 1) 1 338 := ⟨by decide +kernel, rfl⟩
theorem ag_338 : gw_ag cL_law_ 338 1 := ⟨⟨by decide +kernel, rfl⟩, ⟨by decide +kernel, rfl⟩, ⟨by decide +kernel, rfl⟩, ⟨by decide +kernel, rfl⟩, ⟨by decide +kernel, rfl⟩⟩
theorem dL_law__344 : gw_dc cL_law_ 344 (.aload_n 3) 1 345 := ⟨by decide +kernel, rfl⟩
theorem ms_RL_127 : gw_mst RL 127 yL_law := ⟨gw_mem 956 (by decide +kernel) rfl, gw_mem 957 (by decide +kernel) rfl⟩
theorem dL_law__345 : gw_dc cL_law_ 345 (.invokestatic 127) 3 348 := ⟨by decide +kernel, rfl⟩
theorem dL_law__348 : gw_dc cL_law_ 348 (.istore 5) 2 350 := ⟨by decide +kernel, rfl⟩
theorem dL_law__350 : gw_dc cL_law_ 350 (.aload_n 2) 1 351 := ⟨by decide +kernel, rfl⟩
theorem ag_351 : gw_ag cL_law_ 351 1 := ⟨⟨by decide +kernel, rfl⟩, ⟨by decide +kernel, rfl⟩, ⟨by decide +kernel, rfl⟩, ⟨by decide +kernel, rfl⟩, ⟨by decide +kernel, rfl⟩⟩
theorem mv_RL_129 : gw_mv RL 129 yX11_law := ⟨gw_mem 1642 (by decide +kernel) rfl, gw_mem 1643 (by decide +kernel) rfl, gw_mem 1644 (by decide +kernel) rfl⟩
theorem my_X11_law : gw_my yX11_law cX11_law 3 (some .int) 1 := ⟨gw_mem 1645 (by decide +kernel) rfl, gw_mem 106 (by decide +kernel) rfl, by decide +kernel, by decide⟩
theorem dL_law__357 : gw_dc cL_law_ 357 (.invokevirtual 129) 3 360 := ⟨by decide +kernel, rfl⟩
theorem dL_law__360 : gw_dc cL_law_ 360 (.istore 6) 2 362 := ⟨by decide +kernel, rfl⟩
theorem t1_362 : gw_t1 cL_law_ 362 := ⟨⟨by decide +kernel, rfl⟩, ⟨by decide +kernel, rfl⟩, ⟨by decide +kernel, rfl⟩, ⟨by decide +kernel, rfl⟩⟩
theorem t2_373 : gw_t2 cL_law_ 373 1883 := ⟨⟨by decide +kernel, rfl⟩, ⟨by decide +kernel, rfl⟩, ⟨by decide +kernel, rfl⟩, ⟨by decide +kernel, rfl⟩, ⟨by decide +kernel, rfl⟩, ⟨by decide +kernel, rfl⟩, ⟨by decide +kernel, rfl⟩, ⟨by decide +kernel, rfl⟩, ⟨by decide +kernel, rfl⟩, ⟨by decide +kernel, rfl⟩⟩
theorem dL_law__393 : gw_dc cL_law_ 393 (.aload_n 1) 1 394 := ⟨by decide +kernel, rfl⟩
theorem ag_394 : gw_ag cL_law_ 394 1 := ⟨⟨by decide +kernel, rfl⟩, ⟨by decide +kernel, rfl⟩, ⟨by decide +kernel, rfl⟩, ⟨by decide +kernel, rfl⟩, ⟨by decide +kernel, rfl⟩⟩
theorem mv_RL_130 : gw_mv RL 130 yX10_fault := ⟨gw_mem 556 (by decide +kernel) rfl, gw_mem 557 (by decide +kernel) rfl, gw_mem 558 (by decide +kernel) rfl⟩
theorem my_X10_fault : gw_my yX10_fault cX10_fault 2 (some .int) 1 := ⟨gw_mem 559 (by decide +kernel) rfl, gw_mem 95 (by decide +kernel) rfl, by decide +kernel, by decide⟩
theorem dL_law__400 : gw_dc cL_law_ 400 (.invokevirtual 130) 3 403 := ⟨by decide +kernel, rfl⟩
theorem dL_law__403 : gw_dc cL_law_ 403 (.aload_n 2) 1 404 := ⟨by decide +kernel, rfl⟩
theorem ag_404 : gw_ag cL_law_ 404 1 := ⟨⟨by decide +kernel, rfl⟩, ⟨by decide +kernel, rfl⟩, ⟨by decide +kernel, rfl⟩, ⟨by decide +kernel, rfl⟩, ⟨by decide +kernel, rfl⟩⟩
theorem mv_RL_133 : gw_mv RL 133 yX11_fault := ⟨gw_mem 1669 (by decide +kernel) rfl, gw_mem 1670 (by decide +kernel) rfl, gw_mem 1671 (by decide +kernel) rfl⟩
theorem my_X11_fault : gw_my yX11_fault cX11_fault 2 (some .int) 1 := ⟨gw_mem 1672 (by decide +kernel) rfl, gw_mem 106 (by decide +kernel) rfl, by decide +kernel, by decide⟩
theorem dL_law__410 : gw_dc cL_law_ 410 (.invokevirtual 133) 3 413 := ⟨by decide +kernel, rfl⟩
theorem dL_law__413 : gw_dc cL_law_ 413 (.if_icmp .eq 1860) 3 416 := ⟨by decide +kernel, rfl⟩
theorem dL_law__418 : gw_dc cL_law_ 418 (.aload_n 1) 1 419 := ⟨by decide +kernel, rfl⟩
theorem ag_419 : gw_ag cL_law_ 419 1 := ⟨⟨by decide +kernel, rfl⟩, ⟨by decide +kernel, rfl⟩, ⟨by decide +kernel, rfl⟩, ⟨by decide +kernel, rfl⟩, ⟨by decide +kernel, rfl⟩⟩
theorem ag_425 : gw_ag cL_law_ 425 2 := ⟨⟨by decide +kernel, rfl⟩, ⟨by decide +kernel, rfl⟩, ⟨by decide +kernel, rfl⟩, ⟨by decide +kernel, rfl⟩, ⟨by decide +kernel, rfl⟩⟩
theorem dL_law__431 : gw_dc cL_law_ 431 (.aload_n 3) 1 432 := ⟨by decide +kernel, rfl⟩
theorem ms_RL_134 : gw_mst RL 134 yL_sack := ⟨gw_mem 995 (by decide +kernel) rfl, gw_mem 996 (by decide +kernel) rfl⟩
theorem dL_law__432 : gw_dc cL_law_ 432 (.invokestatic 134) 3 435 := ⟨by decide +kernel, rfl⟩
theorem dL_law__435 : gw_dc cL_law_ 435 (.istore 5) 2 437 := ⟨by decide +kernel, rfl⟩
theorem dL_law__437 : gw_dc cL_law_ 437 (.aload_n 2) 1 438 := ⟨by decide +kernel, rfl⟩
theorem ag_438 : gw_ag cL_law_ 438 1 := ⟨⟨by decide +kernel, rfl⟩, ⟨by decide +kernel, rfl⟩, ⟨by decide +kernel, rfl⟩, ⟨by decide +kernel, rfl⟩, ⟨by decide +kernel, rfl⟩⟩
theorem ag_444 : gw_ag cL_law_ 444 2 := ⟨⟨by decide +kernel, rfl⟩, ⟨by decide +kernel, rfl⟩, ⟨by decide +kernel, rfl⟩, ⟨by decide +kernel, rfl⟩, ⟨by decide +kernel, rfl⟩⟩
theorem mv_RL_137 : gw_mv RL 137 yX11_sack := ⟨gw_mem 1673 (by decide +kernel) rfl, gw_mem 1674 (by decide +kernel) rfl, gw_mem 1675 (by decide +kernel) rfl⟩
theorem my_X11_sack : gw_my yX11_sack cX11_sack 3 (some .int) 2 := ⟨gw_mem 1676 (by decide +kernel) rfl, gw_mem 106 (by decide +kernel) rfl, by decide +kernel, by decide⟩
theorem dL_law__450 : gw_dc cL_law_ 450 (.invokevirtual 137) 3 453 := ⟨by decide +kernel, rfl⟩
theorem dL_law__453 : gw_dc cL_law_ 453 (.istore 6) 2 455 := ⟨by decide +kernel, rfl⟩
theorem t1_455 : gw_t1 cL_law_ 455 := ⟨⟨by decide +kernel, rfl⟩, ⟨by decide +kernel, rfl⟩, ⟨by decide +kernel, rfl⟩, ⟨by decide +kernel, rfl⟩⟩
theorem t2_466 : gw_t2 cL_law_ 466 1790 := ⟨⟨by decide +kernel, rfl⟩, ⟨by decide +kernel, rfl⟩, ⟨by decide +kernel, rfl⟩, ⟨by decide +kernel, rfl⟩, ⟨by decide +kernel, rfl⟩, ⟨by decide +kernel, rfl⟩, ⟨by decide +kernel, rfl⟩, ⟨by decide +kernel, rfl⟩, ⟨by decide +kernel, rfl⟩, ⟨by decide +kernel, rfl⟩⟩
theorem dL_law__486 : gw_dc cL_law_ 486 (.aload_n 1) 1 487 := ⟨by decide +kernel, rfl⟩
theorem ag_487 : gw_ag cL_law_ 487 1 := ⟨⟨by decide +kernel, rfl⟩, ⟨by decide +kernel, rfl⟩, ⟨by decide +kernel, rfl⟩, ⟨by decide +kernel, rfl⟩, ⟨by decide +kernel, rfl⟩⟩
theorem ag_493 : gw_ag cL_law_ 493 2 := ⟨⟨by decide +kernel, rfl⟩, ⟨by decide +kernel, rfl⟩, ⟨by decide +kernel, rfl⟩, ⟨by decide +kernel, rfl⟩, ⟨by decide +kernel, rfl⟩⟩
theorem dL_law__499 : gw_dc cL_law_ 499 (.aload_n 3) 1 500 := ⟨by decide +kernel, rfl⟩
theorem ms_RL_138 : gw_mst RL 138 yL_piece := ⟨gw_mem 1025 (by decide +kernel) rfl, gw_mem 1026 (by decide +kernel) rfl⟩
theorem dL_law__500 : gw_dc cL_law_ 500 (.invokestatic 138) 3 503 := ⟨by decide +kernel, rfl⟩
theorem dL_law__503 : gw_dc cL_law_ 503 (.istore 5) 2 505 := ⟨by decide +kernel, rfl⟩
theorem dL_law__505 : gw_dc cL_law_ 505 (.aload_n 2) 1 506 := ⟨by decide +kernel, rfl⟩
theorem ag_506 : gw_ag cL_law_ 506 1 := ⟨⟨by decide +kernel, rfl⟩, ⟨by decide +kernel, rfl⟩, ⟨by decide +kernel, rfl⟩, ⟨by decide +kernel, rfl⟩, ⟨by decide +kernel, rfl⟩⟩
theorem ag_512 : gw_ag cL_law_ 512 2 := ⟨⟨by decide +kernel, rfl⟩, ⟨by decide +kernel, rfl⟩, ⟨by decide +kernel, rfl⟩, ⟨by decide +kernel, rfl⟩, ⟨by decide +kernel, rfl⟩⟩
theorem mv_RL_140 : gw_mv RL 140 yX11_piece := ⟨gw_mem 1715 (by decide +kernel) rfl, gw_mem 1716 (by decide +kernel) rfl, gw_mem 1717 (by decide +kernel) rfl⟩
theorem my_X11_piece : gw_my yX11_piece cX11_piece 3 (some .int) 2 := ⟨gw_mem 1718 (by decide +kernel) rfl, gw_mem 106 (by decide +kernel) rfl, by decide +kernel, by decide⟩
theorem dL_law__518 : gw_dc cL_law_ 518 (.invokevirtual 140) 3 521 := ⟨by decide +kernel, rfl⟩
theorem dL_law__521 : gw_dc cL_law_ 521 (.istore 6) 2 523 := ⟨by decide +kernel, rfl⟩
theorem t1_523 : gw_t1 cL_law_ 523 := ⟨⟨by decide +kernel, rfl⟩, ⟨by decide +kernel, rfl⟩, ⟨by decide +kernel, rfl⟩, ⟨by decide +kernel, rfl⟩⟩
theorem t2_534 : gw_t2 cL_law_ 534 1722 := ⟨⟨by decide +kernel, rfl⟩, ⟨by decide +kernel, rfl⟩, ⟨by decide +kernel, rfl⟩, ⟨by decide +kernel, rfl⟩, ⟨by decide +kernel, rfl⟩, ⟨by decide +kernel, rfl⟩, ⟨by decide +kernel, rfl⟩, ⟨by decide +kernel, rfl⟩, ⟨by decide +kernel, rfl⟩, ⟨by decide +kernel, rfl⟩⟩
theorem dL_law__554 : gw_dc cL_law_ 554 (.aload_n 1) 1 555 := ⟨by decide +kernel, rfl⟩
theorem ag_555 : gw_ag cL_law_ 555 1 := ⟨⟨by decide +kernel, rfl⟩, ⟨by decide +kernel, rfl⟩, ⟨by decide +kernel, rfl⟩, ⟨by decide +kernel, rfl⟩, ⟨by decide +kernel, rfl⟩⟩
theorem ag_561 : gw_ag cL_law_ 561 2 := ⟨⟨by decide +kernel, rfl⟩, ⟨by decide +kernel, rfl⟩, ⟨by decide +kernel, rfl⟩, ⟨by decide +kernel, rfl⟩, ⟨by decide +kernel, rfl⟩⟩
theorem dL_law__567 : gw_dc cL_law_ 567 (.aload_n 3) 1 568 := ⟨by decide +kernel, rfl⟩
theorem ms_RL_141 : gw_mst RL 141 yL_part := ⟨gw_mem 1041 (by decide +kernel) rfl, gw_mem 1042 (by decide +kernel) rfl⟩
theorem dL_law__568 : gw_dc cL_law_ 568 (.invokestatic 141) 3 571 := ⟨by decide +kernel, rfl⟩
theorem dL_law__571 : gw_dc cL_law_ 571 (.istore 5) 2 573 := ⟨by decide +kernel, rfl⟩
theorem dL_law__573 : gw_dc cL_law_ 573 (.aload_n 2) 1 574 := ⟨by decide +kernel, rfl⟩
theorem ag_574 : gw_ag cL_law_ 574 1 := ⟨⟨by decide +kernel, rfl⟩, ⟨by decide +kernel, rfl⟩, ⟨by decide +kernel, rfl⟩, ⟨by decide +kernel, rfl⟩, ⟨by decide +kernel, rfl⟩⟩
theorem ag_580 : gw_ag cL_law_ 580 2 := ⟨⟨by decide +kernel, rfl⟩, ⟨by decide +kernel, rfl⟩, ⟨by decide +kernel, rfl⟩, ⟨by decide +kernel, rfl⟩, ⟨by decide +kernel, rfl⟩⟩
theorem mv_RL_143 : gw_mv RL 143 yX11_part := ⟨gw_mem 1690 (by decide +kernel) rfl, gw_mem 1691 (by decide +kernel) rfl, gw_mem 1692 (by decide +kernel) rfl⟩
theorem my_X11_part : gw_my yX11_part cX11_part 8 (some .int) 2 := ⟨gw_mem 1693 (by decide +kernel) rfl, gw_mem 106 (by decide +kernel) rfl, by decide +kernel, by decide⟩
theorem dL_law__586 : gw_dc cL_law_ 586 (.invokevirtual 143) 3 589 := ⟨by decide +kernel, rfl⟩
theorem dL_law__589 : gw_dc cL_law_ 589 (.istore 6) 2 591 := ⟨by decide +kernel, rfl⟩
theorem t1_591 : gw_t1 cL_law_ 591 := ⟨⟨by decide +kernel, rfl⟩, ⟨by decide +kernel, rfl⟩, ⟨by decide +kernel, rfl⟩, ⟨by decide +kernel, rfl⟩⟩
theorem t2_602 : gw_t2 cL_law_ 602 1654 := ⟨⟨by decide +kernel, rfl⟩, ⟨by decide +kernel, rfl⟩, ⟨by decide +kernel, rfl⟩, ⟨by decide +kernel, rfl⟩, ⟨by decide +kernel, rfl⟩, ⟨by decide +kernel, rfl⟩, ⟨by decide +kernel, rfl⟩, ⟨by decide +kernel, rfl⟩, ⟨by decide +kernel, rfl⟩, ⟨by decide +kernel, rfl⟩⟩
theorem dL_law__622 : gw_dc cL_law_ 622 (.aload_n 1) 1 623 := ⟨by decide +kernel, rfl⟩
theorem mv_RL_144 : gw_mv RL 144 yX10_whole := ⟨gw_mem 560 (by decide +kernel) rfl, gw_mem 561 (by decide +kernel) rfl, gw_mem 562 (by decide +kernel) rfl⟩
theorem my_X10_whole : gw_my yX10_whole cX10_whole 1 (some .int) 0 := ⟨gw_mem 563 (by decide +kernel) rfl, gw_mem 95 (by decide +kernel) rfl, by decide +kernel, by decide⟩
theorem dL_law__623 : gw_dc cL_law_ 623 (.invokevirtual 144) 3 626 := ⟨by decide +kernel, rfl⟩
theorem dL_law__626 : gw_dc cL_law_ 626 (.aload_n 2) 1 627 := ⟨by decide +kernel, rfl⟩
theorem mv_RL_147 : gw_mv RL 147 yX11_whole := ⟨gw_mem 1707 (by decide +kernel) rfl, gw_mem 1708 (by decide +kernel) rfl, gw_mem 1709 (by decide +kernel) rfl⟩
theorem my_X11_whole : gw_my yX11_whole cX11_whole 3 (some .int) 0 := ⟨gw_mem 1710 (by decide +kernel) rfl, gw_mem 106 (by decide +kernel) rfl, by decide +kernel, by decide⟩
theorem dL_law__627 : gw_dc cL_law_ 627 (.invokevirtual 147) 3 630 := ⟨by decide +kernel, rfl⟩
theorem dL_law__630 : gw_dc cL_law_ 630 (.if_icmp .eq 1643) 3 633 := ⟨by decide +kernel, rfl⟩
section LW
variable {X : Cx} {G : Gl} {L : Nat} {xs : Nat → Int32} {Z : State → Prop} {kc ks : Nat} {ad : Nat → Nat} {σ : Sg} {i : Nat} {a b c : Option AV}
set_option maxRecDepth 4000 in
theorem law_0 (fx : gw_FX X FL G) (nc : gw_NC (cS X)) (sc : gw_SC X G L xs) (hR : Rel σ σ) (hi : i + 6 ≤ L) (hb : kc + 4 ≤ 601024 ∧ ks + 24 ≤ 7293034) (kk : ∀ kc2 ks2 σ2 a b c, kc2 ≤ kc + 4 → ks2 ≤ ks + 24 → Rel σ2 σ2 → gw_W X FL G Z kc2 ks2 (gw_M0 ad) σ2 2273 (lsL i a b c) []) : gw_W X FL G Z kc ks (gw_M0 ad) σ 208 (lsL i a b c) [] := by
  refine g_aload_n fx dL_law__208 rfl ?_
  refine g_arg 1 fx sc ag_209 (by decide) hi ?_
  refine g_arg 2 fx sc ag_215 (by decide) hi ?_
  refine g_arg 3 fx sc ag_221 (by decide) hi ?_
  refine g_arg 4 fx sc ag_227 (by decide) hi ?_
  refine g_arg 5 fx sc ag_233 (by decide) hi ?_
  refine g_callVD fx dL_law__239 mv_RL_113 my_X10_feed (s_X10_feed ad σ ((xs (i + 1)).toInt) ((xs (i + 2)).toInt) ((xs (i + 3)).toInt) ((xs (i + 4)).toInt) ((xs (i + 5)).toInt)) o_0 rfl rfl rfl (Nat.le_of_ble_eq_true rfl) (by decide) ⟨by show _ ≤ 601024; omega, by show _ ≤ 7293034; omega⟩ ?_
  have hR1 := hR.oz (oz_feed σ ((xs (i + 1)).toInt) ((xs (i + 2)).toInt) ((xs (i + 3)).toInt) ((xs (i + 4)).toInt) ((xs (i + 5)).toInt))
  obtain ⟨-, hv, hR2⟩ := (al_feed hR1 ((xs (i + 1)).toInt) ((xs (i + 2)).toInt) ((xs (i + 3)).toInt) ((xs (i + 4)).toInt) ((xs (i + 5)).toInt)).fin (on_feed _ ((xs (i + 1)).toInt) ((xs (i + 2)).toInt) ((xs (i + 3)).toInt) ((xs (i + 4)).toInt) ((xs (i + 5)).toInt)) (fun _ _ _ => rfl)
  refine g_aload_n fx dL_law__242 rfl ?_
  refine g_arg 1 fx sc ag_243 (by decide) hi ?_
  refine g_arg 2 fx sc ag_249 (by decide) hi ?_
  refine g_arg 3 fx sc ag_255 (by decide) hi ?_
  refine g_arg 4 fx sc ag_261 (by decide) hi ?_
  refine g_arg 5 fx sc ag_267 (by decide) hi ?_
  refine g_callVD fx dL_law__273 mv_RL_116 my_X11_feed (s_X11_feed ad _ ((xs (i + 1)).toInt) ((xs (i + 2)).toInt) ((xs (i + 3)).toInt) ((xs (i + 4)).toInt) ((xs (i + 5)).toInt) ⟨hR1.tape.2.1, hR1.tape.2.2.1⟩) o_223 rfl rfl rfl (Nat.le_of_ble_eq_true rfl) (by decide) ⟨by show _ ≤ 601024; omega, by show _ ≤ 7293034; omega⟩ ?_
  exact g_icmp_eq (tgt := 2273) fx dL_law__276 (by decide) (fun _ => kk _ _ _ _ _ _ (by omega) (by omega) hR2) (fun h => absurd hv h)
set_option maxRecDepth 4000 in
theorem law_1 (fx : gw_FX X FL G) (nc : gw_NC (cS X)) (sc : gw_SC X G L xs) (hR : Rel σ σ) (hi : i + 6 ≤ L) (hb : kc + 4 ≤ 601024 ∧ ks + 24 ≤ 7293034) (kk : ∀ kc2 ks2 σ2 a b c, kc2 ≤ kc + 4 → ks2 ≤ ks + 24 → Rel σ2 σ2 → gw_W X FL G Z kc2 ks2 (gw_M0 ad) σ2 2273 (lsL i a b c) []) : gw_W X FL G Z kc ks (gw_M0 ad) σ 281 (lsL i a b c) [] := by
  refine g_aload_n fx dL_law__281 rfl ?_
  refine g_arg 1 fx sc ag_282 (by decide) hi ?_
  refine g_aload_n fx dL_law__288 rfl ?_
  refine g_callSH fx nc dL_law__289 ms_RL_117 myH_L_mill (w_mill ad σ ((xs (i + 1)).toInt) (al_mill hR ((xs (i + 1)).toInt)).mem) rfl rfl (Nat.le_of_ble_eq_true rfl) (by decide) ⟨by show _ ≤ 601024; omega, by show _ ≤ 7293034; omega⟩ (fun E hE => hE.elim) (fun r M2 σ2 hq _ => ?_)
  obtain ⟨rfl, ⟨h0, rfl, rfl⟩ | ⟨j, E, hE, hj, rfl, rfl⟩⟩ := hq
  · show gw_W X FL G Z _ _ _ _ _ _ (vI 0 :: [])
    have hR1 := hR.out (z := ((zMill σ ((xs (i + 1)).toInt)).2)) (oz_mill σ ((xs (i + 1)).toInt)) ((zMill σ ((xs (i + 1)).toInt)).1)
    have al := al_mill hR1 ((xs (i + 1)).toInt)
    rw [h0] at al
    obtain ⟨h5, h8, hR2⟩ := al.fin8 (on_mill _ ((xs (i + 1)).toInt))
    refine g_istore fx dL_law__292 (by decide) rfl rfl ?_
    refine g_aload_n fx dL_law__294 rfl ?_
    refine g_arg 1 fx sc ag_295 (by decide) hi ?_
    refine g_callVD fx dL_law__301 mv_RL_122 my_X11_mill (s_X11_mill ad _ ((xs (i + 1)).toInt) 672 rfl hR1.tape.2.2.1) o_223 rfl rfl rfl (Nat.le_of_ble_eq_true rfl) (by decide) ⟨by show _ ≤ 601024; omega, by show _ ≤ 7293034; omega⟩ ?_
    refine g_istore fx dL_law__304 (by decide) rfl rfl ?_
    refine g_t1 fx t1_306 ⟨by show _ ≤ 601024; omega, by show _ ≤ 7293034; omega⟩ h5 ?_
    exact g_t2 (tgt := 2273) fx t2_317 (by decide) (fun h => h8) (kk _ _ _ _ _ _ (by omega) (by omega) hR2)
  · show gw_W X FL G Z _ _ _ _ _ _ (vI (((j : Nat) : Int) + 1) :: [])
    obtain ⟨h5, hR2⟩ := (al_mill hR ((xs (i + 1)).toInt)).thr hE hj (by decide) (on_mill _ ((xs (i + 1)).toInt))
    refine g_istore fx dL_law__292 (by decide) rfl rfl ?_
    refine g_aload_n fx dL_law__294 rfl ?_
    refine g_arg 1 fx sc ag_295 (by decide) hi ?_
    refine g_callVD fx dL_law__301 mv_RL_122 my_X11_mill (s_X11_mill ad _ ((xs (i + 1)).toInt) 672 rfl hR.tape.2.2.1) o_223 rfl rfl rfl (Nat.le_of_ble_eq_true rfl) (by decide) ⟨by show _ ≤ 601024; omega, by show _ ≤ 7293034; omega⟩ ?_
    refine g_istore fx dL_law__304 (by decide) rfl rfl ?_
    refine g_t1 fx t1_306 ⟨by show _ ≤ 601024; omega, by show _ ≤ 7293034; omega⟩ h5 ?_
    exact g_t2 (tgt := 2273) fx t2_317 (by decide) (fun h => absurd h (by omega)) (kk _ _ _ _ _ _ (by omega) (by omega) hR2)
set_option maxRecDepth 4000 in
theorem law_2 (fx : gw_FX X FL G) (nc : gw_NC (cS X)) (sc : gw_SC X G L xs) (hR : Rel σ σ) (hi : i + 6 ≤ L) (hb : kc + 4 ≤ 601024 ∧ ks + 24 ≤ 7293034) (kk : ∀ kc2 ks2 σ2 a b c, kc2 ≤ kc + 4 → ks2 ≤ ks + 24 → Rel σ2 σ2 → gw_W X FL G Z kc2 ks2 (gw_M0 ad) σ2 2273 (lsL i a b c) []) : gw_W X FL G Z kc ks (gw_M0 ad) σ 337 (lsL i a b c) [] := by
  refine g_aload_n fx dL_law__337 rfl ?_
  refine g_arg 1 fx sc ag_338 (by decide) hi ?_
  refine g_aload_n fx dL_law__344 rfl ?_
  refine g_callSH fx nc dL_law__345 ms_RL_127 myH_L_law (w_law ad σ ((xs (i + 1)).toInt) (al_law hR ((xs (i + 1)).toInt)).mem) rfl rfl (Nat.le_of_ble_eq_true rfl) (by decide) ⟨by show _ ≤ 601024; omega, by show _ ≤ 7293034; omega⟩ (fun E hE => hE.elim) (fun r M2 σ2 hq _ => ?_)
  obtain ⟨rfl, ⟨h0, rfl, rfl⟩ | ⟨j, E, hE, hj, rfl, rfl⟩⟩ := hq
  · show gw_W X FL G Z _ _ _ _ _ _ (vI 0 :: [])
    have hR1 := hR.out (z := ((zLaw σ ((xs (i + 1)).toInt)).2)) (oz_law σ ((xs (i + 1)).toInt)) ((zLaw σ ((xs (i + 1)).toInt)).1)
    have al := al_law hR1 ((xs (i + 1)).toInt)
    rw [h0] at al
    obtain ⟨h5, h8, hR2⟩ := al.fin8 (on_law _ ((xs (i + 1)).toInt))
    refine g_istore fx dL_law__348 (by decide) rfl rfl ?_
    refine g_aload_n fx dL_law__350 rfl ?_
    refine g_arg 1 fx sc ag_351 (by decide) hi ?_
    refine g_callVD fx dL_law__357 mv_RL_129 my_X11_law (s_X11_law ad _ ((xs (i + 1)).toInt) hR1.tape.2.2.1) o_223 rfl rfl rfl (Nat.le_of_ble_eq_true rfl) (by decide) ⟨by show _ ≤ 601024; omega, by show _ ≤ 7293034; omega⟩ ?_
    refine g_istore fx dL_law__360 (by decide) rfl rfl ?_
    refine g_t1 fx t1_362 ⟨by show _ ≤ 601024; omega, by show _ ≤ 7293034; omega⟩ h5 ?_
    exact g_t2 (tgt := 2273) fx t2_373 (by decide) (fun h => h8) (kk _ _ _ _ _ _ (by omega) (by omega) hR2)
  · show gw_W X FL G Z _ _ _ _ _ _ (vI (((j : Nat) : Int) + 1) :: [])
    obtain ⟨h5, hR2⟩ := (al_law hR ((xs (i + 1)).toInt)).thr hE hj (by decide) (on_law _ ((xs (i + 1)).toInt))
    refine g_istore fx dL_law__348 (by decide) rfl rfl ?_
    refine g_aload_n fx dL_law__350 rfl ?_
    refine g_arg 1 fx sc ag_351 (by decide) hi ?_
    refine g_callVD fx dL_law__357 mv_RL_129 my_X11_law (s_X11_law ad _ ((xs (i + 1)).toInt) hR.tape.2.2.1) o_223 rfl rfl rfl (Nat.le_of_ble_eq_true rfl) (by decide) ⟨by show _ ≤ 601024; omega, by show _ ≤ 7293034; omega⟩ ?_
    refine g_istore fx dL_law__360 (by decide) rfl rfl ?_
    refine g_t1 fx t1_362 ⟨by show _ ≤ 601024; omega, by show _ ≤ 7293034; omega⟩ h5 ?_
    exact g_t2 (tgt := 2273) fx t2_373 (by decide) (fun h => absurd h (by omega)) (kk _ _ _ _ _ _ (by omega) (by omega) hR2)
set_option maxRecDepth 4000 in
theorem law_3 (fx : gw_FX X FL G) (nc : gw_NC (cS X)) (sc : gw_SC X G L xs) (hR : Rel σ σ) (hi : i + 6 ≤ L) (hb : kc + 4 ≤ 601024 ∧ ks + 24 ≤ 7293034) (kk : ∀ kc2 ks2 σ2 a b c, kc2 ≤ kc + 4 → ks2 ≤ ks + 24 → Rel σ2 σ2 → gw_W X FL G Z kc2 ks2 (gw_M0 ad) σ2 2273 (lsL i a b c) []) : gw_W X FL G Z kc ks (gw_M0 ad) σ 393 (lsL i a b c) [] := by
  refine g_aload_n fx dL_law__393 rfl ?_
  refine g_arg 1 fx sc ag_394 (by decide) hi ?_
  refine g_callVD fx dL_law__400 mv_RL_130 my_X10_fault (s_X10_fault ad σ ((xs (i + 1)).toInt)) o_0 rfl rfl rfl (Nat.le_of_ble_eq_true rfl) (by decide) ⟨by show _ ≤ 601024; omega, by show _ ≤ 7293034; omega⟩ ?_
  have hR1 := hR.oz (Oz.rf σ)
  obtain ⟨-, hv, hR2⟩ := (al_fault hR1 ((xs (i + 1)).toInt)).fin (on_t0 _) (fun _ _ _ => rfl)
  refine g_aload_n fx dL_law__403 rfl ?_
  refine g_arg 1 fx sc ag_404 (by decide) hi ?_
  refine g_callVD fx dL_law__410 mv_RL_133 my_X11_fault (s_X11_fault ad _ ((xs (i + 1)).toInt) ) o_223 rfl rfl rfl (Nat.le_of_ble_eq_true rfl) (by decide) ⟨by show _ ≤ 601024; omega, by show _ ≤ 7293034; omega⟩ ?_
  exact g_icmp_eq (tgt := 2273) fx dL_law__413 (by decide) (fun _ => kk _ _ _ _ _ _ (by omega) (by omega) hR2) (fun h => absurd hv h)
set_option maxRecDepth 4000 in
theorem law_4 (fx : gw_FX X FL G) (nc : gw_NC (cS X)) (sc : gw_SC X G L xs) (hR : Rel σ σ) (hi : i + 6 ≤ L) (hb : kc + 4 ≤ 601024 ∧ ks + 24 ≤ 7293034) (kk : ∀ kc2 ks2 σ2 a b c, kc2 ≤ kc + 4 → ks2 ≤ ks + 24 → Rel σ2 σ2 → gw_W X FL G Z kc2 ks2 (gw_M0 ad) σ2 2273 (lsL i a b c) []) : gw_W X FL G Z kc ks (gw_M0 ad) σ 418 (lsL i a b c) [] := by
  refine g_aload_n fx dL_law__418 rfl ?_
  refine g_arg 1 fx sc ag_419 (by decide) hi ?_
  refine g_arg 2 fx sc ag_425 (by decide) hi ?_
  refine g_aload_n fx dL_law__431 rfl ?_
  refine g_callSH fx nc dL_law__432 ms_RL_134 myH_L_sack (w_sack ad σ ((xs (i + 1)).toInt) ((xs (i + 2)).toInt) (al_sack hR ((xs (i + 1)).toInt) ((xs (i + 2)).toInt)).mem) rfl rfl (Nat.le_of_ble_eq_true rfl) (by decide) ⟨by show _ ≤ 601024; omega, by show _ ≤ 7293034; omega⟩ (fun E hE => hE.elim) (fun r M2 σ2 hq _ => ?_)
  obtain ⟨rfl, ⟨h0, rfl, rfl⟩ | ⟨j, E, hE, hj, rfl, rfl⟩⟩ := hq
  · show gw_W X FL G Z _ _ _ _ _ _ (vI 0 :: [])
    have hR1 := hR.out (z := (σ)) (Oz.rf σ) ((zSack σ ((xs (i + 1)).toInt) ((xs (i + 2)).toInt)))
    have al := al_sack hR1 ((xs (i + 1)).toInt) ((xs (i + 2)).toInt)
    rw [h0] at al
    obtain ⟨h5, h8, hR2⟩ := al.fin8 (on_sack _ ((xs (i + 1)).toInt) ((xs (i + 2)).toInt))
    refine g_istore fx dL_law__435 (by decide) rfl rfl ?_
    refine g_aload_n fx dL_law__437 rfl ?_
    refine g_arg 1 fx sc ag_438 (by decide) hi ?_
    refine g_arg 2 fx sc ag_444 (by decide) hi ?_
    refine g_callVD fx dL_law__450 mv_RL_137 my_X11_sack (s_X11_sack ad _ ((xs (i + 1)).toInt) ((xs (i + 2)).toInt) hR1.tw.sacks) o_223 rfl rfl rfl (Nat.le_of_ble_eq_true rfl) (by decide) ⟨by show _ ≤ 601024; omega, by show _ ≤ 7293034; omega⟩ ?_
    refine g_istore fx dL_law__453 (by decide) rfl rfl ?_
    refine g_t1 fx t1_455 ⟨by show _ ≤ 601024; omega, by show _ ≤ 7293034; omega⟩ h5 ?_
    exact g_t2 (tgt := 2273) fx t2_466 (by decide) (fun h => h8) (kk _ _ _ _ _ _ (by omega) (by omega) hR2)
  · show gw_W X FL G Z _ _ _ _ _ _ (vI (((j : Nat) : Int) + 1) :: [])
    obtain ⟨h5, hR2⟩ := (al_sack hR ((xs (i + 1)).toInt) ((xs (i + 2)).toInt)).thr hE hj (by decide) (on_sack _ ((xs (i + 1)).toInt) ((xs (i + 2)).toInt))
    refine g_istore fx dL_law__435 (by decide) rfl rfl ?_
    refine g_aload_n fx dL_law__437 rfl ?_
    refine g_arg 1 fx sc ag_438 (by decide) hi ?_
    refine g_arg 2 fx sc ag_444 (by decide) hi ?_
    refine g_callVD fx dL_law__450 mv_RL_137 my_X11_sack (s_X11_sack ad _ ((xs (i + 1)).toInt) ((xs (i + 2)).toInt) hR.tw.sacks) o_223 rfl rfl rfl (Nat.le_of_ble_eq_true rfl) (by decide) ⟨by show _ ≤ 601024; omega, by show _ ≤ 7293034; omega⟩ ?_
    refine g_istore fx dL_law__453 (by decide) rfl rfl ?_
    refine g_t1 fx t1_455 ⟨by show _ ≤ 601024; omega, by show _ ≤ 7293034; omega⟩ h5 ?_
    exact g_t2 (tgt := 2273) fx t2_466 (by decide) (fun h => absurd h (by omega)) (kk _ _ _ _ _ _ (by omega) (by omega) hR2)
set_option maxRecDepth 4000 in
theorem law_5 (fx : gw_FX X FL G) (nc : gw_NC (cS X)) (sc : gw_SC X G L xs) (hR : Rel σ σ) (hi : i + 6 ≤ L) (hb : kc + 4 ≤ 601024 ∧ ks + 24 ≤ 7293034) (kk : ∀ kc2 ks2 σ2 a b c, kc2 ≤ kc + 4 → ks2 ≤ ks + 24 → Rel σ2 σ2 → gw_W X FL G Z kc2 ks2 (gw_M0 ad) σ2 2273 (lsL i a b c) []) : gw_W X FL G Z kc ks (gw_M0 ad) σ 486 (lsL i a b c) [] := by
  refine g_aload_n fx dL_law__486 rfl ?_
  refine g_arg 1 fx sc ag_487 (by decide) hi ?_
  refine g_arg 2 fx sc ag_493 (by decide) hi ?_
  refine g_aload_n fx dL_law__499 rfl ?_
  refine g_callSH fx nc dL_law__500 ms_RL_138 myH_L_piece (w_piece ad σ ((xs (i + 1)).toInt) ((xs (i + 2)).toInt) (al_piece hR ((xs (i + 1)).toInt) ((xs (i + 2)).toInt)).mem) rfl rfl (Nat.le_of_ble_eq_true rfl) (by decide) ⟨by show _ ≤ 601024; omega, by show _ ≤ 7293034; omega⟩ (fun E hE => hE.elim) (fun r M2 σ2 hq _ => ?_)
  obtain ⟨rfl, ⟨h0, rfl, rfl⟩ | ⟨j, E, hE, hj, rfl, rfl⟩⟩ := hq
  · show gw_W X FL G Z _ _ _ _ _ _ (vI 0 :: [])
    have hR1 := hR.out (z := (go σ 26 4)) (oz_go1 σ) ((zPiece (go σ 26 4) ((xs (i + 1)).toInt) ((xs (i + 2)).toInt)))
    have al := al_piece hR1 ((xs (i + 1)).toInt) ((xs (i + 2)).toInt)
    rw [h0] at al
    obtain ⟨h5, h8, hR2⟩ := al.fin8 (on_piece _ ((xs (i + 1)).toInt) ((xs (i + 2)).toInt))
    refine g_istore fx dL_law__503 (by decide) rfl rfl ?_
    refine g_aload_n fx dL_law__505 rfl ?_
    refine g_arg 1 fx sc ag_506 (by decide) hi ?_
    refine g_arg 2 fx sc ag_512 (by decide) hi ?_
    refine g_callVD fx dL_law__518 mv_RL_140 my_X11_piece (s_X11_piece ad _ ((xs (i + 1)).toInt) ((xs (i + 2)).toInt) hR1.tw) o_223 rfl rfl rfl (Nat.le_of_ble_eq_true rfl) (by decide) ⟨by show _ ≤ 601024; omega, by show _ ≤ 7293034; omega⟩ ?_
    refine g_istore fx dL_law__521 (by decide) rfl rfl ?_
    refine g_t1 fx t1_523 ⟨by show _ ≤ 601024; omega, by show _ ≤ 7293034; omega⟩ h5 ?_
    exact g_t2 (tgt := 2273) fx t2_534 (by decide) (fun h => h8) (kk _ _ _ _ _ _ (by omega) (by omega) hR2)
  · show gw_W X FL G Z _ _ _ _ _ _ (vI (((j : Nat) : Int) + 1) :: [])
    obtain ⟨h5, hR2⟩ := (al_piece hR ((xs (i + 1)).toInt) ((xs (i + 2)).toInt)).thr hE hj (by decide) (on_piece _ ((xs (i + 1)).toInt) ((xs (i + 2)).toInt))
    refine g_istore fx dL_law__503 (by decide) rfl rfl ?_
    refine g_aload_n fx dL_law__505 rfl ?_
    refine g_arg 1 fx sc ag_506 (by decide) hi ?_
    refine g_arg 2 fx sc ag_512 (by decide) hi ?_
    refine g_callVD fx dL_law__518 mv_RL_140 my_X11_piece (s_X11_piece ad _ ((xs (i + 1)).toInt) ((xs (i + 2)).toInt) hR.tw) o_223 rfl rfl rfl (Nat.le_of_ble_eq_true rfl) (by decide) ⟨by show _ ≤ 601024; omega, by show _ ≤ 7293034; omega⟩ ?_
    refine g_istore fx dL_law__521 (by decide) rfl rfl ?_
    refine g_t1 fx t1_523 ⟨by show _ ≤ 601024; omega, by show _ ≤ 7293034; omega⟩ h5 ?_
    exact g_t2 (tgt := 2273) fx t2_534 (by decide) (fun h => absurd h (by omega)) (kk _ _ _ _ _ _ (by omega) (by omega) hR2)
set_option maxRecDepth 4000 in
theorem law_6 (fx : gw_FX X FL G) (nc : gw_NC (cS X)) (sc : gw_SC X G L xs) (hR : Rel σ σ) (hi : i + 6 ≤ L) (hb : kc + 4 ≤ 601024 ∧ ks + 24 ≤ 7293034) (kk : ∀ kc2 ks2 σ2 a b c, kc2 ≤ kc + 4 → ks2 ≤ ks + 24 → Rel σ2 σ2 → gw_W X FL G Z kc2 ks2 (gw_M0 ad) σ2 2273 (lsL i a b c) []) : gw_W X FL G Z kc ks (gw_M0 ad) σ 554 (lsL i a b c) [] := by
  refine g_aload_n fx dL_law__554 rfl ?_
  refine g_arg 1 fx sc ag_555 (by decide) hi ?_
  refine g_arg 2 fx sc ag_561 (by decide) hi ?_
  refine g_aload_n fx dL_law__567 rfl ?_
  refine g_callSH fx nc dL_law__568 ms_RL_141 myH_L_part (w_part ad σ ((xs (i + 1)).toInt) ((xs (i + 2)).toInt) (al_part hR ((xs (i + 1)).toInt) ((xs (i + 2)).toInt)).mem) rfl rfl (Nat.le_of_ble_eq_true rfl) (by decide) ⟨by show _ ≤ 601024; omega, by show _ ≤ 7293034; omega⟩ (fun E hE => hE.elim) (fun r M2 σ2 hq _ => ?_)
  obtain ⟨rfl, ⟨h0, rfl, rfl⟩ | ⟨j, E, hE, hj, rfl, rfl⟩⟩ := hq
  · show gw_W X FL G Z _ _ _ _ _ _ (vI 0 :: [])
    have hR1 := hR.out (z := (zPart σ ((xs (i + 1)).toInt) (trT ((xs (i + 2)).toInt)))) (oz_part σ ((xs (i + 1)).toInt) _) ((mPcs (zPart σ ((xs (i + 1)).toInt) (trT ((xs (i + 2)).toInt))) 4))
    have al := al_part hR1 ((xs (i + 1)).toInt) ((xs (i + 2)).toInt)
    rw [h0] at al
    obtain ⟨h5, h8, hR2⟩ := al.fin8 (on_part _ ((xs (i + 1)).toInt) ((xs (i + 2)).toInt))
    refine g_istore fx dL_law__571 (by decide) rfl rfl ?_
    refine g_aload_n fx dL_law__573 rfl ?_
    refine g_arg 1 fx sc ag_574 (by decide) hi ?_
    refine g_arg 2 fx sc ag_580 (by decide) hi ?_
    refine g_callVD fx dL_law__586 mv_RL_143 my_X11_part (s_X11_part ad _ ((xs (i + 1)).toInt) ((xs (i + 2)).toInt) hR1.tw hR1.trw) o_223 rfl rfl rfl (Nat.le_of_ble_eq_true rfl) (by decide) ⟨by show _ ≤ 601024; omega, by show _ ≤ 7293034; omega⟩ ?_
    refine g_istore fx dL_law__589 (by decide) rfl rfl ?_
    refine g_t1 fx t1_591 ⟨by show _ ≤ 601024; omega, by show _ ≤ 7293034; omega⟩ h5 ?_
    exact g_t2 (tgt := 2273) fx t2_602 (by decide) (fun h => h8) (kk _ _ _ _ _ _ (by omega) (by omega) hR2)
  · show gw_W X FL G Z _ _ _ _ _ _ (vI (((j : Nat) : Int) + 1) :: [])
    obtain ⟨h5, hR2⟩ := (al_part hR ((xs (i + 1)).toInt) ((xs (i + 2)).toInt)).thr hE hj (by decide) (on_part _ ((xs (i + 1)).toInt) ((xs (i + 2)).toInt))
    refine g_istore fx dL_law__571 (by decide) rfl rfl ?_
    refine g_aload_n fx dL_law__573 rfl ?_
    refine g_arg 1 fx sc ag_574 (by decide) hi ?_
    refine g_arg 2 fx sc ag_580 (by decide) hi ?_
    refine g_callVD fx dL_law__586 mv_RL_143 my_X11_part (s_X11_part ad _ ((xs (i + 1)).toInt) ((xs (i + 2)).toInt) hR.tw hR.trw) o_223 rfl rfl rfl (Nat.le_of_ble_eq_true rfl) (by decide) ⟨by show _ ≤ 601024; omega, by show _ ≤ 7293034; omega⟩ ?_
    refine g_istore fx dL_law__589 (by decide) rfl rfl ?_
    refine g_t1 fx t1_591 ⟨by show _ ≤ 601024; omega, by show _ ≤ 7293034; omega⟩ h5 ?_
    exact g_t2 (tgt := 2273) fx t2_602 (by decide) (fun h => absurd h (by omega)) (kk _ _ _ _ _ _ (by omega) (by omega) hR2)
set_option maxRecDepth 4000 in
theorem law_7 (fx : gw_FX X FL G) (nc : gw_NC (cS X)) (sc : gw_SC X G L xs) (hR : Rel σ σ) (hi : i + 6 ≤ L) (hb : kc + 4 ≤ 601024 ∧ ks + 24 ≤ 7293034) (kk : ∀ kc2 ks2 σ2 a b c, kc2 ≤ kc + 4 → ks2 ≤ ks + 24 → Rel σ2 σ2 → gw_W X FL G Z kc2 ks2 (gw_M0 ad) σ2 2273 (lsL i a b c) []) : gw_W X FL G Z kc ks (gw_M0 ad) σ 622 (lsL i a b c) [] := by
  refine g_aload_n fx dL_law__622 rfl ?_
  refine g_callVD fx dL_law__623 mv_RL_144 my_X10_whole (s_X10_whole ad σ ) o_0 rfl rfl rfl (Nat.le_of_ble_eq_true rfl) (by decide) ⟨by show _ ≤ 601024; omega, by show _ ≤ 7293034; omega⟩ ?_
  have hR1 := hR.oz (oz_whole σ 4 (by decide))
  obtain ⟨-, hv, hR2⟩ := (al_whole hR1 ).fin (on_whole _ ) (fun _ _ _ => rfl)
  refine g_aload_n fx dL_law__626 rfl ?_
  refine g_callVD fx dL_law__627 mv_RL_147 my_X11_whole (s_X11_whole ad _  hR1.tw) o_223 rfl rfl rfl (Nat.le_of_ble_eq_true rfl) (by decide) ⟨by show _ ≤ 601024; omega, by show _ ≤ 7293034; omega⟩ ?_
  exact g_icmp_eq (tgt := 2273) fx dL_law__630 (by decide) (fun _ => kk _ _ _ _ _ _ (by omega) (by omega) hR2) (fun h => absurd hv h)
end LW
