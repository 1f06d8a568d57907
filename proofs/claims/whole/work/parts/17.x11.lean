theorem ws_in6 : ∀ w ∈ u_ws RX11 TX11 5, w ∈ j_ws := j_in_r _ [397, 399, 401, 403, 405] (by decide +kernel) (by decide +kernel)
theorem fRX11_10 : j_F RX11 10 6 0 := ⟨RX11, TX11, 5, rfl, by decide, ws_in6, j_in 392 (by decide +kernel) (by decide +kernel)⟩
theorem fRX11_33 : j_F RX11 33 2 1 := ⟨RX6, TX6, 3, rfl, by decide, ws_in2, j_in 332 (by decide +kernel) (by decide +kernel)⟩
theorem cvRX11_55 : j_CV RX11 55 yX1_mayBegin := ⟨Or.inl (j_in 454 (by decide +kernel) (by decide +kernel)), j_in 455 (by decide +kernel) (by decide +kernel), j_in 456 (by decide +kernel) (by decide +kernel)⟩
theorem cvRX11_59 : j_CV RX11 59 yX1_access := ⟨Or.inl (j_in 465 (by decide +kernel) (by decide +kernel)), j_in 466 (by decide +kernel) (by decide +kernel), j_in 467 (by decide +kernel) (by decide +kernel)⟩
theorem cvRX11_74 : j_CV RX11 74 yX1_hasTime := ⟨Or.inl (j_in 664 (by decide +kernel) (by decide +kernel)), j_in 665 (by decide +kernel) (by decide +kernel), j_in 666 (by decide +kernel) (by decide +kernel)⟩
theorem cvRX11_84 : j_CV RX11 84 yX1_calmRounds := ⟨Or.inl (j_in 691 (by decide +kernel) (by decide +kernel)), j_in 692 (by decide +kernel) (by decide +kernel), j_in 693 (by decide +kernel) (by decide +kernel)⟩
theorem cvRX11_173 : j_CV RX11 173 yX1_isCpu := ⟨Or.inl (j_in 900 (by decide +kernel) (by decide +kernel)), j_in 459 (by decide +kernel) (by decide +kernel), j_in 460 (by decide +kernel) (by decide +kernel)⟩
theorem cvRX11_144 : j_CS RX11 144 yX11_isLine := ⟨Or.inl (j_in 885 (by decide +kernel) (by decide +kernel)), j_in 463 (by decide +kernel) (by decide +kernel)⟩
theorem cvRX11_332 : j_CV RX11 332 yX1_wouldHit := ⟨Or.inl (j_in 1117 (by decide +kernel) (by decide +kernel)), j_in 470 (by decide +kernel) (by decide +kernel), j_in 471 (by decide +kernel) (by decide +kernel)⟩
theorem fRX11_233 : j_F RX11 233 2 0 := ⟨RX6, TX6, 3, rfl, by decide, ws_in2, j_in 330 (by decide +kernel) (by decide +kernel)⟩
theorem fRX11_299 : j_F RX11 299 1 6 := ⟨RX5, TX5, 15, rfl, by decide, ws_in1, j_in 164 (by decide +kernel) (by decide +kernel)⟩
theorem fRX11_302 : j_F RX11 302 1 7 := ⟨RX5, TX5, 15, rfl, by decide, ws_in1, j_in 167 (by decide +kernel) (by decide +kernel)⟩
theorem fRX11_305 : j_F RX11 305 1 8 := ⟨RX5, TX5, 15, rfl, by decide, ws_in1, j_in 169 (by decide +kernel) (by decide +kernel)⟩
theorem fRX11_308 : j_F RX11 308 1 9 := ⟨RX5, TX5, 15, rfl, by decide, ws_in1, j_in 171 (by decide +kernel) (by decide +kernel)⟩
theorem fRX11_311 : j_F RX11 311 1 10 := ⟨RX5, TX5, 15, rfl, by decide, ws_in1, j_in 173 (by decide +kernel) (by decide +kernel)⟩
theorem fRX11_67 : j_F RX11 67 0 8 := ⟨RX1, TX1, 15, rfl, by decide, ws_in0, j_in 242 (by decide +kernel) (by decide +kernel)⟩
theorem cvRX11_70 : j_CV RX11 70 yX1_deliverAt := ⟨Or.inl (j_in 565 (by decide +kernel) (by decide +kernel)), j_in 566 (by decide +kernel) (by decide +kernel), j_in 567 (by decide +kernel) (by decide +kernel)⟩
theorem fRX11_19 : j_F RX11 19 6 1 := ⟨RX11, TX11, 5, rfl, by decide, ws_in6, j_in 393 (by decide +kernel) (by decide +kernel)⟩
theorem cb_X8_cut : j_CB yX8_cut cX8_cut 2 (some .boolean) 1 := ⟨by decide +kernel, j_in 715 (by decide +kernel) (by decide +kernel), j_in 113 (by decide +kernel) (by decide +kernel), by decide +kernel, by decide +kernel, by decide +kernel⟩
theorem cvRX11_97 : j_CV RX11 97 yX8_cut := ⟨Or.inl (j_in 712 (by decide +kernel) (by decide +kernel)), j_in 713 (by decide +kernel) (by decide +kernel), j_in 714 (by decide +kernel) (by decide +kernel)⟩
theorem cvRX11_63 : j_CV RX11 63 yX1_evictIfAllowed := ⟨Or.inl (j_in 538 (by decide +kernel) (by decide +kernel)), j_in 539 (by decide +kernel) (by decide +kernel), j_in 540 (by decide +kernel) (by decide +kernel)⟩
theorem fRX11_131 : j_F RX11 131 3 5 := ⟨RX8, TX8, 13, rfl, by decide, ws_in3, j_in 356 (by decide +kernel) (by decide +kernel)⟩
theorem fRX11_134 : j_F RX11 134 3 6 := ⟨RX8, TX8, 13, rfl, by decide, ws_in3, j_in 358 (by decide +kernel) (by decide +kernel)⟩
theorem cb_X8_hasSpace : j_CB yX8_hasSpace cX8_hasSpace 1 (some .boolean) 0 := ⟨by decide +kernel, j_in 703 (by decide +kernel) (by decide +kernel), j_in 113 (by decide +kernel) (by decide +kernel), by decide +kernel, by decide +kernel, by decide +kernel⟩
theorem cvRX11_87 : j_CV RX11 87 yX8_hasSpace := ⟨Or.inl (j_in 700 (by decide +kernel) (by decide +kernel)), j_in 701 (by decide +kernel) (by decide +kernel), j_in 702 (by decide +kernel) (by decide +kernel)⟩
theorem cb_X8_put : j_CB yX8_put cX8_put 3 none 1 := ⟨by decide +kernel, j_in 707 (by decide +kernel) (by decide +kernel), j_in 113 (by decide +kernel) (by decide +kernel), by decide +kernel, by decide +kernel, by decide +kernel⟩
theorem cvRX11_91 : j_CV RX11 91 yX8_put := ⟨Or.inl (j_in 704 (by decide +kernel) (by decide +kernel)), j_in 705 (by decide +kernel) (by decide +kernel), j_in 706 (by decide +kernel) (by decide +kernel)⟩
theorem fRX11_94 : j_F RX11 94 3 4 := ⟨RX8, TX8, 13, rfl, by decide, ws_in3, j_in 354 (by decide +kernel) (by decide +kernel)⟩
theorem fRX11_323 : j_F RX11 323 1 1 := ⟨RX5, TX5, 15, rfl, by decide, ws_in1, j_in 151 (by decide +kernel) (by decide +kernel)⟩
theorem fRX11_326 : j_F RX11 326 1 2 := ⟨RX5, TX5, 15, rfl, by decide, ws_in1, j_in 154 (by decide +kernel) (by decide +kernel)⟩
theorem fRX11_329 : j_F RX11 329 1 3 := ⟨RX5, TX5, 15, rfl, by decide, ws_in1, j_in 157 (by decide +kernel) (by decide +kernel)⟩
theorem cvRX11_137 : j_CV RX11 137 yX6_goRounds := ⟨Or.inl (j_in 876 (by decide +kernel) (by decide +kernel)), j_in 834 (by decide +kernel) (by decide +kernel), j_in 835 (by decide +kernel) (by decide +kernel)⟩
theorem fRX11_314 : j_F RX11 314 0 4 := ⟨RX1, TX1, 15, rfl, by decide, ws_in0, j_in 233 (by decide +kernel) (by decide +kernel)⟩
theorem cb_X5_figure : j_CB yX5_figure cX5_figure 2 (some .int) 1 := ⟨by decide +kernel, j_in 1165 (by decide +kernel) (by decide +kernel), j_in 109 (by decide +kernel) (by decide +kernel), by decide +kernel, by decide +kernel, by decide +kernel⟩
theorem cvRX11_349 : j_CV RX11 349 yX5_figure := ⟨Or.inl (j_in 1162 (by decide +kernel) (by decide +kernel)), j_in 1163 (by decide +kernel) (by decide +kernel), j_in 1164 (by decide +kernel) (by decide +kernel)⟩
theorem fRX11_23 : j_F RX11 23 2 2 := ⟨RX6, TX6, 3, rfl, by decide, ws_in2, j_in 334 (by decide +kernel) (by decide +kernel)⟩
theorem fRX11_122 : j_F RX11 122 4 6 := ⟨RX9, TX9, 8, rfl, by decide, ws_in4, j_in 309 (by decide +kernel) (by decide +kernel)⟩
theorem fRX11_125 : j_F RX11 125 4 5 := ⟨RX9, TX9, 8, rfl, by decide, ws_in4, j_in 306 (by decide +kernel) (by decide +kernel)⟩
theorem fRX11_27 : j_F RX11 27 4 7 := ⟨RX9, TX9, 8, rfl, by decide, ws_in4, j_in 310 (by decide +kernel) (by decide +kernel)⟩
theorem cb_X1_figure : j_CB yX1_figure cX1_figure 2 (some .int) 1 := ⟨by decide +kernel, j_in 1153 (by decide +kernel) (by decide +kernel), j_in 110 (by decide +kernel) (by decide +kernel), by decide +kernel, by decide +kernel, by decide +kernel⟩
theorem cvRX11_346 : j_CV RX11 346 yX1_figure := ⟨Or.inl (j_in 1150 (by decide +kernel) (by decide +kernel)), j_in 1151 (by decide +kernel) (by decide +kernel), j_in 1152 (by decide +kernel) (by decide +kernel)⟩
theorem fRX11_215 : j_F RX11 215 0 2 := ⟨RX1, TX1, 15, rfl, by decide, ws_in0, j_in 229 (by decide +kernel) (by decide +kernel)⟩
theorem cvRX11_218 : j_CS RX11 218 yX4_from := ⟨Or.inl (j_in 924 (by decide +kernel) (by decide +kernel)), j_in 573 (by decide +kernel) (by decide +kernel)⟩
theorem cvRX11_223 : j_CS RX11 223 yX4_to := ⟨Or.inl (j_in 925 (by decide +kernel) (by decide +kernel)), j_in 576 (by decide +kernel) (by decide +kernel)⟩
theorem cvRX11_226 : j_CS RX11 226 yX4_kind := ⟨Or.inl (j_in 926 (by decide +kernel) (by decide +kernel)), j_in 520 (by decide +kernel) (by decide +kernel)⟩
theorem cvRX11_229 : j_CS RX11 229 yX4_line := ⟨Or.inl (j_in 927 (by decide +kernel) (by decide +kernel)), j_in 579 (by decide +kernel) (by decide +kernel)⟩
theorem cvRX11_230 : j_CS RX11 230 yX4_inside := ⟨Or.inl (j_in 928 (by decide +kernel) (by decide +kernel)), j_in 929 (by decide +kernel) (by decide +kernel)⟩
theorem cvRX11_176 : j_CV RX11 176 yX1_missOf := ⟨Or.inl (j_in 901 (by decide +kernel) (by decide +kernel)), j_in 428 (by decide +kernel) (by decide +kernel), j_in 429 (by decide +kernel) (by decide +kernel)⟩
theorem cvRX11_179 : j_CS RX11 179 yX7_line := ⟨Or.inl (j_in 902 (by decide +kernel) (by decide +kernel)), j_in 506 (by decide +kernel) (by decide +kernel)⟩
theorem cvRX11_184 : j_CS RX11 184 yX7_what := ⟨Or.inl (j_in 903 (by decide +kernel) (by decide +kernel)), j_in 509 (by decide +kernel) (by decide +kernel)⟩
theorem cvRX11_187 : j_CS RX11 187 yX7_value := ⟨Or.inl (j_in 904 (by decide +kernel) (by decide +kernel)), j_in 612 (by decide +kernel) (by decide +kernel)⟩
theorem fRX11_190 : j_F RX11 190 0 5 := ⟨RX1, TX1, 15, rfl, by decide, ws_in0, j_in 235 (by decide +kernel) (by decide +kernel)⟩
theorem fRX11_193 : j_F RX11 193 0 6 := ⟨RX1, TX1, 15, rfl, by decide, ws_in0, j_in 237 (by decide +kernel) (by decide +kernel)⟩
theorem cvRX11_196 : j_CS RX11 196 yX7_isForGood := ⟨Or.inl (j_in 905 (by decide +kernel) (by decide +kernel)), j_in 622 (by decide +kernel) (by decide +kernel)⟩
theorem cvRX11_141 : j_CV RX11 141 yX1_isNode := ⟨Or.inl (j_in 881 (by decide +kernel) (by decide +kernel)), j_in 882 (by decide +kernel) (by decide +kernel), j_in 883 (by decide +kernel) (by decide +kernel)⟩
theorem cvRX11_147 : j_CV RX11 147 yX1_heldAt := ⟨Or.inl (j_in 886 (by decide +kernel) (by decide +kernel)), j_in 547 (by decide +kernel) (by decide +kernel), j_in 548 (by decide +kernel) (by decide +kernel)⟩
theorem cvRX11_150 : j_CS RX11 150 yX3_count := ⟨Or.inl (j_in 887 (by decide +kernel) (by decide +kernel)), j_in 425 (by decide +kernel) (by decide +kernel)⟩
theorem cvRX11_155 : j_CS RX11 155 yX3_isOwner := ⟨Or.inl (j_in 888 (by decide +kernel) (by decide +kernel)), j_in 555 (by decide +kernel) (by decide +kernel)⟩
theorem cvRX11_158 : j_CS RX11 158 yX3_isValid := ⟨Or.inl (j_in 889 (by decide +kernel) (by decide +kernel)), j_in 474 (by decide +kernel) (by decide +kernel)⟩
theorem cvRX11_161 : j_CS RX11 161 yX3_data := ⟨Or.inl (j_in 890 (by decide +kernel) (by decide +kernel)), j_in 485 (by decide +kernel) (by decide +kernel)⟩
theorem cvRX11_164 : j_CV RX11 164 yX1_turnAt := ⟨Or.inl (j_in 891 (by decide +kernel) (by decide +kernel)), j_in 590 (by decide +kernel) (by decide +kernel), j_in 591 (by decide +kernel) (by decide +kernel)⟩
theorem fRX11_167 : j_F RX11 167 0 3 := ⟨RX1, TX1, 15, rfl, by decide, ws_in0, j_in 231 (by decide +kernel) (by decide +kernel)⟩
theorem cb_X1_placeByUse : j_CB yX1_placeByUse cX1_placeByUse 5 (some .int) 2 := ⟨by decide +kernel, j_in 895 (by decide +kernel) (by decide +kernel), j_in 110 (by decide +kernel) (by decide +kernel), by decide +kernel, by decide +kernel, by decide +kernel⟩
theorem cvRX11_170 : j_CV RX11 170 yX1_placeByUse := ⟨Or.inl (j_in 892 (by decide +kernel) (by decide +kernel)), j_in 893 (by decide +kernel) (by decide +kernel), j_in 894 (by decide +kernel) (by decide +kernel)⟩
theorem fRX11_245 : j_F RX11 245 4 1 := ⟨RX9, TX9, 8, rfl, by decide, ws_in4, j_in 296 (by decide +kernel) (by decide +kernel)⟩
theorem fRX11_248 : j_F RX11 248 4 2 := ⟨RX9, TX9, 8, rfl, by decide, ws_in4, j_in 299 (by decide +kernel) (by decide +kernel)⟩
theorem fRX11_251 : j_F RX11 251 4 3 := ⟨RX9, TX9, 8, rfl, by decide, ws_in4, j_in 302 (by decide +kernel) (by decide +kernel)⟩
theorem cb_X6_runLine : j_CB yX6_runLine cX6_runLine 4 (some .boolean) 0 := ⟨by decide +kernel, j_in 812 (by decide +kernel) (by decide +kernel), j_in 108 (by decide +kernel) (by decide +kernel), by decide +kernel, by decide +kernel, by decide +kernel⟩
theorem cvRX11_128 : j_CV RX11 128 yX6_runLine := ⟨Or.inl (j_in 809 (by decide +kernel) (by decide +kernel)), j_in 810 (by decide +kernel) (by decide +kernel), j_in 811 (by decide +kernel) (by decide +kernel)⟩
theorem fRX11_237 : j_F RX11 237 1 5 := ⟨RX5, TX5, 15, rfl, by decide, ws_in1, j_in 161 (by decide +kernel) (by decide +kernel)⟩
theorem fRX11_242 : j_F RX11 242 1 4 := ⟨RX5, TX5, 15, rfl, by decide, ws_in1, j_in 159 (by decide +kernel) (by decide +kernel)⟩
theorem cb_X1_setCpus : j_CB yX1_setCpus cX1_setCpus 2 (some .boolean) 1 := ⟨by decide +kernel, j_in 419 (by decide +kernel) (by decide +kernel), j_in 110 (by decide +kernel) (by decide +kernel), by decide +kernel, by decide +kernel, by decide +kernel⟩
theorem cvRX11_37 : j_CV RX11 37 yX1_setCpus := ⟨Or.inl (j_in 416 (by decide +kernel) (by decide +kernel)), j_in 417 (by decide +kernel) (by decide +kernel), j_in 418 (by decide +kernel) (by decide +kernel)⟩
theorem cb_X1_setTokens : j_CB yX1_setTokens cX1_setTokens 3 (some .boolean) 1 := ⟨by decide +kernel, j_in 437 (by decide +kernel) (by decide +kernel), j_in 110 (by decide +kernel) (by decide +kernel), by decide +kernel, by decide +kernel, by decide +kernel⟩
theorem cvRX11_43 : j_CV RX11 43 yX1_setTokens := ⟨Or.inl (j_in 434 (by decide +kernel) (by decide +kernel)), j_in 435 (by decide +kernel) (by decide +kernel), j_in 436 (by decide +kernel) (by decide +kernel)⟩
theorem cb_X1_setRoom : j_CB yX1_setRoom cX1_setRoom 2 (some .boolean) 1 := ⟨by decide +kernel, j_in 441 (by decide +kernel) (by decide +kernel), j_in 110 (by decide +kernel) (by decide +kernel), by decide +kernel, by decide +kernel, by decide +kernel⟩
theorem cvRX11_46 : j_CV RX11 46 yX1_setRoom := ⟨Or.inl (j_in 438 (by decide +kernel) (by decide +kernel)), j_in 439 (by decide +kernel) (by decide +kernel), j_in 440 (by decide +kernel) (by decide +kernel)⟩
theorem cvRX11_49 : j_CV RX11 49 yX1_setPolicy := ⟨Or.inl (j_in 442 (by decide +kernel) (by decide +kernel)), j_in 443 (by decide +kernel) (by decide +kernel), j_in 444 (by decide +kernel) (by decide +kernel)⟩
theorem cb_X1_setPatience : j_CB yX1_setPatience cX1_setPatience 2 (some .boolean) 1 := ⟨by decide +kernel, j_in 449 (by decide +kernel) (by decide +kernel), j_in 110 (by decide +kernel) (by decide +kernel), by decide +kernel, by decide +kernel, by decide +kernel⟩
theorem cvRX11_52 : j_CV RX11 52 yX1_setPatience := ⟨Or.inl (j_in 446 (by decide +kernel) (by decide +kernel)), j_in 447 (by decide +kernel) (by decide +kernel), j_in 448 (by decide +kernel) (by decide +kernel)⟩
theorem cvRX11_199 : j_CV RX11 199 yX1_entryAt := ⟨Or.inl (j_in 910 (by decide +kernel) (by decide +kernel)), j_in 629 (by decide +kernel) (by decide +kernel), j_in 630 (by decide +kernel) (by decide +kernel)⟩
theorem cvRX11_202 : j_CS RX11 202 yX2_seq := ⟨Or.inl (j_in 911 (by decide +kernel) (by decide +kernel)), j_in 633 (by decide +kernel) (by decide +kernel)⟩
theorem cb_X2_isActive : j_CB yX2_isActive cX2_isActive 1 (some .boolean) 1 := ⟨by decide +kernel, j_in 914 (by decide +kernel) (by decide +kernel), j_in 119 (by decide +kernel) (by decide +kernel), by decide +kernel, by decide +kernel, by decide +kernel⟩
theorem cvRX11_207 : j_CS RX11 207 yX2_isActive := ⟨Or.inl (j_in 912 (by decide +kernel) (by decide +kernel)), j_in 913 (by decide +kernel) (by decide +kernel)⟩
theorem cb_X2_line : j_CB yX2_line cX2_line 1 (some .int) 1 := ⟨by decide +kernel, j_in 917 (by decide +kernel) (by decide +kernel), j_in 119 (by decide +kernel) (by decide +kernel), by decide +kernel, by decide +kernel, by decide +kernel⟩
theorem cvRX11_210 : j_CS RX11 210 yX2_line := ⟨Or.inl (j_in 915 (by decide +kernel) (by decide +kernel)), j_in 916 (by decide +kernel) (by decide +kernel)⟩
theorem cvRX11_211 : j_CS RX11 211 yX2_what := ⟨Or.inl (j_in 918 (by decide +kernel) (by decide +kernel)), j_in 644 (by decide +kernel) (by decide +kernel)⟩
theorem cvRX11_212 : j_CS RX11 212 yX2_isMarked := ⟨Or.inl (j_in 919 (by decide +kernel) (by decide +kernel)), j_in 681 (by decide +kernel) (by decide +kernel)⟩
theorem cb_X8_clearFault : j_CB yX8_clearFault cX8_clearFault 1 none 0 := ⟨by decide +kernel, j_in 723 (by decide +kernel) (by decide +kernel), j_in 113 (by decide +kernel) (by decide +kernel), by decide +kernel, by decide +kernel, by decide +kernel⟩
theorem cvRX11_100 : j_CV RX11 100 yX8_clearFault := ⟨Or.inl (j_in 720 (by decide +kernel) (by decide +kernel)), j_in 721 (by decide +kernel) (by decide +kernel), j_in 722 (by decide +kernel) (by decide +kernel)⟩
theorem cb_X8_readProgram : j_CB yX8_readProgram cX8_readProgram 3 (some .int) 0 := ⟨by decide +kernel, j_in 727 (by decide +kernel) (by decide +kernel), j_in 113 (by decide +kernel) (by decide +kernel), by decide +kernel, by decide +kernel, by decide +kernel⟩
theorem cvRX11_103 : j_CV RX11 103 yX8_readProgram := ⟨Or.inl (j_in 724 (by decide +kernel) (by decide +kernel)), j_in 725 (by decide +kernel) (by decide +kernel), j_in 726 (by decide +kernel) (by decide +kernel)⟩
theorem fRX11_107 : j_F RX11 107 3 1 := ⟨RX8, TX8, 13, rfl, by decide, ws_in3, j_in 350 (by decide +kernel) (by decide +kernel)⟩
theorem cb_X9_takeProgram : j_CB yX9_takeProgram cX9_takeProgram 4 none 3 := ⟨by decide +kernel, j_in 791 (by decide +kernel) (by decide +kernel), j_in 112 (by decide +kernel) (by decide +kernel), by decide +kernel, by decide +kernel, by decide +kernel⟩
theorem cvRX11_111 : j_CV RX11 111 yX9_takeProgram := ⟨Or.inl (j_in 788 (by decide +kernel) (by decide +kernel)), j_in 789 (by decide +kernel) (by decide +kernel), j_in 790 (by decide +kernel) (by decide +kernel)⟩
theorem cb_X8_readPlan : j_CB yX8_readPlan cX8_readPlan 3 (some .int) 0 := ⟨by decide +kernel, j_in 796 (by decide +kernel) (by decide +kernel), j_in 113 (by decide +kernel) (by decide +kernel), by decide +kernel, by decide +kernel, by decide +kernel⟩
theorem cvRX11_115 : j_CV RX11 115 yX8_readPlan := ⟨Or.inl (j_in 793 (by decide +kernel) (by decide +kernel)), j_in 794 (by decide +kernel) (by decide +kernel), j_in 795 (by decide +kernel) (by decide +kernel)⟩
theorem cb_X9_takePlan : j_CB yX9_takePlan cX9_takePlan 3 none 2 := ⟨by decide +kernel, j_in 804 (by decide +kernel) (by decide +kernel), j_in 112 (by decide +kernel) (by decide +kernel), by decide +kernel, by decide +kernel, by decide +kernel⟩
theorem cvRX11_118 : j_CV RX11 118 yX9_takePlan := ⟨Or.inl (j_in 801 (by decide +kernel) (by decide +kernel)), j_in 802 (by decide +kernel) (by decide +kernel), j_in 803 (by decide +kernel) (by decide +kernel)⟩
theorem cvRX11_77 : j_CV RX11 77 yX1_ticks := ⟨Or.inl (j_in 668 (by decide +kernel) (by decide +kernel)), j_in 669 (by decide +kernel) (by decide +kernel), j_in 670 (by decide +kernel) (by decide +kernel)⟩
theorem fRX11_81 : j_F RX11 81 0 14 := ⟨RX1, TX1, 15, rfl, by decide, ws_in0, j_in 254 (by decide +kernel) (by decide +kernel)⟩
theorem fRX11_317 : j_F RX11 317 1 11 := ⟨RX5, TX5, 15, rfl, by decide, ws_in1, j_in 176 (by decide +kernel) (by decide +kernel)⟩
theorem fRX11_320 : j_F RX11 320 1 0 := ⟨RX5, TX5, 15, rfl, by decide, ws_in1, j_in 148 (by decide +kernel) (by decide +kernel)⟩
theorem cvRX11_278 : j_CV RX11 278 yX1_ownerNode := ⟨Or.inl (j_in 1067 (by decide +kernel) (by decide +kernel)), j_in 1068 (by decide +kernel) (by decide +kernel), j_in 1069 (by decide +kernel) (by decide +kernel)⟩
theorem cb_X1_cpusThatCan : j_CB yX1_cpusThatCan cX1_cpusThatCan 5 (some .int) 2 := ⟨by decide +kernel, j_in 1074 (by decide +kernel) (by decide +kernel), j_in 110 (by decide +kernel) (by decide +kernel), by decide +kernel, by decide +kernel, by decide +kernel⟩
theorem cvRX11_281 : j_CV RX11 281 yX1_cpusThatCan := ⟨Or.inl (j_in 1071 (by decide +kernel) (by decide +kernel)), j_in 1072 (by decide +kernel) (by decide +kernel), j_in 1073 (by decide +kernel) (by decide +kernel)⟩
theorem cb_X1_writerOf : j_CB yX1_writerOf cX1_writerOf 3 (some .int) 1 := ⟨by decide +kernel, j_in 1078 (by decide +kernel) (by decide +kernel), j_in 110 (by decide +kernel) (by decide +kernel), by decide +kernel, by decide +kernel, by decide +kernel⟩
theorem cvRX11_284 : j_CV RX11 284 yX1_writerOf := ⟨Or.inl (j_in 1075 (by decide +kernel) (by decide +kernel)), j_in 1076 (by decide +kernel) (by decide +kernel), j_in 1077 (by decide +kernel) (by decide +kernel)⟩
theorem cb_X1_nodesWithTokens : j_CB yX1_nodesWithTokens cX1_nodesWithTokens 4 (some .int) 1 := ⟨by decide +kernel, j_in 1082 (by decide +kernel) (by decide +kernel), j_in 110 (by decide +kernel) (by decide +kernel), by decide +kernel, by decide +kernel, by decide +kernel⟩
theorem cvRX11_287 : j_CV RX11 287 yX1_nodesWithTokens := ⟨Or.inl (j_in 1079 (by decide +kernel) (by decide +kernel)), j_in 1080 (by decide +kernel) (by decide +kernel), j_in 1081 (by decide +kernel) (by decide +kernel)⟩
theorem cb_X1_tokensOnWay : j_CB yX1_tokensOnWay cX1_tokensOnWay 4 (some .int) 1 := ⟨by decide +kernel, j_in 1086 (by decide +kernel) (by decide +kernel), j_in 110 (by decide +kernel) (by decide +kernel), by decide +kernel, by decide +kernel, by decide +kernel⟩
theorem cvRX11_290 : j_CV RX11 290 yX1_tokensOnWay := ⟨Or.inl (j_in 1083 (by decide +kernel) (by decide +kernel)), j_in 1084 (by decide +kernel) (by decide +kernel), j_in 1085 (by decide +kernel) (by decide +kernel)⟩
theorem cb_X1_cpusThatMiss : j_CB yX1_cpusThatMiss cX1_cpusThatMiss 4 (some .int) 1 := ⟨by decide +kernel, j_in 1091 (by decide +kernel) (by decide +kernel), j_in 110 (by decide +kernel) (by decide +kernel), by decide +kernel, by decide +kernel, by decide +kernel⟩
theorem cvRX11_293 : j_CV RX11 293 yX1_cpusThatMiss := ⟨Or.inl (j_in 1088 (by decide +kernel) (by decide +kernel)), j_in 1089 (by decide +kernel) (by decide +kernel), j_in 1090 (by decide +kernel) (by decide +kernel)⟩
theorem cb_X1_nodesWithTurn : j_CB yX1_nodesWithTurn cX1_nodesWithTurn 4 (some .int) 1 := ⟨by decide +kernel, j_in 1095 (by decide +kernel) (by decide +kernel), j_in 110 (by decide +kernel) (by decide +kernel), by decide +kernel, by decide +kernel, by decide +kernel⟩
theorem cvRX11_296 : j_CV RX11 296 yX1_nodesWithTurn := ⟨Or.inl (j_in 1092 (by decide +kernel) (by decide +kernel)), j_in 1093 (by decide +kernel) (by decide +kernel), j_in 1094 (by decide +kernel) (by decide +kernel)⟩
theorem cb_X1_ownerData : j_CB yX1_ownerData cX1_ownerData 4 (some .int) 1 := ⟨by decide +kernel, j_in 1125 (by decide +kernel) (by decide +kernel), j_in 110 (by decide +kernel) (by decide +kernel), by decide +kernel, by decide +kernel, by decide +kernel⟩
theorem cvRX11_335 : j_CV RX11 335 yX1_ownerData := ⟨Or.inl (j_in 1122 (by decide +kernel) (by decide +kernel)), j_in 1123 (by decide +kernel) (by decide +kernel), j_in 1124 (by decide +kernel) (by decide +kernel)⟩
theorem dX11_add_0 : decode cX11_add 0 = .ok (.aload_n 0, 1) := by decide +kernel
theorem dX11_add_1 : decode cX11_add 1 = .ok (.getfield 10, 3) := by decide +kernel
theorem dX11_add_4 : decode cX11_add 4 = .ok (.getfield 33, 3) := by decide +kernel
theorem dX11_add_7 : decode cX11_add 7 = .ok (.iload_n 1, 1) := by decide +kernel
theorem dX11_add_8 : decode cX11_add 8 = .ok (.iload_n 2, 1) := by decide +kernel
theorem dX11_add_9 : decode cX11_add 9 = .ok (.iload_n 3, 1) := by decide +kernel
theorem dX11_add_10 : decode cX11_add 10 = .ok (.invokevirtual 55, 3) := by decide +kernel
theorem dX11_add_13 : decode cX11_add 13 = .ok (.ifCond .ne 5, 3) := by decide +kernel
theorem dX11_add_16 : decode cX11_add 16 = .ok (.iconst (-1), 1) := by decide +kernel
theorem dX11_add_17 : decode cX11_add 17 = .ok (.ireturn, 1) := by decide +kernel
theorem dX11_add_18 : decode cX11_add 18 = .ok (.aload_n 0, 1) := by decide +kernel
theorem dX11_add_19 : decode cX11_add 19 = .ok (.getfield 10, 3) := by decide +kernel
theorem dX11_add_22 : decode cX11_add 22 = .ok (.getfield 33, 3) := by decide +kernel
theorem dX11_add_25 : decode cX11_add 25 = .ok (.iload_n 1, 1) := by decide +kernel
theorem dX11_add_26 : decode cX11_add 26 = .ok (.iload_n 2, 1) := by decide +kernel
theorem dX11_add_27 : decode cX11_add 27 = .ok (.iconst 3, 1) := by decide +kernel
theorem dX11_add_28 : decode cX11_add 28 = .ok (.iload_n 3, 1) := by decide +kernel
theorem dX11_add_29 : decode cX11_add 29 = .ok (.invokevirtual 59, 3) := by decide +kernel
theorem dX11_add_32 : decode cX11_add 32 = .ok (.iconst (-1), 1) := by decide +kernel
theorem dX11_add_33 : decode cX11_add 33 = .ok (.if_icmp .ne 7, 3) := by decide +kernel
theorem dX11_add_36 : decode cX11_add 36 = .ok (.iconst 0, 1) := by decide +kernel
theorem dX11_add_37 : decode cX11_add 37 = .ok (.goto 4, 3) := by decide +kernel
theorem dX11_add_40 : decode cX11_add 40 = .ok (.iconst 1, 1) := by decide +kernel
theorem dX11_add_41 : decode cX11_add 41 = .ok (.ireturn, 1) := by decide +kernel
def xX11_add  (l1 : Int32) (l2 : Int32) (l3 : Int32) (M : j_M) : Option (Int32 × j_M) := obi (xX1_mayBegin 2 l1 l2 l3 M) fun v2 M1 => (if v2 = (0 : Int32) then some ((-1 : Int32), M1) else obi (xX1_access 2 l1 l2 (nI 3) l3 M1) fun v4 M3 => (if v4 = (-1 : Int32) then some ((nI 0), M3) else some ((nI 1), M3)))
set_option maxRecDepth 20000 in
set_option maxHeartbeats 2000000 in
theorem tX11_add  (l1 : Int32) (l2 : Int32) (l3 : Int32) (M : j_M) : J (ρ := Int32 × j_M) yX11_add cX11_add 4 (some .int) 4 93 j_ei 0 [(0, .inr (16, 0, 0)), (1, .inl (l1)), (2, .inl (l2)), (3, .inl (l3))] [] M (xX11_add  l1 l2 l3 M) := by
  unfold xX11_add
  refine K_aload_n (q := 1) 0 dX11_add_0 rfl rfl rfl ?_
  refine K_getR (q := 4) (ci := 6) (a2 := 1) 0 dX11_add_1 fRX11_10 rfl rfl (by decide) rfl rfl ?_
  refine K_getR (q := 7) (ci := 2) (a2 := 2) 1 dX11_add_4 fRX11_33 rfl rfl (by decide) rfl rfl ?_
  refine K_iload_n (q := 8) 1 dX11_add_7 rfl rfl rfl ?_
  refine K_iload_n (q := 9) 2 dX11_add_8 rfl rfl rfl ?_
  refine K_iload_n (q := 10) 3 dX11_add_9 rfl rfl rfl ?_
  refine K_cvi (q := 13) [.inl (l1), .inl (l2), .inl (l3)] dX11_add_10 cb_X1_mayBegin cvRX11_55 rc_0 (show (10 : Nat) ≠ 0 by decide) rfl (Nat.le_of_ble_eq_true rfl) ⟨by decide, by decide⟩ (Nat.le_of_ble_eq_true rfl) rfl (tX1_mayBegin 2 l1 l2 l3 M) rfl (fun v2 M1 => ?_)
  refine K_if_ne (q := 16) (tgt := 18) dX11_add_13 rfl ?_ rfl ?_
  · refine K_aload_n (q := 19) 0 dX11_add_18 rfl rfl rfl ?_
    refine K_getR (q := 22) (ci := 6) (a2 := 1) 0 dX11_add_19 fRX11_10 rfl rfl (by decide) rfl rfl ?_
    refine K_getR (q := 25) (ci := 2) (a2 := 2) 1 dX11_add_22 fRX11_33 rfl rfl (by decide) rfl rfl ?_
    refine K_iload_n (q := 26) 1 dX11_add_25 rfl rfl rfl ?_
    refine K_iload_n (q := 27) 2 dX11_add_26 rfl rfl rfl ?_
    refine K_iconst (q := 28) (v := nI 3) dX11_add_27 rfl rfl ?_
    refine K_iload_n (q := 29) 3 dX11_add_28 rfl rfl rfl ?_
    refine K_cvi (q := 32) [.inl (l1), .inl (l2), .inl ((nI 3)), .inl (l3)] dX11_add_29 cb_X1_access cvRX11_59 rc_0 (show (10 : Nat) ≠ 0 by decide) rfl (Nat.le_of_ble_eq_true rfl) ⟨by decide, by decide⟩ (Nat.le_of_ble_eq_true rfl) rfl (tX1_access 2 l1 l2 (nI 3) l3 M1) rfl (fun v4 M3 => ?_)
    refine K_iconst (q := 33) (v := -1) dX11_add_32 rfl rfl ?_
    refine K_icmp_ne (q := 36) (tgt := 40) dX11_add_33 rfl ?_ rfl ?_
    · refine K_iconst (q := 41) (v := nI 1) dX11_add_40 rfl rfl ?_
      exact J_iret dX11_add_41
    · refine K_iconst (q := 37) (v := nI 0) dX11_add_36 rfl rfl ?_
      refine J_goto (tgt := 41) dX11_add_37 rfl ?_
      exact J_iret dX11_add_41
  · refine K_iconst (q := 17) (v := -1) dX11_add_16 rfl rfl ?_
    exact J_iret dX11_add_17
theorem dX11_calm_0 : decode cX11_calm 0 = .ok (.iload_n 1, 1) := by decide +kernel
theorem dX11_calm_1 : decode cX11_calm 1 = .ok (.iconst 1, 1) := by decide +kernel
theorem dX11_calm_2 : decode cX11_calm 2 = .ok (.if_icmp .lt 23, 3) := by decide +kernel
theorem dX11_calm_5 : decode cX11_calm 5 = .ok (.iload_n 1, 1) := by decide +kernel
theorem dX11_calm_6 : decode cX11_calm 6 = .ok (.bipush 60, 2) := by decide +kernel
theorem dX11_calm_8 : decode cX11_calm 8 = .ok (.if_icmp .gt 17, 3) := by decide +kernel
theorem dX11_calm_11 : decode cX11_calm 11 = .ok (.aload_n 0, 1) := by decide +kernel
theorem dX11_calm_12 : decode cX11_calm 12 = .ok (.getfield 10, 3) := by decide +kernel
theorem dX11_calm_15 : decode cX11_calm 15 = .ok (.getfield 33, 3) := by decide +kernel
theorem dX11_calm_18 : decode cX11_calm 18 = .ok (.iload_n 1, 1) := by decide +kernel
theorem dX11_calm_19 : decode cX11_calm 19 = .ok (.invokevirtual 74, 3) := by decide +kernel
theorem dX11_calm_22 : decode cX11_calm 22 = .ok (.ifCond .ne 5, 3) := by decide +kernel
theorem dX11_calm_25 : decode cX11_calm 25 = .ok (.iconst (-1), 1) := by decide +kernel
theorem dX11_calm_26 : decode cX11_calm 26 = .ok (.ireturn, 1) := by decide +kernel
theorem dX11_calm_27 : decode cX11_calm 27 = .ok (.aload_n 0, 1) := by decide +kernel
theorem dX11_calm_28 : decode cX11_calm 28 = .ok (.getfield 10, 3) := by decide +kernel
theorem dX11_calm_31 : decode cX11_calm 31 = .ok (.getfield 33, 3) := by decide +kernel
theorem dX11_calm_34 : decode cX11_calm 34 = .ok (.iload_n 1, 1) := by decide +kernel
theorem dX11_calm_35 : decode cX11_calm 35 = .ok (.invokevirtual 84, 3) := by decide +kernel
theorem dX11_calm_38 : decode cX11_calm 38 = .ok (.ireturn, 1) := by decide +kernel
def xX11_calm  (l1 : Int32) (M : j_M) : Option (Int32 × j_M) := (if l1 < (nI 1) then some ((-1 : Int32), M) else (if (nI 60) < l1 then some ((-1 : Int32), M) else obi (xX1_hasTime 2 l1 M) fun v2 M1 => (if v2 = (0 : Int32) then some ((-1 : Int32), M1) else obi (xX1_calmRounds 2 l1 M1) fun v4 M3 => some (v4, M3))))
set_option maxRecDepth 20000 in
set_option maxHeartbeats 2000000 in
theorem tX11_calm  (l1 : Int32) (M : j_M) : J (ρ := Int32 × j_M) yX11_calm cX11_calm 2 (some .int) 6 162 j_ei 0 [(0, .inr (16, 0, 0)), (1, .inl (l1))] [] M (xX11_calm  l1 M) := by
  unfold xX11_calm
  refine K_iload_n (q := 1) 1 dX11_calm_0 rfl rfl rfl ?_
  refine K_iconst (q := 2) (v := nI 1) dX11_calm_1 rfl rfl ?_
  refine K_icmp_lt (q := 5) (tgt := 25) dX11_calm_2 rfl ?_ rfl ?_
  · refine K_iconst (q := 26) (v := -1) dX11_calm_25 rfl rfl ?_
    exact J_iret dX11_calm_26
  · refine K_iload_n (q := 6) 1 dX11_calm_5 rfl rfl rfl ?_
    refine K_bipush (q := 8) (v := nI 60) dX11_calm_6 rfl rfl ?_
    refine K_icmp_gt (q := 11) (tgt := 25) dX11_calm_8 rfl ?_ rfl ?_
    · refine K_iconst (q := 26) (v := -1) dX11_calm_25 rfl rfl ?_
      exact J_iret dX11_calm_26
    · refine K_aload_n (q := 12) 0 dX11_calm_11 rfl rfl rfl ?_
      refine K_getR (q := 15) (ci := 6) (a2 := 1) 0 dX11_calm_12 fRX11_10 rfl rfl (by decide) rfl rfl ?_
      refine K_getR (q := 18) (ci := 2) (a2 := 2) 1 dX11_calm_15 fRX11_33 rfl rfl (by decide) rfl rfl ?_
      refine K_iload_n (q := 19) 1 dX11_calm_18 rfl rfl rfl ?_
      refine K_cvi (q := 22) [.inl (l1)] dX11_calm_19 cb_X1_hasTime cvRX11_74 rc_0 (show (10 : Nat) ≠ 0 by decide) rfl (Nat.le_of_ble_eq_true rfl) ⟨by decide, by decide⟩ (Nat.le_of_ble_eq_true rfl) rfl (tX1_hasTime 2 l1 M) rfl (fun v2 M1 => ?_)
      refine K_if_ne (q := 25) (tgt := 27) dX11_calm_22 rfl ?_ rfl ?_
      · refine K_aload_n (q := 28) 0 dX11_calm_27 rfl rfl rfl ?_
        refine K_getR (q := 31) (ci := 6) (a2 := 1) 0 dX11_calm_28 fRX11_10 rfl rfl (by decide) rfl rfl ?_
        refine K_getR (q := 34) (ci := 2) (a2 := 2) 1 dX11_calm_31 fRX11_33 rfl rfl (by decide) rfl rfl ?_
        refine K_iload_n (q := 35) 1 dX11_calm_34 rfl rfl rfl ?_
        refine K_cvi (q := 38) [.inl (l1)] dX11_calm_35 cb_X1_calmRounds cvRX11_84 rc_0 (show (10 : Nat) ≠ 0 by decide) rfl (Nat.le_of_ble_eq_true rfl) ⟨by decide, by decide⟩ (Nat.le_of_ble_eq_true rfl) rfl (tX1_calmRounds 2 l1 M1) rfl (fun v4 M3 => ?_)
        exact J_iret dX11_calm_38
      · refine K_iconst (q := 26) (v := -1) dX11_calm_25 rfl rfl ?_
        exact J_iret dX11_calm_26
theorem dX11_can_0 : decode cX11_can 0 = .ok (.aload_n 0, 1) := by decide +kernel
theorem dX11_can_1 : decode cX11_can 1 = .ok (.getfield 10, 3) := by decide +kernel
theorem dX11_can_4 : decode cX11_can 4 = .ok (.getfield 33, 3) := by decide +kernel
theorem dX11_can_7 : decode cX11_can 7 = .ok (.iload_n 1, 1) := by decide +kernel
theorem dX11_can_8 : decode cX11_can 8 = .ok (.invokevirtual 173, 3) := by decide +kernel
theorem dX11_can_11 : decode cX11_can 11 = .ok (.ifCond .eq 10, 3) := by decide +kernel
theorem dX11_can_14 : decode cX11_can 14 = .ok (.iload_n 2, 1) := by decide +kernel
theorem dX11_can_15 : decode cX11_can 15 = .ok (.invokestatic 144, 3) := by decide +kernel
theorem dX11_can_18 : decode cX11_can 18 = .ok (.ifCond .ne 5, 3) := by decide +kernel
theorem dX11_can_21 : decode cX11_can 21 = .ok (.iconst (-1), 1) := by decide +kernel
theorem dX11_can_22 : decode cX11_can 22 = .ok (.ireturn, 1) := by decide +kernel
theorem dX11_can_23 : decode cX11_can 23 = .ok (.aload_n 0, 1) := by decide +kernel
theorem dX11_can_24 : decode cX11_can 24 = .ok (.getfield 10, 3) := by decide +kernel
theorem dX11_can_27 : decode cX11_can 27 = .ok (.getfield 33, 3) := by decide +kernel
theorem dX11_can_30 : decode cX11_can 30 = .ok (.iload_n 1, 1) := by decide +kernel
theorem dX11_can_31 : decode cX11_can 31 = .ok (.iload_n 2, 1) := by decide +kernel
theorem dX11_can_32 : decode cX11_can 32 = .ok (.iconst 2, 1) := by decide +kernel
theorem dX11_can_33 : decode cX11_can 33 = .ok (.invokevirtual 332, 3) := by decide +kernel
theorem dX11_can_36 : decode cX11_can 36 = .ok (.ifCond .eq 5, 3) := by decide +kernel
theorem dX11_can_39 : decode cX11_can 39 = .ok (.iconst 2, 1) := by decide +kernel
theorem dX11_can_40 : decode cX11_can 40 = .ok (.ireturn, 1) := by decide +kernel
theorem dX11_can_41 : decode cX11_can 41 = .ok (.aload_n 0, 1) := by decide +kernel
theorem dX11_can_42 : decode cX11_can 42 = .ok (.getfield 10, 3) := by decide +kernel
theorem dX11_can_45 : decode cX11_can 45 = .ok (.getfield 33, 3) := by decide +kernel
theorem dX11_can_48 : decode cX11_can 48 = .ok (.iload_n 1, 1) := by decide +kernel
theorem dX11_can_49 : decode cX11_can 49 = .ok (.iload_n 2, 1) := by decide +kernel
theorem dX11_can_50 : decode cX11_can 50 = .ok (.iconst 1, 1) := by decide +kernel
theorem dX11_can_51 : decode cX11_can 51 = .ok (.invokevirtual 332, 3) := by decide +kernel
theorem dX11_can_54 : decode cX11_can 54 = .ok (.ifCond .eq 7, 3) := by decide +kernel
theorem dX11_can_57 : decode cX11_can 57 = .ok (.iconst 1, 1) := by decide +kernel
theorem dX11_can_58 : decode cX11_can 58 = .ok (.goto 4, 3) := by decide +kernel
theorem dX11_can_61 : decode cX11_can 61 = .ok (.iconst 0, 1) := by decide +kernel
theorem dX11_can_62 : decode cX11_can 62 = .ok (.ireturn, 1) := by decide +kernel
def xX11_can  (l1 : Int32) (l2 : Int32) (M : j_M) : Option (Int32 × j_M) := obi (xX1_isCpu 2 l1 M) fun v2 M1 => (if v2 = (0 : Int32) then some ((-1 : Int32), M1) else obi (xX11_isLine l2 M1) fun v4 M3 => (if v4 = (0 : Int32) then some ((-1 : Int32), M3) else obi (xX1_wouldHit 2 l1 l2 (nI 2) M3) fun v6 M5 => (if v6 = (0 : Int32) then obi (xX1_wouldHit 2 l1 l2 (nI 1) M5) fun v8 M7 => (if v8 = (0 : Int32) then some ((nI 0), M7) else some ((nI 1), M7)) else some ((nI 2), M5))))
set_option maxRecDepth 20000 in
set_option maxHeartbeats 2000000 in
theorem tX11_can  (l1 : Int32) (l2 : Int32) (M : j_M) : J (ρ := Int32 × j_M) yX11_can cX11_can 3 (some .int) 2 45 j_ei 0 [(0, .inr (16, 0, 0)), (1, .inl (l1)), (2, .inl (l2))] [] M (xX11_can  l1 l2 M) := by
  unfold xX11_can
  refine K_aload_n (q := 1) 0 dX11_can_0 rfl rfl rfl ?_
  refine K_getR (q := 4) (ci := 6) (a2 := 1) 0 dX11_can_1 fRX11_10 rfl rfl (by decide) rfl rfl ?_
  refine K_getR (q := 7) (ci := 2) (a2 := 2) 1 dX11_can_4 fRX11_33 rfl rfl (by decide) rfl rfl ?_
  refine K_iload_n (q := 8) 1 dX11_can_7 rfl rfl rfl ?_
  refine K_cvi (q := 11) [.inl (l1)] dX11_can_8 cb_X1_isCpu cvRX11_173 rc_0 (show (10 : Nat) ≠ 0 by decide) rfl (Nat.le_of_ble_eq_true rfl) ⟨by decide, by decide⟩ (Nat.le_of_ble_eq_true rfl) rfl (tX1_isCpu 2 l1 M) rfl (fun v2 M1 => ?_)
  refine K_if_eq (q := 14) (tgt := 21) dX11_can_11 rfl ?_ rfl ?_
  · refine K_iconst (q := 22) (v := -1) dX11_can_21 rfl rfl ?_
    exact J_iret dX11_can_22
  · refine K_iload_n (q := 15) 2 dX11_can_14 rfl rfl rfl ?_
    refine K_csi (q := 18) [.inl (l2)] dX11_can_15 cb_X11_isLine cvRX11_144 rfl (Nat.le_of_ble_eq_true rfl) ⟨by decide, by decide⟩ (Nat.le_of_ble_eq_true rfl) rfl (tX11_isLine l2 M1) rfl (fun v4 M3 => ?_)
    refine K_if_ne (q := 21) (tgt := 23) dX11_can_18 rfl ?_ rfl ?_
    · refine K_aload_n (q := 24) 0 dX11_can_23 rfl rfl rfl ?_
      refine K_getR (q := 27) (ci := 6) (a2 := 1) 0 dX11_can_24 fRX11_10 rfl rfl (by decide) rfl rfl ?_
      refine K_getR (q := 30) (ci := 2) (a2 := 2) 1 dX11_can_27 fRX11_33 rfl rfl (by decide) rfl rfl ?_
      refine K_iload_n (q := 31) 1 dX11_can_30 rfl rfl rfl ?_
      refine K_iload_n (q := 32) 2 dX11_can_31 rfl rfl rfl ?_
      refine K_iconst (q := 33) (v := nI 2) dX11_can_32 rfl rfl ?_
      refine K_cvi (q := 36) [.inl (l1), .inl (l2), .inl ((nI 2))] dX11_can_33 cb_X1_wouldHit cvRX11_332 rc_0 (show (10 : Nat) ≠ 0 by decide) rfl (Nat.le_of_ble_eq_true rfl) ⟨by decide, by decide⟩ (Nat.le_of_ble_eq_true rfl) rfl (tX1_wouldHit 2 l1 l2 (nI 2) M3) rfl (fun v6 M5 => ?_)
      refine K_if_eq (q := 39) (tgt := 41) dX11_can_36 rfl ?_ rfl ?_
      · refine K_aload_n (q := 42) 0 dX11_can_41 rfl rfl rfl ?_
        refine K_getR (q := 45) (ci := 6) (a2 := 1) 0 dX11_can_42 fRX11_10 rfl rfl (by decide) rfl rfl ?_
        refine K_getR (q := 48) (ci := 2) (a2 := 2) 1 dX11_can_45 fRX11_33 rfl rfl (by decide) rfl rfl ?_
        refine K_iload_n (q := 49) 1 dX11_can_48 rfl rfl rfl ?_
        refine K_iload_n (q := 50) 2 dX11_can_49 rfl rfl rfl ?_
        refine K_iconst (q := 51) (v := nI 1) dX11_can_50 rfl rfl ?_
        refine K_cvi (q := 54) [.inl (l1), .inl (l2), .inl ((nI 1))] dX11_can_51 cb_X1_wouldHit cvRX11_332 rc_0 (show (10 : Nat) ≠ 0 by decide) rfl (Nat.le_of_ble_eq_true rfl) ⟨by decide, by decide⟩ (Nat.le_of_ble_eq_true rfl) rfl (tX1_wouldHit 2 l1 l2 (nI 1) M5) rfl (fun v8 M7 => ?_)
        refine K_if_eq (q := 57) (tgt := 61) dX11_can_54 rfl ?_ rfl ?_
        · refine K_iconst (q := 62) (v := nI 0) dX11_can_61 rfl rfl ?_
          exact J_iret dX11_can_62
        · refine K_iconst (q := 58) (v := nI 1) dX11_can_57 rfl rfl ?_
          refine J_goto (tgt := 62) dX11_can_58 rfl ?_
          exact J_iret dX11_can_62
      · refine K_iconst (q := 40) (v := nI 2) dX11_can_39 rfl rfl ?_
        exact J_iret dX11_can_40
    · refine K_iconst (q := 22) (v := -1) dX11_can_21 rfl rfl ?_
      exact J_iret dX11_can_22
theorem dX11_cost_0 : decode cX11_cost 0 = .ok (.iload_n 1, 1) := by decide +kernel
theorem dX11_cost_1 : decode cX11_cost 1 = .ok (.ifCond .lt 9, 3) := by decide +kernel
theorem dX11_cost_4 : decode cX11_cost 4 = .ok (.iload_n 1, 1) := by decide +kernel
theorem dX11_cost_5 : decode cX11_cost 5 = .ok (.bipush 6, 2) := by decide +kernel
theorem dX11_cost_7 : decode cX11_cost 7 = .ok (.if_icmp .lt 5, 3) := by decide +kernel
theorem dX11_cost_10 : decode cX11_cost 10 = .ok (.iconst (-1), 1) := by decide +kernel
theorem dX11_cost_11 : decode cX11_cost 11 = .ok (.ireturn, 1) := by decide +kernel
theorem dX11_cost_12 : decode cX11_cost 12 = .ok (.iload_n 2, 1) := by decide +kernel
theorem dX11_cost_13 : decode cX11_cost 13 = .ok (.tableswitch 100 0 4 #[35, 48, 61, 74, 87], 35) := by decide +kernel
theorem dX11_cost_48 : decode cX11_cost 48 = .ok (.aload_n 0, 1) := by decide +kernel
theorem dX11_cost_49 : decode cX11_cost 49 = .ok (.getfield 10, 3) := by decide +kernel
theorem dX11_cost_52 : decode cX11_cost 52 = .ok (.getfield 233, 3) := by decide +kernel
theorem dX11_cost_55 : decode cX11_cost 55 = .ok (.getfield 299, 3) := by decide +kernel
theorem dX11_cost_58 : decode cX11_cost 58 = .ok (.iload_n 1, 1) := by decide +kernel
theorem dX11_cost_59 : decode cX11_cost 59 = .ok (.iaload, 1) := by decide +kernel
theorem dX11_cost_60 : decode cX11_cost 60 = .ok (.ireturn, 1) := by decide +kernel
theorem dX11_cost_61 : decode cX11_cost 61 = .ok (.aload_n 0, 1) := by decide +kernel
theorem dX11_cost_62 : decode cX11_cost 62 = .ok (.getfield 10, 3) := by decide +kernel
theorem dX11_cost_65 : decode cX11_cost 65 = .ok (.getfield 233, 3) := by decide +kernel
theorem dX11_cost_68 : decode cX11_cost 68 = .ok (.getfield 302, 3) := by decide +kernel
theorem dX11_cost_71 : decode cX11_cost 71 = .ok (.iload_n 1, 1) := by decide +kernel
theorem dX11_cost_72 : decode cX11_cost 72 = .ok (.iaload, 1) := by decide +kernel
theorem dX11_cost_73 : decode cX11_cost 73 = .ok (.ireturn, 1) := by decide +kernel
theorem dX11_cost_74 : decode cX11_cost 74 = .ok (.aload_n 0, 1) := by decide +kernel
theorem dX11_cost_75 : decode cX11_cost 75 = .ok (.getfield 10, 3) := by decide +kernel
theorem dX11_cost_78 : decode cX11_cost 78 = .ok (.getfield 233, 3) := by decide +kernel
theorem dX11_cost_81 : decode cX11_cost 81 = .ok (.getfield 305, 3) := by decide +kernel
theorem dX11_cost_84 : decode cX11_cost 84 = .ok (.iload_n 1, 1) := by decide +kernel
theorem dX11_cost_85 : decode cX11_cost 85 = .ok (.iaload, 1) := by decide +kernel
theorem dX11_cost_86 : decode cX11_cost 86 = .ok (.ireturn, 1) := by decide +kernel
theorem dX11_cost_87 : decode cX11_cost 87 = .ok (.aload_n 0, 1) := by decide +kernel
theorem dX11_cost_88 : decode cX11_cost 88 = .ok (.getfield 10, 3) := by decide +kernel
theorem dX11_cost_91 : decode cX11_cost 91 = .ok (.getfield 233, 3) := by decide +kernel
theorem dX11_cost_94 : decode cX11_cost 94 = .ok (.getfield 308, 3) := by decide +kernel
theorem dX11_cost_97 : decode cX11_cost 97 = .ok (.iload_n 1, 1) := by decide +kernel
theorem dX11_cost_98 : decode cX11_cost 98 = .ok (.iaload, 1) := by decide +kernel
theorem dX11_cost_99 : decode cX11_cost 99 = .ok (.ireturn, 1) := by decide +kernel
theorem dX11_cost_100 : decode cX11_cost 100 = .ok (.aload_n 0, 1) := by decide +kernel
theorem dX11_cost_101 : decode cX11_cost 101 = .ok (.getfield 10, 3) := by decide +kernel
theorem dX11_cost_104 : decode cX11_cost 104 = .ok (.getfield 233, 3) := by decide +kernel
theorem dX11_cost_107 : decode cX11_cost 107 = .ok (.getfield 311, 3) := by decide +kernel
theorem dX11_cost_110 : decode cX11_cost 110 = .ok (.iload_n 1, 1) := by decide +kernel
theorem dX11_cost_111 : decode cX11_cost 111 = .ok (.iaload, 1) := by decide +kernel
theorem dX11_cost_112 : decode cX11_cost 112 = .ok (.ireturn, 1) := by decide +kernel
theorem dX11_cost_113 : decode cX11_cost 113 = .ok (.iconst (-1), 1) := by decide +kernel
theorem dX11_cost_114 : decode cX11_cost 114 = .ok (.ireturn, 1) := by decide +kernel
def xX11_cost  (l1 : Int32) (l2 : Int32) (M : j_M) : Option (Int32 × j_M) := (if l1 < (0 : Int32) then some ((-1 : Int32), M) else (if l1 < (nI 6) then osw l2 [((nI 0), gd l1 6 (oli (M 17 (ix l1)) fun v1 => some (v1, M))), ((nI 1), gd l1 6 (oli (M 18 (ix l1)) fun v2 => some (v2, M))), ((nI 2), gd l1 6 (oli (M 19 (ix l1)) fun v3 => some (v3, M))), ((nI 3), gd l1 6 (oli (M 20 (ix l1)) fun v4 => some (v4, M))), ((nI 4), gd l1 6 (oli (M 21 (ix l1)) fun v5 => some (v5, M)))] (some ((-1 : Int32), M)) else some ((-1 : Int32), M)))
set_option maxRecDepth 20000 in
set_option maxHeartbeats 2000000 in
theorem tX11_cost  (l1 : Int32) (l2 : Int32) (M : j_M) : J (ρ := Int32 × j_M) yX11_cost cX11_cost 3 (some .int) 0 0 j_ei 0 [(0, .inr (16, 0, 0)), (1, .inl (l1)), (2, .inl (l2))] [] M (xX11_cost  l1 l2 M) := by
  unfold xX11_cost
  refine K_iload_n (q := 1) 1 dX11_cost_0 rfl rfl rfl ?_
  refine K_if_lt (q := 4) (tgt := 10) dX11_cost_1 rfl ?_ rfl ?_
  · refine K_iconst (q := 11) (v := -1) dX11_cost_10 rfl rfl ?_
    exact J_iret dX11_cost_11
  · refine K_iload_n (q := 5) 1 dX11_cost_4 rfl rfl rfl ?_
    refine K_bipush (q := 7) (v := nI 6) dX11_cost_5 rfl rfl ?_
    refine K_icmp_lt (q := 10) (tgt := 12) dX11_cost_7 rfl ?_ rfl ?_
    · refine K_iload_n (q := 13) 2 dX11_cost_12 rfl rfl rfl ?_
      refine K_tsw (dt := 113) [48, 61, 74, 87, 100] dX11_cost_13 rfl rfl rfl rfl ⟨?_, ?_, ?_, ?_, ?_, trivial⟩ ?_
      · refine K_aload_n (q := 49) 0 dX11_cost_48 rfl rfl rfl ?_
        refine K_getR (q := 52) (ci := 6) (a2 := 1) 0 dX11_cost_49 fRX11_10 rfl rfl (by decide) rfl rfl ?_
        refine K_getR (q := 55) (ci := 2) (a2 := 10) 0 dX11_cost_52 fRX11_233 rfl rfl (by decide) rfl rfl ?_
        refine K_getR (q := 58) (ci := 1) (a2 := 17) 6 dX11_cost_55 fRX11_299 rfl rfl (by decide) rfl rfl ?_
        refine K_iload_n (q := 59) 1 dX11_cost_58 rfl rfl rfl ?_
        refine K_iald (q := 60) dX11_cost_59 rfl (fun v1 => ?_)
        exact J_iret dX11_cost_60
      · refine K_aload_n (q := 62) 0 dX11_cost_61 rfl rfl rfl ?_
        refine K_getR (q := 65) (ci := 6) (a2 := 1) 0 dX11_cost_62 fRX11_10 rfl rfl (by decide) rfl rfl ?_
        refine K_getR (q := 68) (ci := 2) (a2 := 10) 0 dX11_cost_65 fRX11_233 rfl rfl (by decide) rfl rfl ?_
        refine K_getR (q := 71) (ci := 1) (a2 := 18) 7 dX11_cost_68 fRX11_302 rfl rfl (by decide) rfl rfl ?_
        refine K_iload_n (q := 72) 1 dX11_cost_71 rfl rfl rfl ?_
        refine K_iald (q := 73) dX11_cost_72 rfl (fun v2 => ?_)
        exact J_iret dX11_cost_73
      · refine K_aload_n (q := 75) 0 dX11_cost_74 rfl rfl rfl ?_
        refine K_getR (q := 78) (ci := 6) (a2 := 1) 0 dX11_cost_75 fRX11_10 rfl rfl (by decide) rfl rfl ?_
        refine K_getR (q := 81) (ci := 2) (a2 := 10) 0 dX11_cost_78 fRX11_233 rfl rfl (by decide) rfl rfl ?_
        refine K_getR (q := 84) (ci := 1) (a2 := 19) 8 dX11_cost_81 fRX11_305 rfl rfl (by decide) rfl rfl ?_
        refine K_iload_n (q := 85) 1 dX11_cost_84 rfl rfl rfl ?_
        refine K_iald (q := 86) dX11_cost_85 rfl (fun v3 => ?_)
        exact J_iret dX11_cost_86
      · refine K_aload_n (q := 88) 0 dX11_cost_87 rfl rfl rfl ?_
        refine K_getR (q := 91) (ci := 6) (a2 := 1) 0 dX11_cost_88 fRX11_10 rfl rfl (by decide) rfl rfl ?_
        refine K_getR (q := 94) (ci := 2) (a2 := 10) 0 dX11_cost_91 fRX11_233 rfl rfl (by decide) rfl rfl ?_
        refine K_getR (q := 97) (ci := 1) (a2 := 20) 9 dX11_cost_94 fRX11_308 rfl rfl (by decide) rfl rfl ?_
        refine K_iload_n (q := 98) 1 dX11_cost_97 rfl rfl rfl ?_
        refine K_iald (q := 99) dX11_cost_98 rfl (fun v4 => ?_)
        exact J_iret dX11_cost_99
      · refine K_aload_n (q := 101) 0 dX11_cost_100 rfl rfl rfl ?_
        refine K_getR (q := 104) (ci := 6) (a2 := 1) 0 dX11_cost_101 fRX11_10 rfl rfl (by decide) rfl rfl ?_
        refine K_getR (q := 107) (ci := 2) (a2 := 10) 0 dX11_cost_104 fRX11_233 rfl rfl (by decide) rfl rfl ?_
        refine K_getR (q := 110) (ci := 1) (a2 := 21) 10 dX11_cost_107 fRX11_311 rfl rfl (by decide) rfl rfl ?_
        refine K_iload_n (q := 111) 1 dX11_cost_110 rfl rfl rfl ?_
        refine K_iald (q := 112) dX11_cost_111 rfl (fun v5 => ?_)
        exact J_iret dX11_cost_112
      · refine K_iconst (q := 114) (v := -1) dX11_cost_113 rfl rfl ?_
        exact J_iret dX11_cost_114
    · refine K_iconst (q := 11) (v := -1) dX11_cost_10 rfl rfl ?_
      exact J_iret dX11_cost_11
theorem dX11_deliver_0 : decode cX11_deliver 0 = .ok (.iload_n 1, 1) := by decide +kernel
theorem dX11_deliver_1 : decode cX11_deliver 1 = .ok (.ifCond .lt 17, 3) := by decide +kernel
theorem dX11_deliver_4 : decode cX11_deliver 4 = .ok (.iload_n 1, 1) := by decide +kernel
theorem dX11_deliver_5 : decode cX11_deliver 5 = .ok (.aload_n 0, 1) := by decide +kernel
theorem dX11_deliver_6 : decode cX11_deliver 6 = .ok (.getfield 10, 3) := by decide +kernel
theorem dX11_deliver_9 : decode cX11_deliver 9 = .ok (.getfield 33, 3) := by decide +kernel
theorem dX11_deliver_12 : decode cX11_deliver 12 = .ok (.getfield 67, 3) := by decide +kernel
theorem dX11_deliver_15 : decode cX11_deliver 15 = .ok (.if_icmp .lt 5, 3) := by decide +kernel
theorem dX11_deliver_18 : decode cX11_deliver 18 = .ok (.iconst (-1), 1) := by decide +kernel
theorem dX11_deliver_19 : decode cX11_deliver 19 = .ok (.ireturn, 1) := by decide +kernel
theorem dX11_deliver_20 : decode cX11_deliver 20 = .ok (.aload_n 0, 1) := by decide +kernel
theorem dX11_deliver_21 : decode cX11_deliver 21 = .ok (.getfield 10, 3) := by decide +kernel
theorem dX11_deliver_24 : decode cX11_deliver 24 = .ok (.getfield 33, 3) := by decide +kernel
theorem dX11_deliver_27 : decode cX11_deliver 27 = .ok (.iload_n 1, 1) := by decide +kernel
theorem dX11_deliver_28 : decode cX11_deliver 28 = .ok (.invokevirtual 70, 3) := by decide +kernel
theorem dX11_deliver_31 : decode cX11_deliver 31 = .ok (.ireturn, 1) := by decide +kernel
def xX11_deliver  (l1 : Int32) (M : j_M) : Option (Int32 × j_M) := (if l1 < (0 : Int32) then some ((-1 : Int32), M) else oli (M 2 8) fun v1 => (if l1 < v1 then obi (xX1_deliverAt 2 l1 M) fun v3 M2 => some (v3, M2) else some ((-1 : Int32), M)))
set_option maxRecDepth 20000 in
set_option maxHeartbeats 2000000 in
theorem tX11_deliver  (l1 : Int32) (M : j_M) : J (ρ := Int32 × j_M) yX11_deliver cX11_deliver 2 (some .int) 5 138 j_ei 0 [(0, .inr (16, 0, 0)), (1, .inl (l1))] [] M (xX11_deliver  l1 M) := by
  unfold xX11_deliver
  refine K_iload_n (q := 1) 1 dX11_deliver_0 rfl rfl rfl ?_
  refine K_if_lt (q := 4) (tgt := 18) dX11_deliver_1 rfl ?_ rfl ?_
  · refine K_iconst (q := 19) (v := -1) dX11_deliver_18 rfl rfl ?_
    exact J_iret dX11_deliver_19
  · refine K_iload_n (q := 5) 1 dX11_deliver_4 rfl rfl rfl ?_
    refine K_aload_n (q := 6) 0 dX11_deliver_5 rfl rfl rfl ?_
    refine K_getR (q := 9) (ci := 6) (a2 := 1) 0 dX11_deliver_6 fRX11_10 rfl rfl (by decide) rfl rfl ?_
    refine K_getR (q := 12) (ci := 2) (a2 := 2) 1 dX11_deliver_9 fRX11_33 rfl rfl (by decide) rfl rfl ?_
    refine K_getI (q := 15) (ci := 0) 8 dX11_deliver_12 fRX11_67 rfl rfl rfl (fun v1 => ?_)
    refine K_icmp_lt (q := 18) (tgt := 20) dX11_deliver_15 rfl ?_ rfl ?_
    · refine K_aload_n (q := 21) 0 dX11_deliver_20 rfl rfl rfl ?_
      refine K_getR (q := 24) (ci := 6) (a2 := 1) 0 dX11_deliver_21 fRX11_10 rfl rfl (by decide) rfl rfl ?_
      refine K_getR (q := 27) (ci := 2) (a2 := 2) 1 dX11_deliver_24 fRX11_33 rfl rfl (by decide) rfl rfl ?_
      refine K_iload_n (q := 28) 1 dX11_deliver_27 rfl rfl rfl ?_
      refine K_cvi (q := 31) [.inl (l1)] dX11_deliver_28 cb_X1_deliverAt cvRX11_70 rc_0 (show (10 : Nat) ≠ 0 by decide) rfl (Nat.le_of_ble_eq_true rfl) ⟨by decide, by decide⟩ (Nat.le_of_ble_eq_true rfl) rfl (tX1_deliverAt 2 l1 M) rfl (fun v3 M2 => ?_)
      exact J_iret dX11_deliver_31
    · refine K_iconst (q := 19) (v := -1) dX11_deliver_18 rfl rfl ?_
      exact J_iret dX11_deliver_19
theorem dX11_end_0 : decode cX11_end 0 = .ok (.aload_n 0, 1) := by decide +kernel
theorem dX11_end_1 : decode cX11_end 1 = .ok (.getfield 19, 3) := by decide +kernel
theorem dX11_end_4 : decode cX11_end 4 = .ok (.iload_n 1, 1) := by decide +kernel
theorem dX11_end_5 : decode cX11_end 5 = .ok (.invokevirtual 97, 3) := by decide +kernel
theorem dX11_end_8 : decode cX11_end 8 = .ok (.ireturn, 1) := by decide +kernel
def xX11_end  (l1 : Int32) (M : j_M) : Option (Int32 × j_M) := obi (xX8_cut l1 M) fun v2 M1 => gz v2 (some (v2, M1))
set_option maxRecDepth 20000 in
set_option maxHeartbeats 2000000 in
theorem tX11_end  (l1 : Int32) (M : j_M) : J (ρ := Int32 × j_M) yX11_end cX11_end 2 (some .boolean) 1 21 j_ei 0 [(0, .inr (16, 0, 0)), (1, .inl (l1))] [] M (xX11_end  l1 M) := by
  unfold xX11_end
  refine K_aload_n (q := 1) 0 dX11_end_0 rfl rfl rfl ?_
  refine K_getR (q := 4) (ci := 6) (a2 := 28) 1 dX11_end_1 fRX11_19 rfl rfl (by decide) rfl rfl ?_
  refine K_iload_n (q := 5) 1 dX11_end_4 rfl rfl rfl ?_
  refine K_cvi (q := 8) [.inl (l1)] dX11_end_5 cb_X8_cut cvRX11_97 rc_3 (show (13 : Nat) ≠ 0 by decide) rfl (Nat.le_of_ble_eq_true rfl) ⟨by decide, by decide⟩ (Nat.le_of_ble_eq_true rfl) rfl (tX8_cut l1 M) rfl (fun v2 M1 => ?_)
  exact J_zretG dX11_end_8
theorem dX11_evict_0 : decode cX11_evict 0 = .ok (.aload_n 0, 1) := by decide +kernel
theorem dX11_evict_1 : decode cX11_evict 1 = .ok (.getfield 10, 3) := by decide +kernel
theorem dX11_evict_4 : decode cX11_evict 4 = .ok (.getfield 33, 3) := by decide +kernel
theorem dX11_evict_7 : decode cX11_evict 7 = .ok (.iload_n 1, 1) := by decide +kernel
theorem dX11_evict_8 : decode cX11_evict 8 = .ok (.iload_n 2, 1) := by decide +kernel
theorem dX11_evict_9 : decode cX11_evict 9 = .ok (.invokevirtual 63, 3) := by decide +kernel
theorem dX11_evict_12 : decode cX11_evict 12 = .ok (.ireturn, 1) := by decide +kernel
def xX11_evict  (l1 : Int32) (l2 : Int32) (M : j_M) : Option (Int32 × j_M) := obi (xX1_evictIfAllowed 2 l1 l2 M) fun v2 M1 => gz v2 (some (v2, M1))
set_option maxRecDepth 20000 in
set_option maxHeartbeats 2000000 in
theorem tX11_evict  (l1 : Int32) (l2 : Int32) (M : j_M) : J (ρ := Int32 × j_M) yX11_evict cX11_evict 3 (some .boolean) 4 105 j_ei 0 [(0, .inr (16, 0, 0)), (1, .inl (l1)), (2, .inl (l2))] [] M (xX11_evict  l1 l2 M) := by
  unfold xX11_evict
  refine K_aload_n (q := 1) 0 dX11_evict_0 rfl rfl rfl ?_
  refine K_getR (q := 4) (ci := 6) (a2 := 1) 0 dX11_evict_1 fRX11_10 rfl rfl (by decide) rfl rfl ?_
  refine K_getR (q := 7) (ci := 2) (a2 := 2) 1 dX11_evict_4 fRX11_33 rfl rfl (by decide) rfl rfl ?_
  refine K_iload_n (q := 8) 1 dX11_evict_7 rfl rfl rfl ?_
  refine K_iload_n (q := 9) 2 dX11_evict_8 rfl rfl rfl ?_
  refine K_cvi (q := 12) [.inl (l1), .inl (l2)] dX11_evict_9 cb_X1_evictIfAllowed cvRX11_63 rc_0 (show (10 : Nat) ≠ 0 by decide) rfl (Nat.le_of_ble_eq_true rfl) ⟨by decide, by decide⟩ (Nat.le_of_ble_eq_true rfl) rfl (tX1_evictIfAllowed 2 l1 l2 M) rfl (fun v2 M1 => ?_)
  exact J_zretG dX11_evict_12
theorem dX11_fault_0 : decode cX11_fault 0 = .ok (.iload_n 1, 1) := by decide +kernel
theorem dX11_fault_1 : decode cX11_fault 1 = .ok (.lookupswitch 43 #[(0, 27), (1, 35)], 27) := by decide +kernel
theorem dX11_fault_28 : decode cX11_fault 28 = .ok (.aload_n 0, 1) := by decide +kernel
theorem dX11_fault_29 : decode cX11_fault 29 = .ok (.getfield 19, 3) := by decide +kernel
theorem dX11_fault_32 : decode cX11_fault 32 = .ok (.getfield 131, 3) := by decide +kernel
theorem dX11_fault_35 : decode cX11_fault 35 = .ok (.ireturn, 1) := by decide +kernel
theorem dX11_fault_36 : decode cX11_fault 36 = .ok (.aload_n 0, 1) := by decide +kernel
theorem dX11_fault_37 : decode cX11_fault 37 = .ok (.getfield 19, 3) := by decide +kernel
theorem dX11_fault_40 : decode cX11_fault 40 = .ok (.getfield 134, 3) := by decide +kernel
theorem dX11_fault_43 : decode cX11_fault 43 = .ok (.ireturn, 1) := by decide +kernel
theorem dX11_fault_44 : decode cX11_fault 44 = .ok (.iconst (-1), 1) := by decide +kernel
theorem dX11_fault_45 : decode cX11_fault 45 = .ok (.ireturn, 1) := by decide +kernel
def xX11_fault  (l1 : Int32) (M : j_M) : Option (Int32 × j_M) := osw l1 [((nI 0), oli (M 28 5) fun v1 => some (v1, M)), ((nI 1), oli (M 28 6) fun v2 => some (v2, M))] (some ((-1 : Int32), M))
set_option maxRecDepth 20000 in
set_option maxHeartbeats 2000000 in
theorem tX11_fault  (l1 : Int32) (M : j_M) : J (ρ := Int32 × j_M) yX11_fault cX11_fault 2 (some .int) 0 0 j_ei 0 [(0, .inr (16, 0, 0)), (1, .inl (l1))] [] M (xX11_fault  l1 M) := by
  unfold xX11_fault
  refine K_iload_n (q := 1) 1 dX11_fault_0 rfl rfl rfl ?_
  refine K_lsw2 (dt := 44) (t1 := 28) (t2 := 36) dX11_fault_1 rfl rfl rfl rfl rfl rfl ?_ ?_ ?_
  · refine K_aload_n (q := 29) 0 dX11_fault_28 rfl rfl rfl ?_
    refine K_getR (q := 32) (ci := 6) (a2 := 28) 1 dX11_fault_29 fRX11_19 rfl rfl (by decide) rfl rfl ?_
    refine K_getI (q := 35) (ci := 3) 5 dX11_fault_32 fRX11_131 rfl rfl rfl (fun v1 => ?_)
    exact J_iret dX11_fault_35
  · refine K_aload_n (q := 37) 0 dX11_fault_36 rfl rfl rfl ?_
    refine K_getR (q := 40) (ci := 6) (a2 := 28) 1 dX11_fault_37 fRX11_19 rfl rfl (by decide) rfl rfl ?_
    refine K_getI (q := 43) (ci := 3) 6 dX11_fault_40 fRX11_134 rfl rfl rfl (fun v2 => ?_)
    exact J_iret dX11_fault_43
  · refine K_iconst (q := 45) (v := -1) dX11_fault_44 rfl rfl ?_
    exact J_iret dX11_fault_45
theorem dX11_feed_0 : decode cX11_feed 0 = .ok (.aload_n 0, 1) := by decide +kernel
theorem dX11_feed_1 : decode cX11_feed 1 = .ok (.getfield 19, 3) := by decide +kernel
theorem dX11_feed_4 : decode cX11_feed 4 = .ok (.invokevirtual 87, 3) := by decide +kernel
theorem dX11_feed_7 : decode cX11_feed 7 = .ok (.ifCond .ne 5, 3) := by decide +kernel
theorem dX11_feed_10 : decode cX11_feed 10 = .ok (.iconst (-1), 1) := by decide +kernel
theorem dX11_feed_11 : decode cX11_feed 11 = .ok (.ireturn, 1) := by decide +kernel
theorem dX11_feed_12 : decode cX11_feed 12 = .ok (.aload_n 0, 1) := by decide +kernel
theorem dX11_feed_13 : decode cX11_feed 13 = .ok (.getfield 19, 3) := by decide +kernel
theorem dX11_feed_16 : decode cX11_feed 16 = .ok (.iload_n 1, 1) := by decide +kernel
theorem dX11_feed_17 : decode cX11_feed 17 = .ok (.invokevirtual 91, 3) := by decide +kernel
theorem dX11_feed_20 : decode cX11_feed 20 = .ok (.aload_n 0, 1) := by decide +kernel
theorem dX11_feed_21 : decode cX11_feed 21 = .ok (.getfield 19, 3) := by decide +kernel
theorem dX11_feed_24 : decode cX11_feed 24 = .ok (.iload_n 2, 1) := by decide +kernel
theorem dX11_feed_25 : decode cX11_feed 25 = .ok (.invokevirtual 91, 3) := by decide +kernel
theorem dX11_feed_28 : decode cX11_feed 28 = .ok (.aload_n 0, 1) := by decide +kernel
theorem dX11_feed_29 : decode cX11_feed 29 = .ok (.getfield 19, 3) := by decide +kernel
theorem dX11_feed_32 : decode cX11_feed 32 = .ok (.iload_n 3, 1) := by decide +kernel
theorem dX11_feed_33 : decode cX11_feed 33 = .ok (.invokevirtual 91, 3) := by decide +kernel
theorem dX11_feed_36 : decode cX11_feed 36 = .ok (.aload_n 0, 1) := by decide +kernel
theorem dX11_feed_37 : decode cX11_feed 37 = .ok (.getfield 19, 3) := by decide +kernel
theorem dX11_feed_40 : decode cX11_feed 40 = .ok (.iload 4, 2) := by decide +kernel
theorem dX11_feed_42 : decode cX11_feed 42 = .ok (.invokevirtual 91, 3) := by decide +kernel
theorem dX11_feed_45 : decode cX11_feed 45 = .ok (.aload_n 0, 1) := by decide +kernel
theorem dX11_feed_46 : decode cX11_feed 46 = .ok (.getfield 19, 3) := by decide +kernel
theorem dX11_feed_49 : decode cX11_feed 49 = .ok (.iload 5, 2) := by decide +kernel
theorem dX11_feed_51 : decode cX11_feed 51 = .ok (.invokevirtual 91, 3) := by decide +kernel
theorem dX11_feed_54 : decode cX11_feed 54 = .ok (.aload_n 0, 1) := by decide +kernel
theorem dX11_feed_55 : decode cX11_feed 55 = .ok (.getfield 19, 3) := by decide +kernel
theorem dX11_feed_58 : decode cX11_feed 58 = .ok (.getfield 94, 3) := by decide +kernel
theorem dX11_feed_61 : decode cX11_feed 61 = .ok (.ireturn, 1) := by decide +kernel
def xX11_feed  (l1 : Int32) (l2 : Int32) (l3 : Int32) (l4 : Int32) (l5 : Int32) (M : j_M) : Option (Int32 × j_M) := obi (xX8_hasSpace M) fun v2 M1 => (if v2 = (0 : Int32) then some ((-1 : Int32), M1) else obv (xX8_put l1 M1) fun M3 => obv (xX8_put l2 M3) fun M4 => obv (xX8_put l3 M4) fun M5 => obv (xX8_put l4 M5) fun M6 => obv (xX8_put l5 M6) fun M7 => oli (M7 28 4) fun v8 => some (v8, M7))
set_option maxRecDepth 20000 in
set_option maxHeartbeats 2000000 in
theorem tX11_feed  (l1 : Int32) (l2 : Int32) (l3 : Int32) (l4 : Int32) (l5 : Int32) (M : j_M) : J (ρ := Int32 × j_M) yX11_feed cX11_feed 6 (some .int) 1 22 j_ei 0 [(0, .inr (16, 0, 0)), (1, .inl (l1)), (2, .inl (l2)), (3, .inl (l3)), (4, .inl (l4)), (5, .inl (l5))] [] M (xX11_feed  l1 l2 l3 l4 l5 M) := by
  unfold xX11_feed
  refine K_aload_n (q := 1) 0 dX11_feed_0 rfl rfl rfl ?_
  refine K_getR (q := 4) (ci := 6) (a2 := 28) 1 dX11_feed_1 fRX11_19 rfl rfl (by decide) rfl rfl ?_
  refine K_cvi (q := 7) [] dX11_feed_4 cb_X8_hasSpace cvRX11_87 rc_3 (show (13 : Nat) ≠ 0 by decide) rfl (Nat.le_of_ble_eq_true rfl) ⟨by decide, by decide⟩ (Nat.le_of_ble_eq_true rfl) rfl (tX8_hasSpace M) rfl (fun v2 M1 => ?_)
  refine K_if_ne (q := 10) (tgt := 12) dX11_feed_7 rfl ?_ rfl ?_
  · refine K_aload_n (q := 13) 0 dX11_feed_12 rfl rfl rfl ?_
    refine K_getR (q := 16) (ci := 6) (a2 := 28) 1 dX11_feed_13 fRX11_19 rfl rfl (by decide) rfl rfl ?_
    refine K_iload_n (q := 17) 1 dX11_feed_16 rfl rfl rfl ?_
    refine K_cvv (q := 20) [.inl (l1)] dX11_feed_17 cb_X8_put cvRX11_91 rc_3 (show (13 : Nat) ≠ 0 by decide) rfl (Nat.le_of_ble_eq_true rfl) ⟨by decide, by decide⟩ (Nat.le_of_ble_eq_true rfl) rfl (tX8_put l1 M1) rfl (fun M3 => ?_)
    refine K_aload_n (q := 21) 0 dX11_feed_20 rfl rfl rfl ?_
    refine K_getR (q := 24) (ci := 6) (a2 := 28) 1 dX11_feed_21 fRX11_19 rfl rfl (by decide) rfl rfl ?_
    refine K_iload_n (q := 25) 2 dX11_feed_24 rfl rfl rfl ?_
    refine K_cvv (q := 28) [.inl (l2)] dX11_feed_25 cb_X8_put cvRX11_91 rc_3 (show (13 : Nat) ≠ 0 by decide) rfl (Nat.le_of_ble_eq_true rfl) ⟨by decide, by decide⟩ (Nat.le_of_ble_eq_true rfl) rfl (tX8_put l2 M3) rfl (fun M4 => ?_)
    refine K_aload_n (q := 29) 0 dX11_feed_28 rfl rfl rfl ?_
    refine K_getR (q := 32) (ci := 6) (a2 := 28) 1 dX11_feed_29 fRX11_19 rfl rfl (by decide) rfl rfl ?_
    refine K_iload_n (q := 33) 3 dX11_feed_32 rfl rfl rfl ?_
    refine K_cvv (q := 36) [.inl (l3)] dX11_feed_33 cb_X8_put cvRX11_91 rc_3 (show (13 : Nat) ≠ 0 by decide) rfl (Nat.le_of_ble_eq_true rfl) ⟨by decide, by decide⟩ (Nat.le_of_ble_eq_true rfl) rfl (tX8_put l3 M4) rfl (fun M5 => ?_)
    refine K_aload_n (q := 37) 0 dX11_feed_36 rfl rfl rfl ?_
    refine K_getR (q := 40) (ci := 6) (a2 := 28) 1 dX11_feed_37 fRX11_19 rfl rfl (by decide) rfl rfl ?_
    refine K_iload (q := 42) 4 dX11_feed_40 rfl rfl ?_
    refine K_cvv (q := 45) [.inl (l4)] dX11_feed_42 cb_X8_put cvRX11_91 rc_3 (show (13 : Nat) ≠ 0 by decide) rfl (Nat.le_of_ble_eq_true rfl) ⟨by decide, by decide⟩ (Nat.le_of_ble_eq_true rfl) rfl (tX8_put l4 M5) rfl (fun M6 => ?_)
    refine K_aload_n (q := 46) 0 dX11_feed_45 rfl rfl rfl ?_
    refine K_getR (q := 49) (ci := 6) (a2 := 28) 1 dX11_feed_46 fRX11_19 rfl rfl (by decide) rfl rfl ?_
    refine K_iload (q := 51) 5 dX11_feed_49 rfl rfl ?_
    refine K_cvv (q := 54) [.inl (l5)] dX11_feed_51 cb_X8_put cvRX11_91 rc_3 (show (13 : Nat) ≠ 0 by decide) rfl (Nat.le_of_ble_eq_true rfl) ⟨by decide, by decide⟩ (Nat.le_of_ble_eq_true rfl) rfl (tX8_put l5 M6) rfl (fun M7 => ?_)
    refine K_aload_n (q := 55) 0 dX11_feed_54 rfl rfl rfl ?_
    refine K_getR (q := 58) (ci := 6) (a2 := 28) 1 dX11_feed_55 fRX11_19 rfl rfl (by decide) rfl rfl ?_
    refine K_getI (q := 61) (ci := 3) 4 dX11_feed_58 fRX11_94 rfl rfl rfl (fun v8 => ?_)
    exact J_iret dX11_feed_61
  · refine K_iconst (q := 11) (v := -1) dX11_feed_10 rfl rfl ?_
    exact J_iret dX11_feed_11
theorem dX11_flow_0 : decode cX11_flow 0 = .ok (.iload_n 1, 1) := by decide +kernel
theorem dX11_flow_1 : decode cX11_flow 1 = .ok (.ifCond .lt 19, 3) := by decide +kernel
theorem dX11_flow_4 : decode cX11_flow 4 = .ok (.iload_n 1, 1) := by decide +kernel
theorem dX11_flow_5 : decode cX11_flow 5 = .ok (.bipush 7, 2) := by decide +kernel
theorem dX11_flow_7 : decode cX11_flow 7 = .ok (.if_icmp .ge 13, 3) := by decide +kernel
theorem dX11_flow_10 : decode cX11_flow 10 = .ok (.iload_n 2, 1) := by decide +kernel
theorem dX11_flow_11 : decode cX11_flow 11 = .ok (.ifCond .lt 9, 3) := by decide +kernel
theorem dX11_flow_14 : decode cX11_flow 14 = .ok (.iload_n 2, 1) := by decide +kernel
theorem dX11_flow_15 : decode cX11_flow 15 = .ok (.bipush 7, 2) := by decide +kernel
theorem dX11_flow_17 : decode cX11_flow 17 = .ok (.if_icmp .lt 5, 3) := by decide +kernel
theorem dX11_flow_20 : decode cX11_flow 20 = .ok (.iconst (-1), 1) := by decide +kernel
theorem dX11_flow_21 : decode cX11_flow 21 = .ok (.ireturn, 1) := by decide +kernel
theorem dX11_flow_22 : decode cX11_flow 22 = .ok (.iload_n 1, 1) := by decide +kernel
theorem dX11_flow_23 : decode cX11_flow 23 = .ok (.bipush 7, 2) := by decide +kernel
theorem dX11_flow_25 : decode cX11_flow 25 = .ok (.imul, 1) := by decide +kernel
theorem dX11_flow_26 : decode cX11_flow 26 = .ok (.iload_n 2, 1) := by decide +kernel
theorem dX11_flow_27 : decode cX11_flow 27 = .ok (.iadd, 1) := by decide +kernel
theorem dX11_flow_28 : decode cX11_flow 28 = .ok (.istore 4, 2) := by decide +kernel
theorem dX11_flow_30 : decode cX11_flow 30 = .ok (.iload_n 3, 1) := by decide +kernel
theorem dX11_flow_31 : decode cX11_flow 31 = .ok (.tableswitch 67 0 2 #[25, 39, 53], 25) := by decide +kernel
theorem dX11_flow_56 : decode cX11_flow 56 = .ok (.aload_n 0, 1) := by decide +kernel
theorem dX11_flow_57 : decode cX11_flow 57 = .ok (.getfield 10, 3) := by decide +kernel
theorem dX11_flow_60 : decode cX11_flow 60 = .ok (.getfield 233, 3) := by decide +kernel
theorem dX11_flow_63 : decode cX11_flow 63 = .ok (.getfield 323, 3) := by decide +kernel
theorem dX11_flow_66 : decode cX11_flow 66 = .ok (.iload 4, 2) := by decide +kernel
theorem dX11_flow_68 : decode cX11_flow 68 = .ok (.iaload, 1) := by decide +kernel
theorem dX11_flow_69 : decode cX11_flow 69 = .ok (.ireturn, 1) := by decide +kernel
theorem dX11_flow_70 : decode cX11_flow 70 = .ok (.aload_n 0, 1) := by decide +kernel
theorem dX11_flow_71 : decode cX11_flow 71 = .ok (.getfield 10, 3) := by decide +kernel
theorem dX11_flow_74 : decode cX11_flow 74 = .ok (.getfield 233, 3) := by decide +kernel
theorem dX11_flow_77 : decode cX11_flow 77 = .ok (.getfield 326, 3) := by decide +kernel
theorem dX11_flow_80 : decode cX11_flow 80 = .ok (.iload 4, 2) := by decide +kernel
theorem dX11_flow_82 : decode cX11_flow 82 = .ok (.iaload, 1) := by decide +kernel
theorem dX11_flow_83 : decode cX11_flow 83 = .ok (.ireturn, 1) := by decide +kernel
theorem dX11_flow_84 : decode cX11_flow 84 = .ok (.aload_n 0, 1) := by decide +kernel
theorem dX11_flow_85 : decode cX11_flow 85 = .ok (.getfield 10, 3) := by decide +kernel
theorem dX11_flow_88 : decode cX11_flow 88 = .ok (.getfield 233, 3) := by decide +kernel
theorem dX11_flow_91 : decode cX11_flow 91 = .ok (.getfield 329, 3) := by decide +kernel
theorem dX11_flow_94 : decode cX11_flow 94 = .ok (.iload 4, 2) := by decide +kernel
theorem dX11_flow_96 : decode cX11_flow 96 = .ok (.iaload, 1) := by decide +kernel
theorem dX11_flow_97 : decode cX11_flow 97 = .ok (.ireturn, 1) := by decide +kernel
theorem dX11_flow_98 : decode cX11_flow 98 = .ok (.iconst (-1), 1) := by decide +kernel
theorem dX11_flow_99 : decode cX11_flow 99 = .ok (.ireturn, 1) := by decide +kernel
def xX11_flow  (l1 : Int32) (l2 : Int32) (l3 : Int32) (M : j_M) : Option (Int32 × j_M) := (if l1 < (0 : Int32) then some ((-1 : Int32), M) else (if (nI 7) ≤ l1 then some ((-1 : Int32), M) else (if l2 < (0 : Int32) then some ((-1 : Int32), M) else (if l2 < (nI 7) then osw l3 [((nI 0), gd ((l1 * (nI 7)) + l2) 49 (oli (M 12 (ix ((l1 * (nI 7)) + l2))) fun v1 => some (v1, M))), ((nI 1), gd ((l1 * (nI 7)) + l2) 49 (oli (M 13 (ix ((l1 * (nI 7)) + l2))) fun v2 => some (v2, M))), ((nI 2), gd ((l1 * (nI 7)) + l2) 49 (oli (M 14 (ix ((l1 * (nI 7)) + l2))) fun v3 => some (v3, M)))] (some ((-1 : Int32), M)) else some ((-1 : Int32), M)))))
set_option maxRecDepth 20000 in
set_option maxHeartbeats 2000000 in
theorem tX11_flow  (l1 : Int32) (l2 : Int32) (l3 : Int32) (M : j_M) : J (ρ := Int32 × j_M) yX11_flow cX11_flow 5 (some .int) 0 0 j_ei 0 [(0, .inr (16, 0, 0)), (1, .inl (l1)), (2, .inl (l2)), (3, .inl (l3))] [] M (xX11_flow  l1 l2 l3 M) := by
  unfold xX11_flow
  refine K_iload_n (q := 1) 1 dX11_flow_0 rfl rfl rfl ?_
  refine K_if_lt (q := 4) (tgt := 20) dX11_flow_1 rfl ?_ rfl ?_
  · refine K_iconst (q := 21) (v := -1) dX11_flow_20 rfl rfl ?_
    exact J_iret dX11_flow_21
  · refine K_iload_n (q := 5) 1 dX11_flow_4 rfl rfl rfl ?_
    refine K_bipush (q := 7) (v := nI 7) dX11_flow_5 rfl rfl ?_
    refine K_icmp_ge (q := 10) (tgt := 20) dX11_flow_7 rfl ?_ rfl ?_
    · refine K_iconst (q := 21) (v := -1) dX11_flow_20 rfl rfl ?_
      exact J_iret dX11_flow_21
    · refine K_iload_n (q := 11) 2 dX11_flow_10 rfl rfl rfl ?_
      refine K_if_lt (q := 14) (tgt := 20) dX11_flow_11 rfl ?_ rfl ?_
      · refine K_iconst (q := 21) (v := -1) dX11_flow_20 rfl rfl ?_
        exact J_iret dX11_flow_21
      · refine K_iload_n (q := 15) 2 dX11_flow_14 rfl rfl rfl ?_
        refine K_bipush (q := 17) (v := nI 7) dX11_flow_15 rfl rfl ?_
        refine K_icmp_lt (q := 20) (tgt := 22) dX11_flow_17 rfl ?_ rfl ?_
        · refine K_iload_n (q := 23) 1 dX11_flow_22 rfl rfl rfl ?_
          refine K_bipush (q := 25) (v := nI 7) dX11_flow_23 rfl rfl ?_
          refine K_imul (q := 26) dX11_flow_25 rfl ?_
          refine K_iload_n (q := 27) 2 dX11_flow_26 rfl rfl rfl ?_
          refine K_iadd (q := 28) dX11_flow_27 rfl ?_
          refine K_istore (q := 30) (ll' := [(4, .inl ((l1 * (nI 7)) + l2)), (0, .inr (16, 0, 0)), (1, .inl (l1)), (2, .inl (l2)), (3, .inl (l3))]) dX11_flow_28 (by decide) rfl rfl ?_
          refine K_iload_n (q := 31) 4 dX11_flow_30 rfl rfl rfl ?_
          refine K_tsw (dt := 98) [56, 70, 84] dX11_flow_31 rfl rfl rfl rfl ⟨?_, ?_, ?_, trivial⟩ ?_
          · refine K_aload_n (q := 57) 1 dX11_flow_56 rfl rfl rfl ?_
            refine K_getR (q := 60) (ci := 6) (a2 := 1) 0 dX11_flow_57 fRX11_10 rfl rfl (by decide) rfl rfl ?_
            refine K_getR (q := 63) (ci := 2) (a2 := 10) 0 dX11_flow_60 fRX11_233 rfl rfl (by decide) rfl rfl ?_
            refine K_getR (q := 66) (ci := 1) (a2 := 12) 1 dX11_flow_63 fRX11_323 rfl rfl (by decide) rfl rfl ?_
            refine K_iload (q := 68) 0 dX11_flow_66 rfl rfl ?_
            refine K_iald (q := 69) dX11_flow_68 rfl (fun v1 => ?_)
            exact J_iret dX11_flow_69
          · refine K_aload_n (q := 71) 1 dX11_flow_70 rfl rfl rfl ?_
            refine K_getR (q := 74) (ci := 6) (a2 := 1) 0 dX11_flow_71 fRX11_10 rfl rfl (by decide) rfl rfl ?_
            refine K_getR (q := 77) (ci := 2) (a2 := 10) 0 dX11_flow_74 fRX11_233 rfl rfl (by decide) rfl rfl ?_
            refine K_getR (q := 80) (ci := 1) (a2 := 13) 2 dX11_flow_77 fRX11_326 rfl rfl (by decide) rfl rfl ?_
            refine K_iload (q := 82) 0 dX11_flow_80 rfl rfl ?_
            refine K_iald (q := 83) dX11_flow_82 rfl (fun v2 => ?_)
            exact J_iret dX11_flow_83
          · refine K_aload_n (q := 85) 1 dX11_flow_84 rfl rfl rfl ?_
            refine K_getR (q := 88) (ci := 6) (a2 := 1) 0 dX11_flow_85 fRX11_10 rfl rfl (by decide) rfl rfl ?_
            refine K_getR (q := 91) (ci := 2) (a2 := 10) 0 dX11_flow_88 fRX11_233 rfl rfl (by decide) rfl rfl ?_
            refine K_getR (q := 94) (ci := 1) (a2 := 14) 3 dX11_flow_91 fRX11_329 rfl rfl (by decide) rfl rfl ?_
            refine K_iload (q := 96) 0 dX11_flow_94 rfl rfl ?_
            refine K_iald (q := 97) dX11_flow_96 rfl (fun v3 => ?_)
            exact J_iret dX11_flow_97
          · refine K_iconst (q := 99) (v := -1) dX11_flow_98 rfl rfl ?_
            exact J_iret dX11_flow_99
        · refine K_iconst (q := 21) (v := -1) dX11_flow_20 rfl rfl ?_
          exact J_iret dX11_flow_21
theorem dX11_go_0 : decode cX11_go 0 = .ok (.iload_n 1, 1) := by decide +kernel
theorem dX11_go_1 : decode cX11_go 1 = .ok (.iconst 1, 1) := by decide +kernel
theorem dX11_go_2 : decode cX11_go 2 = .ok (.if_icmp .lt 32, 3) := by decide +kernel
theorem dX11_go_5 : decode cX11_go 5 = .ok (.iload_n 1, 1) := by decide +kernel
theorem dX11_go_6 : decode cX11_go 6 = .ok (.bipush 60, 2) := by decide +kernel
theorem dX11_go_8 : decode cX11_go 8 = .ok (.if_icmp .gt 26, 3) := by decide +kernel
theorem dX11_go_11 : decode cX11_go 11 = .ok (.iload_n 2, 1) := by decide +kernel
theorem dX11_go_12 : decode cX11_go 12 = .ok (.ifCond .lt 22, 3) := by decide +kernel
theorem dX11_go_15 : decode cX11_go 15 = .ok (.iload_n 2, 1) := by decide +kernel
theorem dX11_go_16 : decode cX11_go 16 = .ok (.iconst 2, 1) := by decide +kernel
theorem dX11_go_17 : decode cX11_go 17 = .ok (.if_icmp .gt 17, 3) := by decide +kernel
theorem dX11_go_20 : decode cX11_go 20 = .ok (.aload_n 0, 1) := by decide +kernel
theorem dX11_go_21 : decode cX11_go 21 = .ok (.getfield 10, 3) := by decide +kernel
theorem dX11_go_24 : decode cX11_go 24 = .ok (.getfield 33, 3) := by decide +kernel
theorem dX11_go_27 : decode cX11_go 27 = .ok (.iload_n 1, 1) := by decide +kernel
theorem dX11_go_28 : decode cX11_go 28 = .ok (.invokevirtual 74, 3) := by decide +kernel
theorem dX11_go_31 : decode cX11_go 31 = .ok (.ifCond .ne 5, 3) := by decide +kernel
theorem dX11_go_34 : decode cX11_go 34 = .ok (.iconst (-1), 1) := by decide +kernel
theorem dX11_go_35 : decode cX11_go 35 = .ok (.ireturn, 1) := by decide +kernel
theorem dX11_go_36 : decode cX11_go 36 = .ok (.aload_n 0, 1) := by decide +kernel
theorem dX11_go_37 : decode cX11_go 37 = .ok (.getfield 10, 3) := by decide +kernel
theorem dX11_go_40 : decode cX11_go 40 = .ok (.iload_n 1, 1) := by decide +kernel
theorem dX11_go_41 : decode cX11_go 41 = .ok (.iload_n 2, 1) := by decide +kernel
theorem dX11_go_42 : decode cX11_go 42 = .ok (.invokevirtual 137, 3) := by decide +kernel
theorem dX11_go_45 : decode cX11_go 45 = .ok (.ireturn, 1) := by decide +kernel
def xX11_go  (l1 : Int32) (l2 : Int32) (M : j_M) : Option (Int32 × j_M) := (if l1 < (nI 1) then some ((-1 : Int32), M) else (if (nI 60) < l1 then some ((-1 : Int32), M) else (if l2 < (0 : Int32) then some ((-1 : Int32), M) else (if (nI 2) < l2 then some ((-1 : Int32), M) else obi (xX1_hasTime 2 l1 M) fun v2 M1 => (if v2 = (0 : Int32) then some ((-1 : Int32), M1) else obi (xX6_goRounds 1 l1 l2 M1) fun v4 M3 => some (v4, M3))))))
set_option maxRecDepth 20000 in
set_option maxHeartbeats 2000000 in
theorem tX11_go  (l1 : Int32) (l2 : Int32) (M : j_M) : J (ρ := Int32 × j_M) yX11_go cX11_go 3 (some .int) 6 163 j_ei 0 [(0, .inr (16, 0, 0)), (1, .inl (l1)), (2, .inl (l2))] [] M (xX11_go  l1 l2 M) := by
  unfold xX11_go
  refine K_iload_n (q := 1) 1 dX11_go_0 rfl rfl rfl ?_
  refine K_iconst (q := 2) (v := nI 1) dX11_go_1 rfl rfl ?_
  refine K_icmp_lt (q := 5) (tgt := 34) dX11_go_2 rfl ?_ rfl ?_
  · refine K_iconst (q := 35) (v := -1) dX11_go_34 rfl rfl ?_
    exact J_iret dX11_go_35
  · refine K_iload_n (q := 6) 1 dX11_go_5 rfl rfl rfl ?_
    refine K_bipush (q := 8) (v := nI 60) dX11_go_6 rfl rfl ?_
    refine K_icmp_gt (q := 11) (tgt := 34) dX11_go_8 rfl ?_ rfl ?_
    · refine K_iconst (q := 35) (v := -1) dX11_go_34 rfl rfl ?_
      exact J_iret dX11_go_35
    · refine K_iload_n (q := 12) 2 dX11_go_11 rfl rfl rfl ?_
      refine K_if_lt (q := 15) (tgt := 34) dX11_go_12 rfl ?_ rfl ?_
      · refine K_iconst (q := 35) (v := -1) dX11_go_34 rfl rfl ?_
        exact J_iret dX11_go_35
      · refine K_iload_n (q := 16) 2 dX11_go_15 rfl rfl rfl ?_
        refine K_iconst (q := 17) (v := nI 2) dX11_go_16 rfl rfl ?_
        refine K_icmp_gt (q := 20) (tgt := 34) dX11_go_17 rfl ?_ rfl ?_
        · refine K_iconst (q := 35) (v := -1) dX11_go_34 rfl rfl ?_
          exact J_iret dX11_go_35
        · refine K_aload_n (q := 21) 0 dX11_go_20 rfl rfl rfl ?_
          refine K_getR (q := 24) (ci := 6) (a2 := 1) 0 dX11_go_21 fRX11_10 rfl rfl (by decide) rfl rfl ?_
          refine K_getR (q := 27) (ci := 2) (a2 := 2) 1 dX11_go_24 fRX11_33 rfl rfl (by decide) rfl rfl ?_
          refine K_iload_n (q := 28) 1 dX11_go_27 rfl rfl rfl ?_
          refine K_cvi (q := 31) [.inl (l1)] dX11_go_28 cb_X1_hasTime cvRX11_74 rc_0 (show (10 : Nat) ≠ 0 by decide) rfl (Nat.le_of_ble_eq_true rfl) ⟨by decide, by decide⟩ (Nat.le_of_ble_eq_true rfl) rfl (tX1_hasTime 2 l1 M) rfl (fun v2 M1 => ?_)
          refine K_if_ne (q := 34) (tgt := 36) dX11_go_31 rfl ?_ rfl ?_
          · refine K_aload_n (q := 37) 0 dX11_go_36 rfl rfl rfl ?_
            refine K_getR (q := 40) (ci := 6) (a2 := 1) 0 dX11_go_37 fRX11_10 rfl rfl (by decide) rfl rfl ?_
            refine K_iload_n (q := 41) 1 dX11_go_40 rfl rfl rfl ?_
            refine K_iload_n (q := 42) 2 dX11_go_41 rfl rfl rfl ?_
            refine K_cvi (q := 45) [.inl (l1), .inl (l2)] dX11_go_42 cb_X6_goRounds cvRX11_137 rc_2 (show (12 : Nat) ≠ 0 by decide) rfl (Nat.le_of_ble_eq_true rfl) ⟨by decide, by decide⟩ (Nat.le_of_ble_eq_true rfl) rfl (tX6_goRounds 1 l1 l2 M1) rfl (fun v4 M3 => ?_)
            exact J_iret dX11_go_45
          · refine K_iconst (q := 35) (v := -1) dX11_go_34 rfl rfl ?_
            exact J_iret dX11_go_35
theorem dX11_group_0 : decode cX11_group 0 = .ok (.aload_n 0, 1) := by decide +kernel
theorem dX11_group_1 : decode cX11_group 1 = .ok (.getfield 10, 3) := by decide +kernel
theorem dX11_group_4 : decode cX11_group 4 = .ok (.getfield 33, 3) := by decide +kernel
theorem dX11_group_7 : decode cX11_group 7 = .ok (.iload_n 1, 1) := by decide +kernel
theorem dX11_group_8 : decode cX11_group 8 = .ok (.invokevirtual 173, 3) := by decide +kernel
theorem dX11_group_11 : decode cX11_group 11 = .ok (.ifCond .eq 10, 3) := by decide +kernel
theorem dX11_group_14 : decode cX11_group 14 = .ok (.iload_n 2, 1) := by decide +kernel
theorem dX11_group_15 : decode cX11_group 15 = .ok (.invokestatic 144, 3) := by decide +kernel
theorem dX11_group_18 : decode cX11_group 18 = .ok (.ifCond .ne 5, 3) := by decide +kernel
theorem dX11_group_21 : decode cX11_group 21 = .ok (.iconst (-1), 1) := by decide +kernel
theorem dX11_group_22 : decode cX11_group 22 = .ok (.ireturn, 1) := by decide +kernel
theorem dX11_group_23 : decode cX11_group 23 = .ok (.aload_n 0, 1) := by decide +kernel
theorem dX11_group_24 : decode cX11_group 24 = .ok (.getfield 10, 3) := by decide +kernel
theorem dX11_group_27 : decode cX11_group 27 = .ok (.getfield 33, 3) := by decide +kernel
theorem dX11_group_30 : decode cX11_group 30 = .ok (.getfield 314, 3) := by decide +kernel
theorem dX11_group_33 : decode cX11_group 33 = .ok (.iload_n 1, 1) := by decide +kernel
theorem dX11_group_34 : decode cX11_group 34 = .ok (.bipush 8, 2) := by decide +kernel
theorem dX11_group_36 : decode cX11_group 36 = .ok (.imul, 1) := by decide +kernel
theorem dX11_group_37 : decode cX11_group 37 = .ok (.iload_n 2, 1) := by decide +kernel
theorem dX11_group_38 : decode cX11_group 38 = .ok (.iadd, 1) := by decide +kernel
theorem dX11_group_39 : decode cX11_group 39 = .ok (.iaload, 1) := by decide +kernel
theorem dX11_group_40 : decode cX11_group 40 = .ok (.ireturn, 1) := by decide +kernel
def xX11_group  (l1 : Int32) (l2 : Int32) (M : j_M) : Option (Int32 × j_M) := obi (xX1_isCpu 2 l1 M) fun v2 M1 => (if v2 = (0 : Int32) then some ((-1 : Int32), M1) else obi (xX11_isLine l2 M1) fun v4 M3 => (if v4 = (0 : Int32) then some ((-1 : Int32), M3) else gd ((l1 * (nI 8)) + l2) 48 (oli (M3 6 (ix ((l1 * (nI 8)) + l2))) fun v5 => some (v5, M3))))
set_option maxRecDepth 20000 in
set_option maxHeartbeats 2000000 in
theorem tX11_group  (l1 : Int32) (l2 : Int32) (M : j_M) : J (ρ := Int32 × j_M) yX11_group cX11_group 3 (some .int) 1 21 j_ei 0 [(0, .inr (16, 0, 0)), (1, .inl (l1)), (2, .inl (l2))] [] M (xX11_group  l1 l2 M) := by
  unfold xX11_group
  refine K_aload_n (q := 1) 0 dX11_group_0 rfl rfl rfl ?_
  refine K_getR (q := 4) (ci := 6) (a2 := 1) 0 dX11_group_1 fRX11_10 rfl rfl (by decide) rfl rfl ?_
  refine K_getR (q := 7) (ci := 2) (a2 := 2) 1 dX11_group_4 fRX11_33 rfl rfl (by decide) rfl rfl ?_
  refine K_iload_n (q := 8) 1 dX11_group_7 rfl rfl rfl ?_
  refine K_cvi (q := 11) [.inl (l1)] dX11_group_8 cb_X1_isCpu cvRX11_173 rc_0 (show (10 : Nat) ≠ 0 by decide) rfl (Nat.le_of_ble_eq_true rfl) ⟨by decide, by decide⟩ (Nat.le_of_ble_eq_true rfl) rfl (tX1_isCpu 2 l1 M) rfl (fun v2 M1 => ?_)
  refine K_if_eq (q := 14) (tgt := 21) dX11_group_11 rfl ?_ rfl ?_
  · refine K_iconst (q := 22) (v := -1) dX11_group_21 rfl rfl ?_
    exact J_iret dX11_group_22
  · refine K_iload_n (q := 15) 2 dX11_group_14 rfl rfl rfl ?_
    refine K_csi (q := 18) [.inl (l2)] dX11_group_15 cb_X11_isLine cvRX11_144 rfl (Nat.le_of_ble_eq_true rfl) ⟨by decide, by decide⟩ (Nat.le_of_ble_eq_true rfl) rfl (tX11_isLine l2 M1) rfl (fun v4 M3 => ?_)
    refine K_if_ne (q := 21) (tgt := 23) dX11_group_18 rfl ?_ rfl ?_
    · refine K_aload_n (q := 24) 0 dX11_group_23 rfl rfl rfl ?_
      refine K_getR (q := 27) (ci := 6) (a2 := 1) 0 dX11_group_24 fRX11_10 rfl rfl (by decide) rfl rfl ?_
      refine K_getR (q := 30) (ci := 2) (a2 := 2) 1 dX11_group_27 fRX11_33 rfl rfl (by decide) rfl rfl ?_
      refine K_getR (q := 33) (ci := 0) (a2 := 6) 4 dX11_group_30 fRX11_314 rfl rfl (by decide) rfl rfl ?_
      refine K_iload_n (q := 34) 1 dX11_group_33 rfl rfl rfl ?_
      refine K_bipush (q := 36) (v := nI 8) dX11_group_34 rfl rfl ?_
      refine K_imul (q := 37) dX11_group_36 rfl ?_
      refine K_iload_n (q := 38) 2 dX11_group_37 rfl rfl rfl ?_
      refine K_iadd (q := 39) dX11_group_38 rfl ?_
      refine K_iald (q := 40) dX11_group_39 rfl (fun v5 => ?_)
      exact J_iret dX11_group_40
    · refine K_iconst (q := 22) (v := -1) dX11_group_21 rfl rfl ?_
      exact J_iret dX11_group_22
theorem dX11_load_0 : decode cX11_load 0 = .ok (.aload_n 0, 1) := by decide +kernel
theorem dX11_load_1 : decode cX11_load 1 = .ok (.getfield 10, 3) := by decide +kernel
theorem dX11_load_4 : decode cX11_load 4 = .ok (.getfield 33, 3) := by decide +kernel
theorem dX11_load_7 : decode cX11_load 7 = .ok (.iload_n 1, 1) := by decide +kernel
theorem dX11_load_8 : decode cX11_load 8 = .ok (.iload_n 2, 1) := by decide +kernel
theorem dX11_load_9 : decode cX11_load 9 = .ok (.iconst 0, 1) := by decide +kernel
theorem dX11_load_10 : decode cX11_load 10 = .ok (.invokevirtual 55, 3) := by decide +kernel
theorem dX11_load_13 : decode cX11_load 13 = .ok (.ifCond .ne 6, 3) := by decide +kernel
theorem dX11_load_16 : decode cX11_load 16 = .ok (.bipush (-2), 2) := by decide +kernel
theorem dX11_load_18 : decode cX11_load 18 = .ok (.ireturn, 1) := by decide +kernel
theorem dX11_load_19 : decode cX11_load 19 = .ok (.aload_n 0, 1) := by decide +kernel
theorem dX11_load_20 : decode cX11_load 20 = .ok (.getfield 10, 3) := by decide +kernel
theorem dX11_load_23 : decode cX11_load 23 = .ok (.getfield 33, 3) := by decide +kernel
theorem dX11_load_26 : decode cX11_load 26 = .ok (.iload_n 1, 1) := by decide +kernel
theorem dX11_load_27 : decode cX11_load 27 = .ok (.iload_n 2, 1) := by decide +kernel
theorem dX11_load_28 : decode cX11_load 28 = .ok (.iconst 1, 1) := by decide +kernel
theorem dX11_load_29 : decode cX11_load 29 = .ok (.iconst 0, 1) := by decide +kernel
theorem dX11_load_30 : decode cX11_load 30 = .ok (.invokevirtual 59, 3) := by decide +kernel
theorem dX11_load_33 : decode cX11_load 33 = .ok (.ireturn, 1) := by decide +kernel
def xX11_load  (l1 : Int32) (l2 : Int32) (M : j_M) : Option (Int32 × j_M) := obi (xX1_mayBegin 2 l1 l2 (nI 0) M) fun v2 M1 => (if v2 = (0 : Int32) then some ((-2 : Int32), M1) else obi (xX1_access 2 l1 l2 (nI 1) (nI 0) M1) fun v4 M3 => some (v4, M3))
set_option maxRecDepth 20000 in
set_option maxHeartbeats 2000000 in
theorem tX11_load  (l1 : Int32) (l2 : Int32) (M : j_M) : J (ρ := Int32 × j_M) yX11_load cX11_load 3 (some .int) 4 93 j_ei 0 [(0, .inr (16, 0, 0)), (1, .inl (l1)), (2, .inl (l2))] [] M (xX11_load  l1 l2 M) := by
  unfold xX11_load
  refine K_aload_n (q := 1) 0 dX11_load_0 rfl rfl rfl ?_
  refine K_getR (q := 4) (ci := 6) (a2 := 1) 0 dX11_load_1 fRX11_10 rfl rfl (by decide) rfl rfl ?_
  refine K_getR (q := 7) (ci := 2) (a2 := 2) 1 dX11_load_4 fRX11_33 rfl rfl (by decide) rfl rfl ?_
  refine K_iload_n (q := 8) 1 dX11_load_7 rfl rfl rfl ?_
  refine K_iload_n (q := 9) 2 dX11_load_8 rfl rfl rfl ?_
  refine K_iconst (q := 10) (v := nI 0) dX11_load_9 rfl rfl ?_
  refine K_cvi (q := 13) [.inl (l1), .inl (l2), .inl ((nI 0))] dX11_load_10 cb_X1_mayBegin cvRX11_55 rc_0 (show (10 : Nat) ≠ 0 by decide) rfl (Nat.le_of_ble_eq_true rfl) ⟨by decide, by decide⟩ (Nat.le_of_ble_eq_true rfl) rfl (tX1_mayBegin 2 l1 l2 (nI 0) M) rfl (fun v2 M1 => ?_)
  refine K_if_ne (q := 16) (tgt := 19) dX11_load_13 rfl ?_ rfl ?_
  · refine K_aload_n (q := 20) 0 dX11_load_19 rfl rfl rfl ?_
    refine K_getR (q := 23) (ci := 6) (a2 := 1) 0 dX11_load_20 fRX11_10 rfl rfl (by decide) rfl rfl ?_
    refine K_getR (q := 26) (ci := 2) (a2 := 2) 1 dX11_load_23 fRX11_33 rfl rfl (by decide) rfl rfl ?_
    refine K_iload_n (q := 27) 1 dX11_load_26 rfl rfl rfl ?_
    refine K_iload_n (q := 28) 2 dX11_load_27 rfl rfl rfl ?_
    refine K_iconst (q := 29) (v := nI 1) dX11_load_28 rfl rfl ?_
    refine K_iconst (q := 30) (v := nI 0) dX11_load_29 rfl rfl ?_
    refine K_cvi (q := 33) [.inl (l1), .inl (l2), .inl ((nI 1)), .inl ((nI 0))] dX11_load_30 cb_X1_access cvRX11_59 rc_0 (show (10 : Nat) ≠ 0 by decide) rfl (Nat.le_of_ble_eq_true rfl) ⟨by decide, by decide⟩ (Nat.le_of_ble_eq_true rfl) rfl (tX1_access 2 l1 l2 (nI 1) (nI 0) M1) rfl (fun v4 M3 => ?_)
    exact J_iret dX11_load_33
  · refine K_bipush (q := 18) (v := -2) dX11_load_16 rfl rfl ?_
    exact J_iret dX11_load_18
theorem dX11_look_0 : decode cX11_look 0 = .ok (.iload_n 1, 1) := by decide +kernel
theorem dX11_look_1 : decode cX11_look 1 = .ok (.ifCond .lt 9, 3) := by decide +kernel
theorem dX11_look_4 : decode cX11_look 4 = .ok (.iload_n 1, 1) := by decide +kernel
theorem dX11_look_5 : decode cX11_look 5 = .ok (.bipush 18, 2) := by decide +kernel
theorem dX11_look_7 : decode cX11_look 7 = .ok (.if_icmp .le 7, 3) := by decide +kernel
theorem dX11_look_10 : decode cX11_look 10 = .ok (.ldc_w 345, 3) := by decide +kernel
theorem dX11_look_13 : decode cX11_look 13 = .ok (.ireturn, 1) := by decide +kernel
theorem dX11_look_14 : decode cX11_look 14 = .ok (.iload_n 1, 1) := by decide +kernel
theorem dX11_look_15 : decode cX11_look 15 = .ok (.bipush 6, 2) := by decide +kernel
theorem dX11_look_17 : decode cX11_look 17 = .ok (.if_icmp .le 15, 3) := by decide +kernel
theorem dX11_look_20 : decode cX11_look 20 = .ok (.iload_n 1, 1) := by decide +kernel
theorem dX11_look_21 : decode cX11_look 21 = .ok (.bipush 13, 2) := by decide +kernel
theorem dX11_look_23 : decode cX11_look 23 = .ok (.if_icmp .eq 9, 3) := by decide +kernel
theorem dX11_look_26 : decode cX11_look 26 = .ok (.iload_n 1, 1) := by decide +kernel
theorem dX11_look_27 : decode cX11_look 27 = .ok (.bipush 15, 2) := by decide +kernel
theorem dX11_look_29 : decode cX11_look 29 = .ok (.if_icmp .ne 15, 3) := by decide +kernel
theorem dX11_look_32 : decode cX11_look 32 = .ok (.aload_n 0, 1) := by decide +kernel
theorem dX11_look_33 : decode cX11_look 33 = .ok (.getfield 10, 3) := by decide +kernel
theorem dX11_look_36 : decode cX11_look 36 = .ok (.getfield 33, 3) := by decide +kernel
theorem dX11_look_39 : decode cX11_look 39 = .ok (.iload_n 1, 1) := by decide +kernel
theorem dX11_look_40 : decode cX11_look 40 = .ok (.invokevirtual 346, 3) := by decide +kernel
theorem dX11_look_43 : decode cX11_look 43 = .ok (.ireturn, 1) := by decide +kernel
theorem dX11_look_44 : decode cX11_look 44 = .ok (.iload_n 1, 1) := by decide +kernel
theorem dX11_look_45 : decode cX11_look 45 = .ok (.bipush 14, 2) := by decide +kernel
theorem dX11_look_47 : decode cX11_look 47 = .ok (.if_icmp .ne 14, 3) := by decide +kernel
theorem dX11_look_50 : decode cX11_look 50 = .ok (.aload_n 0, 1) := by decide +kernel
theorem dX11_look_51 : decode cX11_look 51 = .ok (.getfield 10, 3) := by decide +kernel
theorem dX11_look_54 : decode cX11_look 54 = .ok (.getfield 23, 3) := by decide +kernel
theorem dX11_look_57 : decode cX11_look 57 = .ok (.getfield 27, 3) := by decide +kernel
theorem dX11_look_60 : decode cX11_look 60 = .ok (.ireturn, 1) := by decide +kernel
theorem dX11_look_61 : decode cX11_look 61 = .ok (.iload_n 1, 1) := by decide +kernel
theorem dX11_look_62 : decode cX11_look 62 = .ok (.bipush 16, 2) := by decide +kernel
theorem dX11_look_64 : decode cX11_look 64 = .ok (.if_icmp .ne 14, 3) := by decide +kernel
theorem dX11_look_67 : decode cX11_look 67 = .ok (.aload_n 0, 1) := by decide +kernel
theorem dX11_look_68 : decode cX11_look 68 = .ok (.getfield 10, 3) := by decide +kernel
theorem dX11_look_71 : decode cX11_look 71 = .ok (.getfield 23, 3) := by decide +kernel
theorem dX11_look_74 : decode cX11_look 74 = .ok (.getfield 125, 3) := by decide +kernel
theorem dX11_look_77 : decode cX11_look 77 = .ok (.ireturn, 1) := by decide +kernel
theorem dX11_look_78 : decode cX11_look 78 = .ok (.iload_n 1, 1) := by decide +kernel
theorem dX11_look_79 : decode cX11_look 79 = .ok (.bipush 17, 2) := by decide +kernel
theorem dX11_look_81 : decode cX11_look 81 = .ok (.if_icmp .ne 16, 3) := by decide +kernel
theorem dX11_look_84 : decode cX11_look 84 = .ok (.aload_n 0, 1) := by decide +kernel
theorem dX11_look_85 : decode cX11_look 85 = .ok (.getfield 10, 3) := by decide +kernel
theorem dX11_look_88 : decode cX11_look 88 = .ok (.getfield 23, 3) := by decide +kernel
theorem dX11_look_91 : decode cX11_look 91 = .ok (.getfield 122, 3) := by decide +kernel
theorem dX11_look_94 : decode cX11_look 94 = .ok (.goto 14, 3) := by decide +kernel
theorem dX11_look_97 : decode cX11_look 97 = .ok (.aload_n 0, 1) := by decide +kernel
theorem dX11_look_98 : decode cX11_look 98 = .ok (.getfield 10, 3) := by decide +kernel
theorem dX11_look_101 : decode cX11_look 101 = .ok (.getfield 233, 3) := by decide +kernel
theorem dX11_look_104 : decode cX11_look 104 = .ok (.iload_n 1, 1) := by decide +kernel
theorem dX11_look_105 : decode cX11_look 105 = .ok (.invokevirtual 349, 3) := by decide +kernel
theorem dX11_look_108 : decode cX11_look 108 = .ok (.ireturn, 1) := by decide +kernel
def xX11_look_32   (l1 : Int32) (M : j_M) : Option (Int32 × j_M) := obi (xX1_figure 2 l1 M) fun v2 M1 => some (v2, M1)
set_option maxRecDepth 20000 in
set_option maxHeartbeats 2000000 in
theorem tX11_look_32    (l1 : Int32) (M : j_M) : J (ρ := Int32 × j_M) yX11_look cX11_look 2 (some .int) 4 88 j_ei 32 [(0, .inr (16, 0, 0)), (1, .inl (l1))] [] M (xX11_look_32  l1 M) := by
  unfold xX11_look_32
  refine K_aload_n (q := 33) 0 dX11_look_32 rfl rfl rfl ?_
  refine K_getR (q := 36) (ci := 6) (a2 := 1) 0 dX11_look_33 fRX11_10 rfl rfl (by decide) rfl rfl ?_
  refine K_getR (q := 39) (ci := 2) (a2 := 2) 1 dX11_look_36 fRX11_33 rfl rfl (by decide) rfl rfl ?_
  refine K_iload_n (q := 40) 1 dX11_look_39 rfl rfl rfl ?_
  refine K_cvi (q := 43) [.inl (l1)] dX11_look_40 cb_X1_figure cvRX11_346 rc_0 (show (10 : Nat) ≠ 0 by decide) rfl (Nat.le_of_ble_eq_true rfl) ⟨by decide, by decide⟩ (Nat.le_of_ble_eq_true rfl) rfl (tX1_figure 2 l1 M) rfl (fun v2 M1 => ?_)
  exact J_iret dX11_look_43
def xX11_look_10    (M : j_M) : Option (Int32 × j_M) := some ((-100000 : Int32), M)
set_option maxRecDepth 20000 in
set_option maxHeartbeats 2000000 in
theorem tX11_look_10     (M : j_M) : J (ρ := Int32 × j_M) yX11_look cX11_look 2 (some .int) 4 88 j_ei 10 [] [] M (xX11_look_10   M) := by
  unfold xX11_look_10
  refine K_ldcw (q := 13) (v := -100000) dX11_look_10 (j_in 1149 (by decide +kernel) (by decide +kernel)) rfl ?_
  exact J_iret dX11_look_13
def xX11_look  (l1 : Int32) (M : j_M) : Option (Int32 × j_M) := (if l1 < (0 : Int32) then xX11_look_10  M else (if l1 ≤ (nI 18) then (if l1 ≤ (nI 6) then xX11_look_32  l1 M else (if l1 = (nI 13) then xX11_look_32  l1 M else (if l1 = (nI 15) then xX11_look_32  l1 M else (if l1 = (nI 14) then oli (M 22 7) fun v5 => some (v5, M) else (if l1 = (nI 16) then oli (M 22 5) fun v4 => some (v4, M) else (if l1 = (nI 17) then oli (M 22 6) fun v3 => some (v3, M) else obi (xX5_figure 10 l1 M) fun v2 M1 => some (v2, M1))))))) else xX11_look_10  M))
set_option maxRecDepth 20000 in
set_option maxHeartbeats 2000000 in
theorem tX11_look  (l1 : Int32) (M : j_M) : J (ρ := Int32 × j_M) yX11_look cX11_look 2 (some .int) 4 88 j_ei 0 [(0, .inr (16, 0, 0)), (1, .inl (l1))] [] M (xX11_look  l1 M) := by
  unfold xX11_look
  refine K_iload_n (q := 1) 1 dX11_look_0 rfl rfl rfl ?_
  refine K_if_lt (q := 4) (tgt := 10) dX11_look_1 rfl ?_ rfl ?_
  · exact J_sub [] (tX11_look_10  M) rfl
  · refine K_iload_n (q := 5) 1 dX11_look_4 rfl rfl rfl ?_
    refine K_bipush (q := 7) (v := nI 18) dX11_look_5 rfl rfl ?_
    refine K_icmp_le (q := 10) (tgt := 14) dX11_look_7 rfl ?_ rfl ?_
    · refine K_iload_n (q := 15) 1 dX11_look_14 rfl rfl rfl ?_
      refine K_bipush (q := 17) (v := nI 6) dX11_look_15 rfl rfl ?_
      refine K_icmp_le (q := 20) (tgt := 32) dX11_look_17 rfl ?_ rfl ?_
      · exact J_sub [0, 1] (tX11_look_32  l1 M) rfl
      · refine K_iload_n (q := 21) 1 dX11_look_20 rfl rfl rfl ?_
        refine K_bipush (q := 23) (v := nI 13) dX11_look_21 rfl rfl ?_
        refine K_icmp_eq (q := 26) (tgt := 32) dX11_look_23 rfl ?_ rfl ?_
        · exact J_sub [0, 1] (tX11_look_32  l1 M) rfl
        · refine K_iload_n (q := 27) 1 dX11_look_26 rfl rfl rfl ?_
          refine K_bipush (q := 29) (v := nI 15) dX11_look_27 rfl rfl ?_
          refine K_icmp_ne (q := 32) (tgt := 44) dX11_look_29 rfl ?_ rfl ?_
          · refine K_iload_n (q := 45) 1 dX11_look_44 rfl rfl rfl ?_
            refine K_bipush (q := 47) (v := nI 14) dX11_look_45 rfl rfl ?_
            refine K_icmp_ne (q := 50) (tgt := 61) dX11_look_47 rfl ?_ rfl ?_
            · refine K_iload_n (q := 62) 1 dX11_look_61 rfl rfl rfl ?_
              refine K_bipush (q := 64) (v := nI 16) dX11_look_62 rfl rfl ?_
              refine K_icmp_ne (q := 67) (tgt := 78) dX11_look_64 rfl ?_ rfl ?_
              · refine K_iload_n (q := 79) 1 dX11_look_78 rfl rfl rfl ?_
                refine K_bipush (q := 81) (v := nI 17) dX11_look_79 rfl rfl ?_
                refine K_icmp_ne (q := 84) (tgt := 97) dX11_look_81 rfl ?_ rfl ?_
                · refine K_aload_n (q := 98) 0 dX11_look_97 rfl rfl rfl ?_
                  refine K_getR (q := 101) (ci := 6) (a2 := 1) 0 dX11_look_98 fRX11_10 rfl rfl (by decide) rfl rfl ?_
                  refine K_getR (q := 104) (ci := 2) (a2 := 10) 0 dX11_look_101 fRX11_233 rfl rfl (by decide) rfl rfl ?_
                  refine K_iload_n (q := 105) 1 dX11_look_104 rfl rfl rfl ?_
                  refine K_cvi (q := 108) [.inl (l1)] dX11_look_105 cb_X5_figure cvRX11_349 rc_1 (show (11 : Nat) ≠ 0 by decide) rfl (Nat.le_of_ble_eq_true rfl) ⟨by decide, by decide⟩ (Nat.le_of_ble_eq_true rfl) rfl (tX5_figure 10 l1 M) rfl (fun v2 M1 => ?_)
                  exact J_iret dX11_look_108
                · refine K_aload_n (q := 85) 0 dX11_look_84 rfl rfl rfl ?_
                  refine K_getR (q := 88) (ci := 6) (a2 := 1) 0 dX11_look_85 fRX11_10 rfl rfl (by decide) rfl rfl ?_
                  refine K_getR (q := 91) (ci := 2) (a2 := 22) 2 dX11_look_88 fRX11_23 rfl rfl (by decide) rfl rfl ?_
                  refine K_getI (q := 94) (ci := 4) 6 dX11_look_91 fRX11_122 rfl rfl rfl (fun v3 => ?_)
                  refine J_goto (tgt := 108) dX11_look_94 rfl ?_
                  exact J_iret dX11_look_108
              · refine K_aload_n (q := 68) 0 dX11_look_67 rfl rfl rfl ?_
                refine K_getR (q := 71) (ci := 6) (a2 := 1) 0 dX11_look_68 fRX11_10 rfl rfl (by decide) rfl rfl ?_
                refine K_getR (q := 74) (ci := 2) (a2 := 22) 2 dX11_look_71 fRX11_23 rfl rfl (by decide) rfl rfl ?_
                refine K_getI (q := 77) (ci := 4) 5 dX11_look_74 fRX11_125 rfl rfl rfl (fun v4 => ?_)
                exact J_iret dX11_look_77
            · refine K_aload_n (q := 51) 0 dX11_look_50 rfl rfl rfl ?_
              refine K_getR (q := 54) (ci := 6) (a2 := 1) 0 dX11_look_51 fRX11_10 rfl rfl (by decide) rfl rfl ?_
              refine K_getR (q := 57) (ci := 2) (a2 := 22) 2 dX11_look_54 fRX11_23 rfl rfl (by decide) rfl rfl ?_
              refine K_getI (q := 60) (ci := 4) 7 dX11_look_57 fRX11_27 rfl rfl rfl (fun v5 => ?_)
              exact J_iret dX11_look_60
          · exact J_sub [0, 1] (tX11_look_32  l1 M) rfl
    · exact J_sub [] (tX11_look_10  M) rfl
theorem dX11_message_0 : decode cX11_message 0 = .ok (.iload_n 1, 1) := by decide +kernel
theorem dX11_message_1 : decode cX11_message 1 = .ok (.ifCond .lt 27, 3) := by decide +kernel
theorem dX11_message_4 : decode cX11_message 4 = .ok (.iload_n 1, 1) := by decide +kernel
theorem dX11_message_5 : decode cX11_message 5 = .ok (.aload_n 0, 1) := by decide +kernel
theorem dX11_message_6 : decode cX11_message 6 = .ok (.getfield 10, 3) := by decide +kernel
theorem dX11_message_9 : decode cX11_message 9 = .ok (.getfield 33, 3) := by decide +kernel
theorem dX11_message_12 : decode cX11_message 12 = .ok (.getfield 67, 3) := by decide +kernel
theorem dX11_message_15 : decode cX11_message 15 = .ok (.if_icmp .ge 13, 3) := by decide +kernel
theorem dX11_message_18 : decode cX11_message 18 = .ok (.iload_n 2, 1) := by decide +kernel
theorem dX11_message_19 : decode cX11_message 19 = .ok (.ifCond .lt 9, 3) := by decide +kernel
theorem dX11_message_22 : decode cX11_message 22 = .ok (.iload_n 2, 1) := by decide +kernel
theorem dX11_message_23 : decode cX11_message 23 = .ok (.bipush 8, 2) := by decide +kernel
theorem dX11_message_25 : decode cX11_message 25 = .ok (.if_icmp .le 6, 3) := by decide +kernel
theorem dX11_message_28 : decode cX11_message 28 = .ok (.bipush (-2), 2) := by decide +kernel
theorem dX11_message_30 : decode cX11_message 30 = .ok (.ireturn, 1) := by decide +kernel
theorem dX11_message_31 : decode cX11_message 31 = .ok (.aload_n 0, 1) := by decide +kernel
theorem dX11_message_32 : decode cX11_message 32 = .ok (.getfield 10, 3) := by decide +kernel
theorem dX11_message_35 : decode cX11_message 35 = .ok (.getfield 33, 3) := by decide +kernel
theorem dX11_message_38 : decode cX11_message 38 = .ok (.getfield 215, 3) := by decide +kernel
theorem dX11_message_41 : decode cX11_message 41 = .ok (.iload_n 1, 1) := by decide +kernel
theorem dX11_message_42 : decode cX11_message 42 = .ok (.iaload, 1) := by decide +kernel
theorem dX11_message_43 : decode cX11_message 43 = .ok (.istore_n 3, 1) := by decide +kernel
theorem dX11_message_44 : decode cX11_message 44 = .ok (.iload_n 2, 1) := by decide +kernel
theorem dX11_message_45 : decode cX11_message 45 = .ok (.tableswitch 51 0 3 #[31, 36, 41, 46], 31) := by decide +kernel
theorem dX11_message_76 : decode cX11_message 76 = .ok (.iload_n 3, 1) := by decide +kernel
theorem dX11_message_77 : decode cX11_message 77 = .ok (.invokestatic 218, 3) := by decide +kernel
theorem dX11_message_80 : decode cX11_message 80 = .ok (.ireturn, 1) := by decide +kernel
theorem dX11_message_81 : decode cX11_message 81 = .ok (.iload_n 3, 1) := by decide +kernel
theorem dX11_message_82 : decode cX11_message 82 = .ok (.invokestatic 223, 3) := by decide +kernel
theorem dX11_message_85 : decode cX11_message 85 = .ok (.ireturn, 1) := by decide +kernel
theorem dX11_message_86 : decode cX11_message 86 = .ok (.iload_n 3, 1) := by decide +kernel
theorem dX11_message_87 : decode cX11_message 87 = .ok (.invokestatic 226, 3) := by decide +kernel
theorem dX11_message_90 : decode cX11_message 90 = .ok (.ireturn, 1) := by decide +kernel
theorem dX11_message_91 : decode cX11_message 91 = .ok (.iload_n 3, 1) := by decide +kernel
theorem dX11_message_92 : decode cX11_message 92 = .ok (.invokestatic 229, 3) := by decide +kernel
theorem dX11_message_95 : decode cX11_message 95 = .ok (.ireturn, 1) := by decide +kernel
theorem dX11_message_96 : decode cX11_message 96 = .ok (.iload_n 3, 1) := by decide +kernel
theorem dX11_message_97 : decode cX11_message 97 = .ok (.iload_n 2, 1) := by decide +kernel
theorem dX11_message_98 : decode cX11_message 98 = .ok (.invokestatic 230, 3) := by decide +kernel
theorem dX11_message_101 : decode cX11_message 101 = .ok (.ireturn, 1) := by decide +kernel
def xX11_message  (l1 : Int32) (l2 : Int32) (M : j_M) : Option (Int32 × j_M) := (if l1 < (0 : Int32) then some ((-2 : Int32), M) else oli (M 2 8) fun v1 => (if v1 ≤ l1 then some ((-2 : Int32), M) else (if l2 < (0 : Int32) then some ((-2 : Int32), M) else (if l2 ≤ (nI 8) then gd l1 256 (oli (M 4 (ix l1)) fun v2 => osw l2 [((nI 0), obi (xX4_from v2 M) fun v4 M3 => some (v4, M3)), ((nI 1), obi (xX4_to v2 M) fun v6 M5 => some (v6, M5)), ((nI 2), obi (xX4_kind v2 M) fun v8 M7 => some (v8, M7)), ((nI 3), obi (xX4_line v2 M) fun v10 M9 => some (v10, M9))] (obi (xX4_inside v2 l2 M) fun v12 M11 => some (v12, M11))) else some ((-2 : Int32), M)))))
set_option maxRecDepth 20000 in
set_option maxHeartbeats 2000000 in
theorem tX11_message  (l1 : Int32) (l2 : Int32) (M : j_M) : J (ρ := Int32 × j_M) yX11_message cX11_message 4 (some .int) 2 45 j_ei 0 [(0, .inr (16, 0, 0)), (1, .inl (l1)), (2, .inl (l2))] [] M (xX11_message  l1 l2 M) := by
  unfold xX11_message
  refine K_iload_n (q := 1) 1 dX11_message_0 rfl rfl rfl ?_
  refine K_if_lt (q := 4) (tgt := 28) dX11_message_1 rfl ?_ rfl ?_
  · refine K_bipush (q := 30) (v := -2) dX11_message_28 rfl rfl ?_
    exact J_iret dX11_message_30
  · refine K_iload_n (q := 5) 1 dX11_message_4 rfl rfl rfl ?_
    refine K_aload_n (q := 6) 0 dX11_message_5 rfl rfl rfl ?_
    refine K_getR (q := 9) (ci := 6) (a2 := 1) 0 dX11_message_6 fRX11_10 rfl rfl (by decide) rfl rfl ?_
    refine K_getR (q := 12) (ci := 2) (a2 := 2) 1 dX11_message_9 fRX11_33 rfl rfl (by decide) rfl rfl ?_
    refine K_getI (q := 15) (ci := 0) 8 dX11_message_12 fRX11_67 rfl rfl rfl (fun v1 => ?_)
    refine K_icmp_ge (q := 18) (tgt := 28) dX11_message_15 rfl ?_ rfl ?_
    · refine K_bipush (q := 30) (v := -2) dX11_message_28 rfl rfl ?_
      exact J_iret dX11_message_30
    · refine K_iload_n (q := 19) 2 dX11_message_18 rfl rfl rfl ?_
      refine K_if_lt (q := 22) (tgt := 28) dX11_message_19 rfl ?_ rfl ?_
      · refine K_bipush (q := 30) (v := -2) dX11_message_28 rfl rfl ?_
        exact J_iret dX11_message_30
      · refine K_iload_n (q := 23) 2 dX11_message_22 rfl rfl rfl ?_
        refine K_bipush (q := 25) (v := nI 8) dX11_message_23 rfl rfl ?_
        refine K_icmp_le (q := 28) (tgt := 31) dX11_message_25 rfl ?_ rfl ?_
        · refine K_aload_n (q := 32) 0 dX11_message_31 rfl rfl rfl ?_
          refine K_getR (q := 35) (ci := 6) (a2 := 1) 0 dX11_message_32 fRX11_10 rfl rfl (by decide) rfl rfl ?_
          refine K_getR (q := 38) (ci := 2) (a2 := 2) 1 dX11_message_35 fRX11_33 rfl rfl (by decide) rfl rfl ?_
          refine K_getR (q := 41) (ci := 0) (a2 := 4) 2 dX11_message_38 fRX11_215 rfl rfl (by decide) rfl rfl ?_
          refine K_iload_n (q := 42) 1 dX11_message_41 rfl rfl rfl ?_
          refine K_iald (q := 43) dX11_message_42 rfl (fun v2 => ?_)
          refine K_istore_n (q := 44) (ll' := [(3, .inl (v2)), (0, .inr (16, 0, 0)), (1, .inl (l1)), (2, .inl (l2))]) dX11_message_43 rfl (by decide) rfl rfl ?_
          refine K_iload_n (q := 45) 3 dX11_message_44 rfl rfl rfl ?_
          refine K_tsw (dt := 96) [76, 81, 86, 91] dX11_message_45 rfl rfl rfl rfl ⟨?_, ?_, ?_, ?_, trivial⟩ ?_
          · refine K_iload_n (q := 77) 0 dX11_message_76 rfl rfl rfl ?_
            refine K_csi (q := 80) [.inl (v2)] dX11_message_77 cb_X4_from cvRX11_218 rfl (Nat.le_of_ble_eq_true rfl) ⟨by decide, by decide⟩ (Nat.le_of_ble_eq_true rfl) rfl (tX4_from v2 M) rfl (fun v4 M3 => ?_)
            exact J_iret dX11_message_80
          · refine K_iload_n (q := 82) 0 dX11_message_81 rfl rfl rfl ?_
            refine K_csi (q := 85) [.inl (v2)] dX11_message_82 cb_X4_to cvRX11_223 rfl (Nat.le_of_ble_eq_true rfl) ⟨by decide, by decide⟩ (Nat.le_of_ble_eq_true rfl) rfl (tX4_to v2 M) rfl (fun v6 M5 => ?_)
            exact J_iret dX11_message_85
          · refine K_iload_n (q := 87) 0 dX11_message_86 rfl rfl rfl ?_
            refine K_csi (q := 90) [.inl (v2)] dX11_message_87 cb_X4_kind cvRX11_226 rfl (Nat.le_of_ble_eq_true rfl) ⟨by decide, by decide⟩ (Nat.le_of_ble_eq_true rfl) rfl (tX4_kind v2 M) rfl (fun v8 M7 => ?_)
            exact J_iret dX11_message_90
          · refine K_iload_n (q := 92) 0 dX11_message_91 rfl rfl rfl ?_
            refine K_csi (q := 95) [.inl (v2)] dX11_message_92 cb_X4_line cvRX11_229 rfl (Nat.le_of_ble_eq_true rfl) ⟨by decide, by decide⟩ (Nat.le_of_ble_eq_true rfl) rfl (tX4_line v2 M) rfl (fun v10 M9 => ?_)
            exact J_iret dX11_message_95
          · refine K_iload_n (q := 97) 0 dX11_message_96 rfl rfl rfl ?_
            refine K_iload_n (q := 98) 3 dX11_message_97 rfl rfl rfl ?_
            refine K_csi (q := 101) [.inl (v2), .inl (l2)] dX11_message_98 cb_X4_inside cvRX11_230 rfl (Nat.le_of_ble_eq_true rfl) ⟨by decide, by decide⟩ (Nat.le_of_ble_eq_true rfl) rfl (tX4_inside v2 l2 M) rfl (fun v12 M11 => ?_)
            exact J_iret dX11_message_101
        · refine K_bipush (q := 30) (v := -2) dX11_message_28 rfl rfl ?_
          exact J_iret dX11_message_30
theorem dX11_miss_0 : decode cX11_miss 0 = .ok (.aload_n 0, 1) := by decide +kernel
theorem dX11_miss_1 : decode cX11_miss 1 = .ok (.getfield 10, 3) := by decide +kernel
theorem dX11_miss_4 : decode cX11_miss 4 = .ok (.getfield 33, 3) := by decide +kernel
theorem dX11_miss_7 : decode cX11_miss 7 = .ok (.iload_n 1, 1) := by decide +kernel
theorem dX11_miss_8 : decode cX11_miss 8 = .ok (.invokevirtual 173, 3) := by decide +kernel
theorem dX11_miss_11 : decode cX11_miss 11 = .ok (.ifCond .ne 5, 3) := by decide +kernel
theorem dX11_miss_14 : decode cX11_miss 14 = .ok (.iconst (-1), 1) := by decide +kernel
theorem dX11_miss_15 : decode cX11_miss 15 = .ok (.ireturn, 1) := by decide +kernel
theorem dX11_miss_16 : decode cX11_miss 16 = .ok (.aload_n 0, 1) := by decide +kernel
theorem dX11_miss_17 : decode cX11_miss 17 = .ok (.getfield 10, 3) := by decide +kernel
theorem dX11_miss_20 : decode cX11_miss 20 = .ok (.getfield 33, 3) := by decide +kernel
theorem dX11_miss_23 : decode cX11_miss 23 = .ok (.iload_n 1, 1) := by decide +kernel
theorem dX11_miss_24 : decode cX11_miss 24 = .ok (.invokevirtual 176, 3) := by decide +kernel
theorem dX11_miss_27 : decode cX11_miss 27 = .ok (.istore_n 3, 1) := by decide +kernel
theorem dX11_miss_28 : decode cX11_miss 28 = .ok (.iload_n 3, 1) := by decide +kernel
theorem dX11_miss_29 : decode cX11_miss 29 = .ok (.ifCond .ne 5, 3) := by decide +kernel
theorem dX11_miss_32 : decode cX11_miss 32 = .ok (.iconst (-1), 1) := by decide +kernel
theorem dX11_miss_33 : decode cX11_miss 33 = .ok (.ireturn, 1) := by decide +kernel
theorem dX11_miss_34 : decode cX11_miss 34 = .ok (.iload_n 2, 1) := by decide +kernel
theorem dX11_miss_35 : decode cX11_miss 35 = .ok (.tableswitch 91 0 5 #[37, 42, 47, 52, 65, 78], 37) := by decide +kernel
theorem dX11_miss_72 : decode cX11_miss 72 = .ok (.iload_n 3, 1) := by decide +kernel
theorem dX11_miss_73 : decode cX11_miss 73 = .ok (.invokestatic 179, 3) := by decide +kernel
theorem dX11_miss_76 : decode cX11_miss 76 = .ok (.ireturn, 1) := by decide +kernel
theorem dX11_miss_77 : decode cX11_miss 77 = .ok (.iload_n 3, 1) := by decide +kernel
theorem dX11_miss_78 : decode cX11_miss 78 = .ok (.invokestatic 184, 3) := by decide +kernel
theorem dX11_miss_81 : decode cX11_miss 81 = .ok (.ireturn, 1) := by decide +kernel
theorem dX11_miss_82 : decode cX11_miss 82 = .ok (.iload_n 3, 1) := by decide +kernel
theorem dX11_miss_83 : decode cX11_miss 83 = .ok (.invokestatic 187, 3) := by decide +kernel
theorem dX11_miss_86 : decode cX11_miss 86 = .ok (.ireturn, 1) := by decide +kernel
theorem dX11_miss_87 : decode cX11_miss 87 = .ok (.aload_n 0, 1) := by decide +kernel
theorem dX11_miss_88 : decode cX11_miss 88 = .ok (.getfield 10, 3) := by decide +kernel
theorem dX11_miss_91 : decode cX11_miss 91 = .ok (.getfield 33, 3) := by decide +kernel
theorem dX11_miss_94 : decode cX11_miss 94 = .ok (.getfield 190, 3) := by decide +kernel
theorem dX11_miss_97 : decode cX11_miss 97 = .ok (.iload_n 1, 1) := by decide +kernel
theorem dX11_miss_98 : decode cX11_miss 98 = .ok (.iaload, 1) := by decide +kernel
theorem dX11_miss_99 : decode cX11_miss 99 = .ok (.ireturn, 1) := by decide +kernel
theorem dX11_miss_100 : decode cX11_miss 100 = .ok (.aload_n 0, 1) := by decide +kernel
theorem dX11_miss_101 : decode cX11_miss 101 = .ok (.getfield 10, 3) := by decide +kernel
theorem dX11_miss_104 : decode cX11_miss 104 = .ok (.getfield 33, 3) := by decide +kernel
theorem dX11_miss_107 : decode cX11_miss 107 = .ok (.getfield 193, 3) := by decide +kernel
theorem dX11_miss_110 : decode cX11_miss 110 = .ok (.iload_n 1, 1) := by decide +kernel
theorem dX11_miss_111 : decode cX11_miss 111 = .ok (.iaload, 1) := by decide +kernel
theorem dX11_miss_112 : decode cX11_miss 112 = .ok (.ireturn, 1) := by decide +kernel
theorem dX11_miss_113 : decode cX11_miss 113 = .ok (.iload_n 3, 1) := by decide +kernel
theorem dX11_miss_114 : decode cX11_miss 114 = .ok (.invokestatic 196, 3) := by decide +kernel
theorem dX11_miss_117 : decode cX11_miss 117 = .ok (.ifCond .eq 7, 3) := by decide +kernel
theorem dX11_miss_120 : decode cX11_miss 120 = .ok (.iconst 1, 1) := by decide +kernel
theorem dX11_miss_121 : decode cX11_miss 121 = .ok (.goto 4, 3) := by decide +kernel
theorem dX11_miss_124 : decode cX11_miss 124 = .ok (.iconst 0, 1) := by decide +kernel
theorem dX11_miss_125 : decode cX11_miss 125 = .ok (.ireturn, 1) := by decide +kernel
theorem dX11_miss_126 : decode cX11_miss 126 = .ok (.iconst (-1), 1) := by decide +kernel
theorem dX11_miss_127 : decode cX11_miss 127 = .ok (.ireturn, 1) := by decide +kernel
def xX11_miss  (l1 : Int32) (l2 : Int32) (M : j_M) : Option (Int32 × j_M) := obi (xX1_isCpu 2 l1 M) fun v2 M1 => (if v2 = (0 : Int32) then some ((-1 : Int32), M1) else obi (xX1_missOf 2 l1 M1) fun v4 M3 => (if v4 = (0 : Int32) then some ((-1 : Int32), M3) else osw l2 [((nI 0), obi (xX7_line v4 M3) fun v6 M5 => some (v6, M5)), ((nI 1), obi (xX7_what v4 M3) fun v8 M7 => some (v8, M7)), ((nI 2), obi (xX7_value v4 M3) fun v10 M9 => some (v10, M9)), ((nI 3), gd l1 6 (oli (M3 7 (ix l1)) fun v11 => some (v11, M3))), ((nI 4), gd l1 6 (oli (M3 8 (ix l1)) fun v12 => some (v12, M3))), ((nI 5), obi (xX7_isForGood v4 M3) fun v14 M13 => (if v14 = (0 : Int32) then some ((nI 0), M13) else some ((nI 1), M13)))] (some ((-1 : Int32), M3))))
set_option maxRecDepth 20000 in
set_option maxHeartbeats 2000000 in
theorem tX11_miss  (l1 : Int32) (l2 : Int32) (M : j_M) : J (ρ := Int32 × j_M) yX11_miss cX11_miss 4 (some .int) 2 41 j_ei 0 [(0, .inr (16, 0, 0)), (1, .inl (l1)), (2, .inl (l2))] [] M (xX11_miss  l1 l2 M) := by
  unfold xX11_miss
  refine K_aload_n (q := 1) 0 dX11_miss_0 rfl rfl rfl ?_
  refine K_getR (q := 4) (ci := 6) (a2 := 1) 0 dX11_miss_1 fRX11_10 rfl rfl (by decide) rfl rfl ?_
  refine K_getR (q := 7) (ci := 2) (a2 := 2) 1 dX11_miss_4 fRX11_33 rfl rfl (by decide) rfl rfl ?_
  refine K_iload_n (q := 8) 1 dX11_miss_7 rfl rfl rfl ?_
  refine K_cvi (q := 11) [.inl (l1)] dX11_miss_8 cb_X1_isCpu cvRX11_173 rc_0 (show (10 : Nat) ≠ 0 by decide) rfl (Nat.le_of_ble_eq_true rfl) ⟨by decide, by decide⟩ (Nat.le_of_ble_eq_true rfl) rfl (tX1_isCpu 2 l1 M) rfl (fun v2 M1 => ?_)
  refine K_if_ne (q := 14) (tgt := 16) dX11_miss_11 rfl ?_ rfl ?_
  · refine K_aload_n (q := 17) 0 dX11_miss_16 rfl rfl rfl ?_
    refine K_getR (q := 20) (ci := 6) (a2 := 1) 0 dX11_miss_17 fRX11_10 rfl rfl (by decide) rfl rfl ?_
    refine K_getR (q := 23) (ci := 2) (a2 := 2) 1 dX11_miss_20 fRX11_33 rfl rfl (by decide) rfl rfl ?_
    refine K_iload_n (q := 24) 1 dX11_miss_23 rfl rfl rfl ?_
    refine K_cvi (q := 27) [.inl (l1)] dX11_miss_24 cb_X1_missOf cvRX11_176 rc_0 (show (10 : Nat) ≠ 0 by decide) rfl (Nat.le_of_ble_eq_true rfl) ⟨by decide, by decide⟩ (Nat.le_of_ble_eq_true rfl) rfl (tX1_missOf 2 l1 M1) rfl (fun v4 M3 => ?_)
    refine K_istore_n (q := 28) (ll' := [(3, .inl (v4)), (0, .inr (16, 0, 0)), (1, .inl (l1)), (2, .inl (l2))]) dX11_miss_27 rfl (by decide) rfl rfl ?_
    refine K_iload_n (q := 29) 0 dX11_miss_28 rfl rfl rfl ?_
    refine K_if_ne (q := 32) (tgt := 34) dX11_miss_29 rfl ?_ rfl ?_
    · refine K_iload_n (q := 35) 3 dX11_miss_34 rfl rfl rfl ?_
      refine K_tsw (dt := 126) [72, 77, 82, 87, 100, 113] dX11_miss_35 rfl rfl rfl rfl ⟨?_, ?_, ?_, ?_, ?_, ?_, trivial⟩ ?_
      · refine K_iload_n (q := 73) 0 dX11_miss_72 rfl rfl rfl ?_
        refine K_csi (q := 76) [.inl (v4)] dX11_miss_73 cb_X7_line cvRX11_179 rfl (Nat.le_of_ble_eq_true rfl) ⟨by decide, by decide⟩ (Nat.le_of_ble_eq_true rfl) rfl (tX7_line v4 M3) rfl (fun v6 M5 => ?_)
        exact J_iret dX11_miss_76
      · refine K_iload_n (q := 78) 0 dX11_miss_77 rfl rfl rfl ?_
        refine K_csi (q := 81) [.inl (v4)] dX11_miss_78 cb_X7_what cvRX11_184 rfl (Nat.le_of_ble_eq_true rfl) ⟨by decide, by decide⟩ (Nat.le_of_ble_eq_true rfl) rfl (tX7_what v4 M3) rfl (fun v8 M7 => ?_)
        exact J_iret dX11_miss_81
      · refine K_iload_n (q := 83) 0 dX11_miss_82 rfl rfl rfl ?_
        refine K_csi (q := 86) [.inl (v4)] dX11_miss_83 cb_X7_value cvRX11_187 rfl (Nat.le_of_ble_eq_true rfl) ⟨by decide, by decide⟩ (Nat.le_of_ble_eq_true rfl) rfl (tX7_value v4 M3) rfl (fun v10 M9 => ?_)
        exact J_iret dX11_miss_86
      · refine K_aload_n (q := 88) 1 dX11_miss_87 rfl rfl rfl ?_
        refine K_getR (q := 91) (ci := 6) (a2 := 1) 0 dX11_miss_88 fRX11_10 rfl rfl (by decide) rfl rfl ?_
        refine K_getR (q := 94) (ci := 2) (a2 := 2) 1 dX11_miss_91 fRX11_33 rfl rfl (by decide) rfl rfl ?_
        refine K_getR (q := 97) (ci := 0) (a2 := 7) 5 dX11_miss_94 fRX11_190 rfl rfl (by decide) rfl rfl ?_
        refine K_iload_n (q := 98) 2 dX11_miss_97 rfl rfl rfl ?_
        refine K_iald (q := 99) dX11_miss_98 rfl (fun v11 => ?_)
        exact J_iret dX11_miss_99
      · refine K_aload_n (q := 101) 1 dX11_miss_100 rfl rfl rfl ?_
        refine K_getR (q := 104) (ci := 6) (a2 := 1) 0 dX11_miss_101 fRX11_10 rfl rfl (by decide) rfl rfl ?_
        refine K_getR (q := 107) (ci := 2) (a2 := 2) 1 dX11_miss_104 fRX11_33 rfl rfl (by decide) rfl rfl ?_
        refine K_getR (q := 110) (ci := 0) (a2 := 8) 6 dX11_miss_107 fRX11_193 rfl rfl (by decide) rfl rfl ?_
        refine K_iload_n (q := 111) 2 dX11_miss_110 rfl rfl rfl ?_
        refine K_iald (q := 112) dX11_miss_111 rfl (fun v12 => ?_)
        exact J_iret dX11_miss_112
      · refine K_iload_n (q := 114) 0 dX11_miss_113 rfl rfl rfl ?_
        refine K_csi (q := 117) [.inl (v4)] dX11_miss_114 cb_X7_isForGood cvRX11_196 rfl (Nat.le_of_ble_eq_true rfl) ⟨by decide, by decide⟩ (Nat.le_of_ble_eq_true rfl) rfl (tX7_isForGood v4 M3) rfl (fun v14 M13 => ?_)
        refine K_if_eq (q := 120) (tgt := 124) dX11_miss_117 rfl ?_ rfl ?_
        · refine K_iconst (q := 125) (v := nI 0) dX11_miss_124 rfl rfl ?_
          exact J_iret dX11_miss_125
        · refine K_iconst (q := 121) (v := nI 1) dX11_miss_120 rfl rfl ?_
          refine J_goto (tgt := 125) dX11_miss_121 rfl ?_
          exact J_iret dX11_miss_125
      · refine K_iconst (q := 127) (v := -1) dX11_miss_126 rfl rfl ?_
        exact J_iret dX11_miss_127
    · refine K_iconst (q := 33) (v := -1) dX11_miss_32 rfl rfl ?_
      exact J_iret dX11_miss_33
  · refine K_iconst (q := 15) (v := -1) dX11_miss_14 rfl rfl ?_
    exact J_iret dX11_miss_15
theorem dX11_node_0 : decode cX11_node 0 = .ok (.aload_n 0, 1) := by decide +kernel
theorem dX11_node_1 : decode cX11_node 1 = .ok (.getfield 10, 3) := by decide +kernel
theorem dX11_node_4 : decode cX11_node 4 = .ok (.getfield 33, 3) := by decide +kernel
theorem dX11_node_7 : decode cX11_node 7 = .ok (.iload_n 1, 1) := by decide +kernel
theorem dX11_node_8 : decode cX11_node 8 = .ok (.invokevirtual 141, 3) := by decide +kernel
theorem dX11_node_11 : decode cX11_node 11 = .ok (.ifCond .eq 10, 3) := by decide +kernel
theorem dX11_node_14 : decode cX11_node 14 = .ok (.iload_n 2, 1) := by decide +kernel
theorem dX11_node_15 : decode cX11_node 15 = .ok (.invokestatic 144, 3) := by decide +kernel
theorem dX11_node_18 : decode cX11_node 18 = .ok (.ifCond .ne 6, 3) := by decide +kernel
theorem dX11_node_21 : decode cX11_node 21 = .ok (.bipush (-2), 2) := by decide +kernel
theorem dX11_node_23 : decode cX11_node 23 = .ok (.ireturn, 1) := by decide +kernel
theorem dX11_node_24 : decode cX11_node 24 = .ok (.aload_n 0, 1) := by decide +kernel
theorem dX11_node_25 : decode cX11_node 25 = .ok (.getfield 10, 3) := by decide +kernel
theorem dX11_node_28 : decode cX11_node 28 = .ok (.getfield 33, 3) := by decide +kernel
theorem dX11_node_31 : decode cX11_node 31 = .ok (.iload_n 1, 1) := by decide +kernel
theorem dX11_node_32 : decode cX11_node 32 = .ok (.iload_n 2, 1) := by decide +kernel
theorem dX11_node_33 : decode cX11_node 33 = .ok (.invokevirtual 147, 3) := by decide +kernel
theorem dX11_node_36 : decode cX11_node 36 = .ok (.istore 4, 2) := by decide +kernel
theorem dX11_node_38 : decode cX11_node 38 = .ok (.iload_n 3, 1) := by decide +kernel
theorem dX11_node_39 : decode cX11_node 39 = .ok (.tableswitch 157 0 6 #[41, 47, 61, 75, 93, 106, 134], 41) := by decide +kernel
theorem dX11_node_80 : decode cX11_node 80 = .ok (.iload 4, 2) := by decide +kernel
theorem dX11_node_82 : decode cX11_node 82 = .ok (.invokestatic 150, 3) := by decide +kernel
theorem dX11_node_85 : decode cX11_node 85 = .ok (.ireturn, 1) := by decide +kernel
theorem dX11_node_86 : decode cX11_node 86 = .ok (.iload 4, 2) := by decide +kernel
theorem dX11_node_88 : decode cX11_node 88 = .ok (.invokestatic 155, 3) := by decide +kernel
theorem dX11_node_91 : decode cX11_node 91 = .ok (.ifCond .eq 7, 3) := by decide +kernel
theorem dX11_node_94 : decode cX11_node 94 = .ok (.iconst 1, 1) := by decide +kernel
theorem dX11_node_95 : decode cX11_node 95 = .ok (.goto 4, 3) := by decide +kernel
theorem dX11_node_98 : decode cX11_node 98 = .ok (.iconst 0, 1) := by decide +kernel
theorem dX11_node_99 : decode cX11_node 99 = .ok (.ireturn, 1) := by decide +kernel
theorem dX11_node_100 : decode cX11_node 100 = .ok (.iload 4, 2) := by decide +kernel
theorem dX11_node_102 : decode cX11_node 102 = .ok (.invokestatic 158, 3) := by decide +kernel
theorem dX11_node_105 : decode cX11_node 105 = .ok (.ifCond .eq 7, 3) := by decide +kernel
theorem dX11_node_108 : decode cX11_node 108 = .ok (.iconst 1, 1) := by decide +kernel
theorem dX11_node_109 : decode cX11_node 109 = .ok (.goto 4, 3) := by decide +kernel
theorem dX11_node_112 : decode cX11_node 112 = .ok (.iconst 0, 1) := by decide +kernel
theorem dX11_node_113 : decode cX11_node 113 = .ok (.ireturn, 1) := by decide +kernel
theorem dX11_node_114 : decode cX11_node 114 = .ok (.iload 4, 2) := by decide +kernel
theorem dX11_node_116 : decode cX11_node 116 = .ok (.invokestatic 158, 3) := by decide +kernel
theorem dX11_node_119 : decode cX11_node 119 = .ok (.ifCond .eq 11, 3) := by decide +kernel
theorem dX11_node_122 : decode cX11_node 122 = .ok (.iload 4, 2) := by decide +kernel
theorem dX11_node_124 : decode cX11_node 124 = .ok (.invokestatic 161, 3) := by decide +kernel
theorem dX11_node_127 : decode cX11_node 127 = .ok (.goto 4, 3) := by decide +kernel
theorem dX11_node_130 : decode cX11_node 130 = .ok (.iconst (-1), 1) := by decide +kernel
theorem dX11_node_131 : decode cX11_node 131 = .ok (.ireturn, 1) := by decide +kernel
theorem dX11_node_132 : decode cX11_node 132 = .ok (.aload_n 0, 1) := by decide +kernel
theorem dX11_node_133 : decode cX11_node 133 = .ok (.getfield 10, 3) := by decide +kernel
theorem dX11_node_136 : decode cX11_node 136 = .ok (.getfield 33, 3) := by decide +kernel
theorem dX11_node_139 : decode cX11_node 139 = .ok (.iload_n 1, 1) := by decide +kernel
theorem dX11_node_140 : decode cX11_node 140 = .ok (.iload_n 2, 1) := by decide +kernel
theorem dX11_node_141 : decode cX11_node 141 = .ok (.invokevirtual 164, 3) := by decide +kernel
theorem dX11_node_144 : decode cX11_node 144 = .ok (.ireturn, 1) := by decide +kernel
theorem dX11_node_145 : decode cX11_node 145 = .ok (.iload_n 1, 1) := by decide +kernel
theorem dX11_node_146 : decode cX11_node 146 = .ok (.bipush 6, 2) := by decide +kernel
theorem dX11_node_148 : decode cX11_node 148 = .ok (.if_icmp .ne 7, 3) := by decide +kernel
theorem dX11_node_151 : decode cX11_node 151 = .ok (.iconst (-1), 1) := by decide +kernel
theorem dX11_node_152 : decode cX11_node 152 = .ok (.goto 20, 3) := by decide +kernel
theorem dX11_node_155 : decode cX11_node 155 = .ok (.aload_n 0, 1) := by decide +kernel
theorem dX11_node_156 : decode cX11_node 156 = .ok (.getfield 10, 3) := by decide +kernel
theorem dX11_node_159 : decode cX11_node 159 = .ok (.getfield 33, 3) := by decide +kernel
theorem dX11_node_162 : decode cX11_node 162 = .ok (.getfield 167, 3) := by decide +kernel
theorem dX11_node_165 : decode cX11_node 165 = .ok (.iload_n 1, 1) := by decide +kernel
theorem dX11_node_166 : decode cX11_node 166 = .ok (.bipush 8, 2) := by decide +kernel
theorem dX11_node_168 : decode cX11_node 168 = .ok (.imul, 1) := by decide +kernel
theorem dX11_node_169 : decode cX11_node 169 = .ok (.iload_n 2, 1) := by decide +kernel
theorem dX11_node_170 : decode cX11_node 170 = .ok (.iadd, 1) := by decide +kernel
theorem dX11_node_171 : decode cX11_node 171 = .ok (.iaload, 1) := by decide +kernel
theorem dX11_node_172 : decode cX11_node 172 = .ok (.ireturn, 1) := by decide +kernel
theorem dX11_node_173 : decode cX11_node 173 = .ok (.iload_n 1, 1) := by decide +kernel
theorem dX11_node_174 : decode cX11_node 174 = .ok (.bipush 6, 2) := by decide +kernel
theorem dX11_node_176 : decode cX11_node 176 = .ok (.if_icmp .ne 7, 3) := by decide +kernel
theorem dX11_node_179 : decode cX11_node 179 = .ok (.iconst (-1), 1) := by decide +kernel
theorem dX11_node_180 : decode cX11_node 180 = .ok (.goto 15, 3) := by decide +kernel
theorem dX11_node_183 : decode cX11_node 183 = .ok (.aload_n 0, 1) := by decide +kernel
theorem dX11_node_184 : decode cX11_node 184 = .ok (.getfield 10, 3) := by decide +kernel
theorem dX11_node_187 : decode cX11_node 187 = .ok (.getfield 33, 3) := by decide +kernel
theorem dX11_node_190 : decode cX11_node 190 = .ok (.iload_n 1, 1) := by decide +kernel
theorem dX11_node_191 : decode cX11_node 191 = .ok (.iload_n 2, 1) := by decide +kernel
theorem dX11_node_192 : decode cX11_node 192 = .ok (.invokevirtual 170, 3) := by decide +kernel
theorem dX11_node_195 : decode cX11_node 195 = .ok (.ireturn, 1) := by decide +kernel
theorem dX11_node_196 : decode cX11_node 196 = .ok (.bipush (-2), 2) := by decide +kernel
theorem dX11_node_198 : decode cX11_node 198 = .ok (.ireturn, 1) := by decide +kernel
def xX11_node  (l1 : Int32) (l2 : Int32) (l3 : Int32) (M : j_M) : Option (Int32 × j_M) := obi (xX1_isNode 2 l1 M) fun v2 M1 => (if v2 = (0 : Int32) then some ((-2 : Int32), M1) else obi (xX11_isLine l2 M1) fun v4 M3 => (if v4 = (0 : Int32) then some ((-2 : Int32), M3) else obi (xX1_heldAt 2 l1 l2 M3) fun v6 M5 => osw l3 [((nI 0), obi (xX3_count v6 M5) fun v8 M7 => some (v8, M7)), ((nI 1), obi (xX3_isOwner v6 M5) fun v10 M9 => (if v10 = (0 : Int32) then some ((nI 0), M9) else some ((nI 1), M9))), ((nI 2), obi (xX3_isValid v6 M5) fun v12 M11 => (if v12 = (0 : Int32) then some ((nI 0), M11) else some ((nI 1), M11))), ((nI 3), obi (xX3_isValid v6 M5) fun v14 M13 => (if v14 = (0 : Int32) then some ((-1 : Int32), M13) else obi (xX3_data v6 M13) fun v16 M15 => some (v16, M15))), ((nI 4), obi (xX1_turnAt 2 l1 l2 M5) fun v18 M17 => some (v18, M17)), ((nI 5), (if l1 = (nI 6) then some ((-1 : Int32), M5) else gd ((l1 * (nI 8)) + l2) 48 (oli (M5 5 (ix ((l1 * (nI 8)) + l2))) fun v19 => some (v19, M5)))), ((nI 6), (if l1 = (nI 6) then some ((-1 : Int32), M5) else obi (xX1_placeByUse 2 l1 l2 M5) fun v21 M20 => some (v21, M20)))] (some ((-2 : Int32), M5))))
set_option maxRecDepth 20000 in
set_option maxHeartbeats 2000000 in
theorem tX11_node  (l1 : Int32) (l2 : Int32) (l3 : Int32) (M : j_M) : J (ρ := Int32 × j_M) yX11_node cX11_node 5 (some .int) 2 45 j_ei 0 [(0, .inr (16, 0, 0)), (1, .inl (l1)), (2, .inl (l2)), (3, .inl (l3))] [] M (xX11_node  l1 l2 l3 M) := by
  unfold xX11_node
  refine K_aload_n (q := 1) 0 dX11_node_0 rfl rfl rfl ?_
  refine K_getR (q := 4) (ci := 6) (a2 := 1) 0 dX11_node_1 fRX11_10 rfl rfl (by decide) rfl rfl ?_
  refine K_getR (q := 7) (ci := 2) (a2 := 2) 1 dX11_node_4 fRX11_33 rfl rfl (by decide) rfl rfl ?_
  refine K_iload_n (q := 8) 1 dX11_node_7 rfl rfl rfl ?_
  refine K_cvi (q := 11) [.inl (l1)] dX11_node_8 cb_X1_isNode cvRX11_141 rc_0 (show (10 : Nat) ≠ 0 by decide) rfl (Nat.le_of_ble_eq_true rfl) ⟨by decide, by decide⟩ (Nat.le_of_ble_eq_true rfl) rfl (tX1_isNode 2 l1 M) rfl (fun v2 M1 => ?_)
  refine K_if_eq (q := 14) (tgt := 21) dX11_node_11 rfl ?_ rfl ?_
  · refine K_bipush (q := 23) (v := -2) dX11_node_21 rfl rfl ?_
    exact J_iret dX11_node_23
  · refine K_iload_n (q := 15) 2 dX11_node_14 rfl rfl rfl ?_
    refine K_csi (q := 18) [.inl (l2)] dX11_node_15 cb_X11_isLine cvRX11_144 rfl (Nat.le_of_ble_eq_true rfl) ⟨by decide, by decide⟩ (Nat.le_of_ble_eq_true rfl) rfl (tX11_isLine l2 M1) rfl (fun v4 M3 => ?_)
    refine K_if_ne (q := 21) (tgt := 24) dX11_node_18 rfl ?_ rfl ?_
    · refine K_aload_n (q := 25) 0 dX11_node_24 rfl rfl rfl ?_
      refine K_getR (q := 28) (ci := 6) (a2 := 1) 0 dX11_node_25 fRX11_10 rfl rfl (by decide) rfl rfl ?_
      refine K_getR (q := 31) (ci := 2) (a2 := 2) 1 dX11_node_28 fRX11_33 rfl rfl (by decide) rfl rfl ?_
      refine K_iload_n (q := 32) 1 dX11_node_31 rfl rfl rfl ?_
      refine K_iload_n (q := 33) 2 dX11_node_32 rfl rfl rfl ?_
      refine K_cvi (q := 36) [.inl (l1), .inl (l2)] dX11_node_33 cb_X1_heldAt cvRX11_147 rc_0 (show (10 : Nat) ≠ 0 by decide) rfl (Nat.le_of_ble_eq_true rfl) ⟨by decide, by decide⟩ (Nat.le_of_ble_eq_true rfl) rfl (tX1_heldAt 2 l1 l2 M3) rfl (fun v6 M5 => ?_)
      refine K_istore (q := 38) (ll' := [(4, .inl (v6)), (0, .inr (16, 0, 0)), (1, .inl (l1)), (2, .inl (l2)), (3, .inl (l3))]) dX11_node_36 (by decide) rfl rfl ?_
      refine K_iload_n (q := 39) 4 dX11_node_38 rfl rfl rfl ?_
      refine K_tsw (dt := 196) [80, 86, 100, 114, 132, 145, 173] dX11_node_39 rfl rfl rfl rfl ⟨?_, ?_, ?_, ?_, ?_, ?_, ?_, trivial⟩ ?_
      · refine K_iload (q := 82) 0 dX11_node_80 rfl rfl ?_
        refine K_csi (q := 85) [.inl (v6)] dX11_node_82 cb_X3_count cvRX11_150 rfl (Nat.le_of_ble_eq_true rfl) ⟨by decide, by decide⟩ (Nat.le_of_ble_eq_true rfl) rfl (tX3_count v6 M5) rfl (fun v8 M7 => ?_)
        exact J_iret dX11_node_85
      · refine K_iload (q := 88) 0 dX11_node_86 rfl rfl ?_
        refine K_csi (q := 91) [.inl (v6)] dX11_node_88 cb_X3_isOwner cvRX11_155 rfl (Nat.le_of_ble_eq_true rfl) ⟨by decide, by decide⟩ (Nat.le_of_ble_eq_true rfl) rfl (tX3_isOwner v6 M5) rfl (fun v10 M9 => ?_)
        refine K_if_eq (q := 94) (tgt := 98) dX11_node_91 rfl ?_ rfl ?_
        · refine K_iconst (q := 99) (v := nI 0) dX11_node_98 rfl rfl ?_
          exact J_iret dX11_node_99
        · refine K_iconst (q := 95) (v := nI 1) dX11_node_94 rfl rfl ?_
          refine J_goto (tgt := 99) dX11_node_95 rfl ?_
          exact J_iret dX11_node_99
      · refine K_iload (q := 102) 0 dX11_node_100 rfl rfl ?_
        refine K_csi (q := 105) [.inl (v6)] dX11_node_102 cb_X3_isValid cvRX11_158 rfl (Nat.le_of_ble_eq_true rfl) ⟨by decide, by decide⟩ (Nat.le_of_ble_eq_true rfl) rfl (tX3_isValid v6 M5) rfl (fun v12 M11 => ?_)
        refine K_if_eq (q := 108) (tgt := 112) dX11_node_105 rfl ?_ rfl ?_
        · refine K_iconst (q := 113) (v := nI 0) dX11_node_112 rfl rfl ?_
          exact J_iret dX11_node_113
        · refine K_iconst (q := 109) (v := nI 1) dX11_node_108 rfl rfl ?_
          refine J_goto (tgt := 113) dX11_node_109 rfl ?_
          exact J_iret dX11_node_113
      · refine K_iload (q := 116) 0 dX11_node_114 rfl rfl ?_
        refine K_csi (q := 119) [.inl (v6)] dX11_node_116 cb_X3_isValid cvRX11_158 rfl (Nat.le_of_ble_eq_true rfl) ⟨by decide, by decide⟩ (Nat.le_of_ble_eq_true rfl) rfl (tX3_isValid v6 M5) rfl (fun v14 M13 => ?_)
        refine K_if_eq (q := 122) (tgt := 130) dX11_node_119 rfl ?_ rfl ?_
        · refine K_iconst (q := 131) (v := -1) dX11_node_130 rfl rfl ?_
          exact J_iret dX11_node_131
        · refine K_iload (q := 124) 0 dX11_node_122 rfl rfl ?_
          refine K_csi (q := 127) [.inl (v6)] dX11_node_124 cb_X3_data cvRX11_161 rfl (Nat.le_of_ble_eq_true rfl) ⟨by decide, by decide⟩ (Nat.le_of_ble_eq_true rfl) rfl (tX3_data v6 M13) rfl (fun v16 M15 => ?_)
          refine J_goto (tgt := 131) dX11_node_127 rfl ?_
          exact J_iret dX11_node_131
      · refine K_aload_n (q := 133) 1 dX11_node_132 rfl rfl rfl ?_
        refine K_getR (q := 136) (ci := 6) (a2 := 1) 0 dX11_node_133 fRX11_10 rfl rfl (by decide) rfl rfl ?_
        refine K_getR (q := 139) (ci := 2) (a2 := 2) 1 dX11_node_136 fRX11_33 rfl rfl (by decide) rfl rfl ?_
        refine K_iload_n (q := 140) 2 dX11_node_139 rfl rfl rfl ?_
        refine K_iload_n (q := 141) 3 dX11_node_140 rfl rfl rfl ?_
        refine K_cvi (q := 144) [.inl (l1), .inl (l2)] dX11_node_141 cb_X1_turnAt cvRX11_164 rc_0 (show (10 : Nat) ≠ 0 by decide) rfl (Nat.le_of_ble_eq_true rfl) ⟨by decide, by decide⟩ (Nat.le_of_ble_eq_true rfl) rfl (tX1_turnAt 2 l1 l2 M5) rfl (fun v18 M17 => ?_)
        exact J_iret dX11_node_144
      · refine K_iload_n (q := 146) 2 dX11_node_145 rfl rfl rfl ?_
        refine K_bipush (q := 148) (v := nI 6) dX11_node_146 rfl rfl ?_
        refine K_icmp_ne (q := 151) (tgt := 155) dX11_node_148 rfl ?_ rfl ?_
        · refine K_aload_n (q := 156) 1 dX11_node_155 rfl rfl rfl ?_
          refine K_getR (q := 159) (ci := 6) (a2 := 1) 0 dX11_node_156 fRX11_10 rfl rfl (by decide) rfl rfl ?_
          refine K_getR (q := 162) (ci := 2) (a2 := 2) 1 dX11_node_159 fRX11_33 rfl rfl (by decide) rfl rfl ?_
          refine K_getR (q := 165) (ci := 0) (a2 := 5) 3 dX11_node_162 fRX11_167 rfl rfl (by decide) rfl rfl ?_
          refine K_iload_n (q := 166) 2 dX11_node_165 rfl rfl rfl ?_
          refine K_bipush (q := 168) (v := nI 8) dX11_node_166 rfl rfl ?_
          refine K_imul (q := 169) dX11_node_168 rfl ?_
          refine K_iload_n (q := 170) 3 dX11_node_169 rfl rfl rfl ?_
          refine K_iadd (q := 171) dX11_node_170 rfl ?_
          refine K_iald (q := 172) dX11_node_171 rfl (fun v19 => ?_)
          exact J_iret dX11_node_172
        · refine K_iconst (q := 152) (v := -1) dX11_node_151 rfl rfl ?_
          refine J_goto (tgt := 172) dX11_node_152 rfl ?_
          exact J_iret dX11_node_172
      · refine K_iload_n (q := 174) 2 dX11_node_173 rfl rfl rfl ?_
        refine K_bipush (q := 176) (v := nI 6) dX11_node_174 rfl rfl ?_
        refine K_icmp_ne (q := 179) (tgt := 183) dX11_node_176 rfl ?_ rfl ?_
        · refine K_aload_n (q := 184) 1 dX11_node_183 rfl rfl rfl ?_
          refine K_getR (q := 187) (ci := 6) (a2 := 1) 0 dX11_node_184 fRX11_10 rfl rfl (by decide) rfl rfl ?_
          refine K_getR (q := 190) (ci := 2) (a2 := 2) 1 dX11_node_187 fRX11_33 rfl rfl (by decide) rfl rfl ?_
          refine K_iload_n (q := 191) 2 dX11_node_190 rfl rfl rfl ?_
          refine K_iload_n (q := 192) 3 dX11_node_191 rfl rfl rfl ?_
          refine K_cvi (q := 195) [.inl (l1), .inl (l2)] dX11_node_192 cb_X1_placeByUse cvRX11_170 rc_0 (show (10 : Nat) ≠ 0 by decide) rfl (Nat.le_of_ble_eq_true rfl) ⟨by decide, by decide⟩ (Nat.le_of_ble_eq_true rfl) rfl (tX1_placeByUse 2 l1 l2 M5) rfl (fun v21 M20 => ?_)
          exact J_iret dX11_node_195
        · refine K_iconst (q := 180) (v := -1) dX11_node_179 rfl rfl ?_
          refine J_goto (tgt := 195) dX11_node_180 rfl ?_
          exact J_iret dX11_node_195
      · refine K_bipush (q := 198) (v := -2) dX11_node_196 rfl rfl ?_
        exact J_iret dX11_node_198
    · refine K_bipush (q := 23) (v := -2) dX11_node_21 rfl rfl ?_
      exact J_iret dX11_node_23
theorem dX11_program_0 : decode cX11_program 0 = .ok (.iload_n 1, 1) := by decide +kernel
theorem dX11_program_1 : decode cX11_program 1 = .ok (.ifCond .lt 9, 3) := by decide +kernel
theorem dX11_program_4 : decode cX11_program 4 = .ok (.iload_n 1, 1) := by decide +kernel
theorem dX11_program_5 : decode cX11_program 5 = .ok (.bipush 6, 2) := by decide +kernel
theorem dX11_program_7 : decode cX11_program 7 = .ok (.if_icmp .lt 5, 3) := by decide +kernel
theorem dX11_program_10 : decode cX11_program 10 = .ok (.iconst (-1), 1) := by decide +kernel
theorem dX11_program_11 : decode cX11_program 11 = .ok (.ireturn, 1) := by decide +kernel
theorem dX11_program_12 : decode cX11_program 12 = .ok (.iload_n 2, 1) := by decide +kernel
theorem dX11_program_13 : decode cX11_program 13 = .ok (.tableswitch 66 0 2 #[27, 40, 53], 27) := by decide +kernel
theorem dX11_program_40 : decode cX11_program 40 = .ok (.aload_n 0, 1) := by decide +kernel
theorem dX11_program_41 : decode cX11_program 41 = .ok (.getfield 10, 3) := by decide +kernel
theorem dX11_program_44 : decode cX11_program 44 = .ok (.getfield 23, 3) := by decide +kernel
theorem dX11_program_47 : decode cX11_program 47 = .ok (.getfield 245, 3) := by decide +kernel
theorem dX11_program_50 : decode cX11_program 50 = .ok (.iload_n 1, 1) := by decide +kernel
theorem dX11_program_51 : decode cX11_program 51 = .ok (.iaload, 1) := by decide +kernel
theorem dX11_program_52 : decode cX11_program 52 = .ok (.ireturn, 1) := by decide +kernel
theorem dX11_program_53 : decode cX11_program 53 = .ok (.aload_n 0, 1) := by decide +kernel
theorem dX11_program_54 : decode cX11_program 54 = .ok (.getfield 10, 3) := by decide +kernel
theorem dX11_program_57 : decode cX11_program 57 = .ok (.getfield 23, 3) := by decide +kernel
theorem dX11_program_60 : decode cX11_program 60 = .ok (.getfield 248, 3) := by decide +kernel
theorem dX11_program_63 : decode cX11_program 63 = .ok (.iload_n 1, 1) := by decide +kernel
theorem dX11_program_64 : decode cX11_program 64 = .ok (.iaload, 1) := by decide +kernel
theorem dX11_program_65 : decode cX11_program 65 = .ok (.ireturn, 1) := by decide +kernel
theorem dX11_program_66 : decode cX11_program 66 = .ok (.aload_n 0, 1) := by decide +kernel
theorem dX11_program_67 : decode cX11_program 67 = .ok (.getfield 10, 3) := by decide +kernel
theorem dX11_program_70 : decode cX11_program 70 = .ok (.getfield 23, 3) := by decide +kernel
theorem dX11_program_73 : decode cX11_program 73 = .ok (.getfield 251, 3) := by decide +kernel
theorem dX11_program_76 : decode cX11_program 76 = .ok (.iload_n 1, 1) := by decide +kernel
theorem dX11_program_77 : decode cX11_program 77 = .ok (.iaload, 1) := by decide +kernel
theorem dX11_program_78 : decode cX11_program 78 = .ok (.ireturn, 1) := by decide +kernel
theorem dX11_program_79 : decode cX11_program 79 = .ok (.iconst (-1), 1) := by decide +kernel
theorem dX11_program_80 : decode cX11_program 80 = .ok (.ireturn, 1) := by decide +kernel
def xX11_program  (l1 : Int32) (l2 : Int32) (M : j_M) : Option (Int32 × j_M) := (if l1 < (0 : Int32) then some ((-1 : Int32), M) else (if l1 < (nI 6) then osw l2 [((nI 0), gd l1 6 (oli (M 24 (ix l1)) fun v1 => some (v1, M))), ((nI 1), gd l1 6 (oli (M 25 (ix l1)) fun v2 => some (v2, M))), ((nI 2), gd l1 6 (oli (M 26 (ix l1)) fun v3 => some (v3, M)))] (some ((-1 : Int32), M)) else some ((-1 : Int32), M)))
set_option maxRecDepth 20000 in
set_option maxHeartbeats 2000000 in
theorem tX11_program  (l1 : Int32) (l2 : Int32) (M : j_M) : J (ρ := Int32 × j_M) yX11_program cX11_program 3 (some .int) 0 0 j_ei 0 [(0, .inr (16, 0, 0)), (1, .inl (l1)), (2, .inl (l2))] [] M (xX11_program  l1 l2 M) := by
  unfold xX11_program
  refine K_iload_n (q := 1) 1 dX11_program_0 rfl rfl rfl ?_
  refine K_if_lt (q := 4) (tgt := 10) dX11_program_1 rfl ?_ rfl ?_
  · refine K_iconst (q := 11) (v := -1) dX11_program_10 rfl rfl ?_
    exact J_iret dX11_program_11
  · refine K_iload_n (q := 5) 1 dX11_program_4 rfl rfl rfl ?_
    refine K_bipush (q := 7) (v := nI 6) dX11_program_5 rfl rfl ?_
    refine K_icmp_lt (q := 10) (tgt := 12) dX11_program_7 rfl ?_ rfl ?_
    · refine K_iload_n (q := 13) 2 dX11_program_12 rfl rfl rfl ?_
      refine K_tsw (dt := 79) [40, 53, 66] dX11_program_13 rfl rfl rfl rfl ⟨?_, ?_, ?_, trivial⟩ ?_
      · refine K_aload_n (q := 41) 0 dX11_program_40 rfl rfl rfl ?_
        refine K_getR (q := 44) (ci := 6) (a2 := 1) 0 dX11_program_41 fRX11_10 rfl rfl (by decide) rfl rfl ?_
        refine K_getR (q := 47) (ci := 2) (a2 := 22) 2 dX11_program_44 fRX11_23 rfl rfl (by decide) rfl rfl ?_
        refine K_getR (q := 50) (ci := 4) (a2 := 24) 1 dX11_program_47 fRX11_245 rfl rfl (by decide) rfl rfl ?_
        refine K_iload_n (q := 51) 1 dX11_program_50 rfl rfl rfl ?_
        refine K_iald (q := 52) dX11_program_51 rfl (fun v1 => ?_)
        exact J_iret dX11_program_52
      · refine K_aload_n (q := 54) 0 dX11_program_53 rfl rfl rfl ?_
        refine K_getR (q := 57) (ci := 6) (a2 := 1) 0 dX11_program_54 fRX11_10 rfl rfl (by decide) rfl rfl ?_
        refine K_getR (q := 60) (ci := 2) (a2 := 22) 2 dX11_program_57 fRX11_23 rfl rfl (by decide) rfl rfl ?_
        refine K_getR (q := 63) (ci := 4) (a2 := 25) 2 dX11_program_60 fRX11_248 rfl rfl (by decide) rfl rfl ?_
        refine K_iload_n (q := 64) 1 dX11_program_63 rfl rfl rfl ?_
        refine K_iald (q := 65) dX11_program_64 rfl (fun v2 => ?_)
        exact J_iret dX11_program_65
      · refine K_aload_n (q := 67) 0 dX11_program_66 rfl rfl rfl ?_
        refine K_getR (q := 70) (ci := 6) (a2 := 1) 0 dX11_program_67 fRX11_10 rfl rfl (by decide) rfl rfl ?_
        refine K_getR (q := 73) (ci := 2) (a2 := 22) 2 dX11_program_70 fRX11_23 rfl rfl (by decide) rfl rfl ?_
        refine K_getR (q := 76) (ci := 4) (a2 := 26) 3 dX11_program_73 fRX11_251 rfl rfl (by decide) rfl rfl ?_
        refine K_iload_n (q := 77) 1 dX11_program_76 rfl rfl rfl ?_
        refine K_iald (q := 78) dX11_program_77 rfl (fun v3 => ?_)
        exact J_iret dX11_program_78
      · refine K_iconst (q := 80) (v := -1) dX11_program_79 rfl rfl ?_
        exact J_iret dX11_program_80
    · refine K_iconst (q := 11) (v := -1) dX11_program_10 rfl rfl ?_
      exact J_iret dX11_program_11
theorem dX11_run_0 : decode cX11_run 0 = .ok (.iload_n 1, 1) := by decide +kernel
theorem dX11_run_1 : decode cX11_run 1 = .ok (.iconst 1, 1) := by decide +kernel
theorem dX11_run_2 : decode cX11_run 2 = .ok (.if_icmp .lt 9, 3) := by decide +kernel
theorem dX11_run_5 : decode cX11_run 5 = .ok (.iload_n 1, 1) := by decide +kernel
theorem dX11_run_6 : decode cX11_run 6 = .ok (.bipush 24, 2) := by decide +kernel
theorem dX11_run_8 : decode cX11_run 8 = .ok (.if_icmp .le 5, 3) := by decide +kernel
theorem dX11_run_11 : decode cX11_run 11 = .ok (.iconst (-1), 1) := by decide +kernel
theorem dX11_run_12 : decode cX11_run 12 = .ok (.ireturn, 1) := by decide +kernel
theorem dX11_run_13 : decode cX11_run 13 = .ok (.iconst 0, 1) := by decide +kernel
theorem dX11_run_14 : decode cX11_run 14 = .ok (.istore_n 2, 1) := by decide +kernel
theorem dX11_run_15 : decode cX11_run 15 = .ok (.iconst 0, 1) := by decide +kernel
theorem dX11_run_16 : decode cX11_run 16 = .ok (.istore_n 3, 1) := by decide +kernel
theorem dX11_run_17 : decode cX11_run 17 = .ok (.iload_n 3, 1) := by decide +kernel
theorem dX11_run_18 : decode cX11_run 18 = .ok (.iload_n 1, 1) := by decide +kernel
theorem dX11_run_19 : decode cX11_run 19 = .ok (.if_icmp .ge 45, 3) := by decide +kernel
theorem dX11_run_22 : decode cX11_run 22 = .ok (.aload_n 0, 1) := by decide +kernel
theorem dX11_run_23 : decode cX11_run 23 = .ok (.getfield 10, 3) := by decide +kernel
theorem dX11_run_26 : decode cX11_run 26 = .ok (.getfield 23, 3) := by decide +kernel
theorem dX11_run_29 : decode cX11_run 29 = .ok (.getfield 122, 3) := by decide +kernel
theorem dX11_run_32 : decode cX11_run 32 = .ok (.aload_n 0, 1) := by decide +kernel
theorem dX11_run_33 : decode cX11_run 33 = .ok (.getfield 10, 3) := by decide +kernel
theorem dX11_run_36 : decode cX11_run 36 = .ok (.getfield 23, 3) := by decide +kernel
theorem dX11_run_39 : decode cX11_run 39 = .ok (.getfield 125, 3) := by decide +kernel
theorem dX11_run_42 : decode cX11_run 42 = .ok (.if_icmp .ge 22, 3) := by decide +kernel
theorem dX11_run_45 : decode cX11_run 45 = .ok (.aload_n 0, 1) := by decide +kernel
theorem dX11_run_46 : decode cX11_run 46 = .ok (.getfield 10, 3) := by decide +kernel
theorem dX11_run_49 : decode cX11_run 49 = .ok (.invokevirtual 128, 3) := by decide +kernel
theorem dX11_run_52 : decode cX11_run 52 = .ok (.ifCond .eq 6, 3) := by decide +kernel
theorem dX11_run_55 : decode cX11_run 55 = .ok (.iinc 2 1, 3) := by decide +kernel
theorem dX11_run_58 : decode cX11_run 58 = .ok (.iinc 3 1, 3) := by decide +kernel
theorem dX11_run_61 : decode cX11_run 61 = .ok (.goto (-44), 3) := by decide +kernel
theorem dX11_run_64 : decode cX11_run 64 = .ok (.iload_n 2, 1) := by decide +kernel
theorem dX11_run_65 : decode cX11_run 65 = .ok (.ireturn, 1) := by decide +kernel
def xX11_run_17   : Nat → Int32 → Int32 → Int32 → j_M → Option (Int32 × j_M)
  | 0, _, _, _, _ => none
  | n + 1, l1, l2, l3, M => (if l1 ≤ l3 then some (l2, M) else oli (M 22 6) fun v1 => oli (M 22 5) fun v2 => (if v2 ≤ v1 then some (l2, M) else obi (xX6_runLine 1 M) fun v4 M3 => (if v4 = (0 : Int32) then xX11_run_17  n l1 l2 (l3 + (nI 1)) M3 else xX11_run_17  n l1 (l2 + (nI 1)) (l3 + (nI 1)) M3)))
set_option maxRecDepth 20000 in
set_option maxHeartbeats 2000000 in
theorem tX11_run_17    : ∀ (n : Nat) (l1 : Int32) (l2 : Int32) (l3 : Int32) (M : j_M), J (ρ := Int32 × j_M) yX11_run cX11_run 4 (some .int) 7 186 j_ei 17 [(0, .inr (16, 0, 0)), (1, .inl (l1)), (2, .inl (l2)), (3, .inl (l3))] [] M (xX11_run_17  n l1 l2 l3 M) := by
  intro n
  induction n with
  | zero => intros; exact J_none
  | succ n ih =>
    intro l1 l2 l3 M
    rw [xX11_run_17.eq_2]
    refine K_iload_n (q := 18) 3 dX11_run_17 rfl rfl rfl ?_
    refine K_iload_n (q := 19) 1 dX11_run_18 rfl rfl rfl ?_
    refine K_icmp_ge (q := 22) (tgt := 64) dX11_run_19 rfl ?_ rfl ?_
    · refine K_iload_n (q := 65) 2 dX11_run_64 rfl rfl rfl ?_
      exact J_iret dX11_run_65
    · refine K_aload_n (q := 23) 0 dX11_run_22 rfl rfl rfl ?_
      refine K_getR (q := 26) (ci := 6) (a2 := 1) 0 dX11_run_23 fRX11_10 rfl rfl (by decide) rfl rfl ?_
      refine K_getR (q := 29) (ci := 2) (a2 := 22) 2 dX11_run_26 fRX11_23 rfl rfl (by decide) rfl rfl ?_
      refine K_getI (q := 32) (ci := 4) 6 dX11_run_29 fRX11_122 rfl rfl rfl (fun v1 => ?_)
      refine K_aload_n (q := 33) 0 dX11_run_32 rfl rfl rfl ?_
      refine K_getR (q := 36) (ci := 6) (a2 := 1) 0 dX11_run_33 fRX11_10 rfl rfl (by decide) rfl rfl ?_
      refine K_getR (q := 39) (ci := 2) (a2 := 22) 2 dX11_run_36 fRX11_23 rfl rfl (by decide) rfl rfl ?_
      refine K_getI (q := 42) (ci := 4) 5 dX11_run_39 fRX11_125 rfl rfl rfl (fun v2 => ?_)
      refine K_icmp_ge (q := 45) (tgt := 64) dX11_run_42 rfl ?_ rfl ?_
      · refine K_iload_n (q := 65) 2 dX11_run_64 rfl rfl rfl ?_
        exact J_iret dX11_run_65
      · refine K_aload_n (q := 46) 0 dX11_run_45 rfl rfl rfl ?_
        refine K_getR (q := 49) (ci := 6) (a2 := 1) 0 dX11_run_46 fRX11_10 rfl rfl (by decide) rfl rfl ?_
        refine K_cvi (q := 52) [] dX11_run_49 cb_X6_runLine cvRX11_128 rc_2 (show (12 : Nat) ≠ 0 by decide) rfl (Nat.le_of_ble_eq_true rfl) ⟨by decide, by decide⟩ (Nat.le_of_ble_eq_true rfl) rfl (tX6_runLine 1 M) rfl (fun v4 M3 => ?_)
        refine K_if_eq (q := 55) (tgt := 58) dX11_run_52 rfl ?_ rfl ?_
        · refine K_iinc (q := 61) (v := l3 + (nI 1)) (ll' := [(3, .inl (l3 + (nI 1))), (0, .inr (16, 0, 0)), (1, .inl (l1)), (2, .inl (l2))]) 3 dX11_run_58 rfl rfl (by decide) rfl rfl ?_
          refine J_goto (tgt := 17) dX11_run_61 rfl ?_
          exact J_sub [1, 2, 3, 0] (ih l1 l2 (l3 + (nI 1)) M3) rfl
        · refine K_iinc (q := 58) (v := l2 + (nI 1)) (ll' := [(2, .inl (l2 + (nI 1))), (0, .inr (16, 0, 0)), (1, .inl (l1)), (3, .inl (l3))]) 2 dX11_run_55 rfl rfl (by decide) rfl rfl ?_
          refine K_iinc (q := 61) (v := l3 + (nI 1)) (ll' := [(3, .inl (l3 + (nI 1))), (2, .inl (l2 + (nI 1))), (0, .inr (16, 0, 0)), (1, .inl (l1))]) 3 dX11_run_58 rfl rfl (by decide) rfl rfl ?_
          refine J_goto (tgt := 17) dX11_run_61 rfl ?_
          exact J_sub [2, 3, 1, 0] (ih l1 (l2 + (nI 1)) (l3 + (nI 1)) M3) rfl
def xX11_run  (l1 : Int32) (M : j_M) : Option (Int32 × j_M) := (if l1 < (nI 1) then some ((-1 : Int32), M) else (if l1 ≤ (nI 24) then xX11_run_17 fu l1 (nI 0) (nI 0) M else some ((-1 : Int32), M)))
set_option maxRecDepth 20000 in
set_option maxHeartbeats 2000000 in
theorem tX11_run  (l1 : Int32) (M : j_M) : J (ρ := Int32 × j_M) yX11_run cX11_run 4 (some .int) 7 186 j_ei 0 [(0, .inr (16, 0, 0)), (1, .inl (l1))] [] M (xX11_run  l1 M) := by
  unfold xX11_run
  refine K_iload_n (q := 1) 1 dX11_run_0 rfl rfl rfl ?_
  refine K_iconst (q := 2) (v := nI 1) dX11_run_1 rfl rfl ?_
  refine K_icmp_lt (q := 5) (tgt := 11) dX11_run_2 rfl ?_ rfl ?_
  · refine K_iconst (q := 12) (v := -1) dX11_run_11 rfl rfl ?_
    exact J_iret dX11_run_12
  · refine K_iload_n (q := 6) 1 dX11_run_5 rfl rfl rfl ?_
    refine K_bipush (q := 8) (v := nI 24) dX11_run_6 rfl rfl ?_
    refine K_icmp_le (q := 11) (tgt := 13) dX11_run_8 rfl ?_ rfl ?_
    · refine K_iconst (q := 14) (v := nI 0) dX11_run_13 rfl rfl ?_
      refine K_istore_n (q := 15) (ll' := [(2, .inl ((nI 0))), (0, .inr (16, 0, 0)), (1, .inl (l1))]) dX11_run_14 rfl (by decide) rfl rfl ?_
      refine K_iconst (q := 16) (v := nI 0) dX11_run_15 rfl rfl ?_
      refine K_istore_n (q := 17) (ll' := [(3, .inl ((nI 0))), (2, .inl ((nI 0))), (0, .inr (16, 0, 0)), (1, .inl (l1))]) dX11_run_16 rfl (by decide) rfl rfl ?_
      exact J_sub [2, 3, 1, 0] (tX11_run_17 fu l1 (nI 0) (nI 0) M) rfl
    · refine K_iconst (q := 12) (v := -1) dX11_run_11 rfl rfl ?_
      exact J_iret dX11_run_12
theorem dX11_seen_0 : decode cX11_seen 0 = .ok (.aload_n 0, 1) := by decide +kernel
theorem dX11_seen_1 : decode cX11_seen 1 = .ok (.getfield 10, 3) := by decide +kernel
theorem dX11_seen_4 : decode cX11_seen 4 = .ok (.getfield 33, 3) := by decide +kernel
theorem dX11_seen_7 : decode cX11_seen 7 = .ok (.iload_n 1, 1) := by decide +kernel
theorem dX11_seen_8 : decode cX11_seen 8 = .ok (.invokevirtual 173, 3) := by decide +kernel
theorem dX11_seen_11 : decode cX11_seen 11 = .ok (.ifCond .ne 5, 3) := by decide +kernel
theorem dX11_seen_14 : decode cX11_seen 14 = .ok (.iconst (-1), 1) := by decide +kernel
theorem dX11_seen_15 : decode cX11_seen 15 = .ok (.ireturn, 1) := by decide +kernel
theorem dX11_seen_16 : decode cX11_seen 16 = .ok (.aload_n 0, 1) := by decide +kernel
theorem dX11_seen_17 : decode cX11_seen 17 = .ok (.getfield 10, 3) := by decide +kernel
theorem dX11_seen_20 : decode cX11_seen 20 = .ok (.getfield 233, 3) := by decide +kernel
theorem dX11_seen_23 : decode cX11_seen 23 = .ok (.getfield 237, 3) := by decide +kernel
theorem dX11_seen_26 : decode cX11_seen 26 = .ok (.iload_n 1, 1) := by decide +kernel
theorem dX11_seen_27 : decode cX11_seen 27 = .ok (.iaload, 1) := by decide +kernel
theorem dX11_seen_28 : decode cX11_seen 28 = .ok (.istore_n 3, 1) := by decide +kernel
theorem dX11_seen_29 : decode cX11_seen 29 = .ok (.iload_n 2, 1) := by decide +kernel
theorem dX11_seen_30 : decode cX11_seen 30 = .ok (.iconst (-1), 1) := by decide +kernel
theorem dX11_seen_31 : decode cX11_seen 31 = .ok (.if_icmp .ne 5, 3) := by decide +kernel
theorem dX11_seen_34 : decode cX11_seen 34 = .ok (.iload_n 3, 1) := by decide +kernel
theorem dX11_seen_35 : decode cX11_seen 35 = .ok (.ireturn, 1) := by decide +kernel
theorem dX11_seen_36 : decode cX11_seen 36 = .ok (.iload_n 2, 1) := by decide +kernel
theorem dX11_seen_37 : decode cX11_seen 37 = .ok (.ifCond .lt 28, 3) := by decide +kernel
theorem dX11_seen_40 : decode cX11_seen 40 = .ok (.iload_n 2, 1) := by decide +kernel
theorem dX11_seen_41 : decode cX11_seen 41 = .ok (.iload_n 3, 1) := by decide +kernel
theorem dX11_seen_42 : decode cX11_seen 42 = .ok (.if_icmp .ge 23, 3) := by decide +kernel
theorem dX11_seen_45 : decode cX11_seen 45 = .ok (.aload_n 0, 1) := by decide +kernel
theorem dX11_seen_46 : decode cX11_seen 46 = .ok (.getfield 10, 3) := by decide +kernel
theorem dX11_seen_49 : decode cX11_seen 49 = .ok (.getfield 233, 3) := by decide +kernel
theorem dX11_seen_52 : decode cX11_seen 52 = .ok (.getfield 242, 3) := by decide +kernel
theorem dX11_seen_55 : decode cX11_seen 55 = .ok (.iload_n 1, 1) := by decide +kernel
theorem dX11_seen_56 : decode cX11_seen 56 = .ok (.bipush 60, 2) := by decide +kernel
theorem dX11_seen_58 : decode cX11_seen 58 = .ok (.imul, 1) := by decide +kernel
theorem dX11_seen_59 : decode cX11_seen 59 = .ok (.iload_n 2, 1) := by decide +kernel
theorem dX11_seen_60 : decode cX11_seen 60 = .ok (.iadd, 1) := by decide +kernel
theorem dX11_seen_61 : decode cX11_seen 61 = .ok (.iaload, 1) := by decide +kernel
theorem dX11_seen_62 : decode cX11_seen 62 = .ok (.goto 4, 3) := by decide +kernel
theorem dX11_seen_65 : decode cX11_seen 65 = .ok (.iconst (-1), 1) := by decide +kernel
theorem dX11_seen_66 : decode cX11_seen 66 = .ok (.ireturn, 1) := by decide +kernel
def xX11_seen  (l1 : Int32) (l2 : Int32) (M : j_M) : Option (Int32 × j_M) := obi (xX1_isCpu 2 l1 M) fun v2 M1 => (if v2 = (0 : Int32) then some ((-1 : Int32), M1) else gd l1 6 (oli (M1 16 (ix l1)) fun v3 => (if l2 = (-1 : Int32) then some (v3, M1) else (if l2 < (0 : Int32) then some ((-1 : Int32), M1) else (if v3 ≤ l2 then some ((-1 : Int32), M1) else gd ((l1 * (nI 60)) + l2) 360 (oli (M1 15 (ix ((l1 * (nI 60)) + l2))) fun v4 => some (v4, M1)))))))
set_option maxRecDepth 20000 in
set_option maxHeartbeats 2000000 in
theorem tX11_seen  (l1 : Int32) (l2 : Int32) (M : j_M) : J (ρ := Int32 × j_M) yX11_seen cX11_seen 4 (some .int) 1 21 j_ei 0 [(0, .inr (16, 0, 0)), (1, .inl (l1)), (2, .inl (l2))] [] M (xX11_seen  l1 l2 M) := by
  unfold xX11_seen
  refine K_aload_n (q := 1) 0 dX11_seen_0 rfl rfl rfl ?_
  refine K_getR (q := 4) (ci := 6) (a2 := 1) 0 dX11_seen_1 fRX11_10 rfl rfl (by decide) rfl rfl ?_
  refine K_getR (q := 7) (ci := 2) (a2 := 2) 1 dX11_seen_4 fRX11_33 rfl rfl (by decide) rfl rfl ?_
  refine K_iload_n (q := 8) 1 dX11_seen_7 rfl rfl rfl ?_
  refine K_cvi (q := 11) [.inl (l1)] dX11_seen_8 cb_X1_isCpu cvRX11_173 rc_0 (show (10 : Nat) ≠ 0 by decide) rfl (Nat.le_of_ble_eq_true rfl) ⟨by decide, by decide⟩ (Nat.le_of_ble_eq_true rfl) rfl (tX1_isCpu 2 l1 M) rfl (fun v2 M1 => ?_)
  refine K_if_ne (q := 14) (tgt := 16) dX11_seen_11 rfl ?_ rfl ?_
  · refine K_aload_n (q := 17) 0 dX11_seen_16 rfl rfl rfl ?_
    refine K_getR (q := 20) (ci := 6) (a2 := 1) 0 dX11_seen_17 fRX11_10 rfl rfl (by decide) rfl rfl ?_
    refine K_getR (q := 23) (ci := 2) (a2 := 10) 0 dX11_seen_20 fRX11_233 rfl rfl (by decide) rfl rfl ?_
    refine K_getR (q := 26) (ci := 1) (a2 := 16) 5 dX11_seen_23 fRX11_237 rfl rfl (by decide) rfl rfl ?_
    refine K_iload_n (q := 27) 1 dX11_seen_26 rfl rfl rfl ?_
    refine K_iald (q := 28) dX11_seen_27 rfl (fun v3 => ?_)
    refine K_istore_n (q := 29) (ll' := [(3, .inl (v3)), (0, .inr (16, 0, 0)), (1, .inl (l1)), (2, .inl (l2))]) dX11_seen_28 rfl (by decide) rfl rfl ?_
    refine K_iload_n (q := 30) 3 dX11_seen_29 rfl rfl rfl ?_
    refine K_iconst (q := 31) (v := -1) dX11_seen_30 rfl rfl ?_
    refine K_icmp_ne (q := 34) (tgt := 36) dX11_seen_31 rfl ?_ rfl ?_
    · refine K_iload_n (q := 37) 3 dX11_seen_36 rfl rfl rfl ?_
      refine K_if_lt (q := 40) (tgt := 65) dX11_seen_37 rfl ?_ rfl ?_
      · refine K_iconst (q := 66) (v := -1) dX11_seen_65 rfl rfl ?_
        exact J_iret dX11_seen_66
      · refine K_iload_n (q := 41) 3 dX11_seen_40 rfl rfl rfl ?_
        refine K_iload_n (q := 42) 0 dX11_seen_41 rfl rfl rfl ?_
        refine K_icmp_ge (q := 45) (tgt := 65) dX11_seen_42 rfl ?_ rfl ?_
        · refine K_iconst (q := 66) (v := -1) dX11_seen_65 rfl rfl ?_
          exact J_iret dX11_seen_66
        · refine K_aload_n (q := 46) 1 dX11_seen_45 rfl rfl rfl ?_
          refine K_getR (q := 49) (ci := 6) (a2 := 1) 0 dX11_seen_46 fRX11_10 rfl rfl (by decide) rfl rfl ?_
          refine K_getR (q := 52) (ci := 2) (a2 := 10) 0 dX11_seen_49 fRX11_233 rfl rfl (by decide) rfl rfl ?_
          refine K_getR (q := 55) (ci := 1) (a2 := 15) 4 dX11_seen_52 fRX11_242 rfl rfl (by decide) rfl rfl ?_
          refine K_iload_n (q := 56) 2 dX11_seen_55 rfl rfl rfl ?_
          refine K_bipush (q := 58) (v := nI 60) dX11_seen_56 rfl rfl ?_
          refine K_imul (q := 59) dX11_seen_58 rfl ?_
          refine K_iload_n (q := 60) 3 dX11_seen_59 rfl rfl rfl ?_
          refine K_iadd (q := 61) dX11_seen_60 rfl ?_
          refine K_iald (q := 62) dX11_seen_61 rfl (fun v4 => ?_)
          refine J_goto (tgt := 66) dX11_seen_62 rfl ?_
          exact J_iret dX11_seen_66
    · refine K_iload_n (q := 35) 0 dX11_seen_34 rfl rfl rfl ?_
      exact J_iret dX11_seen_35
  · refine K_iconst (q := 15) (v := -1) dX11_seen_14 rfl rfl ?_
    exact J_iret dX11_seen_15
theorem dX11_set_0 : decode cX11_set 0 = .ok (.iload_n 1, 1) := by decide +kernel
theorem dX11_set_1 : decode cX11_set 1 = .ok (.tableswitch 95 0 4 #[35, 47, 59, 71, 83], 35) := by decide +kernel
theorem dX11_set_36 : decode cX11_set 36 = .ok (.aload_n 0, 1) := by decide +kernel
theorem dX11_set_37 : decode cX11_set 37 = .ok (.getfield 10, 3) := by decide +kernel
theorem dX11_set_40 : decode cX11_set 40 = .ok (.getfield 33, 3) := by decide +kernel
theorem dX11_set_43 : decode cX11_set 43 = .ok (.iload_n 2, 1) := by decide +kernel
theorem dX11_set_44 : decode cX11_set 44 = .ok (.invokevirtual 37, 3) := by decide +kernel
theorem dX11_set_47 : decode cX11_set 47 = .ok (.ireturn, 1) := by decide +kernel
theorem dX11_set_48 : decode cX11_set 48 = .ok (.aload_n 0, 1) := by decide +kernel
theorem dX11_set_49 : decode cX11_set 49 = .ok (.getfield 10, 3) := by decide +kernel
theorem dX11_set_52 : decode cX11_set 52 = .ok (.getfield 33, 3) := by decide +kernel
theorem dX11_set_55 : decode cX11_set 55 = .ok (.iload_n 2, 1) := by decide +kernel
theorem dX11_set_56 : decode cX11_set 56 = .ok (.invokevirtual 43, 3) := by decide +kernel
theorem dX11_set_59 : decode cX11_set 59 = .ok (.ireturn, 1) := by decide +kernel
theorem dX11_set_60 : decode cX11_set 60 = .ok (.aload_n 0, 1) := by decide +kernel
theorem dX11_set_61 : decode cX11_set 61 = .ok (.getfield 10, 3) := by decide +kernel
theorem dX11_set_64 : decode cX11_set 64 = .ok (.getfield 33, 3) := by decide +kernel
theorem dX11_set_67 : decode cX11_set 67 = .ok (.iload_n 2, 1) := by decide +kernel
theorem dX11_set_68 : decode cX11_set 68 = .ok (.invokevirtual 46, 3) := by decide +kernel
theorem dX11_set_71 : decode cX11_set 71 = .ok (.ireturn, 1) := by decide +kernel
theorem dX11_set_72 : decode cX11_set 72 = .ok (.aload_n 0, 1) := by decide +kernel
theorem dX11_set_73 : decode cX11_set 73 = .ok (.getfield 10, 3) := by decide +kernel
theorem dX11_set_76 : decode cX11_set 76 = .ok (.getfield 33, 3) := by decide +kernel
theorem dX11_set_79 : decode cX11_set 79 = .ok (.iload_n 2, 1) := by decide +kernel
theorem dX11_set_80 : decode cX11_set 80 = .ok (.invokevirtual 49, 3) := by decide +kernel
theorem dX11_set_83 : decode cX11_set 83 = .ok (.ireturn, 1) := by decide +kernel
theorem dX11_set_84 : decode cX11_set 84 = .ok (.aload_n 0, 1) := by decide +kernel
theorem dX11_set_85 : decode cX11_set 85 = .ok (.getfield 10, 3) := by decide +kernel
theorem dX11_set_88 : decode cX11_set 88 = .ok (.getfield 33, 3) := by decide +kernel
theorem dX11_set_91 : decode cX11_set 91 = .ok (.iload_n 2, 1) := by decide +kernel
theorem dX11_set_92 : decode cX11_set 92 = .ok (.invokevirtual 52, 3) := by decide +kernel
theorem dX11_set_95 : decode cX11_set 95 = .ok (.ireturn, 1) := by decide +kernel
theorem dX11_set_96 : decode cX11_set 96 = .ok (.iconst 0, 1) := by decide +kernel
theorem dX11_set_97 : decode cX11_set 97 = .ok (.ireturn, 1) := by decide +kernel
def xX11_set  (l1 : Int32) (l2 : Int32) (M : j_M) : Option (Int32 × j_M) := osw l1 [((nI 0), obi (xX1_setCpus 2 l2 M) fun v2 M1 => gz v2 (some (v2, M1))), ((nI 1), obi (xX1_setTokens 2 l2 M) fun v4 M3 => gz v4 (some (v4, M3))), ((nI 2), obi (xX1_setRoom 2 l2 M) fun v6 M5 => gz v6 (some (v6, M5))), ((nI 3), obi (xX1_setPolicy 2 l2 M) fun v8 M7 => gz v8 (some (v8, M7))), ((nI 4), obi (xX1_setPatience 2 l2 M) fun v10 M9 => gz v10 (some (v10, M9)))] (some ((nI 0), M))
set_option maxRecDepth 20000 in
set_option maxHeartbeats 2000000 in
theorem tX11_set  (l1 : Int32) (l2 : Int32) (M : j_M) : J (ρ := Int32 × j_M) yX11_set cX11_set 3 (some .boolean) 4 85 j_ei 0 [(0, .inr (16, 0, 0)), (1, .inl (l1)), (2, .inl (l2))] [] M (xX11_set  l1 l2 M) := by
  unfold xX11_set
  refine K_iload_n (q := 1) 1 dX11_set_0 rfl rfl rfl ?_
  refine K_tsw (dt := 96) [36, 48, 60, 72, 84] dX11_set_1 rfl rfl rfl rfl ⟨?_, ?_, ?_, ?_, ?_, trivial⟩ ?_
  · refine K_aload_n (q := 37) 0 dX11_set_36 rfl rfl rfl ?_
    refine K_getR (q := 40) (ci := 6) (a2 := 1) 0 dX11_set_37 fRX11_10 rfl rfl (by decide) rfl rfl ?_
    refine K_getR (q := 43) (ci := 2) (a2 := 2) 1 dX11_set_40 fRX11_33 rfl rfl (by decide) rfl rfl ?_
    refine K_iload_n (q := 44) 2 dX11_set_43 rfl rfl rfl ?_
    refine K_cvi (q := 47) [.inl (l2)] dX11_set_44 cb_X1_setCpus cvRX11_37 rc_0 (show (10 : Nat) ≠ 0 by decide) rfl (Nat.le_of_ble_eq_true rfl) ⟨by decide, by decide⟩ (Nat.le_of_ble_eq_true rfl) rfl (tX1_setCpus 2 l2 M) rfl (fun v2 M1 => ?_)
    exact J_zretG dX11_set_47
  · refine K_aload_n (q := 49) 0 dX11_set_48 rfl rfl rfl ?_
    refine K_getR (q := 52) (ci := 6) (a2 := 1) 0 dX11_set_49 fRX11_10 rfl rfl (by decide) rfl rfl ?_
    refine K_getR (q := 55) (ci := 2) (a2 := 2) 1 dX11_set_52 fRX11_33 rfl rfl (by decide) rfl rfl ?_
    refine K_iload_n (q := 56) 2 dX11_set_55 rfl rfl rfl ?_
    refine K_cvi (q := 59) [.inl (l2)] dX11_set_56 cb_X1_setTokens cvRX11_43 rc_0 (show (10 : Nat) ≠ 0 by decide) rfl (Nat.le_of_ble_eq_true rfl) ⟨by decide, by decide⟩ (Nat.le_of_ble_eq_true rfl) rfl (tX1_setTokens 2 l2 M) rfl (fun v4 M3 => ?_)
    exact J_zretG dX11_set_59
  · refine K_aload_n (q := 61) 0 dX11_set_60 rfl rfl rfl ?_
    refine K_getR (q := 64) (ci := 6) (a2 := 1) 0 dX11_set_61 fRX11_10 rfl rfl (by decide) rfl rfl ?_
    refine K_getR (q := 67) (ci := 2) (a2 := 2) 1 dX11_set_64 fRX11_33 rfl rfl (by decide) rfl rfl ?_
    refine K_iload_n (q := 68) 2 dX11_set_67 rfl rfl rfl ?_
    refine K_cvi (q := 71) [.inl (l2)] dX11_set_68 cb_X1_setRoom cvRX11_46 rc_0 (show (10 : Nat) ≠ 0 by decide) rfl (Nat.le_of_ble_eq_true rfl) ⟨by decide, by decide⟩ (Nat.le_of_ble_eq_true rfl) rfl (tX1_setRoom 2 l2 M) rfl (fun v6 M5 => ?_)
    exact J_zretG dX11_set_71
  · refine K_aload_n (q := 73) 0 dX11_set_72 rfl rfl rfl ?_
    refine K_getR (q := 76) (ci := 6) (a2 := 1) 0 dX11_set_73 fRX11_10 rfl rfl (by decide) rfl rfl ?_
    refine K_getR (q := 79) (ci := 2) (a2 := 2) 1 dX11_set_76 fRX11_33 rfl rfl (by decide) rfl rfl ?_
    refine K_iload_n (q := 80) 2 dX11_set_79 rfl rfl rfl ?_
    refine K_cvi (q := 83) [.inl (l2)] dX11_set_80 cb_X1_setPolicy cvRX11_49 rc_0 (show (10 : Nat) ≠ 0 by decide) rfl (Nat.le_of_ble_eq_true rfl) ⟨by decide, by decide⟩ (Nat.le_of_ble_eq_true rfl) rfl (tX1_setPolicy 2 l2 M) rfl (fun v8 M7 => ?_)
    exact J_zretG dX11_set_83
  · refine K_aload_n (q := 85) 0 dX11_set_84 rfl rfl rfl ?_
    refine K_getR (q := 88) (ci := 6) (a2 := 1) 0 dX11_set_85 fRX11_10 rfl rfl (by decide) rfl rfl ?_
    refine K_getR (q := 91) (ci := 2) (a2 := 2) 1 dX11_set_88 fRX11_33 rfl rfl (by decide) rfl rfl ?_
    refine K_iload_n (q := 92) 2 dX11_set_91 rfl rfl rfl ?_
    refine K_cvi (q := 95) [.inl (l2)] dX11_set_92 cb_X1_setPatience cvRX11_52 rc_0 (show (10 : Nat) ≠ 0 by decide) rfl (Nat.le_of_ble_eq_true rfl) ⟨by decide, by decide⟩ (Nat.le_of_ble_eq_true rfl) rfl (tX1_setPatience 2 l2 M) rfl (fun v10 M9 => ?_)
    exact J_zretG dX11_set_95
  · refine K_iconst (q := 97) (v := nI 0) dX11_set_96 rfl rfl ?_
    exact J_zret dX11_set_97 (by decide)
theorem dX11_state_0 : decode cX11_state 0 = .ok (.aload_n 0, 1) := by decide +kernel
theorem dX11_state_1 : decode cX11_state 1 = .ok (.getfield 10, 3) := by decide +kernel
theorem dX11_state_4 : decode cX11_state 4 = .ok (.getfield 23, 3) := by decide +kernel
theorem dX11_state_7 : decode cX11_state 7 = .ok (.getfield 27, 3) := by decide +kernel
theorem dX11_state_10 : decode cX11_state 10 = .ok (.istore_n 2, 1) := by decide +kernel
theorem dX11_state_11 : decode cX11_state 11 = .ok (.aload_n 0, 1) := by decide +kernel
theorem dX11_state_12 : decode cX11_state 12 = .ok (.getfield 10, 3) := by decide +kernel
theorem dX11_state_15 : decode cX11_state 15 = .ok (.getfield 23, 3) := by decide +kernel
theorem dX11_state_18 : decode cX11_state 18 = .ok (.iload_n 1, 1) := by decide +kernel
theorem dX11_state_19 : decode cX11_state 19 = .ok (.putfield 27, 3) := by decide +kernel
theorem dX11_state_22 : decode cX11_state 22 = .ok (.iload_n 2, 1) := by decide +kernel
theorem dX11_state_23 : decode cX11_state 23 = .ok (.ireturn, 1) := by decide +kernel
def xX11_state  (l1 : Int32) (M : j_M) : Option (Int32 × j_M) := oli (M 22 7) fun v1 => oml (mw M 22 7 l1) fun M2 => some (v1, M2)
set_option maxRecDepth 20000 in
set_option maxHeartbeats 2000000 in
theorem tX11_state  (l1 : Int32) (M : j_M) : J (ρ := Int32 × j_M) yX11_state cX11_state 3 (some .int) 0 0 j_ei 0 [(0, .inr (16, 0, 0)), (1, .inl (l1))] [] M (xX11_state  l1 M) := by
  unfold xX11_state
  refine K_aload_n (q := 1) 0 dX11_state_0 rfl rfl rfl ?_
  refine K_getR (q := 4) (ci := 6) (a2 := 1) 0 dX11_state_1 fRX11_10 rfl rfl (by decide) rfl rfl ?_
  refine K_getR (q := 7) (ci := 2) (a2 := 22) 2 dX11_state_4 fRX11_23 rfl rfl (by decide) rfl rfl ?_
  refine K_getI (q := 10) (ci := 4) 7 dX11_state_7 fRX11_27 rfl rfl rfl (fun v1 => ?_)
  refine K_istore_n (q := 11) (ll' := [(2, .inl (v1)), (0, .inr (16, 0, 0)), (1, .inl (l1))]) dX11_state_10 rfl (by decide) rfl rfl ?_
  refine K_aload_n (q := 12) 1 dX11_state_11 rfl rfl rfl ?_
  refine K_getR (q := 15) (ci := 6) (a2 := 1) 0 dX11_state_12 fRX11_10 rfl rfl (by decide) rfl rfl ?_
  refine K_getR (q := 18) (ci := 2) (a2 := 22) 2 dX11_state_15 fRX11_23 rfl rfl (by decide) rfl rfl ?_
  refine K_iload_n (q := 19) 2 dX11_state_18 rfl rfl rfl ?_
  refine K_putI (q := 22) (ci := 4) 7 dX11_state_19 fRX11_27 fp_4_7 rfl rfl (by decide) rfl (fun M2 => ?_)
  refine K_iload_n (q := 23) 0 dX11_state_22 rfl rfl rfl ?_
  exact J_iret dX11_state_23
theorem dX11_store_0 : decode cX11_store 0 = .ok (.aload_n 0, 1) := by decide +kernel
theorem dX11_store_1 : decode cX11_store 1 = .ok (.getfield 10, 3) := by decide +kernel
theorem dX11_store_4 : decode cX11_store 4 = .ok (.getfield 33, 3) := by decide +kernel
theorem dX11_store_7 : decode cX11_store 7 = .ok (.iload_n 1, 1) := by decide +kernel
theorem dX11_store_8 : decode cX11_store 8 = .ok (.iload_n 2, 1) := by decide +kernel
theorem dX11_store_9 : decode cX11_store 9 = .ok (.iload_n 3, 1) := by decide +kernel
theorem dX11_store_10 : decode cX11_store 10 = .ok (.invokevirtual 55, 3) := by decide +kernel
theorem dX11_store_13 : decode cX11_store 13 = .ok (.ifCond .ne 5, 3) := by decide +kernel
theorem dX11_store_16 : decode cX11_store 16 = .ok (.iconst (-1), 1) := by decide +kernel
theorem dX11_store_17 : decode cX11_store 17 = .ok (.ireturn, 1) := by decide +kernel
theorem dX11_store_18 : decode cX11_store 18 = .ok (.aload_n 0, 1) := by decide +kernel
theorem dX11_store_19 : decode cX11_store 19 = .ok (.getfield 10, 3) := by decide +kernel
theorem dX11_store_22 : decode cX11_store 22 = .ok (.getfield 33, 3) := by decide +kernel
theorem dX11_store_25 : decode cX11_store 25 = .ok (.iload_n 1, 1) := by decide +kernel
theorem dX11_store_26 : decode cX11_store 26 = .ok (.iload_n 2, 1) := by decide +kernel
theorem dX11_store_27 : decode cX11_store 27 = .ok (.iconst 2, 1) := by decide +kernel
theorem dX11_store_28 : decode cX11_store 28 = .ok (.iload_n 3, 1) := by decide +kernel
theorem dX11_store_29 : decode cX11_store 29 = .ok (.invokevirtual 59, 3) := by decide +kernel
theorem dX11_store_32 : decode cX11_store 32 = .ok (.iconst (-1), 1) := by decide +kernel
theorem dX11_store_33 : decode cX11_store 33 = .ok (.if_icmp .ne 7, 3) := by decide +kernel
theorem dX11_store_36 : decode cX11_store 36 = .ok (.iconst 0, 1) := by decide +kernel
theorem dX11_store_37 : decode cX11_store 37 = .ok (.goto 4, 3) := by decide +kernel
theorem dX11_store_40 : decode cX11_store 40 = .ok (.iconst 1, 1) := by decide +kernel
theorem dX11_store_41 : decode cX11_store 41 = .ok (.ireturn, 1) := by decide +kernel
def xX11_store  (l1 : Int32) (l2 : Int32) (l3 : Int32) (M : j_M) : Option (Int32 × j_M) := obi (xX1_mayBegin 2 l1 l2 l3 M) fun v2 M1 => (if v2 = (0 : Int32) then some ((-1 : Int32), M1) else obi (xX1_access 2 l1 l2 (nI 2) l3 M1) fun v4 M3 => (if v4 = (-1 : Int32) then some ((nI 0), M3) else some ((nI 1), M3)))
set_option maxRecDepth 20000 in
set_option maxHeartbeats 2000000 in
theorem tX11_store  (l1 : Int32) (l2 : Int32) (l3 : Int32) (M : j_M) : J (ρ := Int32 × j_M) yX11_store cX11_store 4 (some .int) 4 93 j_ei 0 [(0, .inr (16, 0, 0)), (1, .inl (l1)), (2, .inl (l2)), (3, .inl (l3))] [] M (xX11_store  l1 l2 l3 M) := by
  unfold xX11_store
  refine K_aload_n (q := 1) 0 dX11_store_0 rfl rfl rfl ?_
  refine K_getR (q := 4) (ci := 6) (a2 := 1) 0 dX11_store_1 fRX11_10 rfl rfl (by decide) rfl rfl ?_
  refine K_getR (q := 7) (ci := 2) (a2 := 2) 1 dX11_store_4 fRX11_33 rfl rfl (by decide) rfl rfl ?_
  refine K_iload_n (q := 8) 1 dX11_store_7 rfl rfl rfl ?_
  refine K_iload_n (q := 9) 2 dX11_store_8 rfl rfl rfl ?_
  refine K_iload_n (q := 10) 3 dX11_store_9 rfl rfl rfl ?_
  refine K_cvi (q := 13) [.inl (l1), .inl (l2), .inl (l3)] dX11_store_10 cb_X1_mayBegin cvRX11_55 rc_0 (show (10 : Nat) ≠ 0 by decide) rfl (Nat.le_of_ble_eq_true rfl) ⟨by decide, by decide⟩ (Nat.le_of_ble_eq_true rfl) rfl (tX1_mayBegin 2 l1 l2 l3 M) rfl (fun v2 M1 => ?_)
  refine K_if_ne (q := 16) (tgt := 18) dX11_store_13 rfl ?_ rfl ?_
  · refine K_aload_n (q := 19) 0 dX11_store_18 rfl rfl rfl ?_
    refine K_getR (q := 22) (ci := 6) (a2 := 1) 0 dX11_store_19 fRX11_10 rfl rfl (by decide) rfl rfl ?_
    refine K_getR (q := 25) (ci := 2) (a2 := 2) 1 dX11_store_22 fRX11_33 rfl rfl (by decide) rfl rfl ?_
    refine K_iload_n (q := 26) 1 dX11_store_25 rfl rfl rfl ?_
    refine K_iload_n (q := 27) 2 dX11_store_26 rfl rfl rfl ?_
    refine K_iconst (q := 28) (v := nI 2) dX11_store_27 rfl rfl ?_
    refine K_iload_n (q := 29) 3 dX11_store_28 rfl rfl rfl ?_
    refine K_cvi (q := 32) [.inl (l1), .inl (l2), .inl ((nI 2)), .inl (l3)] dX11_store_29 cb_X1_access cvRX11_59 rc_0 (show (10 : Nat) ≠ 0 by decide) rfl (Nat.le_of_ble_eq_true rfl) ⟨by decide, by decide⟩ (Nat.le_of_ble_eq_true rfl) rfl (tX1_access 2 l1 l2 (nI 2) l3 M1) rfl (fun v4 M3 => ?_)
    refine K_iconst (q := 33) (v := -1) dX11_store_32 rfl rfl ?_
    refine K_icmp_ne (q := 36) (tgt := 40) dX11_store_33 rfl ?_ rfl ?_
    · refine K_iconst (q := 41) (v := nI 1) dX11_store_40 rfl rfl ?_
      exact J_iret dX11_store_41
    · refine K_iconst (q := 37) (v := nI 0) dX11_store_36 rfl rfl ?_
      refine J_goto (tgt := 41) dX11_store_37 rfl ?_
      exact J_iret dX11_store_41
  · refine K_iconst (q := 17) (v := -1) dX11_store_16 rfl rfl ?_
    exact J_iret dX11_store_17
theorem dX11_table_0 : decode cX11_table 0 = .ok (.aload_n 0, 1) := by decide +kernel
theorem dX11_table_1 : decode cX11_table 1 = .ok (.getfield 10, 3) := by decide +kernel
theorem dX11_table_4 : decode cX11_table 4 = .ok (.getfield 33, 3) := by decide +kernel
theorem dX11_table_7 : decode cX11_table 7 = .ok (.iload_n 1, 1) := by decide +kernel
theorem dX11_table_8 : decode cX11_table 8 = .ok (.invokevirtual 141, 3) := by decide +kernel
theorem dX11_table_11 : decode cX11_table 11 = .ok (.ifCond .eq 17, 3) := by decide +kernel
theorem dX11_table_14 : decode cX11_table 14 = .ok (.aload_n 0, 1) := by decide +kernel
theorem dX11_table_15 : decode cX11_table 15 = .ok (.getfield 10, 3) := by decide +kernel
theorem dX11_table_18 : decode cX11_table 18 = .ok (.getfield 33, 3) := by decide +kernel
theorem dX11_table_21 : decode cX11_table 21 = .ok (.iload_n 2, 1) := by decide +kernel
theorem dX11_table_22 : decode cX11_table 22 = .ok (.invokevirtual 173, 3) := by decide +kernel
theorem dX11_table_25 : decode cX11_table 25 = .ok (.ifCond .ne 5, 3) := by decide +kernel
theorem dX11_table_28 : decode cX11_table 28 = .ok (.iconst (-1), 1) := by decide +kernel
theorem dX11_table_29 : decode cX11_table 29 = .ok (.ireturn, 1) := by decide +kernel
theorem dX11_table_30 : decode cX11_table 30 = .ok (.aload_n 0, 1) := by decide +kernel
theorem dX11_table_31 : decode cX11_table 31 = .ok (.getfield 10, 3) := by decide +kernel
theorem dX11_table_34 : decode cX11_table 34 = .ok (.getfield 33, 3) := by decide +kernel
theorem dX11_table_37 : decode cX11_table 37 = .ok (.iload_n 1, 1) := by decide +kernel
theorem dX11_table_38 : decode cX11_table 38 = .ok (.iload_n 2, 1) := by decide +kernel
theorem dX11_table_39 : decode cX11_table 39 = .ok (.invokevirtual 199, 3) := by decide +kernel
theorem dX11_table_42 : decode cX11_table 42 = .ok (.istore 4, 2) := by decide +kernel
theorem dX11_table_44 : decode cX11_table 44 = .ok (.iload_n 3, 1) := by decide +kernel
theorem dX11_table_45 : decode cX11_table 45 = .ok (.tableswitch 81 0 4 #[35, 41, 55, 61, 67], 35) := by decide +kernel
theorem dX11_table_80 : decode cX11_table 80 = .ok (.iload 4, 2) := by decide +kernel
theorem dX11_table_82 : decode cX11_table 82 = .ok (.invokestatic 202, 3) := by decide +kernel
theorem dX11_table_85 : decode cX11_table 85 = .ok (.ireturn, 1) := by decide +kernel
theorem dX11_table_86 : decode cX11_table 86 = .ok (.iload 4, 2) := by decide +kernel
theorem dX11_table_88 : decode cX11_table 88 = .ok (.invokestatic 207, 3) := by decide +kernel
theorem dX11_table_91 : decode cX11_table 91 = .ok (.ifCond .eq 7, 3) := by decide +kernel
theorem dX11_table_94 : decode cX11_table 94 = .ok (.iconst 1, 1) := by decide +kernel
theorem dX11_table_95 : decode cX11_table 95 = .ok (.goto 4, 3) := by decide +kernel
theorem dX11_table_98 : decode cX11_table 98 = .ok (.iconst 0, 1) := by decide +kernel
theorem dX11_table_99 : decode cX11_table 99 = .ok (.ireturn, 1) := by decide +kernel
theorem dX11_table_100 : decode cX11_table 100 = .ok (.iload 4, 2) := by decide +kernel
theorem dX11_table_102 : decode cX11_table 102 = .ok (.invokestatic 210, 3) := by decide +kernel
theorem dX11_table_105 : decode cX11_table 105 = .ok (.ireturn, 1) := by decide +kernel
theorem dX11_table_106 : decode cX11_table 106 = .ok (.iload 4, 2) := by decide +kernel
theorem dX11_table_108 : decode cX11_table 108 = .ok (.invokestatic 211, 3) := by decide +kernel
theorem dX11_table_111 : decode cX11_table 111 = .ok (.ireturn, 1) := by decide +kernel
theorem dX11_table_112 : decode cX11_table 112 = .ok (.iload 4, 2) := by decide +kernel
theorem dX11_table_114 : decode cX11_table 114 = .ok (.invokestatic 212, 3) := by decide +kernel
theorem dX11_table_117 : decode cX11_table 117 = .ok (.ifCond .eq 7, 3) := by decide +kernel
theorem dX11_table_120 : decode cX11_table 120 = .ok (.iconst 1, 1) := by decide +kernel
theorem dX11_table_121 : decode cX11_table 121 = .ok (.goto 4, 3) := by decide +kernel
theorem dX11_table_124 : decode cX11_table 124 = .ok (.iconst 0, 1) := by decide +kernel
theorem dX11_table_125 : decode cX11_table 125 = .ok (.ireturn, 1) := by decide +kernel
theorem dX11_table_126 : decode cX11_table 126 = .ok (.iconst (-1), 1) := by decide +kernel
theorem dX11_table_127 : decode cX11_table 127 = .ok (.ireturn, 1) := by decide +kernel
def xX11_table  (l1 : Int32) (l2 : Int32) (l3 : Int32) (M : j_M) : Option (Int32 × j_M) := obi (xX1_isNode 2 l1 M) fun v2 M1 => (if v2 = (0 : Int32) then some ((-1 : Int32), M1) else obi (xX1_isCpu 2 l2 M1) fun v4 M3 => (if v4 = (0 : Int32) then some ((-1 : Int32), M3) else obi (xX1_entryAt 2 l1 l2 M3) fun v6 M5 => osw l3 [((nI 0), obi (xX2_seq v6 M5) fun v8 M7 => some (v8, M7)), ((nI 1), obi (xX2_isActive v6 M5) fun v10 M9 => (if v10 = (0 : Int32) then some ((nI 0), M9) else some ((nI 1), M9))), ((nI 2), obi (xX2_line v6 M5) fun v12 M11 => some (v12, M11)), ((nI 3), obi (xX2_what v6 M5) fun v14 M13 => some (v14, M13)), ((nI 4), obi (xX2_isMarked v6 M5) fun v16 M15 => (if v16 = (0 : Int32) then some ((nI 0), M15) else some ((nI 1), M15)))] (some ((-1 : Int32), M5))))
set_option maxRecDepth 20000 in
set_option maxHeartbeats 2000000 in
theorem tX11_table  (l1 : Int32) (l2 : Int32) (l3 : Int32) (M : j_M) : J (ρ := Int32 × j_M) yX11_table cX11_table 5 (some .int) 2 42 j_ei 0 [(0, .inr (16, 0, 0)), (1, .inl (l1)), (2, .inl (l2)), (3, .inl (l3))] [] M (xX11_table  l1 l2 l3 M) := by
  unfold xX11_table
  refine K_aload_n (q := 1) 0 dX11_table_0 rfl rfl rfl ?_
  refine K_getR (q := 4) (ci := 6) (a2 := 1) 0 dX11_table_1 fRX11_10 rfl rfl (by decide) rfl rfl ?_
  refine K_getR (q := 7) (ci := 2) (a2 := 2) 1 dX11_table_4 fRX11_33 rfl rfl (by decide) rfl rfl ?_
  refine K_iload_n (q := 8) 1 dX11_table_7 rfl rfl rfl ?_
  refine K_cvi (q := 11) [.inl (l1)] dX11_table_8 cb_X1_isNode cvRX11_141 rc_0 (show (10 : Nat) ≠ 0 by decide) rfl (Nat.le_of_ble_eq_true rfl) ⟨by decide, by decide⟩ (Nat.le_of_ble_eq_true rfl) rfl (tX1_isNode 2 l1 M) rfl (fun v2 M1 => ?_)
  refine K_if_eq (q := 14) (tgt := 28) dX11_table_11 rfl ?_ rfl ?_
  · refine K_iconst (q := 29) (v := -1) dX11_table_28 rfl rfl ?_
    exact J_iret dX11_table_29
  · refine K_aload_n (q := 15) 0 dX11_table_14 rfl rfl rfl ?_
    refine K_getR (q := 18) (ci := 6) (a2 := 1) 0 dX11_table_15 fRX11_10 rfl rfl (by decide) rfl rfl ?_
    refine K_getR (q := 21) (ci := 2) (a2 := 2) 1 dX11_table_18 fRX11_33 rfl rfl (by decide) rfl rfl ?_
    refine K_iload_n (q := 22) 2 dX11_table_21 rfl rfl rfl ?_
    refine K_cvi (q := 25) [.inl (l2)] dX11_table_22 cb_X1_isCpu cvRX11_173 rc_0 (show (10 : Nat) ≠ 0 by decide) rfl (Nat.le_of_ble_eq_true rfl) ⟨by decide, by decide⟩ (Nat.le_of_ble_eq_true rfl) rfl (tX1_isCpu 2 l2 M1) rfl (fun v4 M3 => ?_)
    refine K_if_ne (q := 28) (tgt := 30) dX11_table_25 rfl ?_ rfl ?_
    · refine K_aload_n (q := 31) 0 dX11_table_30 rfl rfl rfl ?_
      refine K_getR (q := 34) (ci := 6) (a2 := 1) 0 dX11_table_31 fRX11_10 rfl rfl (by decide) rfl rfl ?_
      refine K_getR (q := 37) (ci := 2) (a2 := 2) 1 dX11_table_34 fRX11_33 rfl rfl (by decide) rfl rfl ?_
      refine K_iload_n (q := 38) 1 dX11_table_37 rfl rfl rfl ?_
      refine K_iload_n (q := 39) 2 dX11_table_38 rfl rfl rfl ?_
      refine K_cvi (q := 42) [.inl (l1), .inl (l2)] dX11_table_39 cb_X1_entryAt cvRX11_199 rc_0 (show (10 : Nat) ≠ 0 by decide) rfl (Nat.le_of_ble_eq_true rfl) ⟨by decide, by decide⟩ (Nat.le_of_ble_eq_true rfl) rfl (tX1_entryAt 2 l1 l2 M3) rfl (fun v6 M5 => ?_)
      refine K_istore (q := 44) (ll' := [(4, .inl (v6)), (0, .inr (16, 0, 0)), (1, .inl (l1)), (2, .inl (l2)), (3, .inl (l3))]) dX11_table_42 (by decide) rfl rfl ?_
      refine K_iload_n (q := 45) 4 dX11_table_44 rfl rfl rfl ?_
      refine K_tsw (dt := 126) [80, 86, 100, 106, 112] dX11_table_45 rfl rfl rfl rfl ⟨?_, ?_, ?_, ?_, ?_, trivial⟩ ?_
      · refine K_iload (q := 82) 0 dX11_table_80 rfl rfl ?_
        refine K_csi (q := 85) [.inl (v6)] dX11_table_82 cb_X2_seq cvRX11_202 rfl (Nat.le_of_ble_eq_true rfl) ⟨by decide, by decide⟩ (Nat.le_of_ble_eq_true rfl) rfl (tX2_seq v6 M5) rfl (fun v8 M7 => ?_)
        exact J_iret dX11_table_85
      · refine K_iload (q := 88) 0 dX11_table_86 rfl rfl ?_
        refine K_csi (q := 91) [.inl (v6)] dX11_table_88 cb_X2_isActive cvRX11_207 rfl (Nat.le_of_ble_eq_true rfl) ⟨by decide, by decide⟩ (Nat.le_of_ble_eq_true rfl) rfl (tX2_isActive v6 M5) rfl (fun v10 M9 => ?_)
        refine K_if_eq (q := 94) (tgt := 98) dX11_table_91 rfl ?_ rfl ?_
        · refine K_iconst (q := 99) (v := nI 0) dX11_table_98 rfl rfl ?_
          exact J_iret dX11_table_99
        · refine K_iconst (q := 95) (v := nI 1) dX11_table_94 rfl rfl ?_
          refine J_goto (tgt := 99) dX11_table_95 rfl ?_
          exact J_iret dX11_table_99
      · refine K_iload (q := 102) 0 dX11_table_100 rfl rfl ?_
        refine K_csi (q := 105) [.inl (v6)] dX11_table_102 cb_X2_line cvRX11_210 rfl (Nat.le_of_ble_eq_true rfl) ⟨by decide, by decide⟩ (Nat.le_of_ble_eq_true rfl) rfl (tX2_line v6 M5) rfl (fun v12 M11 => ?_)
        exact J_iret dX11_table_105
      · refine K_iload (q := 108) 0 dX11_table_106 rfl rfl ?_
        refine K_csi (q := 111) [.inl (v6)] dX11_table_108 cb_X2_what cvRX11_211 rfl (Nat.le_of_ble_eq_true rfl) ⟨by decide, by decide⟩ (Nat.le_of_ble_eq_true rfl) rfl (tX2_what v6 M5) rfl (fun v14 M13 => ?_)
        exact J_iret dX11_table_111
      · refine K_iload (q := 114) 0 dX11_table_112 rfl rfl ?_
        refine K_csi (q := 117) [.inl (v6)] dX11_table_114 cb_X2_isMarked cvRX11_212 rfl (Nat.le_of_ble_eq_true rfl) ⟨by decide, by decide⟩ (Nat.le_of_ble_eq_true rfl) rfl (tX2_isMarked v6 M5) rfl (fun v16 M15 => ?_)
        refine K_if_eq (q := 120) (tgt := 124) dX11_table_117 rfl ?_ rfl ?_
        · refine K_iconst (q := 125) (v := nI 0) dX11_table_124 rfl rfl ?_
          exact J_iret dX11_table_125
        · refine K_iconst (q := 121) (v := nI 1) dX11_table_120 rfl rfl ?_
          refine J_goto (tgt := 125) dX11_table_121 rfl ?_
          exact J_iret dX11_table_125
      · refine K_iconst (q := 127) (v := -1) dX11_table_126 rfl rfl ?_
        exact J_iret dX11_table_127
    · refine K_iconst (q := 29) (v := -1) dX11_table_28 rfl rfl ?_
      exact J_iret dX11_table_29
theorem dX11_text_0 : decode cX11_text 0 = .ok (.iconst (-1), 1) := by decide +kernel
theorem dX11_text_1 : decode cX11_text 1 = .ok (.istore_n 2, 1) := by decide +kernel
theorem dX11_text_2 : decode cX11_text 2 = .ok (.aload_n 0, 1) := by decide +kernel
theorem dX11_text_3 : decode cX11_text 3 = .ok (.getfield 19, 3) := by decide +kernel
theorem dX11_text_6 : decode cX11_text 6 = .ok (.invokevirtual 100, 3) := by decide +kernel
theorem dX11_text_9 : decode cX11_text 9 = .ok (.iload_n 1, 1) := by decide +kernel
theorem dX11_text_10 : decode cX11_text 10 = .ok (.ifCond .lt 44, 3) := by decide +kernel
theorem dX11_text_13 : decode cX11_text 13 = .ok (.iload_n 1, 1) := by decide +kernel
theorem dX11_text_14 : decode cX11_text 14 = .ok (.bipush 6, 2) := by decide +kernel
theorem dX11_text_16 : decode cX11_text 16 = .ok (.if_icmp .ge 38, 3) := by decide +kernel
theorem dX11_text_19 : decode cX11_text 19 = .ok (.aload_n 0, 1) := by decide +kernel
theorem dX11_text_20 : decode cX11_text 20 = .ok (.getfield 19, 3) := by decide +kernel
theorem dX11_text_23 : decode cX11_text 23 = .ok (.invokevirtual 103, 3) := by decide +kernel
theorem dX11_text_26 : decode cX11_text 26 = .ok (.istore_n 2, 1) := by decide +kernel
theorem dX11_text_27 : decode cX11_text 27 = .ok (.iload_n 2, 1) := by decide +kernel
theorem dX11_text_28 : decode cX11_text 28 = .ok (.iconst (-1), 1) := by decide +kernel
theorem dX11_text_29 : decode cX11_text 29 = .ok (.if_icmp .eq 62, 3) := by decide +kernel
theorem dX11_text_32 : decode cX11_text 32 = .ok (.aload_n 0, 1) := by decide +kernel
theorem dX11_text_33 : decode cX11_text 33 = .ok (.getfield 10, 3) := by decide +kernel
theorem dX11_text_36 : decode cX11_text 36 = .ok (.getfield 23, 3) := by decide +kernel
theorem dX11_text_39 : decode cX11_text 39 = .ok (.iload_n 1, 1) := by decide +kernel
theorem dX11_text_40 : decode cX11_text 40 = .ok (.aload_n 0, 1) := by decide +kernel
theorem dX11_text_41 : decode cX11_text 41 = .ok (.getfield 19, 3) := by decide +kernel
theorem dX11_text_44 : decode cX11_text 44 = .ok (.getfield 107, 3) := by decide +kernel
theorem dX11_text_47 : decode cX11_text 47 = .ok (.iload_n 2, 1) := by decide +kernel
theorem dX11_text_48 : decode cX11_text 48 = .ok (.invokevirtual 111, 3) := by decide +kernel
theorem dX11_text_51 : decode cX11_text 51 = .ok (.goto 40, 3) := by decide +kernel
theorem dX11_text_54 : decode cX11_text 54 = .ok (.iload_n 1, 1) := by decide +kernel
theorem dX11_text_55 : decode cX11_text 55 = .ok (.bipush 6, 2) := by decide +kernel
theorem dX11_text_57 : decode cX11_text 57 = .ok (.if_icmp .ne 34, 3) := by decide +kernel
theorem dX11_text_60 : decode cX11_text 60 = .ok (.aload_n 0, 1) := by decide +kernel
theorem dX11_text_61 : decode cX11_text 61 = .ok (.getfield 19, 3) := by decide +kernel
theorem dX11_text_64 : decode cX11_text 64 = .ok (.invokevirtual 115, 3) := by decide +kernel
theorem dX11_text_67 : decode cX11_text 67 = .ok (.istore_n 2, 1) := by decide +kernel
theorem dX11_text_68 : decode cX11_text 68 = .ok (.iload_n 2, 1) := by decide +kernel
theorem dX11_text_69 : decode cX11_text 69 = .ok (.iconst (-1), 1) := by decide +kernel
theorem dX11_text_70 : decode cX11_text 70 = .ok (.if_icmp .eq 21, 3) := by decide +kernel
theorem dX11_text_73 : decode cX11_text 73 = .ok (.aload_n 0, 1) := by decide +kernel
theorem dX11_text_74 : decode cX11_text 74 = .ok (.getfield 10, 3) := by decide +kernel
theorem dX11_text_77 : decode cX11_text 77 = .ok (.getfield 23, 3) := by decide +kernel
theorem dX11_text_80 : decode cX11_text 80 = .ok (.aload_n 0, 1) := by decide +kernel
theorem dX11_text_81 : decode cX11_text 81 = .ok (.getfield 19, 3) := by decide +kernel
theorem dX11_text_84 : decode cX11_text 84 = .ok (.getfield 107, 3) := by decide +kernel
theorem dX11_text_87 : decode cX11_text 87 = .ok (.iload_n 2, 1) := by decide +kernel
theorem dX11_text_88 : decode cX11_text 88 = .ok (.invokevirtual 118, 3) := by decide +kernel
theorem dX11_text_91 : decode cX11_text 91 = .ok (.aload_n 0, 1) := by decide +kernel
theorem dX11_text_92 : decode cX11_text 92 = .ok (.getfield 19, 3) := by decide +kernel
theorem dX11_text_95 : decode cX11_text 95 = .ok (.iconst 0, 1) := by decide +kernel
theorem dX11_text_96 : decode cX11_text 96 = .ok (.invokevirtual 97, 3) := by decide +kernel
theorem dX11_text_99 : decode cX11_text 99 = .ok (.pop, 1) := by decide +kernel
theorem dX11_text_100 : decode cX11_text 100 = .ok (.iload_n 2, 1) := by decide +kernel
theorem dX11_text_101 : decode cX11_text 101 = .ok (.ireturn, 1) := by decide +kernel
def xX11_text_91   (l2 : Int32) (M : j_M) : Option (Int32 × j_M) := obi (xX8_cut (nI 0) M) fun v2 M1 => some (l2, M1)
set_option maxRecDepth 20000 in
set_option maxHeartbeats 2000000 in
theorem tX11_text_91    (l2 : Int32) (M : j_M) : J (ρ := Int32 × j_M) yX11_text cX11_text 3 (some .int) 7 154 j_ei 91 [(0, .inr (16, 0, 0)), (2, .inl (l2))] [] M (xX11_text_91  l2 M) := by
  unfold xX11_text_91
  refine K_aload_n (q := 92) 0 dX11_text_91 rfl rfl rfl ?_
  refine K_getR (q := 95) (ci := 6) (a2 := 28) 1 dX11_text_92 fRX11_19 rfl rfl (by decide) rfl rfl ?_
  refine K_iconst (q := 96) (v := nI 0) dX11_text_95 rfl rfl ?_
  refine K_cvi (q := 99) [.inl ((nI 0))] dX11_text_96 cb_X8_cut cvRX11_97 rc_3 (show (13 : Nat) ≠ 0 by decide) rfl (Nat.le_of_ble_eq_true rfl) ⟨by decide, by decide⟩ (Nat.le_of_ble_eq_true rfl) rfl (tX8_cut (nI 0) M) rfl (fun v2 M1 => ?_)
  refine K_pop (q := 100) dX11_text_99 rfl ?_
  refine K_iload_n (q := 101) 1 dX11_text_100 rfl rfl rfl ?_
  exact J_iret dX11_text_101
def xX11_text_54   (l1 : Int32) (l2 : Int32) (M : j_M) : Option (Int32 × j_M) := (if l1 = (nI 6) then obi (xX8_readPlan M) fun v2 M1 => (if v2 = (-1 : Int32) then xX11_text_91  v2 M1 else obv (xX9_takePlan 22 200 30 v2 M1) fun M3 => xX11_text_91  v2 M3) else xX11_text_91  l2 M)
set_option maxRecDepth 20000 in
set_option maxHeartbeats 2000000 in
theorem tX11_text_54    (l1 : Int32) (l2 : Int32) (M : j_M) : J (ρ := Int32 × j_M) yX11_text cX11_text 3 (some .int) 7 154 j_ei 54 [(0, .inr (16, 0, 0)), (1, .inl (l1)), (2, .inl (l2))] [] M (xX11_text_54  l1 l2 M) := by
  unfold xX11_text_54
  refine K_iload_n (q := 55) 1 dX11_text_54 rfl rfl rfl ?_
  refine K_bipush (q := 57) (v := nI 6) dX11_text_55 rfl rfl ?_
  refine K_icmp_ne (q := 60) (tgt := 91) dX11_text_57 rfl ?_ rfl ?_
  · exact J_sub [0, 2] (tX11_text_91  l2 M) rfl
  · refine K_aload_n (q := 61) 0 dX11_text_60 rfl rfl rfl ?_
    refine K_getR (q := 64) (ci := 6) (a2 := 28) 1 dX11_text_61 fRX11_19 rfl rfl (by decide) rfl rfl ?_
    refine K_cvi (q := 67) [] dX11_text_64 cb_X8_readPlan cvRX11_115 rc_3 (show (13 : Nat) ≠ 0 by decide) rfl (Nat.le_of_ble_eq_true rfl) ⟨by decide, by decide⟩ (Nat.le_of_ble_eq_true rfl) rfl (tX8_readPlan M) rfl (fun v2 M1 => ?_)
    refine K_istore_n (q := 68) (ll' := [(2, .inl (v2)), (0, .inr (16, 0, 0)), (1, .inl (l1))]) dX11_text_67 rfl (by decide) rfl rfl ?_
    refine K_iload_n (q := 69) 0 dX11_text_68 rfl rfl rfl ?_
    refine K_iconst (q := 70) (v := -1) dX11_text_69 rfl rfl ?_
    refine K_icmp_eq (q := 73) (tgt := 91) dX11_text_70 rfl ?_ rfl ?_
    · exact J_sub [1, 0] (tX11_text_91  v2 M1) rfl
    · refine K_aload_n (q := 74) 1 dX11_text_73 rfl rfl rfl ?_
      refine K_getR (q := 77) (ci := 6) (a2 := 1) 0 dX11_text_74 fRX11_10 rfl rfl (by decide) rfl rfl ?_
      refine K_getR (q := 80) (ci := 2) (a2 := 22) 2 dX11_text_77 fRX11_23 rfl rfl (by decide) rfl rfl ?_
      refine K_aload_n (q := 81) 1 dX11_text_80 rfl rfl rfl ?_
      refine K_getR (q := 84) (ci := 6) (a2 := 28) 1 dX11_text_81 fRX11_19 rfl rfl (by decide) rfl rfl ?_
      refine K_getR (q := 87) (ci := 3) (a2 := 30) 1 dX11_text_84 fRX11_107 rfl rfl (by decide) rfl rfl ?_
      refine K_iload_n (q := 88) 0 dX11_text_87 rfl rfl rfl ?_
      refine K_cvv (q := 91) [.inr (1, 200, 30), .inl (v2)] dX11_text_88 cb_X9_takePlan cvRX11_118 rc_4 (show (14 : Nat) ≠ 0 by decide) rfl (Nat.le_of_ble_eq_true rfl) ⟨by decide, by decide⟩ (Nat.le_of_ble_eq_true rfl) rfl (tX9_takePlan 22 200 30 v2 M1) rfl (fun M3 => ?_)
      exact J_sub [1, 0] (tX11_text_91  v2 M3) rfl
def xX11_text  (l1 : Int32) (M : j_M) : Option (Int32 × j_M) := obv (xX8_clearFault M) fun M1 => (if l1 < (0 : Int32) then xX11_text_54  l1 (-1 : Int32) M1 else (if (nI 6) ≤ l1 then xX11_text_54  l1 (-1 : Int32) M1 else obi (xX8_readProgram M1) fun v3 M2 => (if v3 = (-1 : Int32) then xX11_text_91  v3 M2 else obv (xX9_takeProgram 22 200 30 l1 v3 M2) fun M4 => xX11_text_91  v3 M4)))
set_option maxRecDepth 20000 in
set_option maxHeartbeats 2000000 in
theorem tX11_text  (l1 : Int32) (M : j_M) : J (ρ := Int32 × j_M) yX11_text cX11_text 3 (some .int) 7 154 j_ei 0 [(0, .inr (16, 0, 0)), (1, .inl (l1))] [] M (xX11_text  l1 M) := by
  unfold xX11_text
  refine K_iconst (q := 1) (v := -1) dX11_text_0 rfl rfl ?_
  refine K_istore_n (q := 2) (ll' := [(2, .inl ((-1 : Int32))), (0, .inr (16, 0, 0)), (1, .inl (l1))]) dX11_text_1 rfl (by decide) rfl rfl ?_
  refine K_aload_n (q := 3) 1 dX11_text_2 rfl rfl rfl ?_
  refine K_getR (q := 6) (ci := 6) (a2 := 28) 1 dX11_text_3 fRX11_19 rfl rfl (by decide) rfl rfl ?_
  refine K_cvv (q := 9) [] dX11_text_6 cb_X8_clearFault cvRX11_100 rc_3 (show (13 : Nat) ≠ 0 by decide) rfl (Nat.le_of_ble_eq_true rfl) ⟨by decide, by decide⟩ (Nat.le_of_ble_eq_true rfl) rfl (tX8_clearFault M) rfl (fun M1 => ?_)
  refine K_iload_n (q := 10) 2 dX11_text_9 rfl rfl rfl ?_
  refine K_if_lt (q := 13) (tgt := 54) dX11_text_10 rfl ?_ rfl ?_
  · exact J_sub [1, 2, 0] (tX11_text_54  l1 (-1 : Int32) M1) rfl
  · refine K_iload_n (q := 14) 2 dX11_text_13 rfl rfl rfl ?_
    refine K_bipush (q := 16) (v := nI 6) dX11_text_14 rfl rfl ?_
    refine K_icmp_ge (q := 19) (tgt := 54) dX11_text_16 rfl ?_ rfl ?_
    · exact J_sub [1, 2, 0] (tX11_text_54  l1 (-1 : Int32) M1) rfl
    · refine K_aload_n (q := 20) 1 dX11_text_19 rfl rfl rfl ?_
      refine K_getR (q := 23) (ci := 6) (a2 := 28) 1 dX11_text_20 fRX11_19 rfl rfl (by decide) rfl rfl ?_
      refine K_cvi (q := 26) [] dX11_text_23 cb_X8_readProgram cvRX11_103 rc_3 (show (13 : Nat) ≠ 0 by decide) rfl (Nat.le_of_ble_eq_true rfl) ⟨by decide, by decide⟩ (Nat.le_of_ble_eq_true rfl) rfl (tX8_readProgram M1) rfl (fun v3 M2 => ?_)
      refine K_istore_n (q := 27) (ll' := [(2, .inl (v3)), (0, .inr (16, 0, 0)), (1, .inl (l1))]) dX11_text_26 rfl (by decide) rfl rfl ?_
      refine K_iload_n (q := 28) 0 dX11_text_27 rfl rfl rfl ?_
      refine K_iconst (q := 29) (v := -1) dX11_text_28 rfl rfl ?_
      refine K_icmp_eq (q := 32) (tgt := 91) dX11_text_29 rfl ?_ rfl ?_
      · exact J_sub [1, 0] (tX11_text_91  v3 M2) rfl
      · refine K_aload_n (q := 33) 1 dX11_text_32 rfl rfl rfl ?_
        refine K_getR (q := 36) (ci := 6) (a2 := 1) 0 dX11_text_33 fRX11_10 rfl rfl (by decide) rfl rfl ?_
        refine K_getR (q := 39) (ci := 2) (a2 := 22) 2 dX11_text_36 fRX11_23 rfl rfl (by decide) rfl rfl ?_
        refine K_iload_n (q := 40) 2 dX11_text_39 rfl rfl rfl ?_
        refine K_aload_n (q := 41) 1 dX11_text_40 rfl rfl rfl ?_
        refine K_getR (q := 44) (ci := 6) (a2 := 28) 1 dX11_text_41 fRX11_19 rfl rfl (by decide) rfl rfl ?_
        refine K_getR (q := 47) (ci := 3) (a2 := 30) 1 dX11_text_44 fRX11_107 rfl rfl (by decide) rfl rfl ?_
        refine K_iload_n (q := 48) 0 dX11_text_47 rfl rfl rfl ?_
        refine K_cvv (q := 51) [.inl (l1), .inr (1, 200, 30), .inl (v3)] dX11_text_48 cb_X9_takeProgram cvRX11_111 rc_4 (show (14 : Nat) ≠ 0 by decide) rfl (Nat.le_of_ble_eq_true rfl) ⟨by decide, by decide⟩ (Nat.le_of_ble_eq_true rfl) rfl (tX9_takeProgram 22 200 30 l1 v3 M2) rfl (fun M4 => ?_)
        refine J_goto (tgt := 91) dX11_text_51 rfl ?_
        exact J_sub [1, 0] (tX11_text_91  v3 M4) rfl
theorem dX11_tick_0 : decode cX11_tick 0 = .ok (.iload_n 1, 1) := by decide +kernel
theorem dX11_tick_1 : decode cX11_tick 1 = .ok (.iconst 1, 1) := by decide +kernel
theorem dX11_tick_2 : decode cX11_tick 2 = .ok (.if_icmp .lt 23, 3) := by decide +kernel
theorem dX11_tick_5 : decode cX11_tick 5 = .ok (.iload_n 1, 1) := by decide +kernel
theorem dX11_tick_6 : decode cX11_tick 6 = .ok (.bipush 99, 2) := by decide +kernel
theorem dX11_tick_8 : decode cX11_tick 8 = .ok (.if_icmp .gt 17, 3) := by decide +kernel
theorem dX11_tick_11 : decode cX11_tick 11 = .ok (.aload_n 0, 1) := by decide +kernel
theorem dX11_tick_12 : decode cX11_tick 12 = .ok (.getfield 10, 3) := by decide +kernel
theorem dX11_tick_15 : decode cX11_tick 15 = .ok (.getfield 33, 3) := by decide +kernel
theorem dX11_tick_18 : decode cX11_tick 18 = .ok (.iload_n 1, 1) := by decide +kernel
theorem dX11_tick_19 : decode cX11_tick 19 = .ok (.invokevirtual 74, 3) := by decide +kernel
theorem dX11_tick_22 : decode cX11_tick 22 = .ok (.ifCond .ne 5, 3) := by decide +kernel
theorem dX11_tick_25 : decode cX11_tick 25 = .ok (.iconst (-1), 1) := by decide +kernel
theorem dX11_tick_26 : decode cX11_tick 26 = .ok (.ireturn, 1) := by decide +kernel
theorem dX11_tick_27 : decode cX11_tick 27 = .ok (.aload_n 0, 1) := by decide +kernel
theorem dX11_tick_28 : decode cX11_tick 28 = .ok (.getfield 10, 3) := by decide +kernel
theorem dX11_tick_31 : decode cX11_tick 31 = .ok (.getfield 33, 3) := by decide +kernel
theorem dX11_tick_34 : decode cX11_tick 34 = .ok (.iload_n 1, 1) := by decide +kernel
theorem dX11_tick_35 : decode cX11_tick 35 = .ok (.invokevirtual 77, 3) := by decide +kernel
theorem dX11_tick_38 : decode cX11_tick 38 = .ok (.aload_n 0, 1) := by decide +kernel
theorem dX11_tick_39 : decode cX11_tick 39 = .ok (.getfield 10, 3) := by decide +kernel
theorem dX11_tick_42 : decode cX11_tick 42 = .ok (.getfield 33, 3) := by decide +kernel
theorem dX11_tick_45 : decode cX11_tick 45 = .ok (.getfield 81, 3) := by decide +kernel
theorem dX11_tick_48 : decode cX11_tick 48 = .ok (.ireturn, 1) := by decide +kernel
def xX11_tick  (l1 : Int32) (M : j_M) : Option (Int32 × j_M) := (if l1 < (nI 1) then some ((-1 : Int32), M) else (if (nI 99) < l1 then some ((-1 : Int32), M) else obi (xX1_hasTime 2 l1 M) fun v2 M1 => (if v2 = (0 : Int32) then some ((-1 : Int32), M1) else obv (xX1_ticks 2 l1 M1) fun M3 => oli (M3 2 14) fun v4 => some (v4, M3))))
set_option maxRecDepth 20000 in
set_option maxHeartbeats 2000000 in
theorem tX11_tick  (l1 : Int32) (M : j_M) : J (ρ := Int32 × j_M) yX11_tick cX11_tick 2 (some .int) 6 156 j_ei 0 [(0, .inr (16, 0, 0)), (1, .inl (l1))] [] M (xX11_tick  l1 M) := by
  unfold xX11_tick
  refine K_iload_n (q := 1) 1 dX11_tick_0 rfl rfl rfl ?_
  refine K_iconst (q := 2) (v := nI 1) dX11_tick_1 rfl rfl ?_
  refine K_icmp_lt (q := 5) (tgt := 25) dX11_tick_2 rfl ?_ rfl ?_
  · refine K_iconst (q := 26) (v := -1) dX11_tick_25 rfl rfl ?_
    exact J_iret dX11_tick_26
  · refine K_iload_n (q := 6) 1 dX11_tick_5 rfl rfl rfl ?_
    refine K_bipush (q := 8) (v := nI 99) dX11_tick_6 rfl rfl ?_
    refine K_icmp_gt (q := 11) (tgt := 25) dX11_tick_8 rfl ?_ rfl ?_
    · refine K_iconst (q := 26) (v := -1) dX11_tick_25 rfl rfl ?_
      exact J_iret dX11_tick_26
    · refine K_aload_n (q := 12) 0 dX11_tick_11 rfl rfl rfl ?_
      refine K_getR (q := 15) (ci := 6) (a2 := 1) 0 dX11_tick_12 fRX11_10 rfl rfl (by decide) rfl rfl ?_
      refine K_getR (q := 18) (ci := 2) (a2 := 2) 1 dX11_tick_15 fRX11_33 rfl rfl (by decide) rfl rfl ?_
      refine K_iload_n (q := 19) 1 dX11_tick_18 rfl rfl rfl ?_
      refine K_cvi (q := 22) [.inl (l1)] dX11_tick_19 cb_X1_hasTime cvRX11_74 rc_0 (show (10 : Nat) ≠ 0 by decide) rfl (Nat.le_of_ble_eq_true rfl) ⟨by decide, by decide⟩ (Nat.le_of_ble_eq_true rfl) rfl (tX1_hasTime 2 l1 M) rfl (fun v2 M1 => ?_)
      refine K_if_ne (q := 25) (tgt := 27) dX11_tick_22 rfl ?_ rfl ?_
      · refine K_aload_n (q := 28) 0 dX11_tick_27 rfl rfl rfl ?_
        refine K_getR (q := 31) (ci := 6) (a2 := 1) 0 dX11_tick_28 fRX11_10 rfl rfl (by decide) rfl rfl ?_
        refine K_getR (q := 34) (ci := 2) (a2 := 2) 1 dX11_tick_31 fRX11_33 rfl rfl (by decide) rfl rfl ?_
        refine K_iload_n (q := 35) 1 dX11_tick_34 rfl rfl rfl ?_
        refine K_cvv (q := 38) [.inl (l1)] dX11_tick_35 cb_X1_ticks cvRX11_77 rc_0 (show (10 : Nat) ≠ 0 by decide) rfl (Nat.le_of_ble_eq_true rfl) ⟨by decide, by decide⟩ (Nat.le_of_ble_eq_true rfl) rfl (tX1_ticks 2 l1 M1) rfl (fun M3 => ?_)
        refine K_aload_n (q := 39) 0 dX11_tick_38 rfl rfl rfl ?_
        refine K_getR (q := 42) (ci := 6) (a2 := 1) 0 dX11_tick_39 fRX11_10 rfl rfl (by decide) rfl rfl ?_
        refine K_getR (q := 45) (ci := 2) (a2 := 2) 1 dX11_tick_42 fRX11_33 rfl rfl (by decide) rfl rfl ?_
        refine K_getI (q := 48) (ci := 0) 14 dX11_tick_45 fRX11_81 rfl rfl rfl (fun v4 => ?_)
        exact J_iret dX11_tick_48
      · refine K_iconst (q := 26) (v := -1) dX11_tick_25 rfl rfl ?_
        exact J_iret dX11_tick_26
theorem dX11_trace_0 : decode cX11_trace 0 = .ok (.iload_n 1, 1) := by decide +kernel
theorem dX11_trace_1 : decode cX11_trace 1 = .ok (.ifCond .lt 23, 3) := by decide +kernel
theorem dX11_trace_4 : decode cX11_trace 4 = .ok (.iload_n 1, 1) := by decide +kernel
theorem dX11_trace_5 : decode cX11_trace 5 = .ok (.bipush 100, 2) := by decide +kernel
theorem dX11_trace_7 : decode cX11_trace 7 = .ok (.if_icmp .ge 17, 3) := by decide +kernel
theorem dX11_trace_10 : decode cX11_trace 10 = .ok (.iload_n 1, 1) := by decide +kernel
theorem dX11_trace_11 : decode cX11_trace 11 = .ok (.aload_n 0, 1) := by decide +kernel
theorem dX11_trace_12 : decode cX11_trace 12 = .ok (.getfield 10, 3) := by decide +kernel
theorem dX11_trace_15 : decode cX11_trace 15 = .ok (.getfield 233, 3) := by decide +kernel
theorem dX11_trace_18 : decode cX11_trace 18 = .ok (.getfield 317, 3) := by decide +kernel
theorem dX11_trace_21 : decode cX11_trace 21 = .ok (.if_icmp .lt 5, 3) := by decide +kernel
theorem dX11_trace_24 : decode cX11_trace 24 = .ok (.iconst (-1), 1) := by decide +kernel
theorem dX11_trace_25 : decode cX11_trace 25 = .ok (.ireturn, 1) := by decide +kernel
theorem dX11_trace_26 : decode cX11_trace 26 = .ok (.aload_n 0, 1) := by decide +kernel
theorem dX11_trace_27 : decode cX11_trace 27 = .ok (.getfield 10, 3) := by decide +kernel
theorem dX11_trace_30 : decode cX11_trace 30 = .ok (.getfield 233, 3) := by decide +kernel
theorem dX11_trace_33 : decode cX11_trace 33 = .ok (.getfield 320, 3) := by decide +kernel
theorem dX11_trace_36 : decode cX11_trace 36 = .ok (.aload_n 0, 1) := by decide +kernel
theorem dX11_trace_37 : decode cX11_trace 37 = .ok (.getfield 10, 3) := by decide +kernel
theorem dX11_trace_40 : decode cX11_trace 40 = .ok (.getfield 233, 3) := by decide +kernel
theorem dX11_trace_43 : decode cX11_trace 43 = .ok (.getfield 317, 3) := by decide +kernel
theorem dX11_trace_46 : decode cX11_trace 46 = .ok (.iconst 1, 1) := by decide +kernel
theorem dX11_trace_47 : decode cX11_trace 47 = .ok (.isub, 1) := by decide +kernel
theorem dX11_trace_48 : decode cX11_trace 48 = .ok (.iload_n 1, 1) := by decide +kernel
theorem dX11_trace_49 : decode cX11_trace 49 = .ok (.isub, 1) := by decide +kernel
theorem dX11_trace_50 : decode cX11_trace 50 = .ok (.bipush 100, 2) := by decide +kernel
theorem dX11_trace_52 : decode cX11_trace 52 = .ok (.irem, 1) := by decide +kernel
theorem dX11_trace_53 : decode cX11_trace 53 = .ok (.iaload, 1) := by decide +kernel
theorem dX11_trace_54 : decode cX11_trace 54 = .ok (.istore_n 3, 1) := by decide +kernel
theorem dX11_trace_55 : decode cX11_trace 55 = .ok (.iload_n 2, 1) := by decide +kernel
theorem dX11_trace_56 : decode cX11_trace 56 = .ok (.tableswitch 57 0 3 #[32, 37, 45, 52], 32) := by decide +kernel
theorem dX11_trace_88 : decode cX11_trace 88 = .ok (.iload_n 3, 1) := by decide +kernel
theorem dX11_trace_89 : decode cX11_trace 89 = .ok (.bipush 9, 2) := by decide +kernel
theorem dX11_trace_91 : decode cX11_trace 91 = .ok (.iushr, 1) := by decide +kernel
theorem dX11_trace_92 : decode cX11_trace 92 = .ok (.ireturn, 1) := by decide +kernel
theorem dX11_trace_93 : decode cX11_trace 93 = .ok (.iload_n 3, 1) := by decide +kernel
theorem dX11_trace_94 : decode cX11_trace 94 = .ok (.bipush 6, 2) := by decide +kernel
theorem dX11_trace_96 : decode cX11_trace 96 = .ok (.iushr, 1) := by decide +kernel
theorem dX11_trace_97 : decode cX11_trace 97 = .ok (.bipush 7, 2) := by decide +kernel
theorem dX11_trace_99 : decode cX11_trace 99 = .ok (.iand, 1) := by decide +kernel
theorem dX11_trace_100 : decode cX11_trace 100 = .ok (.ireturn, 1) := by decide +kernel
theorem dX11_trace_101 : decode cX11_trace 101 = .ok (.iload_n 3, 1) := by decide +kernel
theorem dX11_trace_102 : decode cX11_trace 102 = .ok (.iconst 3, 1) := by decide +kernel
theorem dX11_trace_103 : decode cX11_trace 103 = .ok (.iushr, 1) := by decide +kernel
theorem dX11_trace_104 : decode cX11_trace 104 = .ok (.bipush 7, 2) := by decide +kernel
theorem dX11_trace_106 : decode cX11_trace 106 = .ok (.iand, 1) := by decide +kernel
theorem dX11_trace_107 : decode cX11_trace 107 = .ok (.ireturn, 1) := by decide +kernel
theorem dX11_trace_108 : decode cX11_trace 108 = .ok (.iload_n 3, 1) := by decide +kernel
theorem dX11_trace_109 : decode cX11_trace 109 = .ok (.bipush 7, 2) := by decide +kernel
theorem dX11_trace_111 : decode cX11_trace 111 = .ok (.iand, 1) := by decide +kernel
theorem dX11_trace_112 : decode cX11_trace 112 = .ok (.ireturn, 1) := by decide +kernel
theorem dX11_trace_113 : decode cX11_trace 113 = .ok (.iconst (-1), 1) := by decide +kernel
theorem dX11_trace_114 : decode cX11_trace 114 = .ok (.ireturn, 1) := by decide +kernel
def xX11_trace  (l1 : Int32) (l2 : Int32) (M : j_M) : Option (Int32 × j_M) := (if l1 < (0 : Int32) then some ((-1 : Int32), M) else (if (nI 100) ≤ l1 then some ((-1 : Int32), M) else oli (M 10 11) fun v1 => (if l1 < v1 then oli (M 10 11) fun v2 => gn (nI 100) (gd (((v2 - (nI 1)) - l1) - ((v2 - (nI 1)) - l1) / (nI 100) * (nI 100)) 100 (oli (M 11 (ix (((v2 - (nI 1)) - l1) - ((v2 - (nI 1)) - l1) / (nI 100) * (nI 100)))) fun v3 => osw l2 [((nI 0), some (us v3 (nI 9), M)), ((nI 1), some ((us v3 (nI 6)) &&& (nI 7), M)), ((nI 2), some ((us v3 (nI 3)) &&& (nI 7), M)), ((nI 3), some (v3 &&& (nI 7), M))] (some ((-1 : Int32), M)))) else some ((-1 : Int32), M))))
set_option maxRecDepth 20000 in
set_option maxHeartbeats 2000000 in
theorem tX11_trace  (l1 : Int32) (l2 : Int32) (M : j_M) : J (ρ := Int32 × j_M) yX11_trace cX11_trace 4 (some .int) 0 0 j_ei 0 [(0, .inr (16, 0, 0)), (1, .inl (l1)), (2, .inl (l2))] [] M (xX11_trace  l1 l2 M) := by
  unfold xX11_trace
  refine K_iload_n (q := 1) 1 dX11_trace_0 rfl rfl rfl ?_
  refine K_if_lt (q := 4) (tgt := 24) dX11_trace_1 rfl ?_ rfl ?_
  · refine K_iconst (q := 25) (v := -1) dX11_trace_24 rfl rfl ?_
    exact J_iret dX11_trace_25
  · refine K_iload_n (q := 5) 1 dX11_trace_4 rfl rfl rfl ?_
    refine K_bipush (q := 7) (v := nI 100) dX11_trace_5 rfl rfl ?_
    refine K_icmp_ge (q := 10) (tgt := 24) dX11_trace_7 rfl ?_ rfl ?_
    · refine K_iconst (q := 25) (v := -1) dX11_trace_24 rfl rfl ?_
      exact J_iret dX11_trace_25
    · refine K_iload_n (q := 11) 1 dX11_trace_10 rfl rfl rfl ?_
      refine K_aload_n (q := 12) 0 dX11_trace_11 rfl rfl rfl ?_
      refine K_getR (q := 15) (ci := 6) (a2 := 1) 0 dX11_trace_12 fRX11_10 rfl rfl (by decide) rfl rfl ?_
      refine K_getR (q := 18) (ci := 2) (a2 := 10) 0 dX11_trace_15 fRX11_233 rfl rfl (by decide) rfl rfl ?_
      refine K_getI (q := 21) (ci := 1) 11 dX11_trace_18 fRX11_317 rfl rfl rfl (fun v1 => ?_)
      refine K_icmp_lt (q := 24) (tgt := 26) dX11_trace_21 rfl ?_ rfl ?_
      · refine K_aload_n (q := 27) 0 dX11_trace_26 rfl rfl rfl ?_
        refine K_getR (q := 30) (ci := 6) (a2 := 1) 0 dX11_trace_27 fRX11_10 rfl rfl (by decide) rfl rfl ?_
        refine K_getR (q := 33) (ci := 2) (a2 := 10) 0 dX11_trace_30 fRX11_233 rfl rfl (by decide) rfl rfl ?_
        refine K_getR (q := 36) (ci := 1) (a2 := 11) 0 dX11_trace_33 fRX11_320 rfl rfl (by decide) rfl rfl ?_
        refine K_aload_n (q := 37) 0 dX11_trace_36 rfl rfl rfl ?_
        refine K_getR (q := 40) (ci := 6) (a2 := 1) 0 dX11_trace_37 fRX11_10 rfl rfl (by decide) rfl rfl ?_
        refine K_getR (q := 43) (ci := 2) (a2 := 10) 0 dX11_trace_40 fRX11_233 rfl rfl (by decide) rfl rfl ?_
        refine K_getI (q := 46) (ci := 1) 11 dX11_trace_43 fRX11_317 rfl rfl rfl (fun v2 => ?_)
        refine K_iconst (q := 47) (v := nI 1) dX11_trace_46 rfl rfl ?_
        refine K_isub (q := 48) dX11_trace_47 rfl ?_
        refine K_iload_n (q := 49) 1 dX11_trace_48 rfl rfl rfl ?_
        refine K_isub (q := 50) dX11_trace_49 rfl ?_
        refine K_bipush (q := 52) (v := nI 100) dX11_trace_50 rfl rfl ?_
        refine K_irem (q := 53) dX11_trace_52 rfl ?_
        refine K_iald (q := 54) dX11_trace_53 rfl (fun v3 => ?_)
        refine K_istore_n (q := 55) (ll' := [(3, .inl (v3)), (0, .inr (16, 0, 0)), (1, .inl (l1)), (2, .inl (l2))]) dX11_trace_54 rfl (by decide) rfl rfl ?_
        refine K_iload_n (q := 56) 3 dX11_trace_55 rfl rfl rfl ?_
        refine K_tsw (dt := 113) [88, 93, 101, 108] dX11_trace_56 rfl rfl rfl rfl ⟨?_, ?_, ?_, ?_, trivial⟩ ?_
        · refine K_iload_n (q := 89) 0 dX11_trace_88 rfl rfl rfl ?_
          refine K_bipush (q := 91) (v := nI 9) dX11_trace_89 rfl rfl ?_
          refine K_iushr (q := 92) dX11_trace_91 rfl ?_
          exact J_iret dX11_trace_92
        · refine K_iload_n (q := 94) 0 dX11_trace_93 rfl rfl rfl ?_
          refine K_bipush (q := 96) (v := nI 6) dX11_trace_94 rfl rfl ?_
          refine K_iushr (q := 97) dX11_trace_96 rfl ?_
          refine K_bipush (q := 99) (v := nI 7) dX11_trace_97 rfl rfl ?_
          refine K_iand (q := 100) dX11_trace_99 rfl ?_
          exact J_iret dX11_trace_100
        · refine K_iload_n (q := 102) 0 dX11_trace_101 rfl rfl rfl ?_
          refine K_iconst (q := 103) (v := nI 3) dX11_trace_102 rfl rfl ?_
          refine K_iushr (q := 104) dX11_trace_103 rfl ?_
          refine K_bipush (q := 106) (v := nI 7) dX11_trace_104 rfl rfl ?_
          refine K_iand (q := 107) dX11_trace_106 rfl ?_
          exact J_iret dX11_trace_107
        · refine K_iload_n (q := 109) 0 dX11_trace_108 rfl rfl rfl ?_
          refine K_bipush (q := 111) (v := nI 7) dX11_trace_109 rfl rfl ?_
          refine K_iand (q := 112) dX11_trace_111 rfl ?_
          exact J_iret dX11_trace_112
        · refine K_iconst (q := 114) (v := -1) dX11_trace_113 rfl rfl ?_
          exact J_iret dX11_trace_114
      · refine K_iconst (q := 25) (v := -1) dX11_trace_24 rfl rfl ?_
        exact J_iret dX11_trace_25
theorem dX11_where_0 : decode cX11_where 0 = .ok (.iload_n 1, 1) := by decide +kernel
theorem dX11_where_1 : decode cX11_where 1 = .ok (.invokestatic 144, 3) := by decide +kernel
theorem dX11_where_4 : decode cX11_where 4 = .ok (.ifCond .ne 6, 3) := by decide +kernel
theorem dX11_where_7 : decode cX11_where 7 = .ok (.bipush (-2), 2) := by decide +kernel
theorem dX11_where_9 : decode cX11_where 9 = .ok (.ireturn, 1) := by decide +kernel
theorem dX11_where_10 : decode cX11_where 10 = .ok (.iload_n 2, 1) := by decide +kernel
theorem dX11_where_11 : decode cX11_where 11 = .ok (.tableswitch 126 0 6 #[41, 53, 66, 78, 90, 102, 114], 41) := by decide +kernel
theorem dX11_where_52 : decode cX11_where 52 = .ok (.aload_n 0, 1) := by decide +kernel
theorem dX11_where_53 : decode cX11_where 53 = .ok (.getfield 10, 3) := by decide +kernel
theorem dX11_where_56 : decode cX11_where 56 = .ok (.getfield 33, 3) := by decide +kernel
theorem dX11_where_59 : decode cX11_where 59 = .ok (.iload_n 1, 1) := by decide +kernel
theorem dX11_where_60 : decode cX11_where 60 = .ok (.invokevirtual 278, 3) := by decide +kernel
theorem dX11_where_63 : decode cX11_where 63 = .ok (.ireturn, 1) := by decide +kernel
theorem dX11_where_64 : decode cX11_where 64 = .ok (.aload_n 0, 1) := by decide +kernel
theorem dX11_where_65 : decode cX11_where 65 = .ok (.getfield 10, 3) := by decide +kernel
theorem dX11_where_68 : decode cX11_where 68 = .ok (.getfield 33, 3) := by decide +kernel
theorem dX11_where_71 : decode cX11_where 71 = .ok (.iload_n 1, 1) := by decide +kernel
theorem dX11_where_72 : decode cX11_where 72 = .ok (.iconst 1, 1) := by decide +kernel
theorem dX11_where_73 : decode cX11_where 73 = .ok (.invokevirtual 281, 3) := by decide +kernel
theorem dX11_where_76 : decode cX11_where 76 = .ok (.ireturn, 1) := by decide +kernel
theorem dX11_where_77 : decode cX11_where 77 = .ok (.aload_n 0, 1) := by decide +kernel
theorem dX11_where_78 : decode cX11_where 78 = .ok (.getfield 10, 3) := by decide +kernel
theorem dX11_where_81 : decode cX11_where 81 = .ok (.getfield 33, 3) := by decide +kernel
theorem dX11_where_84 : decode cX11_where 84 = .ok (.iload_n 1, 1) := by decide +kernel
theorem dX11_where_85 : decode cX11_where 85 = .ok (.invokevirtual 284, 3) := by decide +kernel
theorem dX11_where_88 : decode cX11_where 88 = .ok (.ireturn, 1) := by decide +kernel
theorem dX11_where_89 : decode cX11_where 89 = .ok (.aload_n 0, 1) := by decide +kernel
theorem dX11_where_90 : decode cX11_where 90 = .ok (.getfield 10, 3) := by decide +kernel
theorem dX11_where_93 : decode cX11_where 93 = .ok (.getfield 33, 3) := by decide +kernel
theorem dX11_where_96 : decode cX11_where 96 = .ok (.iload_n 1, 1) := by decide +kernel
theorem dX11_where_97 : decode cX11_where 97 = .ok (.invokevirtual 287, 3) := by decide +kernel
theorem dX11_where_100 : decode cX11_where 100 = .ok (.ireturn, 1) := by decide +kernel
theorem dX11_where_101 : decode cX11_where 101 = .ok (.aload_n 0, 1) := by decide +kernel
theorem dX11_where_102 : decode cX11_where 102 = .ok (.getfield 10, 3) := by decide +kernel
theorem dX11_where_105 : decode cX11_where 105 = .ok (.getfield 33, 3) := by decide +kernel
theorem dX11_where_108 : decode cX11_where 108 = .ok (.iload_n 1, 1) := by decide +kernel
theorem dX11_where_109 : decode cX11_where 109 = .ok (.invokevirtual 290, 3) := by decide +kernel
theorem dX11_where_112 : decode cX11_where 112 = .ok (.ireturn, 1) := by decide +kernel
theorem dX11_where_113 : decode cX11_where 113 = .ok (.aload_n 0, 1) := by decide +kernel
theorem dX11_where_114 : decode cX11_where 114 = .ok (.getfield 10, 3) := by decide +kernel
theorem dX11_where_117 : decode cX11_where 117 = .ok (.getfield 33, 3) := by decide +kernel
theorem dX11_where_120 : decode cX11_where 120 = .ok (.iload_n 1, 1) := by decide +kernel
theorem dX11_where_121 : decode cX11_where 121 = .ok (.invokevirtual 293, 3) := by decide +kernel
theorem dX11_where_124 : decode cX11_where 124 = .ok (.ireturn, 1) := by decide +kernel
theorem dX11_where_125 : decode cX11_where 125 = .ok (.aload_n 0, 1) := by decide +kernel
theorem dX11_where_126 : decode cX11_where 126 = .ok (.getfield 10, 3) := by decide +kernel
theorem dX11_where_129 : decode cX11_where 129 = .ok (.getfield 33, 3) := by decide +kernel
theorem dX11_where_132 : decode cX11_where 132 = .ok (.iload_n 1, 1) := by decide +kernel
theorem dX11_where_133 : decode cX11_where 133 = .ok (.invokevirtual 296, 3) := by decide +kernel
theorem dX11_where_136 : decode cX11_where 136 = .ok (.ireturn, 1) := by decide +kernel
theorem dX11_where_137 : decode cX11_where 137 = .ok (.bipush (-2), 2) := by decide +kernel
theorem dX11_where_139 : decode cX11_where 139 = .ok (.ireturn, 1) := by decide +kernel
def xX11_where  (l1 : Int32) (l2 : Int32) (M : j_M) : Option (Int32 × j_M) := obi (xX11_isLine l1 M) fun v2 M1 => (if v2 = (0 : Int32) then some ((-2 : Int32), M1) else osw l2 [((nI 0), obi (xX1_ownerNode 2 l1 M1) fun v4 M3 => some (v4, M3)), ((nI 1), obi (xX1_cpusThatCan 2 l1 (nI 1) M1) fun v6 M5 => some (v6, M5)), ((nI 2), obi (xX1_writerOf 2 l1 M1) fun v8 M7 => some (v8, M7)), ((nI 3), obi (xX1_nodesWithTokens 2 l1 M1) fun v10 M9 => some (v10, M9)), ((nI 4), obi (xX1_tokensOnWay 2 l1 M1) fun v12 M11 => some (v12, M11)), ((nI 5), obi (xX1_cpusThatMiss 2 l1 M1) fun v14 M13 => some (v14, M13)), ((nI 6), obi (xX1_nodesWithTurn 2 l1 M1) fun v16 M15 => some (v16, M15))] (some ((-2 : Int32), M1)))
set_option maxRecDepth 20000 in
set_option maxHeartbeats 2000000 in
theorem tX11_where  (l1 : Int32) (l2 : Int32) (M : j_M) : J (ρ := Int32 × j_M) yX11_where cX11_where 3 (some .int) 3 69 j_ei 0 [(0, .inr (16, 0, 0)), (1, .inl (l1)), (2, .inl (l2))] [] M (xX11_where  l1 l2 M) := by
  unfold xX11_where
  refine K_iload_n (q := 1) 1 dX11_where_0 rfl rfl rfl ?_
  refine K_csi (q := 4) [.inl (l1)] dX11_where_1 cb_X11_isLine cvRX11_144 rfl (Nat.le_of_ble_eq_true rfl) ⟨by decide, by decide⟩ (Nat.le_of_ble_eq_true rfl) rfl (tX11_isLine l1 M) rfl (fun v2 M1 => ?_)
  refine K_if_ne (q := 7) (tgt := 10) dX11_where_4 rfl ?_ rfl ?_
  · refine K_iload_n (q := 11) 2 dX11_where_10 rfl rfl rfl ?_
    refine K_tsw (dt := 137) [52, 64, 77, 89, 101, 113, 125] dX11_where_11 rfl rfl rfl rfl ⟨?_, ?_, ?_, ?_, ?_, ?_, ?_, trivial⟩ ?_
    · refine K_aload_n (q := 53) 0 dX11_where_52 rfl rfl rfl ?_
      refine K_getR (q := 56) (ci := 6) (a2 := 1) 0 dX11_where_53 fRX11_10 rfl rfl (by decide) rfl rfl ?_
      refine K_getR (q := 59) (ci := 2) (a2 := 2) 1 dX11_where_56 fRX11_33 rfl rfl (by decide) rfl rfl ?_
      refine K_iload_n (q := 60) 1 dX11_where_59 rfl rfl rfl ?_
      refine K_cvi (q := 63) [.inl (l1)] dX11_where_60 cb_X1_ownerNode cvRX11_278 rc_0 (show (10 : Nat) ≠ 0 by decide) rfl (Nat.le_of_ble_eq_true rfl) ⟨by decide, by decide⟩ (Nat.le_of_ble_eq_true rfl) rfl (tX1_ownerNode 2 l1 M1) rfl (fun v4 M3 => ?_)
      exact J_iret dX11_where_63
    · refine K_aload_n (q := 65) 0 dX11_where_64 rfl rfl rfl ?_
      refine K_getR (q := 68) (ci := 6) (a2 := 1) 0 dX11_where_65 fRX11_10 rfl rfl (by decide) rfl rfl ?_
      refine K_getR (q := 71) (ci := 2) (a2 := 2) 1 dX11_where_68 fRX11_33 rfl rfl (by decide) rfl rfl ?_
      refine K_iload_n (q := 72) 1 dX11_where_71 rfl rfl rfl ?_
      refine K_iconst (q := 73) (v := nI 1) dX11_where_72 rfl rfl ?_
      refine K_cvi (q := 76) [.inl (l1), .inl ((nI 1))] dX11_where_73 cb_X1_cpusThatCan cvRX11_281 rc_0 (show (10 : Nat) ≠ 0 by decide) rfl (Nat.le_of_ble_eq_true rfl) ⟨by decide, by decide⟩ (Nat.le_of_ble_eq_true rfl) rfl (tX1_cpusThatCan 2 l1 (nI 1) M1) rfl (fun v6 M5 => ?_)
      exact J_iret dX11_where_76
    · refine K_aload_n (q := 78) 0 dX11_where_77 rfl rfl rfl ?_
      refine K_getR (q := 81) (ci := 6) (a2 := 1) 0 dX11_where_78 fRX11_10 rfl rfl (by decide) rfl rfl ?_
      refine K_getR (q := 84) (ci := 2) (a2 := 2) 1 dX11_where_81 fRX11_33 rfl rfl (by decide) rfl rfl ?_
      refine K_iload_n (q := 85) 1 dX11_where_84 rfl rfl rfl ?_
      refine K_cvi (q := 88) [.inl (l1)] dX11_where_85 cb_X1_writerOf cvRX11_284 rc_0 (show (10 : Nat) ≠ 0 by decide) rfl (Nat.le_of_ble_eq_true rfl) ⟨by decide, by decide⟩ (Nat.le_of_ble_eq_true rfl) rfl (tX1_writerOf 2 l1 M1) rfl (fun v8 M7 => ?_)
      exact J_iret dX11_where_88
    · refine K_aload_n (q := 90) 0 dX11_where_89 rfl rfl rfl ?_
      refine K_getR (q := 93) (ci := 6) (a2 := 1) 0 dX11_where_90 fRX11_10 rfl rfl (by decide) rfl rfl ?_
      refine K_getR (q := 96) (ci := 2) (a2 := 2) 1 dX11_where_93 fRX11_33 rfl rfl (by decide) rfl rfl ?_
      refine K_iload_n (q := 97) 1 dX11_where_96 rfl rfl rfl ?_
      refine K_cvi (q := 100) [.inl (l1)] dX11_where_97 cb_X1_nodesWithTokens cvRX11_287 rc_0 (show (10 : Nat) ≠ 0 by decide) rfl (Nat.le_of_ble_eq_true rfl) ⟨by decide, by decide⟩ (Nat.le_of_ble_eq_true rfl) rfl (tX1_nodesWithTokens 2 l1 M1) rfl (fun v10 M9 => ?_)
      exact J_iret dX11_where_100
    · refine K_aload_n (q := 102) 0 dX11_where_101 rfl rfl rfl ?_
      refine K_getR (q := 105) (ci := 6) (a2 := 1) 0 dX11_where_102 fRX11_10 rfl rfl (by decide) rfl rfl ?_
      refine K_getR (q := 108) (ci := 2) (a2 := 2) 1 dX11_where_105 fRX11_33 rfl rfl (by decide) rfl rfl ?_
      refine K_iload_n (q := 109) 1 dX11_where_108 rfl rfl rfl ?_
      refine K_cvi (q := 112) [.inl (l1)] dX11_where_109 cb_X1_tokensOnWay cvRX11_290 rc_0 (show (10 : Nat) ≠ 0 by decide) rfl (Nat.le_of_ble_eq_true rfl) ⟨by decide, by decide⟩ (Nat.le_of_ble_eq_true rfl) rfl (tX1_tokensOnWay 2 l1 M1) rfl (fun v12 M11 => ?_)
      exact J_iret dX11_where_112
    · refine K_aload_n (q := 114) 0 dX11_where_113 rfl rfl rfl ?_
      refine K_getR (q := 117) (ci := 6) (a2 := 1) 0 dX11_where_114 fRX11_10 rfl rfl (by decide) rfl rfl ?_
      refine K_getR (q := 120) (ci := 2) (a2 := 2) 1 dX11_where_117 fRX11_33 rfl rfl (by decide) rfl rfl ?_
      refine K_iload_n (q := 121) 1 dX11_where_120 rfl rfl rfl ?_
      refine K_cvi (q := 124) [.inl (l1)] dX11_where_121 cb_X1_cpusThatMiss cvRX11_293 rc_0 (show (10 : Nat) ≠ 0 by decide) rfl (Nat.le_of_ble_eq_true rfl) ⟨by decide, by decide⟩ (Nat.le_of_ble_eq_true rfl) rfl (tX1_cpusThatMiss 2 l1 M1) rfl (fun v14 M13 => ?_)
      exact J_iret dX11_where_124
    · refine K_aload_n (q := 126) 0 dX11_where_125 rfl rfl rfl ?_
      refine K_getR (q := 129) (ci := 6) (a2 := 1) 0 dX11_where_126 fRX11_10 rfl rfl (by decide) rfl rfl ?_
      refine K_getR (q := 132) (ci := 2) (a2 := 2) 1 dX11_where_129 fRX11_33 rfl rfl (by decide) rfl rfl ?_
      refine K_iload_n (q := 133) 1 dX11_where_132 rfl rfl rfl ?_
      refine K_cvi (q := 136) [.inl (l1)] dX11_where_133 cb_X1_nodesWithTurn cvRX11_296 rc_0 (show (10 : Nat) ≠ 0 by decide) rfl (Nat.le_of_ble_eq_true rfl) ⟨by decide, by decide⟩ (Nat.le_of_ble_eq_true rfl) rfl (tX1_nodesWithTurn 2 l1 M1) rfl (fun v16 M15 => ?_)
      exact J_iret dX11_where_136
    · refine K_bipush (q := 139) (v := -2) dX11_where_137 rfl rfl ?_
      exact J_iret dX11_where_139
  · refine K_bipush (q := 9) (v := -2) dX11_where_7 rfl rfl ?_
    exact J_iret dX11_where_9
theorem dX11_worth_0 : decode cX11_worth 0 = .ok (.iload_n 1, 1) := by decide +kernel
theorem dX11_worth_1 : decode cX11_worth 1 = .ok (.invokestatic 144, 3) := by decide +kernel
theorem dX11_worth_4 : decode cX11_worth 4 = .ok (.ifCond .eq 17, 3) := by decide +kernel
theorem dX11_worth_7 : decode cX11_worth 7 = .ok (.aload_n 0, 1) := by decide +kernel
theorem dX11_worth_8 : decode cX11_worth 8 = .ok (.getfield 10, 3) := by decide +kernel
theorem dX11_worth_11 : decode cX11_worth 11 = .ok (.getfield 33, 3) := by decide +kernel
theorem dX11_worth_14 : decode cX11_worth 14 = .ok (.iload_n 1, 1) := by decide +kernel
theorem dX11_worth_15 : decode cX11_worth 15 = .ok (.invokevirtual 335, 3) := by decide +kernel
theorem dX11_worth_18 : decode cX11_worth 18 = .ok (.goto 4, 3) := by decide +kernel
theorem dX11_worth_21 : decode cX11_worth 21 = .ok (.iconst (-1), 1) := by decide +kernel
theorem dX11_worth_22 : decode cX11_worth 22 = .ok (.ireturn, 1) := by decide +kernel
def xX11_worth  (l1 : Int32) (M : j_M) : Option (Int32 × j_M) := obi (xX11_isLine l1 M) fun v2 M1 => (if v2 = (0 : Int32) then some ((-1 : Int32), M1) else obi (xX1_ownerData 2 l1 M1) fun v4 M3 => some (v4, M3))
set_option maxRecDepth 20000 in
set_option maxHeartbeats 2000000 in
theorem tX11_worth  (l1 : Int32) (M : j_M) : J (ρ := Int32 × j_M) yX11_worth cX11_worth 2 (some .int) 4 87 j_ei 0 [(0, .inr (16, 0, 0)), (1, .inl (l1))] [] M (xX11_worth  l1 M) := by
  unfold xX11_worth
  refine K_iload_n (q := 1) 1 dX11_worth_0 rfl rfl rfl ?_
  refine K_csi (q := 4) [.inl (l1)] dX11_worth_1 cb_X11_isLine cvRX11_144 rfl (Nat.le_of_ble_eq_true rfl) ⟨by decide, by decide⟩ (Nat.le_of_ble_eq_true rfl) rfl (tX11_isLine l1 M) rfl (fun v2 M1 => ?_)
  refine K_if_eq (q := 7) (tgt := 21) dX11_worth_4 rfl ?_ rfl ?_
  · refine K_iconst (q := 22) (v := -1) dX11_worth_21 rfl rfl ?_
    exact J_iret dX11_worth_22
  · refine K_aload_n (q := 8) 0 dX11_worth_7 rfl rfl rfl ?_
    refine K_getR (q := 11) (ci := 6) (a2 := 1) 0 dX11_worth_8 fRX11_10 rfl rfl (by decide) rfl rfl ?_
    refine K_getR (q := 14) (ci := 2) (a2 := 2) 1 dX11_worth_11 fRX11_33 rfl rfl (by decide) rfl rfl ?_
    refine K_iload_n (q := 15) 1 dX11_worth_14 rfl rfl rfl ?_
    refine K_cvi (q := 18) [.inl (l1)] dX11_worth_15 cb_X1_ownerData cvRX11_335 rc_0 (show (10 : Nat) ≠ 0 by decide) rfl (Nat.le_of_ble_eq_true rfl) ⟨by decide, by decide⟩ (Nat.le_of_ble_eq_true rfl) rfl (tX1_ownerData 2 l1 M1) rfl (fun v4 M3 => ?_)
    refine J_goto (tgt := 22) dX11_worth_18 rfl ?_
    exact J_iret dX11_worth_22
