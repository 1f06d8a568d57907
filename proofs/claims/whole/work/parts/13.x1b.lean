theorem cb_X7_what : j_CB yX7_what cX7_what 1 (some .int) 1 := ⟨by decide +kernel, j_in 510 (by decide +kernel) (by decide +kernel), j_in 116 (by decide +kernel) (by decide +kernel), by decide +kernel, by decide +kernel, by decide +kernel⟩
theorem cvRX1_142 : j_CS RX1 142 yX7_what := ⟨Or.inl (j_in 508 (by decide +kernel) (by decide +kernel)), j_in 509 (by decide +kernel) (by decide +kernel)⟩
theorem cb_X1_whomToAsk : j_CB yX1_whomToAsk cX1_whomToAsk 6 (some .int) 2 := ⟨by decide +kernel, j_in 514 (by decide +kernel) (by decide +kernel), j_in 110 (by decide +kernel) (by decide +kernel), by decide +kernel, by decide +kernel, by decide +kernel⟩
theorem cvRX1_145 : j_CV RX1 145 yX1_whomToAsk := ⟨Or.inl (j_in 511 (by decide +kernel) (by decide +kernel)), j_in 512 (by decide +kernel) (by decide +kernel), j_in 513 (by decide +kernel) (by decide +kernel)⟩
theorem cb_X1_askingOnWay : j_CB yX1_askingOnWay cX1_askingOnWay 3 (some .int) 0 := ⟨by decide +kernel, j_in 518 (by decide +kernel) (by decide +kernel), j_in 110 (by decide +kernel) (by decide +kernel), by decide +kernel, by decide +kernel, by decide +kernel⟩
theorem cvRX1_148 : j_CV RX1 148 yX1_askingOnWay := ⟨Or.inl (j_in 515 (by decide +kernel) (by decide +kernel)), j_in 516 (by decide +kernel) (by decide +kernel), j_in 517 (by decide +kernel) (by decide +kernel)⟩
theorem fRX1_156 : j_F RX1 156 1 12 := ⟨RX5, TX5, 15, rfl, by decide, ws_in1, j_in 178 (by decide +kernel) (by decide +kernel)⟩
theorem cb_X5_see : j_CB yX5_see cX5_see 4 none 2 := ⟨by decide +kernel, j_in 490 (by decide +kernel) (by decide +kernel), j_in 109 (by decide +kernel) (by decide +kernel), by decide +kernel, by decide +kernel, by decide +kernel⟩
theorem cvRX1_130 : j_CV RX1 130 yX5_see := ⟨Or.inl (j_in 487 (by decide +kernel) (by decide +kernel)), j_in 488 (by decide +kernel) (by decide +kernel), j_in 489 (by decide +kernel) (by decide +kernel)⟩
theorem cb_X3_withData : j_CB yX3_withData cX3_withData 2 (some .int) 2 := ⟨by decide +kernel, j_in 493 (by decide +kernel) (by decide +kernel), j_in 115 (by decide +kernel) (by decide +kernel), by decide +kernel, by decide +kernel, by decide +kernel⟩
theorem cvRX1_134 : j_CS RX1 134 yX3_withData := ⟨Or.inl (j_in 491 (by decide +kernel) (by decide +kernel)), j_in 492 (by decide +kernel) (by decide +kernel)⟩
theorem cb_X1_wouldHit : j_CB yX1_wouldHit cX1_wouldHit 6 (some .boolean) 3 := ⟨by decide +kernel, j_in 472 (by decide +kernel) (by decide +kernel), j_in 110 (by decide +kernel) (by decide +kernel), by decide +kernel, by decide +kernel, by decide +kernel⟩
theorem cvRX1_102 : j_CV RX1 102 yX1_wouldHit := ⟨Or.inl (j_in 469 (by decide +kernel) (by decide +kernel)), j_in 470 (by decide +kernel) (by decide +kernel), j_in 471 (by decide +kernel) (by decide +kernel)⟩
theorem cb_X7_of : j_CB yX7_of cX7_of 3 (some .int) 3 := ⟨by decide +kernel, j_in 500 (by decide +kernel) (by decide +kernel), j_in 116 (by decide +kernel) (by decide +kernel), by decide +kernel, by decide +kernel, by decide +kernel⟩
theorem cvRX1_119 : j_CS RX1 119 yX7_of := ⟨Or.inl (j_in 498 (by decide +kernel) (by decide +kernel)), j_in 499 (by decide +kernel) (by decide +kernel)⟩
theorem fRX1_27 : j_F RX1 27 0 6 := ⟨RX1, TX1, 15, rfl, by decide, ws_in0, j_in 236 (by decide +kernel) (by decide +kernel)⟩
theorem fRX1_30 : j_F RX1 30 0 7 := ⟨RX1, TX1, 15, rfl, by decide, ws_in0, j_in 238 (by decide +kernel) (by decide +kernel)⟩
theorem cb_X5_note : j_CB yX5_note cX5_note 5 none 4 := ⟨by decide +kernel, j_in 479 (by decide +kernel) (by decide +kernel), j_in 109 (by decide +kernel) (by decide +kernel), by decide +kernel, by decide +kernel, by decide +kernel⟩
theorem cvRX1_111 : j_CV RX1 111 yX5_note := ⟨Or.inl (j_in 476 (by decide +kernel) (by decide +kernel)), j_in 477 (by decide +kernel) (by decide +kernel), j_in 478 (by decide +kernel) (by decide +kernel)⟩
theorem cb_X1_ask : j_CB yX1_ask cX1_ask 8 none 1 := ⟨by decide +kernel, j_in 504 (by decide +kernel) (by decide +kernel), j_in 110 (by decide +kernel) (by decide +kernel), by decide +kernel, by decide +kernel, by decide +kernel⟩
theorem cvRX1_123 : j_CV RX1 123 yX1_ask := ⟨Or.inl (j_in 501 (by decide +kernel) (by decide +kernel)), j_in 502 (by decide +kernel) (by decide +kernel), j_in 503 (by decide +kernel) (by decide +kernel)⟩
theorem fRX1_106 : j_F RX1 106 1 6 := ⟨RX5, TX5, 15, rfl, by decide, ws_in1, j_in 163 (by decide +kernel) (by decide +kernel)⟩
theorem cb_X1_perform : j_CB yX1_perform cX1_perform 8 (some .int) 4 := ⟨by decide +kernel, j_in 483 (by decide +kernel) (by decide +kernel), j_in 110 (by decide +kernel) (by decide +kernel), by decide +kernel, by decide +kernel, by decide +kernel⟩
theorem cvRX1_115 : j_CV RX1 115 yX1_perform := ⟨Or.inl (j_in 480 (by decide +kernel) (by decide +kernel)), j_in 481 (by decide +kernel) (by decide +kernel), j_in 482 (by decide +kernel) (by decide +kernel)⟩
theorem cb_X1_remember : j_CB yX1_remember cX1_remember 6 none 4 := ⟨by decide +kernel, j_in 588 (by decide +kernel) (by decide +kernel), j_in 110 (by decide +kernel) (by decide +kernel), by decide +kernel, by decide +kernel, by decide +kernel⟩
theorem cvRX1_220 : j_CV RX1 220 yX1_remember := ⟨Or.inl (j_in 585 (by decide +kernel) (by decide +kernel)), j_in 586 (by decide +kernel) (by decide +kernel), j_in 587 (by decide +kernel) (by decide +kernel)⟩
theorem cb_X2_seq : j_CB yX2_seq cX2_seq 1 (some .int) 1 := ⟨by decide +kernel, j_in 634 (by decide +kernel) (by decide +kernel), j_in 119 (by decide +kernel) (by decide +kernel), by decide +kernel, by decide +kernel, by decide +kernel⟩
theorem cvRX1_251 : j_CS RX1 251 yX2_seq := ⟨Or.inl (j_in 632 (by decide +kernel) (by decide +kernel)), j_in 633 (by decide +kernel) (by decide +kernel)⟩
theorem cb_X2_active : j_CB yX2_active cX2_active 3 (some .int) 3 := ⟨by decide +kernel, j_in 652 (by decide +kernel) (by decide +kernel), j_in 119 (by decide +kernel) (by decide +kernel), by decide +kernel, by decide +kernel, by decide +kernel⟩
theorem cvRX1_264 : j_CS RX1 264 yX2_active := ⟨Or.inl (j_in 650 (by decide +kernel) (by decide +kernel)), j_in 651 (by decide +kernel) (by decide +kernel)⟩
theorem cb_X1_settle : j_CB yX1_settle cX1_settle 7 none 2 := ⟨by decide +kernel, j_in 642 (by decide +kernel) (by decide +kernel), j_in 110 (by decide +kernel) (by decide +kernel), by decide +kernel, by decide +kernel, by decide +kernel⟩
theorem cvRX1_233 : j_CV RX1 233 yX1_settle := ⟨Or.inl (j_in 639 (by decide +kernel) (by decide +kernel)), j_in 640 (by decide +kernel) (by decide +kernel), j_in 641 (by decide +kernel) (by decide +kernel)⟩
theorem cb_X2_recalled : j_CB yX2_recalled cX2_recalled 2 (some .int) 2 := ⟨by decide +kernel, j_in 659 (by decide +kernel) (by decide +kernel), j_in 119 (by decide +kernel) (by decide +kernel), by decide +kernel, by decide +kernel, by decide +kernel⟩
theorem cvRX1_270 : j_CS RX1 270 yX2_recalled := ⟨Or.inl (j_in 657 (by decide +kernel) (by decide +kernel)), j_in 658 (by decide +kernel) (by decide +kernel)⟩
theorem cb_X7_value : j_CB yX7_value cX7_value 1 (some .int) 1 := ⟨by decide +kernel, j_in 613 (by decide +kernel) (by decide +kernel), j_in 116 (by decide +kernel) (by decide +kernel), by decide +kernel, by decide +kernel, by decide +kernel⟩
theorem cvRX1_236 : j_CS RX1 236 yX7_value := ⟨Or.inl (j_in 611 (by decide +kernel) (by decide +kernel)), j_in 612 (by decide +kernel) (by decide +kernel)⟩
theorem cb_X5_countEnd : j_CB yX5_countEnd cX5_countEnd 3 none 2 := ⟨by decide +kernel, j_in 617 (by decide +kernel) (by decide +kernel), j_in 109 (by decide +kernel) (by decide +kernel), by decide +kernel, by decide +kernel, by decide +kernel⟩
theorem cvRX1_239 : j_CV RX1 239 yX5_countEnd := ⟨Or.inl (j_in 614 (by decide +kernel) (by decide +kernel)), j_in 615 (by decide +kernel) (by decide +kernel), j_in 616 (by decide +kernel) (by decide +kernel)⟩
theorem cb_X7_isForGood : j_CB yX7_isForGood cX7_isForGood 1 (some .boolean) 1 := ⟨by decide +kernel, j_in 623 (by decide +kernel) (by decide +kernel), j_in 116 (by decide +kernel) (by decide +kernel), by decide +kernel, by decide +kernel, by decide +kernel⟩
theorem cvRX1_242 : j_CS RX1 242 yX7_isForGood := ⟨Or.inl (j_in 621 (by decide +kernel) (by decide +kernel)), j_in 622 (by decide +kernel) (by decide +kernel)⟩
theorem cb_X1_closeEntry : j_CB yX1_closeEntry cX1_closeEntry 5 none 2 := ⟨by decide +kernel, j_in 627 (by decide +kernel) (by decide +kernel), j_in 110 (by decide +kernel) (by decide +kernel), by decide +kernel, by decide +kernel, by decide +kernel⟩
theorem cvRX1_245 : j_CV RX1 245 yX1_closeEntry := ⟨Or.inl (j_in 624 (by decide +kernel) (by decide +kernel)), j_in 625 (by decide +kernel) (by decide +kernel), j_in 626 (by decide +kernel) (by decide +kernel)⟩
theorem cb_X1_postToOthers : j_CB yX1_postToOthers cX1_postToOthers 6 none 4 := ⟨by decide +kernel, j_in 638 (by decide +kernel) (by decide +kernel), j_in 110 (by decide +kernel) (by decide +kernel), by decide +kernel, by decide +kernel, by decide +kernel⟩
theorem cvRX1_256 : j_CV RX1 256 yX1_postToOthers := ⟨Or.inl (j_in 635 (by decide +kernel) (by decide +kernel)), j_in 636 (by decide +kernel) (by decide +kernel), j_in 637 (by decide +kernel) (by decide +kernel)⟩
theorem fRX1_185 : j_F RX1 185 1 13 := ⟨RX5, TX5, 15, rfl, by decide, ws_in1, j_in 180 (by decide +kernel) (by decide +kernel)⟩
theorem cb_X1_linesHeld : j_CB yX1_linesHeld cX1_linesHeld 5 (some .int) 1 := ⟨by decide +kernel, j_in 606 (by decide +kernel) (by decide +kernel), j_in 110 (by decide +kernel) (by decide +kernel), by decide +kernel, by decide +kernel, by decide +kernel⟩
theorem cvRX1_227 : j_CV RX1 227 yX1_linesHeld := ⟨Or.inl (j_in 603 (by decide +kernel) (by decide +kernel)), j_in 604 (by decide +kernel) (by decide +kernel), j_in 605 (by decide +kernel) (by decide +kernel)⟩
theorem cb_X1_missedLine : j_CB yX1_missedLine cX1_missedLine 3 (some .int) 1 := ⟨by decide +kernel, j_in 545 (by decide +kernel) (by decide +kernel), j_in 110 (by decide +kernel) (by decide +kernel), by decide +kernel, by decide +kernel, by decide +kernel⟩
theorem cvRX1_173 : j_CV RX1 173 yX1_missedLine := ⟨Or.inl (j_in 542 (by decide +kernel) (by decide +kernel)), j_in 543 (by decide +kernel) (by decide +kernel), j_in 544 (by decide +kernel) (by decide +kernel)⟩
theorem cb_X1_evictLine : j_CB yX1_evictLine cX1_evictLine 5 none 2 := ⟨by decide +kernel, j_in 553 (by decide +kernel) (by decide +kernel), j_in 110 (by decide +kernel) (by decide +kernel), by decide +kernel, by decide +kernel, by decide +kernel⟩
theorem cvRX1_179 : j_CV RX1 179 yX1_evictLine := ⟨Or.inl (j_in 550 (by decide +kernel) (by decide +kernel)), j_in 551 (by decide +kernel) (by decide +kernel), j_in 552 (by decide +kernel) (by decide +kernel)⟩
theorem cb_X1_endMiss : j_CB yX1_endMiss cX1_endMiss 5 none 1 := ⟨by decide +kernel, j_in 610 (by decide +kernel) (by decide +kernel), j_in 110 (by decide +kernel) (by decide +kernel), by decide +kernel, by decide +kernel, by decide +kernel⟩
theorem cvRX1_230 : j_CV RX1 230 yX1_endMiss := ⟨Or.inl (j_in 607 (by decide +kernel) (by decide +kernel)), j_in 608 (by decide +kernel) (by decide +kernel), j_in 609 (by decide +kernel) (by decide +kernel)⟩
theorem fRX1_195 : j_F RX1 195 1 14 := ⟨RX5, TX5, 15, rfl, by decide, ws_in1, j_in 182 (by decide +kernel) (by decide +kernel)⟩
theorem cb_X4_from : j_CB yX4_from cX4_from 1 (some .int) 1 := ⟨by decide +kernel, j_in 574 (by decide +kernel) (by decide +kernel), j_in 117 (by decide +kernel) (by decide +kernel), by decide +kernel, by decide +kernel, by decide +kernel⟩
theorem cvRX1_198 : j_CS RX1 198 yX4_from := ⟨Or.inl (j_in 572 (by decide +kernel) (by decide +kernel)), j_in 573 (by decide +kernel) (by decide +kernel)⟩
theorem cb_X4_to : j_CB yX4_to cX4_to 1 (some .int) 1 := ⟨by decide +kernel, j_in 577 (by decide +kernel) (by decide +kernel), j_in 117 (by decide +kernel) (by decide +kernel), by decide +kernel, by decide +kernel, by decide +kernel⟩
theorem cvRX1_201 : j_CS RX1 201 yX4_to := ⟨Or.inl (j_in 575 (by decide +kernel) (by decide +kernel)), j_in 576 (by decide +kernel) (by decide +kernel)⟩
theorem cb_X4_line : j_CB yX4_line cX4_line 1 (some .int) 1 := ⟨by decide +kernel, j_in 580 (by decide +kernel) (by decide +kernel), j_in 117 (by decide +kernel) (by decide +kernel), by decide +kernel, by decide +kernel, by decide +kernel⟩
theorem cvRX1_204 : j_CS RX1 204 yX4_line := ⟨Or.inl (j_in 578 (by decide +kernel) (by decide +kernel)), j_in 579 (by decide +kernel) (by decide +kernel)⟩
theorem cb_X1_answer : j_CB yX1_answer cX1_answer 8 none 4 := ⟨by decide +kernel, j_in 584 (by decide +kernel) (by decide +kernel), j_in 110 (by decide +kernel) (by decide +kernel), by decide +kernel, by decide +kernel, by decide +kernel⟩
theorem cvRX1_205 : j_CV RX1 205 yX1_answer := ⟨Or.inl (j_in 581 (by decide +kernel) (by decide +kernel)), j_in 582 (by decide +kernel) (by decide +kernel), j_in 583 (by decide +kernel) (by decide +kernel)⟩
theorem cb_X4_cargo : j_CB yX4_cargo cX4_cargo 1 (some .int) 1 := ⟨by decide +kernel, j_in 598 (by decide +kernel) (by decide +kernel), j_in 117 (by decide +kernel) (by decide +kernel), by decide +kernel, by decide +kernel, by decide +kernel⟩
theorem cvRX1_208 : j_CS RX1 208 yX4_cargo := ⟨Or.inl (j_in 596 (by decide +kernel) (by decide +kernel)), j_in 597 (by decide +kernel) (by decide +kernel)⟩
theorem cb_X1_takeTokens : j_CB yX1_takeTokens cX1_takeTokens 8 none 4 := ⟨by decide +kernel, j_in 602 (by decide +kernel) (by decide +kernel), j_in 110 (by decide +kernel) (by decide +kernel), by decide +kernel, by decide +kernel, by decide +kernel⟩
theorem cvRX1_211 : j_CV RX1 211 yX1_takeTokens := ⟨Or.inl (j_in 599 (by decide +kernel) (by decide +kernel)), j_in 600 (by decide +kernel) (by decide +kernel), j_in 601 (by decide +kernel) (by decide +kernel)⟩
theorem cb_X1_heedForGood : j_CB yX1_heedForGood cX1_heedForGood 7 none 4 := ⟨by decide +kernel, j_in 649 (by decide +kernel) (by decide +kernel), j_in 110 (by decide +kernel) (by decide +kernel), by decide +kernel, by decide +kernel, by decide +kernel⟩
theorem cvRX1_214 : j_CV RX1 214 yX1_heedForGood := ⟨Or.inl (j_in 646 (by decide +kernel) (by decide +kernel)), j_in 647 (by decide +kernel) (by decide +kernel), j_in 648 (by decide +kernel) (by decide +kernel)⟩
theorem cb_X1_heedRecall : j_CB yX1_heedRecall cX1_heedRecall 7 none 4 := ⟨by decide +kernel, j_in 656 (by decide +kernel) (by decide +kernel), j_in 110 (by decide +kernel) (by decide +kernel), by decide +kernel, by decide +kernel, by decide +kernel⟩
theorem cvRX1_217 : j_CV RX1 217 yX1_heedRecall := ⟨Or.inl (j_in 653 (by decide +kernel) (by decide +kernel)), j_in 654 (by decide +kernel) (by decide +kernel), j_in 655 (by decide +kernel) (by decide +kernel)⟩
theorem fRX1_267 : j_F RX1 267 1 10 := ⟨RX5, TX5, 15, rfl, by decide, ws_in1, j_in 174 (by decide +kernel) (by decide +kernel)⟩
theorem cb_X2_isMarked : j_CB yX2_isMarked cX2_isMarked 1 (some .boolean) 1 := ⟨by decide +kernel, j_in 682 (by decide +kernel) (by decide +kernel), j_in 119 (by decide +kernel) (by decide +kernel), by decide +kernel, by decide +kernel, by decide +kernel⟩
theorem cvRX1_282 : j_CS RX1 282 yX2_isMarked := ⟨Or.inl (j_in 680 (by decide +kernel) (by decide +kernel)), j_in 681 (by decide +kernel) (by decide +kernel)⟩
theorem fp_0_14 : j_FP 0 14 .int := ⟨RX1, TX1, 15, tyX1, rfl, tyX1_ok, nmX1, rfl, by decide +kernel⟩
theorem cb_J7_fill_53178 : j_CB yJ7_fill_53178 cJ7_fill_53178 4 none 2 := ⟨by decide +kernel, j_in 223 (by decide +kernel) (by decide +kernel), j_in 111 (by decide +kernel) (by decide +kernel), by decide +kernel, by decide +kernel, by decide +kernel⟩
theorem cvRX1_50 : j_CS RX1 50 yJ7_fill_53178 := ⟨Or.inl (j_in 221 (by decide +kernel) (by decide +kernel)), j_in 222 (by decide +kernel) (by decide +kernel)⟩
theorem cb_X1_mustWait : j_CB yX1_mustWait cX1_mustWait 6 (some .boolean) 2 := ⟨by decide +kernel, j_in 679 (by decide +kernel) (by decide +kernel), j_in 110 (by decide +kernel) (by decide +kernel), by decide +kernel, by decide +kernel, by decide +kernel⟩
theorem cvRX1_276 : j_CV RX1 276 yX1_mustWait := ⟨Or.inl (j_in 676 (by decide +kernel) (by decide +kernel)), j_in 677 (by decide +kernel) (by decide +kernel), j_in 678 (by decide +kernel) (by decide +kernel)⟩
theorem cb_X1_askForGood : j_CB yX1_askForGood cX1_askForGood 7 none 1 := ⟨by decide +kernel, j_in 686 (by decide +kernel) (by decide +kernel), j_in 110 (by decide +kernel) (by decide +kernel), by decide +kernel, by decide +kernel, by decide +kernel⟩
theorem cvRX1_279 : j_CV RX1 279 yX1_askForGood := ⟨Or.inl (j_in 683 (by decide +kernel) (by decide +kernel)), j_in 684 (by decide +kernel) (by decide +kernel), j_in 685 (by decide +kernel) (by decide +kernel)⟩
theorem cb_X1_deliverAt : j_CB yX1_deliverAt cX1_deliverAt 7 (some .int) 1 := ⟨by decide +kernel, j_in 568 (by decide +kernel) (by decide +kernel), j_in 110 (by decide +kernel) (by decide +kernel), by decide +kernel, by decide +kernel, by decide +kernel⟩
theorem cvRX1_192 : j_CV RX1 192 yX1_deliverAt := ⟨Or.inl (j_in 695 (by decide +kernel) (by decide +kernel)), j_in 566 (by decide +kernel) (by decide +kernel), j_in 567 (by decide +kernel) (by decide +kernel)⟩
theorem cb_X1_tickOnce : j_CB yX1_tickOnce cX1_tickOnce 4 none 0 := ⟨by decide +kernel, j_in 675 (by decide +kernel) (by decide +kernel), j_in 110 (by decide +kernel) (by decide +kernel), by decide +kernel, by decide +kernel, by decide +kernel⟩
theorem cvRX1_273 : j_CV RX1 273 yX1_tickOnce := ⟨Or.inl (j_in 672 (by decide +kernel) (by decide +kernel)), j_in 673 (by decide +kernel) (by decide +kernel), j_in 674 (by decide +kernel) (by decide +kernel)⟩
theorem cb_X4_inside : j_CB yX4_inside cX4_inside 6 (some .int) 2 := ⟨by decide +kernel, j_in 930 (by decide +kernel) (by decide +kernel), j_in 117 (by decide +kernel) (by decide +kernel), by decide +kernel, by decide +kernel, by decide +kernel⟩
theorem cvRX1_288 : j_CS RX1 288 yX4_inside := ⟨Or.inl (j_in 1087 (by decide +kernel) (by decide +kernel)), j_in 929 (by decide +kernel) (by decide +kernel)⟩
theorem cb_X1_howManyMiss : j_CB yX1_howManyMiss cX1_howManyMiss 3 (some .int) 0 := ⟨by decide +kernel, j_in 1161 (by decide +kernel) (by decide +kernel), j_in 110 (by decide +kernel) (by decide +kernel), by decide +kernel, by decide +kernel, by decide +kernel⟩
theorem cvRX1_297 : j_CV RX1 297 yX1_howManyMiss := ⟨Or.inl (j_in 1158 (by decide +kernel) (by decide +kernel)), j_in 1159 (by decide +kernel) (by decide +kernel), j_in 1160 (by decide +kernel) (by decide +kernel)⟩
theorem cb_X1_allTokensOnWay : j_CB yX1_allTokensOnWay cX1_allTokensOnWay 3 (some .int) 0 := ⟨by decide +kernel, j_in 1157 (by decide +kernel) (by decide +kernel), j_in 110 (by decide +kernel) (by decide +kernel), by decide +kernel, by decide +kernel, by decide +kernel⟩
theorem cvRX1_294 : j_CV RX1 294 yX1_allTokensOnWay := ⟨Or.inl (j_in 1154 (by decide +kernel) (by decide +kernel)), j_in 1155 (by decide +kernel) (by decide +kernel), j_in 1156 (by decide +kernel) (by decide +kernel)⟩
theorem cb_X1_isNode : j_CB yX1_isNode cX1_isNode 2 (some .boolean) 1 := ⟨by decide +kernel, j_in 884 (by decide +kernel) (by decide +kernel), j_in 110 (by decide +kernel) (by decide +kernel), by decide +kernel, by decide +kernel, by decide +kernel⟩
theorem cvRX1_291 : j_CV RX1 291 yX1_isNode := ⟨Or.inl (j_in 1096 (by decide +kernel) (by decide +kernel)), j_in 882 (by decide +kernel) (by decide +kernel), j_in 883 (by decide +kernel) (by decide +kernel)⟩
theorem cb_X1_ownerNode : j_CB yX1_ownerNode cX1_ownerNode 3 (some .int) 1 := ⟨by decide +kernel, j_in 1070 (by decide +kernel) (by decide +kernel), j_in 110 (by decide +kernel) (by decide +kernel), by decide +kernel, by decide +kernel, by decide +kernel⟩
theorem cvRX1_285 : j_CV RX1 285 yX1_ownerNode := ⟨Or.inl (j_in 1126 (by decide +kernel) (by decide +kernel)), j_in 1068 (by decide +kernel) (by decide +kernel), j_in 1069 (by decide +kernel) (by decide +kernel)⟩
theorem dX1_ask_0 : decode cX1_ask 0 = .ok (.aload_n 0, 1) := by decide +kernel
theorem dX1_ask_1 : decode cX1_ask 1 = .ok (.iload_n 1, 1) := by decide +kernel
theorem dX1_ask_2 : decode cX1_ask 2 = .ok (.invokevirtual 85, 3) := by decide +kernel
theorem dX1_ask_5 : decode cX1_ask 5 = .ok (.istore_n 2, 1) := by decide +kernel
theorem dX1_ask_6 : decode cX1_ask 6 = .ok (.iload_n 2, 1) := by decide +kernel
theorem dX1_ask_7 : decode cX1_ask 7 = .ok (.invokestatic 77, 3) := by decide +kernel
theorem dX1_ask_10 : decode cX1_ask 10 = .ok (.istore_n 3, 1) := by decide +kernel
theorem dX1_ask_11 : decode cX1_ask 11 = .ok (.iload_n 2, 1) := by decide +kernel
theorem dX1_ask_12 : decode cX1_ask 12 = .ok (.invokestatic 142, 3) := by decide +kernel
theorem dX1_ask_15 : decode cX1_ask 15 = .ok (.iconst 1, 1) := by decide +kernel
theorem dX1_ask_16 : decode cX1_ask 16 = .ok (.if_icmp .ne 7, 3) := by decide +kernel
theorem dX1_ask_19 : decode cX1_ask 19 = .ok (.iconst 1, 1) := by decide +kernel
theorem dX1_ask_20 : decode cX1_ask 20 = .ok (.goto 4, 3) := by decide +kernel
theorem dX1_ask_23 : decode cX1_ask 23 = .ok (.iconst 2, 1) := by decide +kernel
theorem dX1_ask_24 : decode cX1_ask 24 = .ok (.istore 4, 2) := by decide +kernel
theorem dX1_ask_26 : decode cX1_ask 26 = .ok (.aload_n 0, 1) := by decide +kernel
theorem dX1_ask_27 : decode cX1_ask 27 = .ok (.iload_n 1, 1) := by decide +kernel
theorem dX1_ask_28 : decode cX1_ask 28 = .ok (.iload_n 3, 1) := by decide +kernel
theorem dX1_ask_29 : decode cX1_ask 29 = .ok (.invokevirtual 145, 3) := by decide +kernel
theorem dX1_ask_32 : decode cX1_ask 32 = .ok (.istore 5, 2) := by decide +kernel
theorem dX1_ask_34 : decode cX1_ask 34 = .ok (.aload_n 0, 1) := by decide +kernel
theorem dX1_ask_35 : decode cX1_ask 35 = .ok (.invokevirtual 148, 3) := by decide +kernel
theorem dX1_ask_38 : decode cX1_ask 38 = .ok (.istore 6, 2) := by decide +kernel
theorem dX1_ask_40 : decode cX1_ask 40 = .ok (.iconst 0, 1) := by decide +kernel
theorem dX1_ask_41 : decode cX1_ask 41 = .ok (.istore 7, 2) := by decide +kernel
theorem dX1_ask_43 : decode cX1_ask 43 = .ok (.iload 7, 2) := by decide +kernel
theorem dX1_ask_45 : decode cX1_ask 45 = .ok (.bipush 7, 2) := by decide +kernel
theorem dX1_ask_47 : decode cX1_ask 47 = .ok (.if_icmp .ge 59, 3) := by decide +kernel
theorem dX1_ask_50 : decode cX1_ask 50 = .ok (.iload 5, 2) := by decide +kernel
theorem dX1_ask_52 : decode cX1_ask 52 = .ok (.iload 7, 2) := by decide +kernel
theorem dX1_ask_54 : decode cX1_ask 54 = .ok (.iushr, 1) := by decide +kernel
theorem dX1_ask_55 : decode cX1_ask 55 = .ok (.iconst 1, 1) := by decide +kernel
theorem dX1_ask_56 : decode cX1_ask 56 = .ok (.iand, 1) := by decide +kernel
theorem dX1_ask_57 : decode cX1_ask 57 = .ok (.ifCond .ne 6, 3) := by decide +kernel
theorem dX1_ask_60 : decode cX1_ask 60 = .ok (.goto 40, 3) := by decide +kernel
theorem dX1_ask_63 : decode cX1_ask 63 = .ok (.iload 6, 2) := by decide +kernel
theorem dX1_ask_65 : decode cX1_ask 65 = .ok (.bipush 60, 2) := by decide +kernel
theorem dX1_ask_67 : decode cX1_ask 67 = .ok (.if_icmp .ge 20, 3) := by decide +kernel
theorem dX1_ask_70 : decode cX1_ask 70 = .ok (.aload_n 0, 1) := by decide +kernel
theorem dX1_ask_71 : decode cX1_ask 71 = .ok (.iload_n 1, 1) := by decide +kernel
theorem dX1_ask_72 : decode cX1_ask 72 = .ok (.iload 7, 2) := by decide +kernel
theorem dX1_ask_74 : decode cX1_ask 74 = .ok (.iload 4, 2) := by decide +kernel
theorem dX1_ask_76 : decode cX1_ask 76 = .ok (.iload_n 3, 1) := by decide +kernel
theorem dX1_ask_77 : decode cX1_ask 77 = .ok (.iconst 0, 1) := by decide +kernel
theorem dX1_ask_78 : decode cX1_ask 78 = .ok (.invokevirtual 152, 3) := by decide +kernel
theorem dX1_ask_81 : decode cX1_ask 81 = .ok (.iinc 6 1, 3) := by decide +kernel
theorem dX1_ask_84 : decode cX1_ask 84 = .ok (.goto 16, 3) := by decide +kernel
theorem dX1_ask_87 : decode cX1_ask 87 = .ok (.aload_n 0, 1) := by decide +kernel
theorem dX1_ask_88 : decode cX1_ask 88 = .ok (.getfield 46, 3) := by decide +kernel
theorem dX1_ask_91 : decode cX1_ask 91 = .ok (.dup, 1) := by decide +kernel
theorem dX1_ask_92 : decode cX1_ask 92 = .ok (.getfield 156, 3) := by decide +kernel
theorem dX1_ask_95 : decode cX1_ask 95 = .ok (.iconst 1, 1) := by decide +kernel
theorem dX1_ask_96 : decode cX1_ask 96 = .ok (.iadd, 1) := by decide +kernel
theorem dX1_ask_97 : decode cX1_ask 97 = .ok (.putfield 156, 3) := by decide +kernel
theorem dX1_ask_100 : decode cX1_ask 100 = .ok (.iinc 7 1, 3) := by decide +kernel
theorem dX1_ask_103 : decode cX1_ask 103 = .ok (.goto (-60), 3) := by decide +kernel
theorem dX1_ask_106 : decode cX1_ask 106 = .ok (.return_, 1) := by decide +kernel
def xX1_ask_43  (t : Nat) : Nat → Int32 → Int32 → Int32 → Int32 → Int32 → Int32 → j_M → Option (j_M)
  | 0, _, _, _, _, _, _, _ => none
  | n + 1, l1, l3, l4, l5, l6, l7, M => (if (nI 7) ≤ l7 then some M else (if (us l5 l7) &&& (nI 1) = (0 : Int32) then xX1_ask_43 t n l1 l3 l4 l5 l6 (l7 + (nI 1)) M else (if (nI 60) ≤ l6 then oli (M (t + 8) 12) fun v1 => oml (mw M (t + 8) 12 (v1 + (nI 1))) fun M2 => xX1_ask_43 t n l1 l3 l4 l5 l6 (l7 + (nI 1)) M2 else obv (xX1_post t l1 l7 l4 l3 (nI 0) M) fun M3 => xX1_ask_43 t n l1 l3 l4 l5 (l6 + (nI 1)) (l7 + (nI 1)) M3)))
set_option maxRecDepth 20000 in
set_option maxHeartbeats 2000000 in
theorem tX1_ask_43  (t : Nat)  : ∀ (n : Nat) (l1 : Int32) (l3 : Int32) (l4 : Int32) (l5 : Int32) (l6 : Int32) (l7 : Int32) (M : j_M), J (ρ := j_M) yX1_ask cX1_ask 8 none 2 42 j_ev 43 [(0, .inr (10, 0, t)), (1, .inl (l1)), (3, .inl (l3)), (4, .inl (l4)), (5, .inl (l5)), (6, .inl (l6)), (7, .inl (l7))] [] M (xX1_ask_43 t n l1 l3 l4 l5 l6 l7 M) := by
  intro n
  induction n with
  | zero => intros; exact J_none
  | succ n ih =>
    intro l1 l3 l4 l5 l6 l7 M
    rw [xX1_ask_43.eq_2]
    refine K_iload (q := 45) 6 dX1_ask_43 rfl rfl ?_
    refine K_bipush (q := 47) (v := nI 7) dX1_ask_45 rfl rfl ?_
    refine K_icmp_ge (q := 50) (tgt := 106) dX1_ask_47 rfl ?_ rfl ?_
    · exact J_vret dX1_ask_106
    · refine K_iload (q := 52) 4 dX1_ask_50 rfl rfl ?_
      refine K_iload (q := 54) 6 dX1_ask_52 rfl rfl ?_
      refine K_iushr (q := 55) dX1_ask_54 rfl ?_
      refine K_iconst (q := 56) (v := nI 1) dX1_ask_55 rfl rfl ?_
      refine K_iand (q := 57) dX1_ask_56 rfl ?_
      refine K_if_ne (q := 60) (tgt := 63) dX1_ask_57 rfl ?_ rfl ?_
      · refine K_iload (q := 65) 5 dX1_ask_63 rfl rfl ?_
        refine K_bipush (q := 67) (v := nI 60) dX1_ask_65 rfl rfl ?_
        refine K_icmp_ge (q := 70) (tgt := 87) dX1_ask_67 rfl ?_ rfl ?_
        · refine K_aload_n (q := 88) 0 dX1_ask_87 rfl rfl rfl ?_
          refine K_getR (q := 91) (ci := 0) (a2 := t + 8) 0 dX1_ask_88 fRX1_46 rfl rfl (by decide) rfl rfl ?_
          refine K_dup (q := 92) dX1_ask_91 rfl ?_
          refine K_getI (q := 95) (ci := 1) 12 dX1_ask_92 fRX1_156 rfl rfl rfl (fun v1 => ?_)
          refine K_iconst (q := 96) (v := nI 1) dX1_ask_95 rfl rfl ?_
          refine K_iadd (q := 97) dX1_ask_96 rfl ?_
          refine K_putI (q := 100) (ci := 1) 12 dX1_ask_97 fRX1_156 fp_1_12 rfl rfl (by decide) rfl (fun M2 => ?_)
          refine K_iinc (q := 103) (v := l7 + (nI 1)) (ll' := [(7, .inl (l7 + (nI 1))), (0, .inr (10, 0, t)), (1, .inl (l1)), (3, .inl (l3)), (4, .inl (l4)), (5, .inl (l5)), (6, .inl (l6))]) 6 dX1_ask_100 rfl rfl (by decide) rfl rfl ?_
          refine J_goto (tgt := 43) dX1_ask_103 rfl ?_
          exact J_sub [1, 2, 3, 4, 5, 6, 0] (ih l1 l3 l4 l5 l6 (l7 + (nI 1)) M2) rfl
        · refine K_aload_n (q := 71) 0 dX1_ask_70 rfl rfl rfl ?_
          refine K_iload_n (q := 72) 1 dX1_ask_71 rfl rfl rfl ?_
          refine K_iload (q := 74) 6 dX1_ask_72 rfl rfl ?_
          refine K_iload (q := 76) 3 dX1_ask_74 rfl rfl ?_
          refine K_iload_n (q := 77) 2 dX1_ask_76 rfl rfl rfl ?_
          refine K_iconst (q := 78) (v := nI 0) dX1_ask_77 rfl rfl ?_
          refine K_cvv (q := 81) [.inl (l1), .inl (l7), .inl (l4), .inl (l3), .inl ((nI 0))] dX1_ask_78 cb_X1_post cvRX1_152 rc_0 (show (10 : Nat) ≠ 0 by decide) rfl (Nat.le_of_ble_eq_true rfl) ⟨by decide, by decide⟩ (Nat.le_of_ble_eq_true rfl) rfl (tX1_post t l1 l7 l4 l3 (nI 0) M) rfl (fun M3 => ?_)
          refine K_iinc (q := 84) (v := l6 + (nI 1)) (ll' := [(6, .inl (l6 + (nI 1))), (0, .inr (10, 0, t)), (1, .inl (l1)), (3, .inl (l3)), (4, .inl (l4)), (5, .inl (l5)), (7, .inl (l7))]) 5 dX1_ask_81 rfl rfl (by decide) rfl rfl ?_
          refine J_goto (tgt := 100) dX1_ask_84 rfl ?_
          refine K_iinc (q := 103) (v := l7 + (nI 1)) (ll' := [(7, .inl (l7 + (nI 1))), (6, .inl (l6 + (nI 1))), (0, .inr (10, 0, t)), (1, .inl (l1)), (3, .inl (l3)), (4, .inl (l4)), (5, .inl (l5))]) 6 dX1_ask_100 rfl rfl (by decide) rfl rfl ?_
          refine J_goto (tgt := 43) dX1_ask_103 rfl ?_
          exact J_sub [2, 3, 4, 5, 6, 1, 0] (ih l1 l3 l4 l5 (l6 + (nI 1)) (l7 + (nI 1)) M3) rfl
      · refine J_goto (tgt := 100) dX1_ask_60 rfl ?_
        refine K_iinc (q := 103) (v := l7 + (nI 1)) (ll' := [(7, .inl (l7 + (nI 1))), (0, .inr (10, 0, t)), (1, .inl (l1)), (3, .inl (l3)), (4, .inl (l4)), (5, .inl (l5)), (6, .inl (l6))]) 6 dX1_ask_100 rfl rfl (by decide) rfl rfl ?_
        refine J_goto (tgt := 43) dX1_ask_103 rfl ?_
        exact J_sub [1, 2, 3, 4, 5, 6, 0] (ih l1 l3 l4 l5 l6 (l7 + (nI 1)) M) rfl
def xX1_ask_24  (t : Nat) (l1 : Int32) (l3 : Int32) (s0 : Int32) (M : j_M) : Option (j_M) := obi (xX1_whomToAsk t l1 l3 M) fun v2 M1 => obi (xX1_askingOnWay t M1) fun v4 M3 => xX1_ask_43 t fu l1 l3 s0 v2 v4 (nI 0) M3
set_option maxRecDepth 20000 in
set_option maxHeartbeats 2000000 in
theorem tX1_ask_24  (t : Nat)  (l1 : Int32) (l3 : Int32) (s0 : Int32) (M : j_M) : J (ρ := j_M) yX1_ask cX1_ask 8 none 2 42 j_ev 24 [(0, .inr (10, 0, t)), (1, .inl (l1)), (3, .inl (l3))] [.inl (s0)] M (xX1_ask_24 t l1 l3 s0 M) := by
  unfold xX1_ask_24
  refine K_istore (q := 26) (ll' := [(4, .inl (s0)), (0, .inr (10, 0, t)), (1, .inl (l1)), (3, .inl (l3))]) dX1_ask_24 (by decide) rfl rfl ?_
  refine K_aload_n (q := 27) 1 dX1_ask_26 rfl rfl rfl ?_
  refine K_iload_n (q := 28) 2 dX1_ask_27 rfl rfl rfl ?_
  refine K_iload_n (q := 29) 3 dX1_ask_28 rfl rfl rfl ?_
  refine K_cvi (q := 32) [.inl (l1), .inl (l3)] dX1_ask_29 cb_X1_whomToAsk cvRX1_145 rc_0 (show (10 : Nat) ≠ 0 by decide) rfl (Nat.le_of_ble_eq_true rfl) ⟨by decide, by decide⟩ (Nat.le_of_ble_eq_true rfl) rfl (tX1_whomToAsk t l1 l3 M) rfl (fun v2 M1 => ?_)
  refine K_istore (q := 34) (ll' := [(5, .inl (v2)), (4, .inl (s0)), (0, .inr (10, 0, t)), (1, .inl (l1)), (3, .inl (l3))]) dX1_ask_32 (by decide) rfl rfl ?_
  refine K_aload_n (q := 35) 2 dX1_ask_34 rfl rfl rfl ?_
  refine K_cvi (q := 38) [] dX1_ask_35 cb_X1_askingOnWay cvRX1_148 rc_0 (show (10 : Nat) ≠ 0 by decide) rfl (Nat.le_of_ble_eq_true rfl) ⟨by decide, by decide⟩ (Nat.le_of_ble_eq_true rfl) rfl (tX1_askingOnWay t M1) rfl (fun v4 M3 => ?_)
  refine K_istore (q := 40) (ll' := [(6, .inl (v4)), (5, .inl (v2)), (4, .inl (s0)), (0, .inr (10, 0, t)), (1, .inl (l1)), (3, .inl (l3))]) dX1_ask_38 (by decide) rfl rfl ?_
  refine K_iconst (q := 41) (v := nI 0) dX1_ask_40 rfl rfl ?_
  refine K_istore (q := 43) (ll' := [(7, .inl ((nI 0))), (6, .inl (v4)), (5, .inl (v2)), (4, .inl (s0)), (0, .inr (10, 0, t)), (1, .inl (l1)), (3, .inl (l3))]) dX1_ask_41 (by decide) rfl rfl ?_
  exact J_sub [4, 5, 6, 3, 2, 1, 0] (tX1_ask_43 t fu l1 l3 s0 v2 v4 (nI 0) M3) rfl
def xX1_ask (t : Nat) (l1 : Int32) (M : j_M) : Option (j_M) := obi (xX1_missOf t l1 M) fun v2 M1 => obi (xX7_line v2 M1) fun v4 M3 => obi (xX7_what v2 M3) fun v6 M5 => (if v6 = (nI 1) then xX1_ask_24 t l1 v4 (nI 1) M5 else xX1_ask_24 t l1 v4 (nI 2) M5)
set_option maxRecDepth 20000 in
set_option maxHeartbeats 2000000 in
theorem tX1_ask (t : Nat) (l1 : Int32) (M : j_M) : J (ρ := j_M) yX1_ask cX1_ask 8 none 2 42 j_ev 0 [(0, .inr (10, 0, t)), (1, .inl (l1))] [] M (xX1_ask t l1 M) := by
  unfold xX1_ask
  refine K_aload_n (q := 1) 0 dX1_ask_0 rfl rfl rfl ?_
  refine K_iload_n (q := 2) 1 dX1_ask_1 rfl rfl rfl ?_
  refine K_cvi (q := 5) [.inl (l1)] dX1_ask_2 cb_X1_missOf cvRX1_85 rc_0 (show (10 : Nat) ≠ 0 by decide) rfl (Nat.le_of_ble_eq_true rfl) ⟨by decide, by decide⟩ (Nat.le_of_ble_eq_true rfl) rfl (tX1_missOf t l1 M) rfl (fun v2 M1 => ?_)
  refine K_istore_n (q := 6) (ll' := [(2, .inl (v2)), (0, .inr (10, 0, t)), (1, .inl (l1))]) dX1_ask_5 rfl (by decide) rfl rfl ?_
  refine K_iload_n (q := 7) 0 dX1_ask_6 rfl rfl rfl ?_
  refine K_csi (q := 10) [.inl (v2)] dX1_ask_7 cb_X7_line cvRX1_77 rfl (Nat.le_of_ble_eq_true rfl) ⟨by decide, by decide⟩ (Nat.le_of_ble_eq_true rfl) rfl (tX7_line v2 M1) rfl (fun v4 M3 => ?_)
  refine K_istore_n (q := 11) (ll' := [(3, .inl (v4)), (2, .inl (v2)), (0, .inr (10, 0, t)), (1, .inl (l1))]) dX1_ask_10 rfl (by decide) rfl rfl ?_
  refine K_iload_n (q := 12) 1 dX1_ask_11 rfl rfl rfl ?_
  refine K_csi (q := 15) [.inl (v2)] dX1_ask_12 cb_X7_what cvRX1_142 rfl (Nat.le_of_ble_eq_true rfl) ⟨by decide, by decide⟩ (Nat.le_of_ble_eq_true rfl) rfl (tX7_what v2 M3) rfl (fun v6 M5 => ?_)
  refine K_iconst (q := 16) (v := nI 1) dX1_ask_15 rfl rfl ?_
  refine K_icmp_ne (q := 19) (tgt := 23) dX1_ask_16 rfl ?_ rfl ?_
  · refine K_iconst (q := 24) (v := nI 2) dX1_ask_23 rfl rfl ?_
    exact J_sub [2, 3, 0] (tX1_ask_24 t l1 v4 (nI 2) M5) rfl
  · refine K_iconst (q := 20) (v := nI 1) dX1_ask_19 rfl rfl ?_
    refine J_goto (tgt := 24) dX1_ask_20 rfl ?_
    exact J_sub [2, 3, 0] (tX1_ask_24 t l1 v4 (nI 1) M5) rfl
theorem dX1_perform_0 : decode cX1_perform 0 = .ok (.iload_n 1, 1) := by decide +kernel
theorem dX1_perform_1 : decode cX1_perform 1 = .ok (.invokestatic 73, 3) := by decide +kernel
theorem dX1_perform_4 : decode cX1_perform 4 = .ok (.istore 5, 2) := by decide +kernel
theorem dX1_perform_6 : decode cX1_perform 6 = .ok (.iload 5, 2) := by decide +kernel
theorem dX1_perform_8 : decode cX1_perform 8 = .ok (.iload_n 2, 1) := by decide +kernel
theorem dX1_perform_9 : decode cX1_perform 9 = .ok (.iadd, 1) := by decide +kernel
theorem dX1_perform_10 : decode cX1_perform 10 = .ok (.istore 6, 2) := by decide +kernel
theorem dX1_perform_12 : decode cX1_perform 12 = .ok (.aload_n 0, 1) := by decide +kernel
theorem dX1_perform_13 : decode cX1_perform 13 = .ok (.getfield 11, 3) := by decide +kernel
theorem dX1_perform_16 : decode cX1_perform 16 = .ok (.iload 6, 2) := by decide +kernel
theorem dX1_perform_18 : decode cX1_perform 18 = .ok (.iaload, 1) := by decide +kernel
theorem dX1_perform_19 : decode cX1_perform 19 = .ok (.invokestatic 127, 3) := by decide +kernel
theorem dX1_perform_22 : decode cX1_perform 22 = .ok (.istore 7, 2) := by decide +kernel
theorem dX1_perform_24 : decode cX1_perform 24 = .ok (.iload_n 3, 1) := by decide +kernel
theorem dX1_perform_25 : decode cX1_perform 25 = .ok (.iconst 2, 1) := by decide +kernel
theorem dX1_perform_26 : decode cX1_perform 26 = .ok (.if_icmp .eq 13, 3) := by decide +kernel
theorem dX1_perform_29 : decode cX1_perform 29 = .ok (.aload_n 0, 1) := by decide +kernel
theorem dX1_perform_30 : decode cX1_perform 30 = .ok (.getfield 46, 3) := by decide +kernel
theorem dX1_perform_33 : decode cX1_perform 33 = .ok (.iload_n 1, 1) := by decide +kernel
theorem dX1_perform_34 : decode cX1_perform 34 = .ok (.iload 7, 2) := by decide +kernel
theorem dX1_perform_36 : decode cX1_perform 36 = .ok (.invokevirtual 130, 3) := by decide +kernel
theorem dX1_perform_39 : decode cX1_perform 39 = .ok (.iload_n 3, 1) := by decide +kernel
theorem dX1_perform_40 : decode cX1_perform 40 = .ok (.iconst 2, 1) := by decide +kernel
theorem dX1_perform_41 : decode cX1_perform 41 = .ok (.if_icmp .ne 25, 3) := by decide +kernel
theorem dX1_perform_44 : decode cX1_perform 44 = .ok (.aload_n 0, 1) := by decide +kernel
theorem dX1_perform_45 : decode cX1_perform 45 = .ok (.getfield 11, 3) := by decide +kernel
theorem dX1_perform_48 : decode cX1_perform 48 = .ok (.iload 6, 2) := by decide +kernel
theorem dX1_perform_50 : decode cX1_perform 50 = .ok (.aload_n 0, 1) := by decide +kernel
theorem dX1_perform_51 : decode cX1_perform 51 = .ok (.getfield 11, 3) := by decide +kernel
theorem dX1_perform_54 : decode cX1_perform 54 = .ok (.iload 6, 2) := by decide +kernel
theorem dX1_perform_56 : decode cX1_perform 56 = .ok (.iaload, 1) := by decide +kernel
theorem dX1_perform_57 : decode cX1_perform 57 = .ok (.iload 4, 2) := by decide +kernel
theorem dX1_perform_59 : decode cX1_perform 59 = .ok (.invokestatic 134, 3) := by decide +kernel
theorem dX1_perform_62 : decode cX1_perform 62 = .ok (.iastore, 1) := by decide +kernel
theorem dX1_perform_63 : decode cX1_perform 63 = .ok (.goto 34, 3) := by decide +kernel
theorem dX1_perform_66 : decode cX1_perform 66 = .ok (.iload_n 3, 1) := by decide +kernel
theorem dX1_perform_67 : decode cX1_perform 67 = .ok (.iconst 3, 1) := by decide +kernel
theorem dX1_perform_68 : decode cX1_perform 68 = .ok (.if_icmp .ne 29, 3) := by decide +kernel
theorem dX1_perform_71 : decode cX1_perform 71 = .ok (.aload_n 0, 1) := by decide +kernel
theorem dX1_perform_72 : decode cX1_perform 72 = .ok (.getfield 11, 3) := by decide +kernel
theorem dX1_perform_75 : decode cX1_perform 75 = .ok (.iload 6, 2) := by decide +kernel
theorem dX1_perform_77 : decode cX1_perform 77 = .ok (.aload_n 0, 1) := by decide +kernel
theorem dX1_perform_78 : decode cX1_perform 78 = .ok (.getfield 11, 3) := by decide +kernel
theorem dX1_perform_81 : decode cX1_perform 81 = .ok (.iload 6, 2) := by decide +kernel
theorem dX1_perform_83 : decode cX1_perform 83 = .ok (.iaload, 1) := by decide +kernel
theorem dX1_perform_84 : decode cX1_perform 84 = .ok (.iload 7, 2) := by decide +kernel
theorem dX1_perform_86 : decode cX1_perform 86 = .ok (.iload 4, 2) := by decide +kernel
theorem dX1_perform_88 : decode cX1_perform 88 = .ok (.iadd, 1) := by decide +kernel
theorem dX1_perform_89 : decode cX1_perform 89 = .ok (.sipush 10000, 3) := by decide +kernel
theorem dX1_perform_92 : decode cX1_perform 92 = .ok (.irem, 1) := by decide +kernel
theorem dX1_perform_93 : decode cX1_perform 93 = .ok (.invokestatic 134, 3) := by decide +kernel
theorem dX1_perform_96 : decode cX1_perform 96 = .ok (.iastore, 1) := by decide +kernel
theorem dX1_perform_97 : decode cX1_perform 97 = .ok (.aload_n 0, 1) := by decide +kernel
theorem dX1_perform_98 : decode cX1_perform 98 = .ok (.iload 5, 2) := by decide +kernel
theorem dX1_perform_100 : decode cX1_perform 100 = .ok (.iload_n 2, 1) := by decide +kernel
theorem dX1_perform_101 : decode cX1_perform 101 = .ok (.iconst 1, 1) := by decide +kernel
theorem dX1_perform_102 : decode cX1_perform 102 = .ok (.invokevirtual 138, 3) := by decide +kernel
theorem dX1_perform_105 : decode cX1_perform 105 = .ok (.iload 7, 2) := by decide +kernel
theorem dX1_perform_107 : decode cX1_perform 107 = .ok (.ireturn, 1) := by decide +kernel
def xX1_perform_97  (t : Nat) (l2 : Int32) (l5 : Int32) (l7 : Int32) (M : j_M) : Option (Int32 × j_M) := obv (xX1_reorder t l5 l2 (nI 1) M) fun M1 => some (l7, M1)
set_option maxRecDepth 20000 in
set_option maxHeartbeats 2000000 in
theorem tX1_perform_97  (t : Nat)  (l2 : Int32) (l5 : Int32) (l7 : Int32) (M : j_M) : J (ρ := Int32 × j_M) yX1_perform cX1_perform 8 (some .int) 1 29 j_ei 97 [(0, .inr (10, 0, t)), (2, .inl (l2)), (5, .inl (l5)), (7, .inl (l7))] [] M (xX1_perform_97 t l2 l5 l7 M) := by
  unfold xX1_perform_97
  refine K_aload_n (q := 98) 0 dX1_perform_97 rfl rfl rfl ?_
  refine K_iload (q := 100) 2 dX1_perform_98 rfl rfl ?_
  refine K_iload_n (q := 101) 1 dX1_perform_100 rfl rfl rfl ?_
  refine K_iconst (q := 102) (v := nI 1) dX1_perform_101 rfl rfl ?_
  refine K_cvv (q := 105) [.inl (l5), .inl (l2), .inl ((nI 1))] dX1_perform_102 cb_X1_reorder cvRX1_138 rc_0 (show (10 : Nat) ≠ 0 by decide) rfl (Nat.le_of_ble_eq_true rfl) ⟨by decide, by decide⟩ (Nat.le_of_ble_eq_true rfl) rfl (tX1_reorder t l5 l2 (nI 1) M) rfl (fun M1 => ?_)
  refine K_iload (q := 107) 3 dX1_perform_105 rfl rfl ?_
  exact J_iret dX1_perform_107
def xX1_perform_39  (t : Nat) (l2 : Int32) (l3 : Int32) (l4 : Int32) (l5 : Int32) (l6 : Int32) (l7 : Int32) (M : j_M) : Option (Int32 × j_M) := (if l3 = (nI 2) then gd l6 112 (oli (M (t + 1) (ix l6)) fun v5 => obi (xX3_withData v5 l4 M) fun v7 M6 => gd l6 112 (oml (mw M6 (t + 1) (ix l6) v7) fun M8 => xX1_perform_97 t l2 l5 l7 M8)) else (if l3 = (nI 3) then gd l6 112 (oli (M (t + 1) (ix l6)) fun v1 => gn (nI 10000) (obi (xX3_withData v1 ((l7 + l4) - (l7 + l4) / (nI 10000) * (nI 10000)) M) fun v3 M2 => gd l6 112 (oml (mw M2 (t + 1) (ix l6) v3) fun M4 => xX1_perform_97 t l2 l5 l7 M4))) else xX1_perform_97 t l2 l5 l7 M))
set_option maxRecDepth 20000 in
set_option maxHeartbeats 2000000 in
theorem tX1_perform_39  (t : Nat)  (l2 : Int32) (l3 : Int32) (l4 : Int32) (l5 : Int32) (l6 : Int32) (l7 : Int32) (M : j_M) : J (ρ := Int32 × j_M) yX1_perform cX1_perform 8 (some .int) 1 29 j_ei 39 [(0, .inr (10, 0, t)), (2, .inl (l2)), (3, .inl (l3)), (4, .inl (l4)), (5, .inl (l5)), (6, .inl (l6)), (7, .inl (l7))] [] M (xX1_perform_39 t l2 l3 l4 l5 l6 l7 M) := by
  unfold xX1_perform_39
  refine K_iload_n (q := 40) 2 dX1_perform_39 rfl rfl rfl ?_
  refine K_iconst (q := 41) (v := nI 2) dX1_perform_40 rfl rfl ?_
  refine K_icmp_ne (q := 44) (tgt := 66) dX1_perform_41 rfl ?_ rfl ?_
  · refine K_iload_n (q := 67) 2 dX1_perform_66 rfl rfl rfl ?_
    refine K_iconst (q := 68) (v := nI 3) dX1_perform_67 rfl rfl ?_
    refine K_icmp_ne (q := 71) (tgt := 97) dX1_perform_68 rfl ?_ rfl ?_
    · exact J_sub [0, 1, 4, 6] (tX1_perform_97 t l2 l5 l7 M) rfl
    · refine K_aload_n (q := 72) 0 dX1_perform_71 rfl rfl rfl ?_
      refine K_getR (q := 75) (ci := 0) (a2 := t + 1) 1 dX1_perform_72 fRX1_11 rfl rfl (by decide) rfl rfl ?_
      refine K_iload (q := 77) 5 dX1_perform_75 rfl rfl ?_
      refine K_aload_n (q := 78) 0 dX1_perform_77 rfl rfl rfl ?_
      refine K_getR (q := 81) (ci := 0) (a2 := t + 1) 1 dX1_perform_78 fRX1_11 rfl rfl (by decide) rfl rfl ?_
      refine K_iload (q := 83) 5 dX1_perform_81 rfl rfl ?_
      refine K_iald (q := 84) dX1_perform_83 rfl (fun v1 => ?_)
      refine K_iload (q := 86) 6 dX1_perform_84 rfl rfl ?_
      refine K_iload (q := 88) 3 dX1_perform_86 rfl rfl ?_
      refine K_iadd (q := 89) dX1_perform_88 rfl ?_
      refine K_sipush (q := 92) (v := nI 10000) dX1_perform_89 rfl rfl ?_
      refine K_irem (q := 93) dX1_perform_92 rfl ?_
      refine K_csi (q := 96) [.inl (v1), .inl ((l7 + l4) - (l7 + l4) / (nI 10000) * (nI 10000))] dX1_perform_93 cb_X3_withData cvRX1_134 rfl (Nat.le_of_ble_eq_true rfl) ⟨by decide, by decide⟩ (Nat.le_of_ble_eq_true rfl) rfl (tX3_withData v1 ((l7 + l4) - (l7 + l4) / (nI 10000) * (nI 10000)) M) rfl (fun v3 M2 => ?_)
      refine K_iast (q := 97) dX1_perform_96 rfl (fun M4 => ?_)
      exact J_sub [0, 1, 4, 6] (tX1_perform_97 t l2 l5 l7 M4) rfl
  · refine K_aload_n (q := 45) 0 dX1_perform_44 rfl rfl rfl ?_
    refine K_getR (q := 48) (ci := 0) (a2 := t + 1) 1 dX1_perform_45 fRX1_11 rfl rfl (by decide) rfl rfl ?_
    refine K_iload (q := 50) 5 dX1_perform_48 rfl rfl ?_
    refine K_aload_n (q := 51) 0 dX1_perform_50 rfl rfl rfl ?_
    refine K_getR (q := 54) (ci := 0) (a2 := t + 1) 1 dX1_perform_51 fRX1_11 rfl rfl (by decide) rfl rfl ?_
    refine K_iload (q := 56) 5 dX1_perform_54 rfl rfl ?_
    refine K_iald (q := 57) dX1_perform_56 rfl (fun v5 => ?_)
    refine K_iload (q := 59) 3 dX1_perform_57 rfl rfl ?_
    refine K_csi (q := 62) [.inl (v5), .inl (l4)] dX1_perform_59 cb_X3_withData cvRX1_134 rfl (Nat.le_of_ble_eq_true rfl) ⟨by decide, by decide⟩ (Nat.le_of_ble_eq_true rfl) rfl (tX3_withData v5 l4 M) rfl (fun v7 M6 => ?_)
    refine K_iast (q := 63) dX1_perform_62 rfl (fun M8 => ?_)
    refine J_goto (tgt := 97) dX1_perform_63 rfl ?_
    exact J_sub [0, 1, 4, 6] (tX1_perform_97 t l2 l5 l7 M8) rfl
def xX1_perform (t : Nat) (l1 : Int32) (l2 : Int32) (l3 : Int32) (l4 : Int32) (M : j_M) : Option (Int32 × j_M) := obi (xX1_blockOf l1 M) fun v2 M1 => gd (v2 + l2) 112 (oli (M1 (t + 1) (ix (v2 + l2))) fun v3 => obi (xX3_data v3 M1) fun v5 M4 => (if l3 = (nI 2) then xX1_perform_39 t l2 l3 l4 v2 (v2 + l2) v5 M4 else obv (xX5_see (t + 8) l1 v5 M4) fun M6 => xX1_perform_39 t l2 l3 l4 v2 (v2 + l2) v5 M6))
set_option maxRecDepth 20000 in
set_option maxHeartbeats 2000000 in
theorem tX1_perform (t : Nat) (l1 : Int32) (l2 : Int32) (l3 : Int32) (l4 : Int32) (M : j_M) : J (ρ := Int32 × j_M) yX1_perform cX1_perform 8 (some .int) 1 29 j_ei 0 [(0, .inr (10, 0, t)), (1, .inl (l1)), (2, .inl (l2)), (3, .inl (l3)), (4, .inl (l4))] [] M (xX1_perform t l1 l2 l3 l4 M) := by
  unfold xX1_perform
  refine K_iload_n (q := 1) 1 dX1_perform_0 rfl rfl rfl ?_
  refine K_csi (q := 4) [.inl (l1)] dX1_perform_1 cb_X1_blockOf cvRX1_73 rfl (Nat.le_of_ble_eq_true rfl) ⟨by decide, by decide⟩ (Nat.le_of_ble_eq_true rfl) rfl (tX1_blockOf l1 M) rfl (fun v2 M1 => ?_)
  refine K_istore (q := 6) (ll' := [(5, .inl (v2)), (0, .inr (10, 0, t)), (1, .inl (l1)), (2, .inl (l2)), (3, .inl (l3)), (4, .inl (l4))]) dX1_perform_4 (by decide) rfl rfl ?_
  refine K_iload (q := 8) 0 dX1_perform_6 rfl rfl ?_
  refine K_iload_n (q := 9) 3 dX1_perform_8 rfl rfl rfl ?_
  refine K_iadd (q := 10) dX1_perform_9 rfl ?_
  refine K_istore (q := 12) (ll' := [(6, .inl (v2 + l2)), (5, .inl (v2)), (0, .inr (10, 0, t)), (1, .inl (l1)), (2, .inl (l2)), (3, .inl (l3)), (4, .inl (l4))]) dX1_perform_10 (by decide) rfl rfl ?_
  refine K_aload_n (q := 13) 2 dX1_perform_12 rfl rfl rfl ?_
  refine K_getR (q := 16) (ci := 0) (a2 := t + 1) 1 dX1_perform_13 fRX1_11 rfl rfl (by decide) rfl rfl ?_
  refine K_iload (q := 18) 0 dX1_perform_16 rfl rfl ?_
  refine K_iald (q := 19) dX1_perform_18 rfl (fun v3 => ?_)
  refine K_csi (q := 22) [.inl (v3)] dX1_perform_19 cb_X3_data cvRX1_127 rfl (Nat.le_of_ble_eq_true rfl) ⟨by decide, by decide⟩ (Nat.le_of_ble_eq_true rfl) rfl (tX3_data v3 M1) rfl (fun v5 M4 => ?_)
  refine K_istore (q := 24) (ll' := [(7, .inl (v5)), (6, .inl (v2 + l2)), (5, .inl (v2)), (0, .inr (10, 0, t)), (1, .inl (l1)), (2, .inl (l2)), (3, .inl (l3)), (4, .inl (l4))]) dX1_perform_22 (by decide) rfl rfl ?_
  refine K_iload_n (q := 25) 6 dX1_perform_24 rfl rfl rfl ?_
  refine K_iconst (q := 26) (v := nI 2) dX1_perform_25 rfl rfl ?_
  refine K_icmp_eq (q := 29) (tgt := 39) dX1_perform_26 rfl ?_ rfl ?_
  · exact J_sub [3, 5, 6, 7, 2, 1, 0] (tX1_perform_39 t l2 l3 l4 v2 (v2 + l2) v5 M4) rfl
  · refine K_aload_n (q := 30) 3 dX1_perform_29 rfl rfl rfl ?_
    refine K_getR (q := 33) (ci := 0) (a2 := t + 8) 0 dX1_perform_30 fRX1_46 rfl rfl (by decide) rfl rfl ?_
    refine K_iload_n (q := 34) 4 dX1_perform_33 rfl rfl rfl ?_
    refine K_iload (q := 36) 0 dX1_perform_34 rfl rfl ?_
    refine K_cvv (q := 39) [.inl (l1), .inl (v5)] dX1_perform_36 cb_X5_see cvRX1_130 rc_1 (show (11 : Nat) ≠ 0 by decide) rfl (Nat.le_of_ble_eq_true rfl) ⟨by decide, by decide⟩ (Nat.le_of_ble_eq_true rfl) rfl (tX5_see (t + 8) l1 v5 M4) rfl (fun M6 => ?_)
    exact J_sub [3, 5, 6, 7, 2, 1, 0] (tX1_perform_39 t l2 l3 l4 v2 (v2 + l2) v5 M6) rfl
theorem dX1_access_0 : decode cX1_access 0 = .ok (.aload_n 0, 1) := by decide +kernel
theorem dX1_access_1 : decode cX1_access 1 = .ok (.iload_n 1, 1) := by decide +kernel
theorem dX1_access_2 : decode cX1_access 2 = .ok (.iload_n 2, 1) := by decide +kernel
theorem dX1_access_3 : decode cX1_access 3 = .ok (.iload_n 3, 1) := by decide +kernel
theorem dX1_access_4 : decode cX1_access 4 = .ok (.invokevirtual 102, 3) := by decide +kernel
theorem dX1_access_7 : decode cX1_access 7 = .ok (.ifCond .eq 40, 3) := by decide +kernel
theorem dX1_access_10 : decode cX1_access 10 = .ok (.aload_n 0, 1) := by decide +kernel
theorem dX1_access_11 : decode cX1_access 11 = .ok (.getfield 46, 3) := by decide +kernel
theorem dX1_access_14 : decode cX1_access 14 = .ok (.getfield 106, 3) := by decide +kernel
theorem dX1_access_17 : decode cX1_access 17 = .ok (.iload_n 1, 1) := by decide +kernel
theorem dX1_access_18 : decode cX1_access 18 = .ok (.dup2, 1) := by decide +kernel
theorem dX1_access_19 : decode cX1_access 19 = .ok (.iaload, 1) := by decide +kernel
theorem dX1_access_20 : decode cX1_access 20 = .ok (.iconst 1, 1) := by decide +kernel
theorem dX1_access_21 : decode cX1_access 21 = .ok (.iadd, 1) := by decide +kernel
theorem dX1_access_22 : decode cX1_access 22 = .ok (.iastore, 1) := by decide +kernel
theorem dX1_access_23 : decode cX1_access 23 = .ok (.aload_n 0, 1) := by decide +kernel
theorem dX1_access_24 : decode cX1_access 24 = .ok (.getfield 46, 3) := by decide +kernel
theorem dX1_access_27 : decode cX1_access 27 = .ok (.aload_n 0, 1) := by decide +kernel
theorem dX1_access_28 : decode cX1_access 28 = .ok (.getfield 70, 3) := by decide +kernel
theorem dX1_access_31 : decode cX1_access 31 = .ok (.iconst 0, 1) := by decide +kernel
theorem dX1_access_32 : decode cX1_access 32 = .ok (.iload_n 1, 1) := by decide +kernel
theorem dX1_access_33 : decode cX1_access 33 = .ok (.iload_n 2, 1) := by decide +kernel
theorem dX1_access_34 : decode cX1_access 34 = .ok (.invokevirtual 111, 3) := by decide +kernel
theorem dX1_access_37 : decode cX1_access 37 = .ok (.aload_n 0, 1) := by decide +kernel
theorem dX1_access_38 : decode cX1_access 38 = .ok (.iload_n 1, 1) := by decide +kernel
theorem dX1_access_39 : decode cX1_access 39 = .ok (.iload_n 2, 1) := by decide +kernel
theorem dX1_access_40 : decode cX1_access 40 = .ok (.iload_n 3, 1) := by decide +kernel
theorem dX1_access_41 : decode cX1_access 41 = .ok (.iload 4, 2) := by decide +kernel
theorem dX1_access_43 : decode cX1_access 43 = .ok (.invokevirtual 115, 3) := by decide +kernel
theorem dX1_access_46 : decode cX1_access 46 = .ok (.ireturn, 1) := by decide +kernel
theorem dX1_access_47 : decode cX1_access 47 = .ok (.aload_n 0, 1) := by decide +kernel
theorem dX1_access_48 : decode cX1_access 48 = .ok (.getfield 11, 3) := by decide +kernel
theorem dX1_access_51 : decode cX1_access 51 = .ok (.iload_n 1, 1) := by decide +kernel
theorem dX1_access_52 : decode cX1_access 52 = .ok (.invokestatic 73, 3) := by decide +kernel
theorem dX1_access_55 : decode cX1_access 55 = .ok (.bipush 15, 2) := by decide +kernel
theorem dX1_access_57 : decode cX1_access 57 = .ok (.iadd, 1) := by decide +kernel
theorem dX1_access_58 : decode cX1_access 58 = .ok (.iload_n 2, 1) := by decide +kernel
theorem dX1_access_59 : decode cX1_access 59 = .ok (.iload_n 3, 1) := by decide +kernel
theorem dX1_access_60 : decode cX1_access 60 = .ok (.iload 4, 2) := by decide +kernel
theorem dX1_access_62 : decode cX1_access 62 = .ok (.invokestatic 119, 3) := by decide +kernel
theorem dX1_access_65 : decode cX1_access 65 = .ok (.iastore, 1) := by decide +kernel
theorem dX1_access_66 : decode cX1_access 66 = .ok (.aload_n 0, 1) := by decide +kernel
theorem dX1_access_67 : decode cX1_access 67 = .ok (.getfield 24, 3) := by decide +kernel
theorem dX1_access_70 : decode cX1_access 70 = .ok (.iload_n 1, 1) := by decide +kernel
theorem dX1_access_71 : decode cX1_access 71 = .ok (.iconst 1, 1) := by decide +kernel
theorem dX1_access_72 : decode cX1_access 72 = .ok (.iastore, 1) := by decide +kernel
theorem dX1_access_73 : decode cX1_access 73 = .ok (.aload_n 0, 1) := by decide +kernel
theorem dX1_access_74 : decode cX1_access 74 = .ok (.getfield 27, 3) := by decide +kernel
theorem dX1_access_77 : decode cX1_access 77 = .ok (.iload_n 1, 1) := by decide +kernel
theorem dX1_access_78 : decode cX1_access 78 = .ok (.aload_n 0, 1) := by decide +kernel
theorem dX1_access_79 : decode cX1_access 79 = .ok (.getfield 70, 3) := by decide +kernel
theorem dX1_access_82 : decode cX1_access 82 = .ok (.iastore, 1) := by decide +kernel
theorem dX1_access_83 : decode cX1_access 83 = .ok (.aload_n 0, 1) := by decide +kernel
theorem dX1_access_84 : decode cX1_access 84 = .ok (.getfield 30, 3) := by decide +kernel
theorem dX1_access_87 : decode cX1_access 87 = .ok (.iload_n 1, 1) := by decide +kernel
theorem dX1_access_88 : decode cX1_access 88 = .ok (.aload_n 0, 1) := by decide +kernel
theorem dX1_access_89 : decode cX1_access 89 = .ok (.getfield 70, 3) := by decide +kernel
theorem dX1_access_92 : decode cX1_access 92 = .ok (.iastore, 1) := by decide +kernel
theorem dX1_access_93 : decode cX1_access 93 = .ok (.aload_n 0, 1) := by decide +kernel
theorem dX1_access_94 : decode cX1_access 94 = .ok (.getfield 46, 3) := by decide +kernel
theorem dX1_access_97 : decode cX1_access 97 = .ok (.aload_n 0, 1) := by decide +kernel
theorem dX1_access_98 : decode cX1_access 98 = .ok (.getfield 70, 3) := by decide +kernel
theorem dX1_access_101 : decode cX1_access 101 = .ok (.iconst 1, 1) := by decide +kernel
theorem dX1_access_102 : decode cX1_access 102 = .ok (.iload_n 1, 1) := by decide +kernel
theorem dX1_access_103 : decode cX1_access 103 = .ok (.iload_n 2, 1) := by decide +kernel
theorem dX1_access_104 : decode cX1_access 104 = .ok (.invokevirtual 111, 3) := by decide +kernel
theorem dX1_access_107 : decode cX1_access 107 = .ok (.aload_n 0, 1) := by decide +kernel
theorem dX1_access_108 : decode cX1_access 108 = .ok (.iload_n 1, 1) := by decide +kernel
theorem dX1_access_109 : decode cX1_access 109 = .ok (.invokevirtual 123, 3) := by decide +kernel
theorem dX1_access_112 : decode cX1_access 112 = .ok (.iconst (-1), 1) := by decide +kernel
theorem dX1_access_113 : decode cX1_access 113 = .ok (.ireturn, 1) := by decide +kernel
def xX1_access (t : Nat) (l1 : Int32) (l2 : Int32) (l3 : Int32) (l4 : Int32) (M : j_M) : Option (Int32 × j_M) := obi (xX1_wouldHit t l1 l2 l3 M) fun v2 M1 => (if v2 = (0 : Int32) then obi (xX1_blockOf l1 M1) fun v4 M3 => obi (xX7_of l2 l3 l4 M3) fun v6 M5 => gd (v4 + (nI 15)) 112 (oml (mw M5 (t + 1) (ix (v4 + (nI 15))) v6) fun M7 => gd l1 6 (oml (mw M7 (t + 5) (ix l1) (nI 1)) fun M8 => oli (M8 t 14) fun v9 => gd l1 6 (oml (mw M8 (t + 6) (ix l1) v9) fun M10 => oli (M10 t 14) fun v11 => gd l1 6 (oml (mw M10 (t + 7) (ix l1) v11) fun M12 => oli (M12 t 14) fun v13 => obv (xX5_note (t + 8) v13 (nI 1) l1 l2 M12) fun M14 => obv (xX1_ask t l1 M14) fun M15 => some ((-1 : Int32), M15))))) else gd l1 6 (oli (M1 (t + 15) (ix l1)) fun v16 => gd l1 6 (oml (mw M1 (t + 15) (ix l1) (v16 + (nI 1))) fun M17 => oli (M17 t 14) fun v18 => obv (xX5_note (t + 8) v18 (nI 0) l1 l2 M17) fun M19 => obi (xX1_perform t l1 l2 l3 l4 M19) fun v21 M20 => some (v21, M20))))
set_option maxRecDepth 20000 in
set_option maxHeartbeats 2000000 in
theorem tX1_access (t : Nat) (l1 : Int32) (l2 : Int32) (l3 : Int32) (l4 : Int32) (M : j_M) : J (ρ := Int32 × j_M) yX1_access cX1_access 5 (some .int) 3 69 j_ei 0 [(0, .inr (10, 0, t)), (1, .inl (l1)), (2, .inl (l2)), (3, .inl (l3)), (4, .inl (l4))] [] M (xX1_access t l1 l2 l3 l4 M) := by
  unfold xX1_access
  refine K_aload_n (q := 1) 0 dX1_access_0 rfl rfl rfl ?_
  refine K_iload_n (q := 2) 1 dX1_access_1 rfl rfl rfl ?_
  refine K_iload_n (q := 3) 2 dX1_access_2 rfl rfl rfl ?_
  refine K_iload_n (q := 4) 3 dX1_access_3 rfl rfl rfl ?_
  refine K_cvi (q := 7) [.inl (l1), .inl (l2), .inl (l3)] dX1_access_4 cb_X1_wouldHit cvRX1_102 rc_0 (show (10 : Nat) ≠ 0 by decide) rfl (Nat.le_of_ble_eq_true rfl) ⟨by decide, by decide⟩ (Nat.le_of_ble_eq_true rfl) rfl (tX1_wouldHit t l1 l2 l3 M) rfl (fun v2 M1 => ?_)
  refine K_if_eq (q := 10) (tgt := 47) dX1_access_7 rfl ?_ rfl ?_
  · refine K_aload_n (q := 48) 0 dX1_access_47 rfl rfl rfl ?_
    refine K_getR (q := 51) (ci := 0) (a2 := t + 1) 1 dX1_access_48 fRX1_11 rfl rfl (by decide) rfl rfl ?_
    refine K_iload_n (q := 52) 1 dX1_access_51 rfl rfl rfl ?_
    refine K_csi (q := 55) [.inl (l1)] dX1_access_52 cb_X1_blockOf cvRX1_73 rfl (Nat.le_of_ble_eq_true rfl) ⟨by decide, by decide⟩ (Nat.le_of_ble_eq_true rfl) rfl (tX1_blockOf l1 M1) rfl (fun v4 M3 => ?_)
    refine K_bipush (q := 57) (v := nI 15) dX1_access_55 rfl rfl ?_
    refine K_iadd (q := 58) dX1_access_57 rfl ?_
    refine K_iload_n (q := 59) 2 dX1_access_58 rfl rfl rfl ?_
    refine K_iload_n (q := 60) 3 dX1_access_59 rfl rfl rfl ?_
    refine K_iload (q := 62) 4 dX1_access_60 rfl rfl ?_
    refine K_csi (q := 65) [.inl (l2), .inl (l3), .inl (l4)] dX1_access_62 cb_X7_of cvRX1_119 rfl (Nat.le_of_ble_eq_true rfl) ⟨by decide, by decide⟩ (Nat.le_of_ble_eq_true rfl) rfl (tX7_of l2 l3 l4 M3) rfl (fun v6 M5 => ?_)
    refine K_iast (q := 66) dX1_access_65 rfl (fun M7 => ?_)
    refine K_aload_n (q := 67) 0 dX1_access_66 rfl rfl rfl ?_
    refine K_getR (q := 70) (ci := 0) (a2 := t + 5) 5 dX1_access_67 fRX1_24 rfl rfl (by decide) rfl rfl ?_
    refine K_iload_n (q := 71) 1 dX1_access_70 rfl rfl rfl ?_
    refine K_iconst (q := 72) (v := nI 1) dX1_access_71 rfl rfl ?_
    refine K_iast (q := 73) dX1_access_72 rfl (fun M8 => ?_)
    refine K_aload_n (q := 74) 0 dX1_access_73 rfl rfl rfl ?_
    refine K_getR (q := 77) (ci := 0) (a2 := t + 6) 6 dX1_access_74 fRX1_27 rfl rfl (by decide) rfl rfl ?_
    refine K_iload_n (q := 78) 1 dX1_access_77 rfl rfl rfl ?_
    refine K_aload_n (q := 79) 0 dX1_access_78 rfl rfl rfl ?_
    refine K_getI (q := 82) (ci := 0) 14 dX1_access_79 fRX1_70 rfl rfl rfl (fun v9 => ?_)
    refine K_iast (q := 83) dX1_access_82 rfl (fun M10 => ?_)
    refine K_aload_n (q := 84) 0 dX1_access_83 rfl rfl rfl ?_
    refine K_getR (q := 87) (ci := 0) (a2 := t + 7) 7 dX1_access_84 fRX1_30 rfl rfl (by decide) rfl rfl ?_
    refine K_iload_n (q := 88) 1 dX1_access_87 rfl rfl rfl ?_
    refine K_aload_n (q := 89) 0 dX1_access_88 rfl rfl rfl ?_
    refine K_getI (q := 92) (ci := 0) 14 dX1_access_89 fRX1_70 rfl rfl rfl (fun v11 => ?_)
    refine K_iast (q := 93) dX1_access_92 rfl (fun M12 => ?_)
    refine K_aload_n (q := 94) 0 dX1_access_93 rfl rfl rfl ?_
    refine K_getR (q := 97) (ci := 0) (a2 := t + 8) 0 dX1_access_94 fRX1_46 rfl rfl (by decide) rfl rfl ?_
    refine K_aload_n (q := 98) 0 dX1_access_97 rfl rfl rfl ?_
    refine K_getI (q := 101) (ci := 0) 14 dX1_access_98 fRX1_70 rfl rfl rfl (fun v13 => ?_)
    refine K_iconst (q := 102) (v := nI 1) dX1_access_101 rfl rfl ?_
    refine K_iload_n (q := 103) 1 dX1_access_102 rfl rfl rfl ?_
    refine K_iload_n (q := 104) 2 dX1_access_103 rfl rfl rfl ?_
    refine K_cvv (q := 107) [.inl (v13), .inl ((nI 1)), .inl (l1), .inl (l2)] dX1_access_104 cb_X5_note cvRX1_111 rc_1 (show (11 : Nat) ≠ 0 by decide) rfl (Nat.le_of_ble_eq_true rfl) ⟨by decide, by decide⟩ (Nat.le_of_ble_eq_true rfl) rfl (tX5_note (t + 8) v13 (nI 1) l1 l2 M12) rfl (fun M14 => ?_)
    refine K_aload_n (q := 108) 0 dX1_access_107 rfl rfl rfl ?_
    refine K_iload_n (q := 109) 1 dX1_access_108 rfl rfl rfl ?_
    refine K_cvv (q := 112) [.inl (l1)] dX1_access_109 cb_X1_ask cvRX1_123 rc_0 (show (10 : Nat) ≠ 0 by decide) rfl (Nat.le_of_ble_eq_true rfl) ⟨by decide, by decide⟩ (Nat.le_of_ble_eq_true rfl) rfl (tX1_ask t l1 M14) rfl (fun M15 => ?_)
    refine K_iconst (q := 113) (v := -1) dX1_access_112 rfl rfl ?_
    exact J_iret dX1_access_113
  · refine K_aload_n (q := 11) 0 dX1_access_10 rfl rfl rfl ?_
    refine K_getR (q := 14) (ci := 0) (a2 := t + 8) 0 dX1_access_11 fRX1_46 rfl rfl (by decide) rfl rfl ?_
    refine K_getR (q := 17) (ci := 1) (a2 := t + 15) 6 dX1_access_14 fRX1_106 rfl rfl (by decide) rfl rfl ?_
    refine K_iload_n (q := 18) 1 dX1_access_17 rfl rfl rfl ?_
    refine K_dup2 (q := 19) dX1_access_18 rfl ?_
    refine K_iald (q := 20) dX1_access_19 rfl (fun v16 => ?_)
    refine K_iconst (q := 21) (v := nI 1) dX1_access_20 rfl rfl ?_
    refine K_iadd (q := 22) dX1_access_21 rfl ?_
    refine K_iast (q := 23) dX1_access_22 rfl (fun M17 => ?_)
    refine K_aload_n (q := 24) 0 dX1_access_23 rfl rfl rfl ?_
    refine K_getR (q := 27) (ci := 0) (a2 := t + 8) 0 dX1_access_24 fRX1_46 rfl rfl (by decide) rfl rfl ?_
    refine K_aload_n (q := 28) 0 dX1_access_27 rfl rfl rfl ?_
    refine K_getI (q := 31) (ci := 0) 14 dX1_access_28 fRX1_70 rfl rfl rfl (fun v18 => ?_)
    refine K_iconst (q := 32) (v := nI 0) dX1_access_31 rfl rfl ?_
    refine K_iload_n (q := 33) 1 dX1_access_32 rfl rfl rfl ?_
    refine K_iload_n (q := 34) 2 dX1_access_33 rfl rfl rfl ?_
    refine K_cvv (q := 37) [.inl (v18), .inl ((nI 0)), .inl (l1), .inl (l2)] dX1_access_34 cb_X5_note cvRX1_111 rc_1 (show (11 : Nat) ≠ 0 by decide) rfl (Nat.le_of_ble_eq_true rfl) ⟨by decide, by decide⟩ (Nat.le_of_ble_eq_true rfl) rfl (tX5_note (t + 8) v18 (nI 0) l1 l2 M17) rfl (fun M19 => ?_)
    refine K_aload_n (q := 38) 0 dX1_access_37 rfl rfl rfl ?_
    refine K_iload_n (q := 39) 1 dX1_access_38 rfl rfl rfl ?_
    refine K_iload_n (q := 40) 2 dX1_access_39 rfl rfl rfl ?_
    refine K_iload_n (q := 41) 3 dX1_access_40 rfl rfl rfl ?_
    refine K_iload (q := 43) 4 dX1_access_41 rfl rfl ?_
    refine K_cvi (q := 46) [.inl (l1), .inl (l2), .inl (l3), .inl (l4)] dX1_access_43 cb_X1_perform cvRX1_115 rc_0 (show (10 : Nat) ≠ 0 by decide) rfl (Nat.le_of_ble_eq_true rfl) ⟨by decide, by decide⟩ (Nat.le_of_ble_eq_true rfl) rfl (tX1_perform t l1 l2 l3 l4 M19) rfl (fun v21 M20 => ?_)
    exact J_iret dX1_access_46
theorem dX1_answer_0 : decode cX1_answer 0 = .ok (.aload_n 0, 1) := by decide +kernel
theorem dX1_answer_1 : decode cX1_answer 1 = .ok (.iload_n 2, 1) := by decide +kernel
theorem dX1_answer_2 : decode cX1_answer 2 = .ok (.iload_n 1, 1) := by decide +kernel
theorem dX1_answer_3 : decode cX1_answer 3 = .ok (.iload_n 3, 1) := by decide +kernel
theorem dX1_answer_4 : decode cX1_answer 4 = .ok (.iload 4, 2) := by decide +kernel
theorem dX1_answer_6 : decode cX1_answer 6 = .ok (.iconst 2, 1) := by decide +kernel
theorem dX1_answer_7 : decode cX1_answer 7 = .ok (.if_icmp .ne 7, 3) := by decide +kernel
theorem dX1_answer_10 : decode cX1_answer 10 = .ok (.iconst 1, 1) := by decide +kernel
theorem dX1_answer_11 : decode cX1_answer 11 = .ok (.goto 4, 3) := by decide +kernel
theorem dX1_answer_14 : decode cX1_answer 14 = .ok (.iconst 0, 1) := by decide +kernel
theorem dX1_answer_15 : decode cX1_answer 15 = .ok (.invokevirtual 220, 3) := by decide +kernel
theorem dX1_answer_18 : decode cX1_answer 18 = .ok (.aload_n 0, 1) := by decide +kernel
theorem dX1_answer_19 : decode cX1_answer 19 = .ok (.iload_n 2, 1) := by decide +kernel
theorem dX1_answer_20 : decode cX1_answer 20 = .ok (.iload_n 3, 1) := by decide +kernel
theorem dX1_answer_21 : decode cX1_answer 21 = .ok (.invokevirtual 176, 3) := by decide +kernel
theorem dX1_answer_24 : decode cX1_answer 24 = .ok (.istore 5, 2) := by decide +kernel
theorem dX1_answer_26 : decode cX1_answer 26 = .ok (.iload 5, 2) := by decide +kernel
theorem dX1_answer_28 : decode cX1_answer 28 = .ok (.invokestatic 82, 3) := by decide +kernel
theorem dX1_answer_31 : decode cX1_answer 31 = .ok (.istore 6, 2) := by decide +kernel
theorem dX1_answer_33 : decode cX1_answer 33 = .ok (.iload 5, 2) := by decide +kernel
theorem dX1_answer_35 : decode cX1_answer 35 = .ok (.invokestatic 182, 3) := by decide +kernel
theorem dX1_answer_38 : decode cX1_answer 38 = .ok (.istore 7, 2) := by decide +kernel
theorem dX1_answer_40 : decode cX1_answer 40 = .ok (.iload 6, 2) := by decide +kernel
theorem dX1_answer_42 : decode cX1_answer 42 = .ok (.ifCond .eq 13, 3) := by decide +kernel
theorem dX1_answer_45 : decode cX1_answer 45 = .ok (.aload_n 0, 1) := by decide +kernel
theorem dX1_answer_46 : decode cX1_answer 46 = .ok (.iload_n 2, 1) := by decide +kernel
theorem dX1_answer_47 : decode cX1_answer 47 = .ok (.iload_n 3, 1) := by decide +kernel
theorem dX1_answer_48 : decode cX1_answer 48 = .ok (.invokevirtual 224, 3) := by decide +kernel
theorem dX1_answer_51 : decode cX1_answer 51 = .ok (.iconst (-1), 1) := by decide +kernel
theorem dX1_answer_52 : decode cX1_answer 52 = .ok (.if_icmp .eq 4, 3) := by decide +kernel
theorem dX1_answer_55 : decode cX1_answer 55 = .ok (.return_, 1) := by decide +kernel
theorem dX1_answer_56 : decode cX1_answer 56 = .ok (.iload 4, 2) := by decide +kernel
theorem dX1_answer_58 : decode cX1_answer 58 = .ok (.iconst 2, 1) := by decide +kernel
theorem dX1_answer_59 : decode cX1_answer 59 = .ok (.if_icmp .ne 19, 3) := by decide +kernel
theorem dX1_answer_62 : decode cX1_answer 62 = .ok (.aload_n 0, 1) := by decide +kernel
theorem dX1_answer_63 : decode cX1_answer 63 = .ok (.iload_n 2, 1) := by decide +kernel
theorem dX1_answer_64 : decode cX1_answer 64 = .ok (.iload_n 1, 1) := by decide +kernel
theorem dX1_answer_65 : decode cX1_answer 65 = .ok (.iload_n 3, 1) := by decide +kernel
theorem dX1_answer_66 : decode cX1_answer 66 = .ok (.iload 6, 2) := by decide +kernel
theorem dX1_answer_68 : decode cX1_answer 68 = .ok (.iload 7, 2) := by decide +kernel
theorem dX1_answer_70 : decode cX1_answer 70 = .ok (.iload 7, 2) := by decide +kernel
theorem dX1_answer_72 : decode cX1_answer 72 = .ok (.invokevirtual 188, 3) := by decide +kernel
theorem dX1_answer_75 : decode cX1_answer 75 = .ok (.goto 28, 3) := by decide +kernel
theorem dX1_answer_78 : decode cX1_answer 78 = .ok (.iload 7, 2) := by decide +kernel
theorem dX1_answer_80 : decode cX1_answer 80 = .ok (.ifCond .eq 23, 3) := by decide +kernel
theorem dX1_answer_83 : decode cX1_answer 83 = .ok (.aload_n 0, 1) := by decide +kernel
theorem dX1_answer_84 : decode cX1_answer 84 = .ok (.iload_n 2, 1) := by decide +kernel
theorem dX1_answer_85 : decode cX1_answer 85 = .ok (.iload_n 1, 1) := by decide +kernel
theorem dX1_answer_86 : decode cX1_answer 86 = .ok (.iload_n 3, 1) := by decide +kernel
theorem dX1_answer_87 : decode cX1_answer 87 = .ok (.iconst 1, 1) := by decide +kernel
theorem dX1_answer_88 : decode cX1_answer 88 = .ok (.iload 6, 2) := by decide +kernel
theorem dX1_answer_90 : decode cX1_answer 90 = .ok (.iconst 1, 1) := by decide +kernel
theorem dX1_answer_91 : decode cX1_answer 91 = .ok (.if_icmp .ne 7, 3) := by decide +kernel
theorem dX1_answer_94 : decode cX1_answer 94 = .ok (.iconst 1, 1) := by decide +kernel
theorem dX1_answer_95 : decode cX1_answer 95 = .ok (.goto 4, 3) := by decide +kernel
theorem dX1_answer_98 : decode cX1_answer 98 = .ok (.iconst 0, 1) := by decide +kernel
theorem dX1_answer_99 : decode cX1_answer 99 = .ok (.iconst 1, 1) := by decide +kernel
theorem dX1_answer_100 : decode cX1_answer 100 = .ok (.invokevirtual 188, 3) := by decide +kernel
theorem dX1_answer_103 : decode cX1_answer 103 = .ok (.return_, 1) := by decide +kernel
def xX1_answer_99  (t : Nat) (s4 : Int32) (s3 : Int32) (s2 : Int32) (s1 : Int32) (s0 : Int32) (M : j_M) : Option (j_M) := obv (xX1_hand t s4 s3 s2 s1 s0 (nI 1) M) fun M1 => some M1
set_option maxRecDepth 20000 in
set_option maxHeartbeats 2000000 in
theorem tX1_answer_99  (t : Nat)  (s4 : Int32) (s3 : Int32) (s2 : Int32) (s1 : Int32) (s0 : Int32) (M : j_M) : J (ρ := j_M) yX1_answer cX1_answer 8 none 2 59 j_ev 99 [] [.inl (s0), .inl (s1), .inl (s2), .inl (s3), .inl (s4), .inr (10, 0, t)] M (xX1_answer_99 t s4 s3 s2 s1 s0 M) := by
  unfold xX1_answer_99
  refine K_iconst (q := 100) (v := nI 1) dX1_answer_99 rfl rfl ?_
  refine K_cvv (q := 103) [.inl (s4), .inl (s3), .inl (s2), .inl (s1), .inl (s0), .inl ((nI 1))] dX1_answer_100 cb_X1_hand cvRX1_188 rc_0 (show (10 : Nat) ≠ 0 by decide) rfl (Nat.le_of_ble_eq_true rfl) ⟨by decide, by decide⟩ (Nat.le_of_ble_eq_true rfl) rfl (tX1_hand t s4 s3 s2 s1 s0 (nI 1) M) rfl (fun M1 => ?_)
  exact J_vret dX1_answer_103
def xX1_answer_15  (t : Nat) (l1 : Int32) (l2 : Int32) (l3 : Int32) (l4 : Int32) (s3 : Int32) (s2 : Int32) (s1 : Int32) (s0 : Int32) (M : j_M) : Option (j_M) := obv (xX1_remember t s3 s2 s1 s0 M) fun M1 => obi (xX1_heldAt t l2 l3 M1) fun v3 M2 => obi (xX3_count v3 M2) fun v5 M4 => obi (xX3_isOwner v3 M4) fun v7 M6 => (if v5 = (0 : Int32) then some M6 else obi (xX1_turnAt t l2 l3 M6) fun v9 M8 => (if v9 = (-1 : Int32) then (if l4 = (nI 2) then obv (xX1_hand t l2 l1 l3 v5 v7 v7 M8) fun M10 => some M10 else (if v7 = (0 : Int32) then some M8 else (if v5 = (nI 1) then xX1_answer_99 t l2 l1 l3 (nI 1) (nI 1) M8 else xX1_answer_99 t l2 l1 l3 (nI 1) (nI 0) M8))) else some M8))
set_option maxRecDepth 20000 in
set_option maxHeartbeats 2000000 in
theorem tX1_answer_15  (t : Nat)  (l1 : Int32) (l2 : Int32) (l3 : Int32) (l4 : Int32) (s3 : Int32) (s2 : Int32) (s1 : Int32) (s0 : Int32) (M : j_M) : J (ρ := j_M) yX1_answer cX1_answer 8 none 2 59 j_ev 15 [(0, .inr (10, 0, t)), (1, .inl (l1)), (2, .inl (l2)), (3, .inl (l3)), (4, .inl (l4))] [.inl (s0), .inl (s1), .inl (s2), .inl (s3), .inr (10, 0, t)] M (xX1_answer_15 t l1 l2 l3 l4 s3 s2 s1 s0 M) := by
  unfold xX1_answer_15
  refine K_cvv (q := 18) [.inl (s3), .inl (s2), .inl (s1), .inl (s0)] dX1_answer_15 cb_X1_remember cvRX1_220 rc_0 (show (10 : Nat) ≠ 0 by decide) rfl (Nat.le_of_ble_eq_true rfl) ⟨by decide, by decide⟩ (Nat.le_of_ble_eq_true rfl) rfl (tX1_remember t s3 s2 s1 s0 M) rfl (fun M1 => ?_)
  refine K_aload_n (q := 19) 0 dX1_answer_18 rfl rfl rfl ?_
  refine K_iload_n (q := 20) 2 dX1_answer_19 rfl rfl rfl ?_
  refine K_iload_n (q := 21) 3 dX1_answer_20 rfl rfl rfl ?_
  refine K_cvi (q := 24) [.inl (l2), .inl (l3)] dX1_answer_21 cb_X1_heldAt cvRX1_176 rc_0 (show (10 : Nat) ≠ 0 by decide) rfl (Nat.le_of_ble_eq_true rfl) ⟨by decide, by decide⟩ (Nat.le_of_ble_eq_true rfl) rfl (tX1_heldAt t l2 l3 M1) rfl (fun v3 M2 => ?_)
  refine K_istore (q := 26) (ll' := [(5, .inl (v3)), (0, .inr (10, 0, t)), (1, .inl (l1)), (2, .inl (l2)), (3, .inl (l3)), (4, .inl (l4))]) dX1_answer_24 (by decide) rfl rfl ?_
  refine K_iload (q := 28) 0 dX1_answer_26 rfl rfl ?_
  refine K_csi (q := 31) [.inl (v3)] dX1_answer_28 cb_X3_count cvRX1_82 rfl (Nat.le_of_ble_eq_true rfl) ⟨by decide, by decide⟩ (Nat.le_of_ble_eq_true rfl) rfl (tX3_count v3 M2) rfl (fun v5 M4 => ?_)
  refine K_istore (q := 33) (ll' := [(6, .inl (v5)), (5, .inl (v3)), (0, .inr (10, 0, t)), (1, .inl (l1)), (2, .inl (l2)), (3, .inl (l3)), (4, .inl (l4))]) dX1_answer_31 (by decide) rfl rfl ?_
  refine K_iload (q := 35) 1 dX1_answer_33 rfl rfl ?_
  refine K_csi (q := 38) [.inl (v3)] dX1_answer_35 cb_X3_isOwner cvRX1_182 rfl (Nat.le_of_ble_eq_true rfl) ⟨by decide, by decide⟩ (Nat.le_of_ble_eq_true rfl) rfl (tX3_isOwner v3 M4) rfl (fun v7 M6 => ?_)
  refine K_istore (q := 40) (ll' := [(7, .inl (v7)), (6, .inl (v5)), (5, .inl (v3)), (0, .inr (10, 0, t)), (1, .inl (l1)), (2, .inl (l2)), (3, .inl (l3)), (4, .inl (l4))]) dX1_answer_38 (by decide) rfl rfl ?_
  refine K_iload (q := 42) 1 dX1_answer_40 rfl rfl ?_
  refine K_if_eq (q := 45) (tgt := 55) dX1_answer_42 rfl ?_ rfl ?_
  · exact J_vret dX1_answer_55
  · refine K_aload_n (q := 46) 3 dX1_answer_45 rfl rfl rfl ?_
    refine K_iload_n (q := 47) 5 dX1_answer_46 rfl rfl rfl ?_
    refine K_iload_n (q := 48) 6 dX1_answer_47 rfl rfl rfl ?_
    refine K_cvi (q := 51) [.inl (l2), .inl (l3)] dX1_answer_48 cb_X1_turnAt cvRX1_224 rc_0 (show (10 : Nat) ≠ 0 by decide) rfl (Nat.le_of_ble_eq_true rfl) ⟨by decide, by decide⟩ (Nat.le_of_ble_eq_true rfl) rfl (tX1_turnAt t l2 l3 M6) rfl (fun v9 M8 => ?_)
    refine K_iconst (q := 52) (v := -1) dX1_answer_51 rfl rfl ?_
    refine K_icmp_eq (q := 55) (tgt := 56) dX1_answer_52 rfl ?_ rfl ?_
    · refine K_iload (q := 58) 7 dX1_answer_56 rfl rfl ?_
      refine K_iconst (q := 59) (v := nI 2) dX1_answer_58 rfl rfl ?_
      refine K_icmp_ne (q := 62) (tgt := 78) dX1_answer_59 rfl ?_ rfl ?_
      · refine K_iload (q := 80) 0 dX1_answer_78 rfl rfl ?_
        refine K_if_eq (q := 83) (tgt := 103) dX1_answer_80 rfl ?_ rfl ?_
        · exact J_vret dX1_answer_103
        · refine K_aload_n (q := 84) 3 dX1_answer_83 rfl rfl rfl ?_
          refine K_iload_n (q := 85) 5 dX1_answer_84 rfl rfl rfl ?_
          refine K_iload_n (q := 86) 4 dX1_answer_85 rfl rfl rfl ?_
          refine K_iload_n (q := 87) 6 dX1_answer_86 rfl rfl rfl ?_
          refine K_iconst (q := 88) (v := nI 1) dX1_answer_87 rfl rfl ?_
          refine K_iload (q := 90) 1 dX1_answer_88 rfl rfl ?_
          refine K_iconst (q := 91) (v := nI 1) dX1_answer_90 rfl rfl ?_
          refine K_icmp_ne (q := 94) (tgt := 98) dX1_answer_91 rfl ?_ rfl ?_
          · refine K_iconst (q := 99) (v := nI 0) dX1_answer_98 rfl rfl ?_
            exact J_sub [] (tX1_answer_99 t l2 l1 l3 (nI 1) (nI 0) M8) rfl
          · refine K_iconst (q := 95) (v := nI 1) dX1_answer_94 rfl rfl ?_
            refine J_goto (tgt := 99) dX1_answer_95 rfl ?_
            exact J_sub [] (tX1_answer_99 t l2 l1 l3 (nI 1) (nI 1) M8) rfl
      · refine K_aload_n (q := 63) 3 dX1_answer_62 rfl rfl rfl ?_
        refine K_iload_n (q := 64) 5 dX1_answer_63 rfl rfl rfl ?_
        refine K_iload_n (q := 65) 4 dX1_answer_64 rfl rfl rfl ?_
        refine K_iload_n (q := 66) 6 dX1_answer_65 rfl rfl rfl ?_
        refine K_iload (q := 68) 1 dX1_answer_66 rfl rfl ?_
        refine K_iload (q := 70) 0 dX1_answer_68 rfl rfl ?_
        refine K_iload (q := 72) 0 dX1_answer_70 rfl rfl ?_
        refine K_cvv (q := 75) [.inl (l2), .inl (l1), .inl (l3), .inl (v5), .inl (v7), .inl (v7)] dX1_answer_72 cb_X1_hand cvRX1_188 rc_0 (show (10 : Nat) ≠ 0 by decide) rfl (Nat.le_of_ble_eq_true rfl) ⟨by decide, by decide⟩ (Nat.le_of_ble_eq_true rfl) rfl (tX1_hand t l2 l1 l3 v5 v7 v7 M8) rfl (fun M10 => ?_)
        refine J_goto (tgt := 103) dX1_answer_75 rfl ?_
        exact J_vret dX1_answer_103
    · exact J_vret dX1_answer_55
def xX1_answer (t : Nat) (l1 : Int32) (l2 : Int32) (l3 : Int32) (l4 : Int32) (M : j_M) : Option (j_M) := (if l4 = (nI 2) then xX1_answer_15 t l1 l2 l3 l4 l2 l1 l3 (nI 1) M else xX1_answer_15 t l1 l2 l3 l4 l2 l1 l3 (nI 0) M)
set_option maxRecDepth 20000 in
set_option maxHeartbeats 2000000 in
theorem tX1_answer (t : Nat) (l1 : Int32) (l2 : Int32) (l3 : Int32) (l4 : Int32) (M : j_M) : J (ρ := j_M) yX1_answer cX1_answer 8 none 2 59 j_ev 0 [(0, .inr (10, 0, t)), (1, .inl (l1)), (2, .inl (l2)), (3, .inl (l3)), (4, .inl (l4))] [] M (xX1_answer t l1 l2 l3 l4 M) := by
  unfold xX1_answer
  refine K_aload_n (q := 1) 0 dX1_answer_0 rfl rfl rfl ?_
  refine K_iload_n (q := 2) 2 dX1_answer_1 rfl rfl rfl ?_
  refine K_iload_n (q := 3) 1 dX1_answer_2 rfl rfl rfl ?_
  refine K_iload_n (q := 4) 3 dX1_answer_3 rfl rfl rfl ?_
  refine K_iload (q := 6) 4 dX1_answer_4 rfl rfl ?_
  refine K_iconst (q := 7) (v := nI 2) dX1_answer_6 rfl rfl ?_
  refine K_icmp_ne (q := 10) (tgt := 14) dX1_answer_7 rfl ?_ rfl ?_
  · refine K_iconst (q := 15) (v := nI 0) dX1_answer_14 rfl rfl ?_
    exact J_sub [0, 1, 2, 3, 4] (tX1_answer_15 t l1 l2 l3 l4 l2 l1 l3 (nI 0) M) rfl
  · refine K_iconst (q := 11) (v := nI 1) dX1_answer_10 rfl rfl ?_
    refine J_goto (tgt := 15) dX1_answer_11 rfl ?_
    exact J_sub [0, 1, 2, 3, 4] (tX1_answer_15 t l1 l2 l3 l4 l2 l1 l3 (nI 1) M) rfl
theorem dX1_heedForGood_0 : decode cX1_heedForGood 0 = .ok (.iload_n 2, 1) := by decide +kernel
theorem dX1_heedForGood_1 : decode cX1_heedForGood 1 = .ok (.invokestatic 73, 3) := by decide +kernel
theorem dX1_heedForGood_4 : decode cX1_heedForGood 4 = .ok (.bipush 8, 2) := by decide +kernel
theorem dX1_heedForGood_6 : decode cX1_heedForGood 6 = .ok (.iadd, 1) := by decide +kernel
theorem dX1_heedForGood_7 : decode cX1_heedForGood 7 = .ok (.iload_n 1, 1) := by decide +kernel
theorem dX1_heedForGood_8 : decode cX1_heedForGood 8 = .ok (.iadd, 1) := by decide +kernel
theorem dX1_heedForGood_9 : decode cX1_heedForGood 9 = .ok (.istore 5, 2) := by decide +kernel
theorem dX1_heedForGood_11 : decode cX1_heedForGood 11 = .ok (.iload 4, 2) := by decide +kernel
theorem dX1_heedForGood_13 : decode cX1_heedForGood 13 = .ok (.iconst 2, 1) := by decide +kernel
theorem dX1_heedForGood_14 : decode cX1_heedForGood 14 = .ok (.iushr, 1) := by decide +kernel
theorem dX1_heedForGood_15 : decode cX1_heedForGood 15 = .ok (.istore 6, 2) := by decide +kernel
theorem dX1_heedForGood_17 : decode cX1_heedForGood 17 = .ok (.aload_n 0, 1) := by decide +kernel
theorem dX1_heedForGood_18 : decode cX1_heedForGood 18 = .ok (.getfield 11, 3) := by decide +kernel
theorem dX1_heedForGood_21 : decode cX1_heedForGood 21 = .ok (.iload 5, 2) := by decide +kernel
theorem dX1_heedForGood_23 : decode cX1_heedForGood 23 = .ok (.iaload, 1) := by decide +kernel
theorem dX1_heedForGood_24 : decode cX1_heedForGood 24 = .ok (.invokestatic 251, 3) := by decide +kernel
theorem dX1_heedForGood_27 : decode cX1_heedForGood 27 = .ok (.iload 6, 2) := by decide +kernel
theorem dX1_heedForGood_29 : decode cX1_heedForGood 29 = .ok (.if_icmp .ge 26, 3) := by decide +kernel
theorem dX1_heedForGood_32 : decode cX1_heedForGood 32 = .ok (.aload_n 0, 1) := by decide +kernel
theorem dX1_heedForGood_33 : decode cX1_heedForGood 33 = .ok (.getfield 11, 3) := by decide +kernel
theorem dX1_heedForGood_36 : decode cX1_heedForGood 36 = .ok (.iload 5, 2) := by decide +kernel
theorem dX1_heedForGood_38 : decode cX1_heedForGood 38 = .ok (.iload 6, 2) := by decide +kernel
theorem dX1_heedForGood_40 : decode cX1_heedForGood 40 = .ok (.iload_n 3, 1) := by decide +kernel
theorem dX1_heedForGood_41 : decode cX1_heedForGood 41 = .ok (.iload 4, 2) := by decide +kernel
theorem dX1_heedForGood_43 : decode cX1_heedForGood 43 = .ok (.iconst 3, 1) := by decide +kernel
theorem dX1_heedForGood_44 : decode cX1_heedForGood 44 = .ok (.iand, 1) := by decide +kernel
theorem dX1_heedForGood_45 : decode cX1_heedForGood 45 = .ok (.invokestatic 264, 3) := by decide +kernel
theorem dX1_heedForGood_48 : decode cX1_heedForGood 48 = .ok (.iastore, 1) := by decide +kernel
theorem dX1_heedForGood_49 : decode cX1_heedForGood 49 = .ok (.aload_n 0, 1) := by decide +kernel
theorem dX1_heedForGood_50 : decode cX1_heedForGood 50 = .ok (.iload_n 2, 1) := by decide +kernel
theorem dX1_heedForGood_51 : decode cX1_heedForGood 51 = .ok (.iload_n 3, 1) := by decide +kernel
theorem dX1_heedForGood_52 : decode cX1_heedForGood 52 = .ok (.invokevirtual 233, 3) := by decide +kernel
theorem dX1_heedForGood_55 : decode cX1_heedForGood 55 = .ok (.return_, 1) := by decide +kernel
def xX1_heedForGood (t : Nat) (l1 : Int32) (l2 : Int32) (l3 : Int32) (l4 : Int32) (M : j_M) : Option (j_M) := obi (xX1_blockOf l2 M) fun v2 M1 => gd ((v2 + (nI 8)) + l1) 112 (oli (M1 (t + 1) (ix ((v2 + (nI 8)) + l1))) fun v3 => obi (xX2_seq v3 M1) fun v5 M4 => (if (us l4 (nI 2)) ≤ v5 then some M4 else obi (xX2_active (us l4 (nI 2)) l3 (l4 &&& (nI 3)) M4) fun v7 M6 => gd ((v2 + (nI 8)) + l1) 112 (oml (mw M6 (t + 1) (ix ((v2 + (nI 8)) + l1)) v7) fun M8 => obv (xX1_settle t l2 l3 M8) fun M9 => some M9)))
set_option maxRecDepth 20000 in
set_option maxHeartbeats 2000000 in
theorem tX1_heedForGood (t : Nat) (l1 : Int32) (l2 : Int32) (l3 : Int32) (l4 : Int32) (M : j_M) : J (ρ := j_M) yX1_heedForGood cX1_heedForGood 7 none 3 85 j_ev 0 [(0, .inr (10, 0, t)), (1, .inl (l1)), (2, .inl (l2)), (3, .inl (l3)), (4, .inl (l4))] [] M (xX1_heedForGood t l1 l2 l3 l4 M) := by
  unfold xX1_heedForGood
  refine K_iload_n (q := 1) 2 dX1_heedForGood_0 rfl rfl rfl ?_
  refine K_csi (q := 4) [.inl (l2)] dX1_heedForGood_1 cb_X1_blockOf cvRX1_73 rfl (Nat.le_of_ble_eq_true rfl) ⟨by decide, by decide⟩ (Nat.le_of_ble_eq_true rfl) rfl (tX1_blockOf l2 M) rfl (fun v2 M1 => ?_)
  refine K_bipush (q := 6) (v := nI 8) dX1_heedForGood_4 rfl rfl ?_
  refine K_iadd (q := 7) dX1_heedForGood_6 rfl ?_
  refine K_iload_n (q := 8) 1 dX1_heedForGood_7 rfl rfl rfl ?_
  refine K_iadd (q := 9) dX1_heedForGood_8 rfl ?_
  refine K_istore (q := 11) (ll' := [(5, .inl ((v2 + (nI 8)) + l1)), (0, .inr (10, 0, t)), (1, .inl (l1)), (2, .inl (l2)), (3, .inl (l3)), (4, .inl (l4))]) dX1_heedForGood_9 (by decide) rfl rfl ?_
  refine K_iload (q := 13) 5 dX1_heedForGood_11 rfl rfl ?_
  refine K_iconst (q := 14) (v := nI 2) dX1_heedForGood_13 rfl rfl ?_
  refine K_iushr (q := 15) dX1_heedForGood_14 rfl ?_
  refine K_istore (q := 17) (ll' := [(6, .inl (us l4 (nI 2))), (5, .inl ((v2 + (nI 8)) + l1)), (0, .inr (10, 0, t)), (1, .inl (l1)), (2, .inl (l2)), (3, .inl (l3)), (4, .inl (l4))]) dX1_heedForGood_15 (by decide) rfl rfl ?_
  refine K_aload_n (q := 18) 2 dX1_heedForGood_17 rfl rfl rfl ?_
  refine K_getR (q := 21) (ci := 0) (a2 := t + 1) 1 dX1_heedForGood_18 fRX1_11 rfl rfl (by decide) rfl rfl ?_
  refine K_iload (q := 23) 1 dX1_heedForGood_21 rfl rfl ?_
  refine K_iald (q := 24) dX1_heedForGood_23 rfl (fun v3 => ?_)
  refine K_csi (q := 27) [.inl (v3)] dX1_heedForGood_24 cb_X2_seq cvRX1_251 rfl (Nat.le_of_ble_eq_true rfl) ⟨by decide, by decide⟩ (Nat.le_of_ble_eq_true rfl) rfl (tX2_seq v3 M1) rfl (fun v5 M4 => ?_)
  refine K_iload (q := 29) 0 dX1_heedForGood_27 rfl rfl ?_
  refine K_icmp_ge (q := 32) (tgt := 55) dX1_heedForGood_29 rfl ?_ rfl ?_
  · exact J_vret dX1_heedForGood_55
  · refine K_aload_n (q := 33) 2 dX1_heedForGood_32 rfl rfl rfl ?_
    refine K_getR (q := 36) (ci := 0) (a2 := t + 1) 1 dX1_heedForGood_33 fRX1_11 rfl rfl (by decide) rfl rfl ?_
    refine K_iload (q := 38) 1 dX1_heedForGood_36 rfl rfl ?_
    refine K_iload (q := 40) 0 dX1_heedForGood_38 rfl rfl ?_
    refine K_iload_n (q := 41) 5 dX1_heedForGood_40 rfl rfl rfl ?_
    refine K_iload (q := 43) 6 dX1_heedForGood_41 rfl rfl ?_
    refine K_iconst (q := 44) (v := nI 3) dX1_heedForGood_43 rfl rfl ?_
    refine K_iand (q := 45) dX1_heedForGood_44 rfl ?_
    refine K_csi (q := 48) [.inl (us l4 (nI 2)), .inl (l3), .inl (l4 &&& (nI 3))] dX1_heedForGood_45 cb_X2_active cvRX1_264 rfl (Nat.le_of_ble_eq_true rfl) ⟨by decide, by decide⟩ (Nat.le_of_ble_eq_true rfl) rfl (tX2_active (us l4 (nI 2)) l3 (l4 &&& (nI 3)) M4) rfl (fun v7 M6 => ?_)
    refine K_iast (q := 49) dX1_heedForGood_48 rfl (fun M8 => ?_)
    refine K_aload_n (q := 50) 2 dX1_heedForGood_49 rfl rfl rfl ?_
    refine K_iload_n (q := 51) 4 dX1_heedForGood_50 rfl rfl rfl ?_
    refine K_iload_n (q := 52) 5 dX1_heedForGood_51 rfl rfl rfl ?_
    refine K_cvv (q := 55) [.inl (l2), .inl (l3)] dX1_heedForGood_52 cb_X1_settle cvRX1_233 rc_0 (show (10 : Nat) ≠ 0 by decide) rfl (Nat.le_of_ble_eq_true rfl) ⟨by decide, by decide⟩ (Nat.le_of_ble_eq_true rfl) rfl (tX1_settle t l2 l3 M8) rfl (fun M9 => ?_)
    exact J_vret dX1_heedForGood_55
theorem dX1_heedRecall_0 : decode cX1_heedRecall 0 = .ok (.iload_n 2, 1) := by decide +kernel
theorem dX1_heedRecall_1 : decode cX1_heedRecall 1 = .ok (.invokestatic 73, 3) := by decide +kernel
theorem dX1_heedRecall_4 : decode cX1_heedRecall 4 = .ok (.bipush 8, 2) := by decide +kernel
theorem dX1_heedRecall_6 : decode cX1_heedRecall 6 = .ok (.iadd, 1) := by decide +kernel
theorem dX1_heedRecall_7 : decode cX1_heedRecall 7 = .ok (.iload_n 1, 1) := by decide +kernel
theorem dX1_heedRecall_8 : decode cX1_heedRecall 8 = .ok (.iadd, 1) := by decide +kernel
theorem dX1_heedRecall_9 : decode cX1_heedRecall 9 = .ok (.istore 5, 2) := by decide +kernel
theorem dX1_heedRecall_11 : decode cX1_heedRecall 11 = .ok (.iload 4, 2) := by decide +kernel
theorem dX1_heedRecall_13 : decode cX1_heedRecall 13 = .ok (.iconst 2, 1) := by decide +kernel
theorem dX1_heedRecall_14 : decode cX1_heedRecall 14 = .ok (.iushr, 1) := by decide +kernel
theorem dX1_heedRecall_15 : decode cX1_heedRecall 15 = .ok (.istore 6, 2) := by decide +kernel
theorem dX1_heedRecall_17 : decode cX1_heedRecall 17 = .ok (.aload_n 0, 1) := by decide +kernel
theorem dX1_heedRecall_18 : decode cX1_heedRecall 18 = .ok (.getfield 11, 3) := by decide +kernel
theorem dX1_heedRecall_21 : decode cX1_heedRecall 21 = .ok (.iload 5, 2) := by decide +kernel
theorem dX1_heedRecall_23 : decode cX1_heedRecall 23 = .ok (.iaload, 1) := by decide +kernel
theorem dX1_heedRecall_24 : decode cX1_heedRecall 24 = .ok (.invokestatic 251, 3) := by decide +kernel
theorem dX1_heedRecall_27 : decode cX1_heedRecall 27 = .ok (.iload 6, 2) := by decide +kernel
theorem dX1_heedRecall_29 : decode cX1_heedRecall 29 = .ok (.if_icmp .gt 28, 3) := by decide +kernel
theorem dX1_heedRecall_32 : decode cX1_heedRecall 32 = .ok (.aload_n 0, 1) := by decide +kernel
theorem dX1_heedRecall_33 : decode cX1_heedRecall 33 = .ok (.getfield 11, 3) := by decide +kernel
theorem dX1_heedRecall_36 : decode cX1_heedRecall 36 = .ok (.iload 5, 2) := by decide +kernel
theorem dX1_heedRecall_38 : decode cX1_heedRecall 38 = .ok (.aload_n 0, 1) := by decide +kernel
theorem dX1_heedRecall_39 : decode cX1_heedRecall 39 = .ok (.getfield 11, 3) := by decide +kernel
theorem dX1_heedRecall_42 : decode cX1_heedRecall 42 = .ok (.iload 5, 2) := by decide +kernel
theorem dX1_heedRecall_44 : decode cX1_heedRecall 44 = .ok (.iaload, 1) := by decide +kernel
theorem dX1_heedRecall_45 : decode cX1_heedRecall 45 = .ok (.iload 6, 2) := by decide +kernel
theorem dX1_heedRecall_47 : decode cX1_heedRecall 47 = .ok (.invokestatic 270, 3) := by decide +kernel
theorem dX1_heedRecall_50 : decode cX1_heedRecall 50 = .ok (.iastore, 1) := by decide +kernel
theorem dX1_heedRecall_51 : decode cX1_heedRecall 51 = .ok (.aload_n 0, 1) := by decide +kernel
theorem dX1_heedRecall_52 : decode cX1_heedRecall 52 = .ok (.iload_n 2, 1) := by decide +kernel
theorem dX1_heedRecall_53 : decode cX1_heedRecall 53 = .ok (.iload_n 3, 1) := by decide +kernel
theorem dX1_heedRecall_54 : decode cX1_heedRecall 54 = .ok (.invokevirtual 233, 3) := by decide +kernel
theorem dX1_heedRecall_57 : decode cX1_heedRecall 57 = .ok (.return_, 1) := by decide +kernel
def xX1_heedRecall (t : Nat) (l1 : Int32) (l2 : Int32) (l3 : Int32) (l4 : Int32) (M : j_M) : Option (j_M) := obi (xX1_blockOf l2 M) fun v2 M1 => gd ((v2 + (nI 8)) + l1) 112 (oli (M1 (t + 1) (ix ((v2 + (nI 8)) + l1))) fun v3 => obi (xX2_seq v3 M1) fun v5 M4 => (if (us l4 (nI 2)) < v5 then some M4 else gd ((v2 + (nI 8)) + l1) 112 (oli (M4 (t + 1) (ix ((v2 + (nI 8)) + l1))) fun v6 => obi (xX2_recalled v6 (us l4 (nI 2)) M4) fun v8 M7 => gd ((v2 + (nI 8)) + l1) 112 (oml (mw M7 (t + 1) (ix ((v2 + (nI 8)) + l1)) v8) fun M9 => obv (xX1_settle t l2 l3 M9) fun M10 => some M10))))
set_option maxRecDepth 20000 in
set_option maxHeartbeats 2000000 in
theorem tX1_heedRecall (t : Nat) (l1 : Int32) (l2 : Int32) (l3 : Int32) (l4 : Int32) (M : j_M) : J (ρ := j_M) yX1_heedRecall cX1_heedRecall 7 none 3 85 j_ev 0 [(0, .inr (10, 0, t)), (1, .inl (l1)), (2, .inl (l2)), (3, .inl (l3)), (4, .inl (l4))] [] M (xX1_heedRecall t l1 l2 l3 l4 M) := by
  unfold xX1_heedRecall
  refine K_iload_n (q := 1) 2 dX1_heedRecall_0 rfl rfl rfl ?_
  refine K_csi (q := 4) [.inl (l2)] dX1_heedRecall_1 cb_X1_blockOf cvRX1_73 rfl (Nat.le_of_ble_eq_true rfl) ⟨by decide, by decide⟩ (Nat.le_of_ble_eq_true rfl) rfl (tX1_blockOf l2 M) rfl (fun v2 M1 => ?_)
  refine K_bipush (q := 6) (v := nI 8) dX1_heedRecall_4 rfl rfl ?_
  refine K_iadd (q := 7) dX1_heedRecall_6 rfl ?_
  refine K_iload_n (q := 8) 1 dX1_heedRecall_7 rfl rfl rfl ?_
  refine K_iadd (q := 9) dX1_heedRecall_8 rfl ?_
  refine K_istore (q := 11) (ll' := [(5, .inl ((v2 + (nI 8)) + l1)), (0, .inr (10, 0, t)), (1, .inl (l1)), (2, .inl (l2)), (3, .inl (l3)), (4, .inl (l4))]) dX1_heedRecall_9 (by decide) rfl rfl ?_
  refine K_iload (q := 13) 5 dX1_heedRecall_11 rfl rfl ?_
  refine K_iconst (q := 14) (v := nI 2) dX1_heedRecall_13 rfl rfl ?_
  refine K_iushr (q := 15) dX1_heedRecall_14 rfl ?_
  refine K_istore (q := 17) (ll' := [(6, .inl (us l4 (nI 2))), (5, .inl ((v2 + (nI 8)) + l1)), (0, .inr (10, 0, t)), (1, .inl (l1)), (2, .inl (l2)), (3, .inl (l3)), (4, .inl (l4))]) dX1_heedRecall_15 (by decide) rfl rfl ?_
  refine K_aload_n (q := 18) 2 dX1_heedRecall_17 rfl rfl rfl ?_
  refine K_getR (q := 21) (ci := 0) (a2 := t + 1) 1 dX1_heedRecall_18 fRX1_11 rfl rfl (by decide) rfl rfl ?_
  refine K_iload (q := 23) 1 dX1_heedRecall_21 rfl rfl ?_
  refine K_iald (q := 24) dX1_heedRecall_23 rfl (fun v3 => ?_)
  refine K_csi (q := 27) [.inl (v3)] dX1_heedRecall_24 cb_X2_seq cvRX1_251 rfl (Nat.le_of_ble_eq_true rfl) ⟨by decide, by decide⟩ (Nat.le_of_ble_eq_true rfl) rfl (tX2_seq v3 M1) rfl (fun v5 M4 => ?_)
  refine K_iload (q := 29) 0 dX1_heedRecall_27 rfl rfl ?_
  refine K_icmp_gt (q := 32) (tgt := 57) dX1_heedRecall_29 rfl ?_ rfl ?_
  · exact J_vret dX1_heedRecall_57
  · refine K_aload_n (q := 33) 2 dX1_heedRecall_32 rfl rfl rfl ?_
    refine K_getR (q := 36) (ci := 0) (a2 := t + 1) 1 dX1_heedRecall_33 fRX1_11 rfl rfl (by decide) rfl rfl ?_
    refine K_iload (q := 38) 1 dX1_heedRecall_36 rfl rfl ?_
    refine K_aload_n (q := 39) 2 dX1_heedRecall_38 rfl rfl rfl ?_
    refine K_getR (q := 42) (ci := 0) (a2 := t + 1) 1 dX1_heedRecall_39 fRX1_11 rfl rfl (by decide) rfl rfl ?_
    refine K_iload (q := 44) 1 dX1_heedRecall_42 rfl rfl ?_
    refine K_iald (q := 45) dX1_heedRecall_44 rfl (fun v6 => ?_)
    refine K_iload (q := 47) 0 dX1_heedRecall_45 rfl rfl ?_
    refine K_csi (q := 50) [.inl (v6), .inl (us l4 (nI 2))] dX1_heedRecall_47 cb_X2_recalled cvRX1_270 rfl (Nat.le_of_ble_eq_true rfl) ⟨by decide, by decide⟩ (Nat.le_of_ble_eq_true rfl) rfl (tX2_recalled v6 (us l4 (nI 2)) M4) rfl (fun v8 M7 => ?_)
    refine K_iast (q := 51) dX1_heedRecall_50 rfl (fun M9 => ?_)
    refine K_aload_n (q := 52) 2 dX1_heedRecall_51 rfl rfl rfl ?_
    refine K_iload_n (q := 53) 4 dX1_heedRecall_52 rfl rfl rfl ?_
    refine K_iload_n (q := 54) 5 dX1_heedRecall_53 rfl rfl rfl ?_
    refine K_cvv (q := 57) [.inl (l2), .inl (l3)] dX1_heedRecall_54 cb_X1_settle cvRX1_233 rc_0 (show (10 : Nat) ≠ 0 by decide) rfl (Nat.le_of_ble_eq_true rfl) ⟨by decide, by decide⟩ (Nat.le_of_ble_eq_true rfl) rfl (tX1_settle t l2 l3 M9) rfl (fun M10 => ?_)
    exact J_vret dX1_heedRecall_57
theorem dX1_closeEntry_0 : decode cX1_closeEntry 0 = .ok (.iload_n 1, 1) := by decide +kernel
theorem dX1_closeEntry_1 : decode cX1_closeEntry 1 = .ok (.invokestatic 73, 3) := by decide +kernel
theorem dX1_closeEntry_4 : decode cX1_closeEntry 4 = .ok (.bipush 8, 2) := by decide +kernel
theorem dX1_closeEntry_6 : decode cX1_closeEntry 6 = .ok (.iadd, 1) := by decide +kernel
theorem dX1_closeEntry_7 : decode cX1_closeEntry 7 = .ok (.istore_n 3, 1) := by decide +kernel
theorem dX1_closeEntry_8 : decode cX1_closeEntry 8 = .ok (.aload_n 0, 1) := by decide +kernel
theorem dX1_closeEntry_9 : decode cX1_closeEntry 9 = .ok (.getfield 11, 3) := by decide +kernel
theorem dX1_closeEntry_12 : decode cX1_closeEntry 12 = .ok (.iload_n 3, 1) := by decide +kernel
theorem dX1_closeEntry_13 : decode cX1_closeEntry 13 = .ok (.iload_n 1, 1) := by decide +kernel
theorem dX1_closeEntry_14 : decode cX1_closeEntry 14 = .ok (.iadd, 1) := by decide +kernel
theorem dX1_closeEntry_15 : decode cX1_closeEntry 15 = .ok (.dup2, 1) := by decide +kernel
theorem dX1_closeEntry_16 : decode cX1_closeEntry 16 = .ok (.iaload, 1) := by decide +kernel
theorem dX1_closeEntry_17 : decode cX1_closeEntry 17 = .ok (.bipush (-2), 2) := by decide +kernel
theorem dX1_closeEntry_19 : decode cX1_closeEntry 19 = .ok (.iand, 1) := by decide +kernel
theorem dX1_closeEntry_20 : decode cX1_closeEntry 20 = .ok (.iastore, 1) := by decide +kernel
theorem dX1_closeEntry_21 : decode cX1_closeEntry 21 = .ok (.iconst 0, 1) := by decide +kernel
theorem dX1_closeEntry_22 : decode cX1_closeEntry 22 = .ok (.istore 4, 2) := by decide +kernel
theorem dX1_closeEntry_24 : decode cX1_closeEntry 24 = .ok (.iload 4, 2) := by decide +kernel
theorem dX1_closeEntry_26 : decode cX1_closeEntry 26 = .ok (.aload_n 0, 1) := by decide +kernel
theorem dX1_closeEntry_27 : decode cX1_closeEntry 27 = .ok (.getfield 33, 3) := by decide +kernel
theorem dX1_closeEntry_30 : decode cX1_closeEntry 30 = .ok (.if_icmp .ge 38, 3) := by decide +kernel
theorem dX1_closeEntry_33 : decode cX1_closeEntry 33 = .ok (.aload_n 0, 1) := by decide +kernel
theorem dX1_closeEntry_34 : decode cX1_closeEntry 34 = .ok (.getfield 11, 3) := by decide +kernel
theorem dX1_closeEntry_37 : decode cX1_closeEntry 37 = .ok (.iload_n 3, 1) := by decide +kernel
theorem dX1_closeEntry_38 : decode cX1_closeEntry 38 = .ok (.iload 4, 2) := by decide +kernel
theorem dX1_closeEntry_40 : decode cX1_closeEntry 40 = .ok (.iadd, 1) := by decide +kernel
theorem dX1_closeEntry_41 : decode cX1_closeEntry 41 = .ok (.iaload, 1) := by decide +kernel
theorem dX1_closeEntry_42 : decode cX1_closeEntry 42 = .ok (.iload_n 2, 1) := by decide +kernel
theorem dX1_closeEntry_43 : decode cX1_closeEntry 43 = .ok (.invokestatic 259, 3) := by decide +kernel
theorem dX1_closeEntry_46 : decode cX1_closeEntry 46 = .ok (.ifCond .eq 16, 3) := by decide +kernel
theorem dX1_closeEntry_49 : decode cX1_closeEntry 49 = .ok (.aload_n 0, 1) := by decide +kernel
theorem dX1_closeEntry_50 : decode cX1_closeEntry 50 = .ok (.getfield 11, 3) := by decide +kernel
theorem dX1_closeEntry_53 : decode cX1_closeEntry 53 = .ok (.iload_n 3, 1) := by decide +kernel
theorem dX1_closeEntry_54 : decode cX1_closeEntry 54 = .ok (.iload 4, 2) := by decide +kernel
theorem dX1_closeEntry_56 : decode cX1_closeEntry 56 = .ok (.iadd, 1) := by decide +kernel
theorem dX1_closeEntry_57 : decode cX1_closeEntry 57 = .ok (.dup2, 1) := by decide +kernel
theorem dX1_closeEntry_58 : decode cX1_closeEntry 58 = .ok (.iaload, 1) := by decide +kernel
theorem dX1_closeEntry_59 : decode cX1_closeEntry 59 = .ok (.iconst 2, 1) := by decide +kernel
theorem dX1_closeEntry_60 : decode cX1_closeEntry 60 = .ok (.ior, 1) := by decide +kernel
theorem dX1_closeEntry_61 : decode cX1_closeEntry 61 = .ok (.iastore, 1) := by decide +kernel
theorem dX1_closeEntry_62 : decode cX1_closeEntry 62 = .ok (.iinc 4 1, 3) := by decide +kernel
theorem dX1_closeEntry_65 : decode cX1_closeEntry 65 = .ok (.goto (-41), 3) := by decide +kernel
theorem dX1_closeEntry_68 : decode cX1_closeEntry 68 = .ok (.return_, 1) := by decide +kernel
def xX1_closeEntry_24  (t : Nat) : Nat → Int32 → Int32 → Int32 → j_M → Option (j_M)
  | 0, _, _, _, _ => none
  | n + 1, l2, l3, l4, M => oli (M t 9) fun v1 => (if v1 ≤ l4 then some M else gd (l3 + l4) 112 (oli (M (t + 1) (ix (l3 + l4))) fun v2 => obi (xX2_isActiveFor v2 l2 M) fun v4 M3 => (if v4 = (0 : Int32) then xX1_closeEntry_24 t n l2 l3 (l4 + (nI 1)) M3 else gd (l3 + l4) 112 (oli (M3 (t + 1) (ix (l3 + l4))) fun v5 => gd (l3 + l4) 112 (oml (mw M3 (t + 1) (ix (l3 + l4)) (v5 ||| (nI 2))) fun M6 => xX1_closeEntry_24 t n l2 l3 (l4 + (nI 1)) M6)))))
set_option maxRecDepth 20000 in
set_option maxHeartbeats 2000000 in
theorem tX1_closeEntry_24  (t : Nat)  : ∀ (n : Nat) (l2 : Int32) (l3 : Int32) (l4 : Int32) (M : j_M), J (ρ := j_M) yX1_closeEntry cX1_closeEntry 5 none 1 21 j_ev 24 [(0, .inr (10, 0, t)), (2, .inl (l2)), (3, .inl (l3)), (4, .inl (l4))] [] M (xX1_closeEntry_24 t n l2 l3 l4 M) := by
  intro n
  induction n with
  | zero => intros; exact J_none
  | succ n ih =>
    intro l2 l3 l4 M
    rw [xX1_closeEntry_24.eq_2]
    refine K_iload (q := 26) 3 dX1_closeEntry_24 rfl rfl ?_
    refine K_aload_n (q := 27) 0 dX1_closeEntry_26 rfl rfl rfl ?_
    refine K_getI (q := 30) (ci := 0) 9 dX1_closeEntry_27 fRX1_33 rfl rfl rfl (fun v1 => ?_)
    refine K_icmp_ge (q := 33) (tgt := 68) dX1_closeEntry_30 rfl ?_ rfl ?_
    · exact J_vret dX1_closeEntry_68
    · refine K_aload_n (q := 34) 0 dX1_closeEntry_33 rfl rfl rfl ?_
      refine K_getR (q := 37) (ci := 0) (a2 := t + 1) 1 dX1_closeEntry_34 fRX1_11 rfl rfl (by decide) rfl rfl ?_
      refine K_iload_n (q := 38) 2 dX1_closeEntry_37 rfl rfl rfl ?_
      refine K_iload (q := 40) 3 dX1_closeEntry_38 rfl rfl ?_
      refine K_iadd (q := 41) dX1_closeEntry_40 rfl ?_
      refine K_iald (q := 42) dX1_closeEntry_41 rfl (fun v2 => ?_)
      refine K_iload_n (q := 43) 1 dX1_closeEntry_42 rfl rfl rfl ?_
      refine K_csi (q := 46) [.inl (v2), .inl (l2)] dX1_closeEntry_43 cb_X2_isActiveFor cvRX1_259 rfl (Nat.le_of_ble_eq_true rfl) ⟨by decide, by decide⟩ (Nat.le_of_ble_eq_true rfl) rfl (tX2_isActiveFor v2 l2 M) rfl (fun v4 M3 => ?_)
      refine K_if_eq (q := 49) (tgt := 62) dX1_closeEntry_46 rfl ?_ rfl ?_
      · refine K_iinc (q := 65) (v := l4 + (nI 1)) (ll' := [(4, .inl (l4 + (nI 1))), (0, .inr (10, 0, t)), (2, .inl (l2)), (3, .inl (l3))]) 3 dX1_closeEntry_62 rfl rfl (by decide) rfl rfl ?_
        refine J_goto (tgt := 24) dX1_closeEntry_65 rfl ?_
        exact J_sub [1, 2, 3, 0] (ih l2 l3 (l4 + (nI 1)) M3) rfl
      · refine K_aload_n (q := 50) 0 dX1_closeEntry_49 rfl rfl rfl ?_
        refine K_getR (q := 53) (ci := 0) (a2 := t + 1) 1 dX1_closeEntry_50 fRX1_11 rfl rfl (by decide) rfl rfl ?_
        refine K_iload_n (q := 54) 2 dX1_closeEntry_53 rfl rfl rfl ?_
        refine K_iload (q := 56) 3 dX1_closeEntry_54 rfl rfl ?_
        refine K_iadd (q := 57) dX1_closeEntry_56 rfl ?_
        refine K_dup2 (q := 58) dX1_closeEntry_57 rfl ?_
        refine K_iald (q := 59) dX1_closeEntry_58 rfl (fun v5 => ?_)
        refine K_iconst (q := 60) (v := nI 2) dX1_closeEntry_59 rfl rfl ?_
        refine K_ior (q := 61) dX1_closeEntry_60 rfl ?_
        refine K_iast (q := 62) dX1_closeEntry_61 rfl (fun M6 => ?_)
        refine K_iinc (q := 65) (v := l4 + (nI 1)) (ll' := [(4, .inl (l4 + (nI 1))), (0, .inr (10, 0, t)), (2, .inl (l2)), (3, .inl (l3))]) 3 dX1_closeEntry_62 rfl rfl (by decide) rfl rfl ?_
        refine J_goto (tgt := 24) dX1_closeEntry_65 rfl ?_
        exact J_sub [1, 2, 3, 0] (ih l2 l3 (l4 + (nI 1)) M6) rfl
def xX1_closeEntry (t : Nat) (l1 : Int32) (l2 : Int32) (M : j_M) : Option (j_M) := obi (xX1_blockOf l1 M) fun v2 M1 => gd ((v2 + (nI 8)) + l1) 112 (oli (M1 (t + 1) (ix ((v2 + (nI 8)) + l1))) fun v3 => gd ((v2 + (nI 8)) + l1) 112 (oml (mw M1 (t + 1) (ix ((v2 + (nI 8)) + l1)) (v3 &&& (-2 : Int32))) fun M4 => xX1_closeEntry_24 t fu l2 (v2 + (nI 8)) (nI 0) M4))
set_option maxRecDepth 20000 in
set_option maxHeartbeats 2000000 in
theorem tX1_closeEntry (t : Nat) (l1 : Int32) (l2 : Int32) (M : j_M) : J (ρ := j_M) yX1_closeEntry cX1_closeEntry 5 none 1 21 j_ev 0 [(0, .inr (10, 0, t)), (1, .inl (l1)), (2, .inl (l2))] [] M (xX1_closeEntry t l1 l2 M) := by
  unfold xX1_closeEntry
  refine K_iload_n (q := 1) 1 dX1_closeEntry_0 rfl rfl rfl ?_
  refine K_csi (q := 4) [.inl (l1)] dX1_closeEntry_1 cb_X1_blockOf cvRX1_73 rfl (Nat.le_of_ble_eq_true rfl) ⟨by decide, by decide⟩ (Nat.le_of_ble_eq_true rfl) rfl (tX1_blockOf l1 M) rfl (fun v2 M1 => ?_)
  refine K_bipush (q := 6) (v := nI 8) dX1_closeEntry_4 rfl rfl ?_
  refine K_iadd (q := 7) dX1_closeEntry_6 rfl ?_
  refine K_istore_n (q := 8) (ll' := [(3, .inl (v2 + (nI 8))), (0, .inr (10, 0, t)), (1, .inl (l1)), (2, .inl (l2))]) dX1_closeEntry_7 rfl (by decide) rfl rfl ?_
  refine K_aload_n (q := 9) 1 dX1_closeEntry_8 rfl rfl rfl ?_
  refine K_getR (q := 12) (ci := 0) (a2 := t + 1) 1 dX1_closeEntry_9 fRX1_11 rfl rfl (by decide) rfl rfl ?_
  refine K_iload_n (q := 13) 0 dX1_closeEntry_12 rfl rfl rfl ?_
  refine K_iload_n (q := 14) 2 dX1_closeEntry_13 rfl rfl rfl ?_
  refine K_iadd (q := 15) dX1_closeEntry_14 rfl ?_
  refine K_dup2 (q := 16) dX1_closeEntry_15 rfl ?_
  refine K_iald (q := 17) dX1_closeEntry_16 rfl (fun v3 => ?_)
  refine K_bipush (q := 19) (v := -2) dX1_closeEntry_17 rfl rfl ?_
  refine K_iand (q := 20) dX1_closeEntry_19 rfl ?_
  refine K_iast (q := 21) dX1_closeEntry_20 rfl (fun M4 => ?_)
  refine K_iconst (q := 22) (v := nI 0) dX1_closeEntry_21 rfl rfl ?_
  refine K_istore (q := 24) (ll' := [(4, .inl ((nI 0))), (3, .inl (v2 + (nI 8))), (0, .inr (10, 0, t)), (1, .inl (l1)), (2, .inl (l2))]) dX1_closeEntry_22 (by decide) rfl rfl ?_
  exact J_sub [2, 4, 1, 0] (tX1_closeEntry_24 t fu l2 (v2 + (nI 8)) (nI 0) M4) rfl
theorem dX1_endMiss_0 : decode cX1_endMiss 0 = .ok (.iload_n 1, 1) := by decide +kernel
theorem dX1_endMiss_1 : decode cX1_endMiss 1 = .ok (.invokestatic 73, 3) := by decide +kernel
theorem dX1_endMiss_4 : decode cX1_endMiss 4 = .ok (.bipush 15, 2) := by decide +kernel
theorem dX1_endMiss_6 : decode cX1_endMiss 6 = .ok (.iadd, 1) := by decide +kernel
theorem dX1_endMiss_7 : decode cX1_endMiss 7 = .ok (.istore_n 2, 1) := by decide +kernel
theorem dX1_endMiss_8 : decode cX1_endMiss 8 = .ok (.aload_n 0, 1) := by decide +kernel
theorem dX1_endMiss_9 : decode cX1_endMiss 9 = .ok (.getfield 11, 3) := by decide +kernel
theorem dX1_endMiss_12 : decode cX1_endMiss 12 = .ok (.iload_n 2, 1) := by decide +kernel
theorem dX1_endMiss_13 : decode cX1_endMiss 13 = .ok (.iaload, 1) := by decide +kernel
theorem dX1_endMiss_14 : decode cX1_endMiss 14 = .ok (.istore_n 3, 1) := by decide +kernel
theorem dX1_endMiss_15 : decode cX1_endMiss 15 = .ok (.iload_n 3, 1) := by decide +kernel
theorem dX1_endMiss_16 : decode cX1_endMiss 16 = .ok (.invokestatic 77, 3) := by decide +kernel
theorem dX1_endMiss_19 : decode cX1_endMiss 19 = .ok (.istore 4, 2) := by decide +kernel
theorem dX1_endMiss_21 : decode cX1_endMiss 21 = .ok (.aload_n 0, 1) := by decide +kernel
theorem dX1_endMiss_22 : decode cX1_endMiss 22 = .ok (.iload_n 1, 1) := by decide +kernel
theorem dX1_endMiss_23 : decode cX1_endMiss 23 = .ok (.iload 4, 2) := by decide +kernel
theorem dX1_endMiss_25 : decode cX1_endMiss 25 = .ok (.iload_n 3, 1) := by decide +kernel
theorem dX1_endMiss_26 : decode cX1_endMiss 26 = .ok (.invokestatic 142, 3) := by decide +kernel
theorem dX1_endMiss_29 : decode cX1_endMiss 29 = .ok (.iload_n 3, 1) := by decide +kernel
theorem dX1_endMiss_30 : decode cX1_endMiss 30 = .ok (.invokestatic 236, 3) := by decide +kernel
theorem dX1_endMiss_33 : decode cX1_endMiss 33 = .ok (.invokevirtual 115, 3) := by decide +kernel
theorem dX1_endMiss_36 : decode cX1_endMiss 36 = .ok (.pop, 1) := by decide +kernel
theorem dX1_endMiss_37 : decode cX1_endMiss 37 = .ok (.aload_n 0, 1) := by decide +kernel
theorem dX1_endMiss_38 : decode cX1_endMiss 38 = .ok (.getfield 11, 3) := by decide +kernel
theorem dX1_endMiss_41 : decode cX1_endMiss 41 = .ok (.iload_n 2, 1) := by decide +kernel
theorem dX1_endMiss_42 : decode cX1_endMiss 42 = .ok (.iconst 0, 1) := by decide +kernel
theorem dX1_endMiss_43 : decode cX1_endMiss 43 = .ok (.iastore, 1) := by decide +kernel
theorem dX1_endMiss_44 : decode cX1_endMiss 44 = .ok (.aload_n 0, 1) := by decide +kernel
theorem dX1_endMiss_45 : decode cX1_endMiss 45 = .ok (.getfield 46, 3) := by decide +kernel
theorem dX1_endMiss_48 : decode cX1_endMiss 48 = .ok (.iload_n 1, 1) := by decide +kernel
theorem dX1_endMiss_49 : decode cX1_endMiss 49 = .ok (.aload_n 0, 1) := by decide +kernel
theorem dX1_endMiss_50 : decode cX1_endMiss 50 = .ok (.getfield 70, 3) := by decide +kernel
theorem dX1_endMiss_53 : decode cX1_endMiss 53 = .ok (.aload_n 0, 1) := by decide +kernel
theorem dX1_endMiss_54 : decode cX1_endMiss 54 = .ok (.getfield 30, 3) := by decide +kernel
theorem dX1_endMiss_57 : decode cX1_endMiss 57 = .ok (.iload_n 1, 1) := by decide +kernel
theorem dX1_endMiss_58 : decode cX1_endMiss 58 = .ok (.iaload, 1) := by decide +kernel
theorem dX1_endMiss_59 : decode cX1_endMiss 59 = .ok (.isub, 1) := by decide +kernel
theorem dX1_endMiss_60 : decode cX1_endMiss 60 = .ok (.invokevirtual 239, 3) := by decide +kernel
theorem dX1_endMiss_63 : decode cX1_endMiss 63 = .ok (.aload_n 0, 1) := by decide +kernel
theorem dX1_endMiss_64 : decode cX1_endMiss 64 = .ok (.getfield 46, 3) := by decide +kernel
theorem dX1_endMiss_67 : decode cX1_endMiss 67 = .ok (.aload_n 0, 1) := by decide +kernel
theorem dX1_endMiss_68 : decode cX1_endMiss 68 = .ok (.getfield 70, 3) := by decide +kernel
theorem dX1_endMiss_71 : decode cX1_endMiss 71 = .ok (.iconst 2, 1) := by decide +kernel
theorem dX1_endMiss_72 : decode cX1_endMiss 72 = .ok (.iload_n 1, 1) := by decide +kernel
theorem dX1_endMiss_73 : decode cX1_endMiss 73 = .ok (.iload 4, 2) := by decide +kernel
theorem dX1_endMiss_75 : decode cX1_endMiss 75 = .ok (.invokevirtual 111, 3) := by decide +kernel
theorem dX1_endMiss_78 : decode cX1_endMiss 78 = .ok (.iload_n 3, 1) := by decide +kernel
theorem dX1_endMiss_79 : decode cX1_endMiss 79 = .ok (.invokestatic 242, 3) := by decide +kernel
theorem dX1_endMiss_82 : decode cX1_endMiss 82 = .ok (.ifCond .eq 29, 3) := by decide +kernel
theorem dX1_endMiss_85 : decode cX1_endMiss 85 = .ok (.aload_n 0, 1) := by decide +kernel
theorem dX1_endMiss_86 : decode cX1_endMiss 86 = .ok (.iload_n 1, 1) := by decide +kernel
theorem dX1_endMiss_87 : decode cX1_endMiss 87 = .ok (.iload 4, 2) := by decide +kernel
theorem dX1_endMiss_89 : decode cX1_endMiss 89 = .ok (.invokevirtual 245, 3) := by decide +kernel
theorem dX1_endMiss_92 : decode cX1_endMiss 92 = .ok (.aload_n 0, 1) := by decide +kernel
theorem dX1_endMiss_93 : decode cX1_endMiss 93 = .ok (.iload_n 1, 1) := by decide +kernel
theorem dX1_endMiss_94 : decode cX1_endMiss 94 = .ok (.iconst 5, 1) := by decide +kernel
theorem dX1_endMiss_95 : decode cX1_endMiss 95 = .ok (.iload 4, 2) := by decide +kernel
theorem dX1_endMiss_97 : decode cX1_endMiss 97 = .ok (.aload_n 0, 1) := by decide +kernel
theorem dX1_endMiss_98 : decode cX1_endMiss 98 = .ok (.iload_n 1, 1) := by decide +kernel
theorem dX1_endMiss_99 : decode cX1_endMiss 99 = .ok (.iload_n 1, 1) := by decide +kernel
theorem dX1_endMiss_100 : decode cX1_endMiss 100 = .ok (.invokevirtual 248, 3) := by decide +kernel
theorem dX1_endMiss_103 : decode cX1_endMiss 103 = .ok (.invokestatic 251, 3) := by decide +kernel
theorem dX1_endMiss_106 : decode cX1_endMiss 106 = .ok (.iconst 2, 1) := by decide +kernel
theorem dX1_endMiss_107 : decode cX1_endMiss 107 = .ok (.ishl, 1) := by decide +kernel
theorem dX1_endMiss_108 : decode cX1_endMiss 108 = .ok (.invokevirtual 256, 3) := by decide +kernel
theorem dX1_endMiss_111 : decode cX1_endMiss 111 = .ok (.return_, 1) := by decide +kernel
def xX1_endMiss (t : Nat) (l1 : Int32) (M : j_M) : Option (j_M) := obi (xX1_blockOf l1 M) fun v2 M1 => gd (v2 + (nI 15)) 112 (oli (M1 (t + 1) (ix (v2 + (nI 15)))) fun v3 => obi (xX7_line v3 M1) fun v5 M4 => obi (xX7_what v3 M4) fun v7 M6 => obi (xX7_value v3 M6) fun v9 M8 => obi (xX1_perform t l1 v5 v7 v9 M8) fun v11 M10 => gd (v2 + (nI 15)) 112 (oml (mw M10 (t + 1) (ix (v2 + (nI 15))) (nI 0)) fun M12 => oli (M12 t 14) fun v13 => gd l1 6 (oli (M12 (t + 7) (ix l1)) fun v14 => obv (xX5_countEnd (t + 8) l1 (v13 - v14) M12) fun M15 => oli (M15 t 14) fun v16 => obv (xX5_note (t + 8) v16 (nI 2) l1 v5 M15) fun M17 => obi (xX7_isForGood v3 M17) fun v19 M18 => (if v19 = (0 : Int32) then some M18 else obv (xX1_closeEntry t l1 v5 M18) fun M20 => obi (xX1_entryAt t l1 l1 M20) fun v22 M21 => obi (xX2_seq v22 M21) fun v24 M23 => obv (xX1_postToOthers t l1 (nI 5) v5 (v24 <<< ((nI 2) &&& 31)) M23) fun M25 => some M25))))
set_option maxRecDepth 20000 in
set_option maxHeartbeats 2000000 in
theorem tX1_endMiss (t : Nat) (l1 : Int32) (M : j_M) : J (ρ := j_M) yX1_endMiss cX1_endMiss 5 none 2 56 j_ev 0 [(0, .inr (10, 0, t)), (1, .inl (l1))] [] M (xX1_endMiss t l1 M) := by
  unfold xX1_endMiss
  refine K_iload_n (q := 1) 1 dX1_endMiss_0 rfl rfl rfl ?_
  refine K_csi (q := 4) [.inl (l1)] dX1_endMiss_1 cb_X1_blockOf cvRX1_73 rfl (Nat.le_of_ble_eq_true rfl) ⟨by decide, by decide⟩ (Nat.le_of_ble_eq_true rfl) rfl (tX1_blockOf l1 M) rfl (fun v2 M1 => ?_)
  refine K_bipush (q := 6) (v := nI 15) dX1_endMiss_4 rfl rfl ?_
  refine K_iadd (q := 7) dX1_endMiss_6 rfl ?_
  refine K_istore_n (q := 8) (ll' := [(2, .inl (v2 + (nI 15))), (0, .inr (10, 0, t)), (1, .inl (l1))]) dX1_endMiss_7 rfl (by decide) rfl rfl ?_
  refine K_aload_n (q := 9) 1 dX1_endMiss_8 rfl rfl rfl ?_
  refine K_getR (q := 12) (ci := 0) (a2 := t + 1) 1 dX1_endMiss_9 fRX1_11 rfl rfl (by decide) rfl rfl ?_
  refine K_iload_n (q := 13) 0 dX1_endMiss_12 rfl rfl rfl ?_
  refine K_iald (q := 14) dX1_endMiss_13 rfl (fun v3 => ?_)
  refine K_istore_n (q := 15) (ll' := [(3, .inl (v3)), (2, .inl (v2 + (nI 15))), (0, .inr (10, 0, t)), (1, .inl (l1))]) dX1_endMiss_14 rfl (by decide) rfl rfl ?_
  refine K_iload_n (q := 16) 0 dX1_endMiss_15 rfl rfl rfl ?_
  refine K_csi (q := 19) [.inl (v3)] dX1_endMiss_16 cb_X7_line cvRX1_77 rfl (Nat.le_of_ble_eq_true rfl) ⟨by decide, by decide⟩ (Nat.le_of_ble_eq_true rfl) rfl (tX7_line v3 M1) rfl (fun v5 M4 => ?_)
  refine K_istore (q := 21) (ll' := [(4, .inl (v5)), (3, .inl (v3)), (2, .inl (v2 + (nI 15))), (0, .inr (10, 0, t)), (1, .inl (l1))]) dX1_endMiss_19 (by decide) rfl rfl ?_
  refine K_aload_n (q := 22) 3 dX1_endMiss_21 rfl rfl rfl ?_
  refine K_iload_n (q := 23) 4 dX1_endMiss_22 rfl rfl rfl ?_
  refine K_iload (q := 25) 0 dX1_endMiss_23 rfl rfl ?_
  refine K_iload_n (q := 26) 1 dX1_endMiss_25 rfl rfl rfl ?_
  refine K_csi (q := 29) [.inl (v3)] dX1_endMiss_26 cb_X7_what cvRX1_142 rfl (Nat.le_of_ble_eq_true rfl) ⟨by decide, by decide⟩ (Nat.le_of_ble_eq_true rfl) rfl (tX7_what v3 M4) rfl (fun v7 M6 => ?_)
  refine K_iload_n (q := 30) 1 dX1_endMiss_29 rfl rfl rfl ?_
  refine K_csi (q := 33) [.inl (v3)] dX1_endMiss_30 cb_X7_value cvRX1_236 rfl (Nat.le_of_ble_eq_true rfl) ⟨by decide, by decide⟩ (Nat.le_of_ble_eq_true rfl) rfl (tX7_value v3 M6) rfl (fun v9 M8 => ?_)
  refine K_cvi (q := 36) [.inl (l1), .inl (v5), .inl (v7), .inl (v9)] dX1_endMiss_33 cb_X1_perform cvRX1_115 rc_0 (show (10 : Nat) ≠ 0 by decide) rfl (Nat.le_of_ble_eq_true rfl) ⟨by decide, by decide⟩ (Nat.le_of_ble_eq_true rfl) rfl (tX1_perform t l1 v5 v7 v9 M8) rfl (fun v11 M10 => ?_)
  refine K_pop (q := 37) dX1_endMiss_36 rfl ?_
  refine K_aload_n (q := 38) 3 dX1_endMiss_37 rfl rfl rfl ?_
  refine K_getR (q := 41) (ci := 0) (a2 := t + 1) 1 dX1_endMiss_38 fRX1_11 rfl rfl (by decide) rfl rfl ?_
  refine K_iload_n (q := 42) 2 dX1_endMiss_41 rfl rfl rfl ?_
  refine K_iconst (q := 43) (v := nI 0) dX1_endMiss_42 rfl rfl ?_
  refine K_iast (q := 44) dX1_endMiss_43 rfl (fun M12 => ?_)
  refine K_aload_n (q := 45) 3 dX1_endMiss_44 rfl rfl rfl ?_
  refine K_getR (q := 48) (ci := 0) (a2 := t + 8) 0 dX1_endMiss_45 fRX1_46 rfl rfl (by decide) rfl rfl ?_
  refine K_iload_n (q := 49) 4 dX1_endMiss_48 rfl rfl rfl ?_
  refine K_aload_n (q := 50) 3 dX1_endMiss_49 rfl rfl rfl ?_
  refine K_getI (q := 53) (ci := 0) 14 dX1_endMiss_50 fRX1_70 rfl rfl rfl (fun v13 => ?_)
  refine K_aload_n (q := 54) 3 dX1_endMiss_53 rfl rfl rfl ?_
  refine K_getR (q := 57) (ci := 0) (a2 := t + 7) 7 dX1_endMiss_54 fRX1_30 rfl rfl (by decide) rfl rfl ?_
  refine K_iload_n (q := 58) 4 dX1_endMiss_57 rfl rfl rfl ?_
  refine K_iald (q := 59) dX1_endMiss_58 rfl (fun v14 => ?_)
  refine K_isub (q := 60) dX1_endMiss_59 rfl ?_
  refine K_cvv (q := 63) [.inl (l1), .inl (v13 - v14)] dX1_endMiss_60 cb_X5_countEnd cvRX1_239 rc_1 (show (11 : Nat) ≠ 0 by decide) rfl (Nat.le_of_ble_eq_true rfl) ⟨by decide, by decide⟩ (Nat.le_of_ble_eq_true rfl) rfl (tX5_countEnd (t + 8) l1 (v13 - v14) M12) rfl (fun M15 => ?_)
  refine K_aload_n (q := 64) 3 dX1_endMiss_63 rfl rfl rfl ?_
  refine K_getR (q := 67) (ci := 0) (a2 := t + 8) 0 dX1_endMiss_64 fRX1_46 rfl rfl (by decide) rfl rfl ?_
  refine K_aload_n (q := 68) 3 dX1_endMiss_67 rfl rfl rfl ?_
  refine K_getI (q := 71) (ci := 0) 14 dX1_endMiss_68 fRX1_70 rfl rfl rfl (fun v16 => ?_)
  refine K_iconst (q := 72) (v := nI 2) dX1_endMiss_71 rfl rfl ?_
  refine K_iload_n (q := 73) 4 dX1_endMiss_72 rfl rfl rfl ?_
  refine K_iload (q := 75) 0 dX1_endMiss_73 rfl rfl ?_
  refine K_cvv (q := 78) [.inl (v16), .inl ((nI 2)), .inl (l1), .inl (v5)] dX1_endMiss_75 cb_X5_note cvRX1_111 rc_1 (show (11 : Nat) ≠ 0 by decide) rfl (Nat.le_of_ble_eq_true rfl) ⟨by decide, by decide⟩ (Nat.le_of_ble_eq_true rfl) rfl (tX5_note (t + 8) v16 (nI 2) l1 v5 M15) rfl (fun M17 => ?_)
  refine K_iload_n (q := 79) 1 dX1_endMiss_78 rfl rfl rfl ?_
  refine K_csi (q := 82) [.inl (v3)] dX1_endMiss_79 cb_X7_isForGood cvRX1_242 rfl (Nat.le_of_ble_eq_true rfl) ⟨by decide, by decide⟩ (Nat.le_of_ble_eq_true rfl) rfl (tX7_isForGood v3 M17) rfl (fun v19 M18 => ?_)
  refine K_if_eq (q := 85) (tgt := 111) dX1_endMiss_82 rfl ?_ rfl ?_
  · exact J_vret dX1_endMiss_111
  · refine K_aload_n (q := 86) 3 dX1_endMiss_85 rfl rfl rfl ?_
    refine K_iload_n (q := 87) 4 dX1_endMiss_86 rfl rfl rfl ?_
    refine K_iload (q := 89) 0 dX1_endMiss_87 rfl rfl ?_
    refine K_cvv (q := 92) [.inl (l1), .inl (v5)] dX1_endMiss_89 cb_X1_closeEntry cvRX1_245 rc_0 (show (10 : Nat) ≠ 0 by decide) rfl (Nat.le_of_ble_eq_true rfl) ⟨by decide, by decide⟩ (Nat.le_of_ble_eq_true rfl) rfl (tX1_closeEntry t l1 v5 M18) rfl (fun M20 => ?_)
    refine K_aload_n (q := 93) 3 dX1_endMiss_92 rfl rfl rfl ?_
    refine K_iload_n (q := 94) 4 dX1_endMiss_93 rfl rfl rfl ?_
    refine K_iconst (q := 95) (v := nI 5) dX1_endMiss_94 rfl rfl ?_
    refine K_iload (q := 97) 0 dX1_endMiss_95 rfl rfl ?_
    refine K_aload_n (q := 98) 3 dX1_endMiss_97 rfl rfl rfl ?_
    refine K_iload_n (q := 99) 4 dX1_endMiss_98 rfl rfl rfl ?_
    refine K_iload_n (q := 100) 4 dX1_endMiss_99 rfl rfl rfl ?_
    refine K_cvi (q := 103) [.inl (l1), .inl (l1)] dX1_endMiss_100 cb_X1_entryAt cvRX1_248 rc_0 (show (10 : Nat) ≠ 0 by decide) rfl (Nat.le_of_ble_eq_true rfl) ⟨by decide, by decide⟩ (Nat.le_of_ble_eq_true rfl) rfl (tX1_entryAt t l1 l1 M20) rfl (fun v22 M21 => ?_)
    refine K_csi (q := 106) [.inl (v22)] dX1_endMiss_103 cb_X2_seq cvRX1_251 rfl (Nat.le_of_ble_eq_true rfl) ⟨by decide, by decide⟩ (Nat.le_of_ble_eq_true rfl) rfl (tX2_seq v22 M21) rfl (fun v24 M23 => ?_)
    refine K_iconst (q := 107) (v := nI 2) dX1_endMiss_106 rfl rfl ?_
    refine K_ishl (q := 108) dX1_endMiss_107 rfl ?_
    refine K_cvv (q := 111) [.inl (l1), .inl ((nI 5)), .inl (v5), .inl (v24 <<< ((nI 2) &&& 31))] dX1_endMiss_108 cb_X1_postToOthers cvRX1_256 rc_0 (show (10 : Nat) ≠ 0 by decide) rfl (Nat.le_of_ble_eq_true rfl) ⟨by decide, by decide⟩ (Nat.le_of_ble_eq_true rfl) rfl (tX1_postToOthers t l1 (nI 5) v5 (v24 <<< ((nI 2) &&& 31)) M23) rfl (fun M25 => ?_)
    exact J_vret dX1_endMiss_111
theorem dX1_evictLine_0 : decode cX1_evictLine 0 = .ok (.aload_n 0, 1) := by decide +kernel
theorem dX1_evictLine_1 : decode cX1_evictLine 1 = .ok (.getfield 11, 3) := by decide +kernel
theorem dX1_evictLine_4 : decode cX1_evictLine 4 = .ok (.iload_n 1, 1) := by decide +kernel
theorem dX1_evictLine_5 : decode cX1_evictLine 5 = .ok (.invokestatic 73, 3) := by decide +kernel
theorem dX1_evictLine_8 : decode cX1_evictLine 8 = .ok (.iload_n 2, 1) := by decide +kernel
theorem dX1_evictLine_9 : decode cX1_evictLine 9 = .ok (.iadd, 1) := by decide +kernel
theorem dX1_evictLine_10 : decode cX1_evictLine 10 = .ok (.iaload, 1) := by decide +kernel
theorem dX1_evictLine_11 : decode cX1_evictLine 11 = .ok (.istore_n 3, 1) := by decide +kernel
theorem dX1_evictLine_12 : decode cX1_evictLine 12 = .ok (.iload_n 3, 1) := by decide +kernel
theorem dX1_evictLine_13 : decode cX1_evictLine 13 = .ok (.invokestatic 182, 3) := by decide +kernel
theorem dX1_evictLine_16 : decode cX1_evictLine 16 = .ok (.istore 4, 2) := by decide +kernel
theorem dX1_evictLine_18 : decode cX1_evictLine 18 = .ok (.aload_n 0, 1) := by decide +kernel
theorem dX1_evictLine_19 : decode cX1_evictLine 19 = .ok (.getfield 46, 3) := by decide +kernel
theorem dX1_evictLine_22 : decode cX1_evictLine 22 = .ok (.dup, 1) := by decide +kernel
theorem dX1_evictLine_23 : decode cX1_evictLine 23 = .ok (.getfield 185, 3) := by decide +kernel
theorem dX1_evictLine_26 : decode cX1_evictLine 26 = .ok (.iconst 1, 1) := by decide +kernel
theorem dX1_evictLine_27 : decode cX1_evictLine 27 = .ok (.iadd, 1) := by decide +kernel
theorem dX1_evictLine_28 : decode cX1_evictLine 28 = .ok (.putfield 185, 3) := by decide +kernel
theorem dX1_evictLine_31 : decode cX1_evictLine 31 = .ok (.aload_n 0, 1) := by decide +kernel
theorem dX1_evictLine_32 : decode cX1_evictLine 32 = .ok (.getfield 46, 3) := by decide +kernel
theorem dX1_evictLine_35 : decode cX1_evictLine 35 = .ok (.aload_n 0, 1) := by decide +kernel
theorem dX1_evictLine_36 : decode cX1_evictLine 36 = .ok (.getfield 70, 3) := by decide +kernel
theorem dX1_evictLine_39 : decode cX1_evictLine 39 = .ok (.iconst 4, 1) := by decide +kernel
theorem dX1_evictLine_40 : decode cX1_evictLine 40 = .ok (.iload_n 1, 1) := by decide +kernel
theorem dX1_evictLine_41 : decode cX1_evictLine 41 = .ok (.iload_n 2, 1) := by decide +kernel
theorem dX1_evictLine_42 : decode cX1_evictLine 42 = .ok (.invokevirtual 111, 3) := by decide +kernel
theorem dX1_evictLine_45 : decode cX1_evictLine 45 = .ok (.aload_n 0, 1) := by decide +kernel
theorem dX1_evictLine_46 : decode cX1_evictLine 46 = .ok (.iload_n 1, 1) := by decide +kernel
theorem dX1_evictLine_47 : decode cX1_evictLine 47 = .ok (.bipush 6, 2) := by decide +kernel
theorem dX1_evictLine_49 : decode cX1_evictLine 49 = .ok (.iload_n 2, 1) := by decide +kernel
theorem dX1_evictLine_50 : decode cX1_evictLine 50 = .ok (.iload_n 3, 1) := by decide +kernel
theorem dX1_evictLine_51 : decode cX1_evictLine 51 = .ok (.invokestatic 82, 3) := by decide +kernel
theorem dX1_evictLine_54 : decode cX1_evictLine 54 = .ok (.iload 4, 2) := by decide +kernel
theorem dX1_evictLine_56 : decode cX1_evictLine 56 = .ok (.iload 4, 2) := by decide +kernel
theorem dX1_evictLine_58 : decode cX1_evictLine 58 = .ok (.invokevirtual 188, 3) := by decide +kernel
theorem dX1_evictLine_61 : decode cX1_evictLine 61 = .ok (.return_, 1) := by decide +kernel
def xX1_evictLine (t : Nat) (l1 : Int32) (l2 : Int32) (M : j_M) : Option (j_M) := obi (xX1_blockOf l1 M) fun v2 M1 => gd (v2 + l2) 112 (oli (M1 (t + 1) (ix (v2 + l2))) fun v3 => obi (xX3_isOwner v3 M1) fun v5 M4 => oli (M4 (t + 8) 13) fun v6 => oml (mw M4 (t + 8) 13 (v6 + (nI 1))) fun M7 => oli (M7 t 14) fun v8 => obv (xX5_note (t + 8) v8 (nI 4) l1 l2 M7) fun M9 => obi (xX3_count v3 M9) fun v11 M10 => obv (xX1_hand t l1 (nI 6) l2 v11 v5 v5 M10) fun M12 => some M12)
set_option maxRecDepth 20000 in
set_option maxHeartbeats 2000000 in
theorem tX1_evictLine (t : Nat) (l1 : Int32) (l2 : Int32) (M : j_M) : J (ρ := j_M) yX1_evictLine cX1_evictLine 5 none 2 59 j_ev 0 [(0, .inr (10, 0, t)), (1, .inl (l1)), (2, .inl (l2))] [] M (xX1_evictLine t l1 l2 M) := by
  unfold xX1_evictLine
  refine K_aload_n (q := 1) 0 dX1_evictLine_0 rfl rfl rfl ?_
  refine K_getR (q := 4) (ci := 0) (a2 := t + 1) 1 dX1_evictLine_1 fRX1_11 rfl rfl (by decide) rfl rfl ?_
  refine K_iload_n (q := 5) 1 dX1_evictLine_4 rfl rfl rfl ?_
  refine K_csi (q := 8) [.inl (l1)] dX1_evictLine_5 cb_X1_blockOf cvRX1_73 rfl (Nat.le_of_ble_eq_true rfl) ⟨by decide, by decide⟩ (Nat.le_of_ble_eq_true rfl) rfl (tX1_blockOf l1 M) rfl (fun v2 M1 => ?_)
  refine K_iload_n (q := 9) 2 dX1_evictLine_8 rfl rfl rfl ?_
  refine K_iadd (q := 10) dX1_evictLine_9 rfl ?_
  refine K_iald (q := 11) dX1_evictLine_10 rfl (fun v3 => ?_)
  refine K_istore_n (q := 12) (ll' := [(3, .inl (v3)), (0, .inr (10, 0, t)), (1, .inl (l1)), (2, .inl (l2))]) dX1_evictLine_11 rfl (by decide) rfl rfl ?_
  refine K_iload_n (q := 13) 0 dX1_evictLine_12 rfl rfl rfl ?_
  refine K_csi (q := 16) [.inl (v3)] dX1_evictLine_13 cb_X3_isOwner cvRX1_182 rfl (Nat.le_of_ble_eq_true rfl) ⟨by decide, by decide⟩ (Nat.le_of_ble_eq_true rfl) rfl (tX3_isOwner v3 M1) rfl (fun v5 M4 => ?_)
  refine K_istore (q := 18) (ll' := [(4, .inl (v5)), (3, .inl (v3)), (0, .inr (10, 0, t)), (1, .inl (l1)), (2, .inl (l2))]) dX1_evictLine_16 (by decide) rfl rfl ?_
  refine K_aload_n (q := 19) 2 dX1_evictLine_18 rfl rfl rfl ?_
  refine K_getR (q := 22) (ci := 0) (a2 := t + 8) 0 dX1_evictLine_19 fRX1_46 rfl rfl (by decide) rfl rfl ?_
  refine K_dup (q := 23) dX1_evictLine_22 rfl ?_
  refine K_getI (q := 26) (ci := 1) 13 dX1_evictLine_23 fRX1_185 rfl rfl rfl (fun v6 => ?_)
  refine K_iconst (q := 27) (v := nI 1) dX1_evictLine_26 rfl rfl ?_
  refine K_iadd (q := 28) dX1_evictLine_27 rfl ?_
  refine K_putI (q := 31) (ci := 1) 13 dX1_evictLine_28 fRX1_185 fp_1_13 rfl rfl (by decide) rfl (fun M7 => ?_)
  refine K_aload_n (q := 32) 2 dX1_evictLine_31 rfl rfl rfl ?_
  refine K_getR (q := 35) (ci := 0) (a2 := t + 8) 0 dX1_evictLine_32 fRX1_46 rfl rfl (by decide) rfl rfl ?_
  refine K_aload_n (q := 36) 2 dX1_evictLine_35 rfl rfl rfl ?_
  refine K_getI (q := 39) (ci := 0) 14 dX1_evictLine_36 fRX1_70 rfl rfl rfl (fun v8 => ?_)
  refine K_iconst (q := 40) (v := nI 4) dX1_evictLine_39 rfl rfl ?_
  refine K_iload_n (q := 41) 3 dX1_evictLine_40 rfl rfl rfl ?_
  refine K_iload_n (q := 42) 4 dX1_evictLine_41 rfl rfl rfl ?_
  refine K_cvv (q := 45) [.inl (v8), .inl ((nI 4)), .inl (l1), .inl (l2)] dX1_evictLine_42 cb_X5_note cvRX1_111 rc_1 (show (11 : Nat) ≠ 0 by decide) rfl (Nat.le_of_ble_eq_true rfl) ⟨by decide, by decide⟩ (Nat.le_of_ble_eq_true rfl) rfl (tX5_note (t + 8) v8 (nI 4) l1 l2 M7) rfl (fun M9 => ?_)
  refine K_aload_n (q := 46) 2 dX1_evictLine_45 rfl rfl rfl ?_
  refine K_iload_n (q := 47) 3 dX1_evictLine_46 rfl rfl rfl ?_
  refine K_bipush (q := 49) (v := nI 6) dX1_evictLine_47 rfl rfl ?_
  refine K_iload_n (q := 50) 4 dX1_evictLine_49 rfl rfl rfl ?_
  refine K_iload_n (q := 51) 1 dX1_evictLine_50 rfl rfl rfl ?_
  refine K_csi (q := 54) [.inl (v3)] dX1_evictLine_51 cb_X3_count cvRX1_82 rfl (Nat.le_of_ble_eq_true rfl) ⟨by decide, by decide⟩ (Nat.le_of_ble_eq_true rfl) rfl (tX3_count v3 M9) rfl (fun v11 M10 => ?_)
  refine K_iload (q := 56) 0 dX1_evictLine_54 rfl rfl ?_
  refine K_iload (q := 58) 0 dX1_evictLine_56 rfl rfl ?_
  refine K_cvv (q := 61) [.inl (l1), .inl ((nI 6)), .inl (l2), .inl (v11), .inl (v5), .inl (v5)] dX1_evictLine_58 cb_X1_hand cvRX1_188 rc_0 (show (10 : Nat) ≠ 0 by decide) rfl (Nat.le_of_ble_eq_true rfl) ⟨by decide, by decide⟩ (Nat.le_of_ble_eq_true rfl) rfl (tX1_hand t l1 (nI 6) l2 v11 v5 v5 M10) rfl (fun M12 => ?_)
  exact J_vret dX1_evictLine_61
theorem dX1_takeTokens_0 : decode cX1_takeTokens 0 = .ok (.aload_n 0, 1) := by decide +kernel
theorem dX1_takeTokens_1 : decode cX1_takeTokens 1 = .ok (.iload_n 2, 1) := by decide +kernel
theorem dX1_takeTokens_2 : decode cX1_takeTokens 2 = .ok (.iload_n 1, 1) := by decide +kernel
theorem dX1_takeTokens_3 : decode cX1_takeTokens 3 = .ok (.iload_n 3, 1) := by decide +kernel
theorem dX1_takeTokens_4 : decode cX1_takeTokens 4 = .ok (.iconst 1, 1) := by decide +kernel
theorem dX1_takeTokens_5 : decode cX1_takeTokens 5 = .ok (.invokevirtual 220, 3) := by decide +kernel
theorem dX1_takeTokens_8 : decode cX1_takeTokens 8 = .ok (.iload_n 2, 1) := by decide +kernel
theorem dX1_takeTokens_9 : decode cX1_takeTokens 9 = .ok (.invokestatic 73, 3) := by decide +kernel
theorem dX1_takeTokens_12 : decode cX1_takeTokens 12 = .ok (.istore 5, 2) := by decide +kernel
theorem dX1_takeTokens_14 : decode cX1_takeTokens 14 = .ok (.iload 5, 2) := by decide +kernel
theorem dX1_takeTokens_16 : decode cX1_takeTokens 16 = .ok (.iload_n 3, 1) := by decide +kernel
theorem dX1_takeTokens_17 : decode cX1_takeTokens 17 = .ok (.iadd, 1) := by decide +kernel
theorem dX1_takeTokens_18 : decode cX1_takeTokens 18 = .ok (.istore 6, 2) := by decide +kernel
theorem dX1_takeTokens_20 : decode cX1_takeTokens 20 = .ok (.iload_n 2, 1) := by decide +kernel
theorem dX1_takeTokens_21 : decode cX1_takeTokens 21 = .ok (.bipush 6, 2) := by decide +kernel
theorem dX1_takeTokens_23 : decode cX1_takeTokens 23 = .ok (.if_icmp .eq 20, 3) := by decide +kernel
theorem dX1_takeTokens_26 : decode cX1_takeTokens 26 = .ok (.aload_n 0, 1) := by decide +kernel
theorem dX1_takeTokens_27 : decode cX1_takeTokens 27 = .ok (.getfield 11, 3) := by decide +kernel
theorem dX1_takeTokens_30 : decode cX1_takeTokens 30 = .ok (.iload 6, 2) := by decide +kernel
theorem dX1_takeTokens_32 : decode cX1_takeTokens 32 = .ok (.iaload, 1) := by decide +kernel
theorem dX1_takeTokens_33 : decode cX1_takeTokens 33 = .ok (.invokestatic 82, 3) := by decide +kernel
theorem dX1_takeTokens_36 : decode cX1_takeTokens 36 = .ok (.ifCond .ne 7, 3) := by decide +kernel
theorem dX1_takeTokens_39 : decode cX1_takeTokens 39 = .ok (.iconst 1, 1) := by decide +kernel
theorem dX1_takeTokens_40 : decode cX1_takeTokens 40 = .ok (.goto 4, 3) := by decide +kernel
theorem dX1_takeTokens_43 : decode cX1_takeTokens 43 = .ok (.iconst 0, 1) := by decide +kernel
theorem dX1_takeTokens_44 : decode cX1_takeTokens 44 = .ok (.istore 7, 2) := by decide +kernel
theorem dX1_takeTokens_46 : decode cX1_takeTokens 46 = .ok (.iload 7, 2) := by decide +kernel
theorem dX1_takeTokens_48 : decode cX1_takeTokens 48 = .ok (.ifCond .eq 70, 3) := by decide +kernel
theorem dX1_takeTokens_51 : decode cX1_takeTokens 51 = .ok (.aload_n 0, 1) := by decide +kernel
theorem dX1_takeTokens_52 : decode cX1_takeTokens 52 = .ok (.iload_n 2, 1) := by decide +kernel
theorem dX1_takeTokens_53 : decode cX1_takeTokens 53 = .ok (.invokevirtual 227, 3) := by decide +kernel
theorem dX1_takeTokens_56 : decode cX1_takeTokens 56 = .ok (.aload_n 0, 1) := by decide +kernel
theorem dX1_takeTokens_57 : decode cX1_takeTokens 57 = .ok (.getfield 40, 3) := by decide +kernel
theorem dX1_takeTokens_60 : decode cX1_takeTokens 60 = .ok (.if_icmp .lt 58, 3) := by decide +kernel
theorem dX1_takeTokens_63 : decode cX1_takeTokens 63 = .ok (.aload_n 0, 1) := by decide +kernel
theorem dX1_takeTokens_64 : decode cX1_takeTokens 64 = .ok (.iload_n 2, 1) := by decide +kernel
theorem dX1_takeTokens_65 : decode cX1_takeTokens 65 = .ok (.invokevirtual 173, 3) := by decide +kernel
theorem dX1_takeTokens_68 : decode cX1_takeTokens 68 = .ok (.iload_n 3, 1) := by decide +kernel
theorem dX1_takeTokens_69 : decode cX1_takeTokens 69 = .ok (.if_icmp .eq 29, 3) := by decide +kernel
theorem dX1_takeTokens_72 : decode cX1_takeTokens 72 = .ok (.aload_n 0, 1) := by decide +kernel
theorem dX1_takeTokens_73 : decode cX1_takeTokens 73 = .ok (.getfield 46, 3) := by decide +kernel
theorem dX1_takeTokens_76 : decode cX1_takeTokens 76 = .ok (.aload_n 0, 1) := by decide +kernel
theorem dX1_takeTokens_77 : decode cX1_takeTokens 77 = .ok (.getfield 70, 3) := by decide +kernel
theorem dX1_takeTokens_80 : decode cX1_takeTokens 80 = .ok (.iconst 5, 1) := by decide +kernel
theorem dX1_takeTokens_81 : decode cX1_takeTokens 81 = .ok (.iload_n 2, 1) := by decide +kernel
theorem dX1_takeTokens_82 : decode cX1_takeTokens 82 = .ok (.iload_n 3, 1) := by decide +kernel
theorem dX1_takeTokens_83 : decode cX1_takeTokens 83 = .ok (.invokevirtual 111, 3) := by decide +kernel
theorem dX1_takeTokens_86 : decode cX1_takeTokens 86 = .ok (.aload_n 0, 1) := by decide +kernel
theorem dX1_takeTokens_87 : decode cX1_takeTokens 87 = .ok (.iload_n 2, 1) := by decide +kernel
theorem dX1_takeTokens_88 : decode cX1_takeTokens 88 = .ok (.bipush 6, 2) := by decide +kernel
theorem dX1_takeTokens_90 : decode cX1_takeTokens 90 = .ok (.iconst 3, 1) := by decide +kernel
theorem dX1_takeTokens_91 : decode cX1_takeTokens 91 = .ok (.iload_n 3, 1) := by decide +kernel
theorem dX1_takeTokens_92 : decode cX1_takeTokens 92 = .ok (.iload 4, 2) := by decide +kernel
theorem dX1_takeTokens_94 : decode cX1_takeTokens 94 = .ok (.invokevirtual 152, 3) := by decide +kernel
theorem dX1_takeTokens_97 : decode cX1_takeTokens 97 = .ok (.return_, 1) := by decide +kernel
theorem dX1_takeTokens_98 : decode cX1_takeTokens 98 = .ok (.aload_n 0, 1) := by decide +kernel
theorem dX1_takeTokens_99 : decode cX1_takeTokens 99 = .ok (.iload_n 2, 1) := by decide +kernel
theorem dX1_takeTokens_100 : decode cX1_takeTokens 100 = .ok (.aload_n 0, 1) := by decide +kernel
theorem dX1_takeTokens_101 : decode cX1_takeTokens 101 = .ok (.getfield 11, 3) := by decide +kernel
theorem dX1_takeTokens_104 : decode cX1_takeTokens 104 = .ok (.iload 5, 2) := by decide +kernel
theorem dX1_takeTokens_106 : decode cX1_takeTokens 106 = .ok (.bipush 14, 2) := by decide +kernel
theorem dX1_takeTokens_108 : decode cX1_takeTokens 108 = .ok (.iadd, 1) := by decide +kernel
theorem dX1_takeTokens_109 : decode cX1_takeTokens 109 = .ok (.iaload, 1) := by decide +kernel
theorem dX1_takeTokens_110 : decode cX1_takeTokens 110 = .ok (.bipush 15, 2) := by decide +kernel
theorem dX1_takeTokens_112 : decode cX1_takeTokens 112 = .ok (.iand, 1) := by decide +kernel
theorem dX1_takeTokens_113 : decode cX1_takeTokens 113 = .ok (.iconst 1, 1) := by decide +kernel
theorem dX1_takeTokens_114 : decode cX1_takeTokens 114 = .ok (.isub, 1) := by decide +kernel
theorem dX1_takeTokens_115 : decode cX1_takeTokens 115 = .ok (.invokevirtual 179, 3) := by decide +kernel
theorem dX1_takeTokens_118 : decode cX1_takeTokens 118 = .ok (.aload_n 0, 1) := by decide +kernel
theorem dX1_takeTokens_119 : decode cX1_takeTokens 119 = .ok (.getfield 11, 3) := by decide +kernel
theorem dX1_takeTokens_122 : decode cX1_takeTokens 122 = .ok (.iload 6, 2) := by decide +kernel
theorem dX1_takeTokens_124 : decode cX1_takeTokens 124 = .ok (.dup2, 1) := by decide +kernel
theorem dX1_takeTokens_125 : decode cX1_takeTokens 125 = .ok (.iaload, 1) := by decide +kernel
theorem dX1_takeTokens_126 : decode cX1_takeTokens 126 = .ok (.iload 4, 2) := by decide +kernel
theorem dX1_takeTokens_128 : decode cX1_takeTokens 128 = .ok (.bipush 15, 2) := by decide +kernel
theorem dX1_takeTokens_130 : decode cX1_takeTokens 130 = .ok (.iand, 1) := by decide +kernel
theorem dX1_takeTokens_131 : decode cX1_takeTokens 131 = .ok (.iadd, 1) := by decide +kernel
theorem dX1_takeTokens_132 : decode cX1_takeTokens 132 = .ok (.iastore, 1) := by decide +kernel
theorem dX1_takeTokens_133 : decode cX1_takeTokens 133 = .ok (.iload 4, 2) := by decide +kernel
theorem dX1_takeTokens_135 : decode cX1_takeTokens 135 = .ok (.bipush 16, 2) := by decide +kernel
theorem dX1_takeTokens_137 : decode cX1_takeTokens 137 = .ok (.iand, 1) := by decide +kernel
theorem dX1_takeTokens_138 : decode cX1_takeTokens 138 = .ok (.ifCond .eq 15, 3) := by decide +kernel
theorem dX1_takeTokens_141 : decode cX1_takeTokens 141 = .ok (.aload_n 0, 1) := by decide +kernel
theorem dX1_takeTokens_142 : decode cX1_takeTokens 142 = .ok (.getfield 11, 3) := by decide +kernel
theorem dX1_takeTokens_145 : decode cX1_takeTokens 145 = .ok (.iload 6, 2) := by decide +kernel
theorem dX1_takeTokens_147 : decode cX1_takeTokens 147 = .ok (.dup2, 1) := by decide +kernel
theorem dX1_takeTokens_148 : decode cX1_takeTokens 148 = .ok (.iaload, 1) := by decide +kernel
theorem dX1_takeTokens_149 : decode cX1_takeTokens 149 = .ok (.bipush 16, 2) := by decide +kernel
theorem dX1_takeTokens_151 : decode cX1_takeTokens 151 = .ok (.ior, 1) := by decide +kernel
theorem dX1_takeTokens_152 : decode cX1_takeTokens 152 = .ok (.iastore, 1) := by decide +kernel
theorem dX1_takeTokens_153 : decode cX1_takeTokens 153 = .ok (.iload 4, 2) := by decide +kernel
theorem dX1_takeTokens_155 : decode cX1_takeTokens 155 = .ok (.iconst 5, 1) := by decide +kernel
theorem dX1_takeTokens_156 : decode cX1_takeTokens 156 = .ok (.iushr, 1) := by decide +kernel
theorem dX1_takeTokens_157 : decode cX1_takeTokens 157 = .ok (.ifCond .eq 26, 3) := by decide +kernel
theorem dX1_takeTokens_160 : decode cX1_takeTokens 160 = .ok (.aload_n 0, 1) := by decide +kernel
theorem dX1_takeTokens_161 : decode cX1_takeTokens 161 = .ok (.getfield 11, 3) := by decide +kernel
theorem dX1_takeTokens_164 : decode cX1_takeTokens 164 = .ok (.iload 6, 2) := by decide +kernel
theorem dX1_takeTokens_166 : decode cX1_takeTokens 166 = .ok (.aload_n 0, 1) := by decide +kernel
theorem dX1_takeTokens_167 : decode cX1_takeTokens 167 = .ok (.getfield 11, 3) := by decide +kernel
theorem dX1_takeTokens_170 : decode cX1_takeTokens 170 = .ok (.iload 6, 2) := by decide +kernel
theorem dX1_takeTokens_172 : decode cX1_takeTokens 172 = .ok (.iaload, 1) := by decide +kernel
theorem dX1_takeTokens_173 : decode cX1_takeTokens 173 = .ok (.iload 4, 2) := by decide +kernel
theorem dX1_takeTokens_175 : decode cX1_takeTokens 175 = .ok (.iconst 5, 1) := by decide +kernel
theorem dX1_takeTokens_176 : decode cX1_takeTokens 176 = .ok (.iushr, 1) := by decide +kernel
theorem dX1_takeTokens_177 : decode cX1_takeTokens 177 = .ok (.iconst 1, 1) := by decide +kernel
theorem dX1_takeTokens_178 : decode cX1_takeTokens 178 = .ok (.isub, 1) := by decide +kernel
theorem dX1_takeTokens_179 : decode cX1_takeTokens 179 = .ok (.invokestatic 134, 3) := by decide +kernel
theorem dX1_takeTokens_182 : decode cX1_takeTokens 182 = .ok (.iastore, 1) := by decide +kernel
theorem dX1_takeTokens_183 : decode cX1_takeTokens 183 = .ok (.iload 7, 2) := by decide +kernel
theorem dX1_takeTokens_185 : decode cX1_takeTokens 185 = .ok (.ifCond .eq 11, 3) := by decide +kernel
theorem dX1_takeTokens_188 : decode cX1_takeTokens 188 = .ok (.aload_n 0, 1) := by decide +kernel
theorem dX1_takeTokens_189 : decode cX1_takeTokens 189 = .ok (.iload 5, 2) := by decide +kernel
theorem dX1_takeTokens_191 : decode cX1_takeTokens 191 = .ok (.iload_n 3, 1) := by decide +kernel
theorem dX1_takeTokens_192 : decode cX1_takeTokens 192 = .ok (.iconst 1, 1) := by decide +kernel
theorem dX1_takeTokens_193 : decode cX1_takeTokens 193 = .ok (.invokevirtual 138, 3) := by decide +kernel
theorem dX1_takeTokens_196 : decode cX1_takeTokens 196 = .ok (.aload_n 0, 1) := by decide +kernel
theorem dX1_takeTokens_197 : decode cX1_takeTokens 197 = .ok (.iload_n 2, 1) := by decide +kernel
theorem dX1_takeTokens_198 : decode cX1_takeTokens 198 = .ok (.invokevirtual 173, 3) := by decide +kernel
theorem dX1_takeTokens_201 : decode cX1_takeTokens 201 = .ok (.iload_n 3, 1) := by decide +kernel
theorem dX1_takeTokens_202 : decode cX1_takeTokens 202 = .ok (.if_icmp .ne 25, 3) := by decide +kernel
theorem dX1_takeTokens_205 : decode cX1_takeTokens 205 = .ok (.aload_n 0, 1) := by decide +kernel
theorem dX1_takeTokens_206 : decode cX1_takeTokens 206 = .ok (.iload_n 2, 1) := by decide +kernel
theorem dX1_takeTokens_207 : decode cX1_takeTokens 207 = .ok (.iload_n 3, 1) := by decide +kernel
theorem dX1_takeTokens_208 : decode cX1_takeTokens 208 = .ok (.aload_n 0, 1) := by decide +kernel
theorem dX1_takeTokens_209 : decode cX1_takeTokens 209 = .ok (.iload_n 2, 1) := by decide +kernel
theorem dX1_takeTokens_210 : decode cX1_takeTokens 210 = .ok (.invokevirtual 85, 3) := by decide +kernel
theorem dX1_takeTokens_213 : decode cX1_takeTokens 213 = .ok (.invokestatic 142, 3) := by decide +kernel
theorem dX1_takeTokens_216 : decode cX1_takeTokens 216 = .ok (.invokevirtual 102, 3) := by decide +kernel
theorem dX1_takeTokens_219 : decode cX1_takeTokens 219 = .ok (.ifCond .eq 8, 3) := by decide +kernel
theorem dX1_takeTokens_222 : decode cX1_takeTokens 222 = .ok (.aload_n 0, 1) := by decide +kernel
theorem dX1_takeTokens_223 : decode cX1_takeTokens 223 = .ok (.iload_n 2, 1) := by decide +kernel
theorem dX1_takeTokens_224 : decode cX1_takeTokens 224 = .ok (.invokevirtual 230, 3) := by decide +kernel
theorem dX1_takeTokens_227 : decode cX1_takeTokens 227 = .ok (.aload_n 0, 1) := by decide +kernel
theorem dX1_takeTokens_228 : decode cX1_takeTokens 228 = .ok (.iload_n 2, 1) := by decide +kernel
theorem dX1_takeTokens_229 : decode cX1_takeTokens 229 = .ok (.iload_n 3, 1) := by decide +kernel
theorem dX1_takeTokens_230 : decode cX1_takeTokens 230 = .ok (.invokevirtual 233, 3) := by decide +kernel
theorem dX1_takeTokens_233 : decode cX1_takeTokens 233 = .ok (.return_, 1) := by decide +kernel
def xX1_takeTokens_227  (t : Nat) (l2 : Int32) (l3 : Int32) (M : j_M) : Option (j_M) := obv (xX1_settle t l2 l3 M) fun M1 => some M1
set_option maxRecDepth 20000 in
set_option maxHeartbeats 2000000 in
theorem tX1_takeTokens_227  (t : Nat)  (l2 : Int32) (l3 : Int32) (M : j_M) : J (ρ := j_M) yX1_takeTokens cX1_takeTokens 8 none 3 85 j_ev 227 [(0, .inr (10, 0, t)), (2, .inl (l2)), (3, .inl (l3))] [] M (xX1_takeTokens_227 t l2 l3 M) := by
  unfold xX1_takeTokens_227
  refine K_aload_n (q := 228) 0 dX1_takeTokens_227 rfl rfl rfl ?_
  refine K_iload_n (q := 229) 1 dX1_takeTokens_228 rfl rfl rfl ?_
  refine K_iload_n (q := 230) 2 dX1_takeTokens_229 rfl rfl rfl ?_
  refine K_cvv (q := 233) [.inl (l2), .inl (l3)] dX1_takeTokens_230 cb_X1_settle cvRX1_233 rc_0 (show (10 : Nat) ≠ 0 by decide) rfl (Nat.le_of_ble_eq_true rfl) ⟨by decide, by decide⟩ (Nat.le_of_ble_eq_true rfl) rfl (tX1_settle t l2 l3 M) rfl (fun M1 => ?_)
  exact J_vret dX1_takeTokens_233
def xX1_takeTokens_196  (t : Nat) (l2 : Int32) (l3 : Int32) (M : j_M) : Option (j_M) := obi (xX1_missedLine t l2 M) fun v2 M1 => (if v2 = l3 then obi (xX1_missOf t l2 M1) fun v4 M3 => obi (xX7_what v4 M3) fun v6 M5 => obi (xX1_wouldHit t l2 l3 v6 M5) fun v8 M7 => (if v8 = (0 : Int32) then xX1_takeTokens_227 t l2 l3 M7 else obv (xX1_endMiss t l2 M7) fun M9 => xX1_takeTokens_227 t l2 l3 M9) else xX1_takeTokens_227 t l2 l3 M1)
set_option maxRecDepth 20000 in
set_option maxHeartbeats 2000000 in
theorem tX1_takeTokens_196  (t : Nat)  (l2 : Int32) (l3 : Int32) (M : j_M) : J (ρ := j_M) yX1_takeTokens cX1_takeTokens 8 none 3 85 j_ev 196 [(0, .inr (10, 0, t)), (2, .inl (l2)), (3, .inl (l3))] [] M (xX1_takeTokens_196 t l2 l3 M) := by
  unfold xX1_takeTokens_196
  refine K_aload_n (q := 197) 0 dX1_takeTokens_196 rfl rfl rfl ?_
  refine K_iload_n (q := 198) 1 dX1_takeTokens_197 rfl rfl rfl ?_
  refine K_cvi (q := 201) [.inl (l2)] dX1_takeTokens_198 cb_X1_missedLine cvRX1_173 rc_0 (show (10 : Nat) ≠ 0 by decide) rfl (Nat.le_of_ble_eq_true rfl) ⟨by decide, by decide⟩ (Nat.le_of_ble_eq_true rfl) rfl (tX1_missedLine t l2 M) rfl (fun v2 M1 => ?_)
  refine K_iload_n (q := 202) 2 dX1_takeTokens_201 rfl rfl rfl ?_
  refine K_icmp_ne (q := 205) (tgt := 227) dX1_takeTokens_202 rfl ?_ rfl ?_
  · exact J_sub [0, 1, 2] (tX1_takeTokens_227 t l2 l3 M1) rfl
  · refine K_aload_n (q := 206) 0 dX1_takeTokens_205 rfl rfl rfl ?_
    refine K_iload_n (q := 207) 1 dX1_takeTokens_206 rfl rfl rfl ?_
    refine K_iload_n (q := 208) 2 dX1_takeTokens_207 rfl rfl rfl ?_
    refine K_aload_n (q := 209) 0 dX1_takeTokens_208 rfl rfl rfl ?_
    refine K_iload_n (q := 210) 1 dX1_takeTokens_209 rfl rfl rfl ?_
    refine K_cvi (q := 213) [.inl (l2)] dX1_takeTokens_210 cb_X1_missOf cvRX1_85 rc_0 (show (10 : Nat) ≠ 0 by decide) rfl (Nat.le_of_ble_eq_true rfl) ⟨by decide, by decide⟩ (Nat.le_of_ble_eq_true rfl) rfl (tX1_missOf t l2 M1) rfl (fun v4 M3 => ?_)
    refine K_csi (q := 216) [.inl (v4)] dX1_takeTokens_213 cb_X7_what cvRX1_142 rfl (Nat.le_of_ble_eq_true rfl) ⟨by decide, by decide⟩ (Nat.le_of_ble_eq_true rfl) rfl (tX7_what v4 M3) rfl (fun v6 M5 => ?_)
    refine K_cvi (q := 219) [.inl (l2), .inl (l3), .inl (v6)] dX1_takeTokens_216 cb_X1_wouldHit cvRX1_102 rc_0 (show (10 : Nat) ≠ 0 by decide) rfl (Nat.le_of_ble_eq_true rfl) ⟨by decide, by decide⟩ (Nat.le_of_ble_eq_true rfl) rfl (tX1_wouldHit t l2 l3 v6 M5) rfl (fun v8 M7 => ?_)
    refine K_if_eq (q := 222) (tgt := 227) dX1_takeTokens_219 rfl ?_ rfl ?_
    · exact J_sub [0, 1, 2] (tX1_takeTokens_227 t l2 l3 M7) rfl
    · refine K_aload_n (q := 223) 0 dX1_takeTokens_222 rfl rfl rfl ?_
      refine K_iload_n (q := 224) 1 dX1_takeTokens_223 rfl rfl rfl ?_
      refine K_cvv (q := 227) [.inl (l2)] dX1_takeTokens_224 cb_X1_endMiss cvRX1_230 rc_0 (show (10 : Nat) ≠ 0 by decide) rfl (Nat.le_of_ble_eq_true rfl) ⟨by decide, by decide⟩ (Nat.le_of_ble_eq_true rfl) rfl (tX1_endMiss t l2 M7) rfl (fun M9 => ?_)
      exact J_sub [0, 1, 2] (tX1_takeTokens_227 t l2 l3 M9) rfl
def xX1_takeTokens_183  (t : Nat) (l2 : Int32) (l3 : Int32) (l5 : Int32) (l7 : Int32) (M : j_M) : Option (j_M) := (if l7 = (0 : Int32) then xX1_takeTokens_196 t l2 l3 M else obv (xX1_reorder t l5 l3 (nI 1) M) fun M1 => xX1_takeTokens_196 t l2 l3 M1)
set_option maxRecDepth 20000 in
set_option maxHeartbeats 2000000 in
theorem tX1_takeTokens_183  (t : Nat)  (l2 : Int32) (l3 : Int32) (l5 : Int32) (l7 : Int32) (M : j_M) : J (ρ := j_M) yX1_takeTokens cX1_takeTokens 8 none 3 85 j_ev 183 [(0, .inr (10, 0, t)), (2, .inl (l2)), (3, .inl (l3)), (5, .inl (l5)), (7, .inl (l7))] [] M (xX1_takeTokens_183 t l2 l3 l5 l7 M) := by
  unfold xX1_takeTokens_183
  refine K_iload (q := 185) 4 dX1_takeTokens_183 rfl rfl ?_
  refine K_if_eq (q := 188) (tgt := 196) dX1_takeTokens_185 rfl ?_ rfl ?_
  · exact J_sub [0, 1, 2] (tX1_takeTokens_196 t l2 l3 M) rfl
  · refine K_aload_n (q := 189) 0 dX1_takeTokens_188 rfl rfl rfl ?_
    refine K_iload (q := 191) 3 dX1_takeTokens_189 rfl rfl ?_
    refine K_iload_n (q := 192) 2 dX1_takeTokens_191 rfl rfl rfl ?_
    refine K_iconst (q := 193) (v := nI 1) dX1_takeTokens_192 rfl rfl ?_
    refine K_cvv (q := 196) [.inl (l5), .inl (l3), .inl ((nI 1))] dX1_takeTokens_193 cb_X1_reorder cvRX1_138 rc_0 (show (10 : Nat) ≠ 0 by decide) rfl (Nat.le_of_ble_eq_true rfl) ⟨by decide, by decide⟩ (Nat.le_of_ble_eq_true rfl) rfl (tX1_reorder t l5 l3 (nI 1) M) rfl (fun M1 => ?_)
    exact J_sub [0, 1, 2] (tX1_takeTokens_196 t l2 l3 M1) rfl
def xX1_takeTokens_153  (t : Nat) (l2 : Int32) (l3 : Int32) (l4 : Int32) (l5 : Int32) (l6 : Int32) (l7 : Int32) (M : j_M) : Option (j_M) := (if us l4 (nI 5) = (0 : Int32) then xX1_takeTokens_183 t l2 l3 l5 l7 M else gd l6 112 (oli (M (t + 1) (ix l6)) fun v1 => obi (xX3_withData v1 ((us l4 (nI 5)) - (nI 1)) M) fun v3 M2 => gd l6 112 (oml (mw M2 (t + 1) (ix l6) v3) fun M4 => xX1_takeTokens_183 t l2 l3 l5 l7 M4)))
set_option maxRecDepth 20000 in
set_option maxHeartbeats 2000000 in
theorem tX1_takeTokens_153  (t : Nat)  (l2 : Int32) (l3 : Int32) (l4 : Int32) (l5 : Int32) (l6 : Int32) (l7 : Int32) (M : j_M) : J (ρ := j_M) yX1_takeTokens cX1_takeTokens 8 none 3 85 j_ev 153 [(0, .inr (10, 0, t)), (2, .inl (l2)), (3, .inl (l3)), (4, .inl (l4)), (5, .inl (l5)), (6, .inl (l6)), (7, .inl (l7))] [] M (xX1_takeTokens_153 t l2 l3 l4 l5 l6 l7 M) := by
  unfold xX1_takeTokens_153
  refine K_iload (q := 155) 3 dX1_takeTokens_153 rfl rfl ?_
  refine K_iconst (q := 156) (v := nI 5) dX1_takeTokens_155 rfl rfl ?_
  refine K_iushr (q := 157) dX1_takeTokens_156 rfl ?_
  refine K_if_eq (q := 160) (tgt := 183) dX1_takeTokens_157 rfl ?_ rfl ?_
  · exact J_sub [0, 1, 2, 4, 6] (tX1_takeTokens_183 t l2 l3 l5 l7 M) rfl
  · refine K_aload_n (q := 161) 0 dX1_takeTokens_160 rfl rfl rfl ?_
    refine K_getR (q := 164) (ci := 0) (a2 := t + 1) 1 dX1_takeTokens_161 fRX1_11 rfl rfl (by decide) rfl rfl ?_
    refine K_iload (q := 166) 5 dX1_takeTokens_164 rfl rfl ?_
    refine K_aload_n (q := 167) 0 dX1_takeTokens_166 rfl rfl rfl ?_
    refine K_getR (q := 170) (ci := 0) (a2 := t + 1) 1 dX1_takeTokens_167 fRX1_11 rfl rfl (by decide) rfl rfl ?_
    refine K_iload (q := 172) 5 dX1_takeTokens_170 rfl rfl ?_
    refine K_iald (q := 173) dX1_takeTokens_172 rfl (fun v1 => ?_)
    refine K_iload (q := 175) 3 dX1_takeTokens_173 rfl rfl ?_
    refine K_iconst (q := 176) (v := nI 5) dX1_takeTokens_175 rfl rfl ?_
    refine K_iushr (q := 177) dX1_takeTokens_176 rfl ?_
    refine K_iconst (q := 178) (v := nI 1) dX1_takeTokens_177 rfl rfl ?_
    refine K_isub (q := 179) dX1_takeTokens_178 rfl ?_
    refine K_csi (q := 182) [.inl (v1), .inl ((us l4 (nI 5)) - (nI 1))] dX1_takeTokens_179 cb_X3_withData cvRX1_134 rfl (Nat.le_of_ble_eq_true rfl) ⟨by decide, by decide⟩ (Nat.le_of_ble_eq_true rfl) rfl (tX3_withData v1 ((us l4 (nI 5)) - (nI 1)) M) rfl (fun v3 M2 => ?_)
    refine K_iast (q := 183) dX1_takeTokens_182 rfl (fun M4 => ?_)
    exact J_sub [0, 1, 2, 4, 6] (tX1_takeTokens_183 t l2 l3 l5 l7 M4) rfl
def xX1_takeTokens_118  (t : Nat) (l2 : Int32) (l3 : Int32) (l4 : Int32) (l5 : Int32) (l6 : Int32) (l7 : Int32) (M : j_M) : Option (j_M) := gd l6 112 (oli (M (t + 1) (ix l6)) fun v1 => gd l6 112 (oml (mw M (t + 1) (ix l6) (v1 + (l4 &&& (nI 15)))) fun M2 => (if l4 &&& (nI 16) = (0 : Int32) then xX1_takeTokens_153 t l2 l3 l4 l5 l6 l7 M2 else gd l6 112 (oli (M2 (t + 1) (ix l6)) fun v3 => gd l6 112 (oml (mw M2 (t + 1) (ix l6) (v3 ||| (nI 16))) fun M4 => xX1_takeTokens_153 t l2 l3 l4 l5 l6 l7 M4)))))
set_option maxRecDepth 20000 in
set_option maxHeartbeats 2000000 in
theorem tX1_takeTokens_118  (t : Nat)  (l2 : Int32) (l3 : Int32) (l4 : Int32) (l5 : Int32) (l6 : Int32) (l7 : Int32) (M : j_M) : J (ρ := j_M) yX1_takeTokens cX1_takeTokens 8 none 3 85 j_ev 118 [(0, .inr (10, 0, t)), (2, .inl (l2)), (3, .inl (l3)), (4, .inl (l4)), (5, .inl (l5)), (6, .inl (l6)), (7, .inl (l7))] [] M (xX1_takeTokens_118 t l2 l3 l4 l5 l6 l7 M) := by
  unfold xX1_takeTokens_118
  refine K_aload_n (q := 119) 0 dX1_takeTokens_118 rfl rfl rfl ?_
  refine K_getR (q := 122) (ci := 0) (a2 := t + 1) 1 dX1_takeTokens_119 fRX1_11 rfl rfl (by decide) rfl rfl ?_
  refine K_iload (q := 124) 5 dX1_takeTokens_122 rfl rfl ?_
  refine K_dup2 (q := 125) dX1_takeTokens_124 rfl ?_
  refine K_iald (q := 126) dX1_takeTokens_125 rfl (fun v1 => ?_)
  refine K_iload (q := 128) 3 dX1_takeTokens_126 rfl rfl ?_
  refine K_bipush (q := 130) (v := nI 15) dX1_takeTokens_128 rfl rfl ?_
  refine K_iand (q := 131) dX1_takeTokens_130 rfl ?_
  refine K_iadd (q := 132) dX1_takeTokens_131 rfl ?_
  refine K_iast (q := 133) dX1_takeTokens_132 rfl (fun M2 => ?_)
  refine K_iload (q := 135) 3 dX1_takeTokens_133 rfl rfl ?_
  refine K_bipush (q := 137) (v := nI 16) dX1_takeTokens_135 rfl rfl ?_
  refine K_iand (q := 138) dX1_takeTokens_137 rfl ?_
  refine K_if_eq (q := 141) (tgt := 153) dX1_takeTokens_138 rfl ?_ rfl ?_
  · exact J_sub [0, 1, 2, 3, 4, 5, 6] (tX1_takeTokens_153 t l2 l3 l4 l5 l6 l7 M2) rfl
  · refine K_aload_n (q := 142) 0 dX1_takeTokens_141 rfl rfl rfl ?_
    refine K_getR (q := 145) (ci := 0) (a2 := t + 1) 1 dX1_takeTokens_142 fRX1_11 rfl rfl (by decide) rfl rfl ?_
    refine K_iload (q := 147) 5 dX1_takeTokens_145 rfl rfl ?_
    refine K_dup2 (q := 148) dX1_takeTokens_147 rfl ?_
    refine K_iald (q := 149) dX1_takeTokens_148 rfl (fun v3 => ?_)
    refine K_bipush (q := 151) (v := nI 16) dX1_takeTokens_149 rfl rfl ?_
    refine K_ior (q := 152) dX1_takeTokens_151 rfl ?_
    refine K_iast (q := 153) dX1_takeTokens_152 rfl (fun M4 => ?_)
    exact J_sub [0, 1, 2, 3, 4, 5, 6] (tX1_takeTokens_153 t l2 l3 l4 l5 l6 l7 M4) rfl
def xX1_takeTokens_44  (t : Nat) (l2 : Int32) (l3 : Int32) (l4 : Int32) (l5 : Int32) (l6 : Int32) (s0 : Int32) (M : j_M) : Option (j_M) := (if s0 = (0 : Int32) then xX1_takeTokens_118 t l2 l3 l4 l5 l6 s0 M else obi (xX1_linesHeld t l2 M) fun v2 M1 => oli (M1 t 11) fun v3 => (if v2 < v3 then xX1_takeTokens_118 t l2 l3 l4 l5 l6 s0 M1 else obi (xX1_missedLine t l2 M1) fun v5 M4 => (if v5 = l3 then gd (l5 + (nI 14)) 112 (oli (M4 (t + 1) (ix (l5 + (nI 14)))) fun v6 => obv (xX1_evictLine t l2 ((v6 &&& (nI 15)) - (nI 1)) M4) fun M7 => xX1_takeTokens_118 t l2 l3 l4 l5 l6 s0 M7) else oli (M4 t 14) fun v8 => obv (xX5_note (t + 8) v8 (nI 5) l2 l3 M4) fun M9 => obv (xX1_post t l2 (nI 6) (nI 3) l3 l4 M9) fun M10 => some M10)))
set_option maxRecDepth 20000 in
set_option maxHeartbeats 2000000 in
theorem tX1_takeTokens_44  (t : Nat)  (l2 : Int32) (l3 : Int32) (l4 : Int32) (l5 : Int32) (l6 : Int32) (s0 : Int32) (M : j_M) : J (ρ := j_M) yX1_takeTokens cX1_takeTokens 8 none 3 85 j_ev 44 [(0, .inr (10, 0, t)), (2, .inl (l2)), (3, .inl (l3)), (4, .inl (l4)), (5, .inl (l5)), (6, .inl (l6))] [.inl (s0)] M (xX1_takeTokens_44 t l2 l3 l4 l5 l6 s0 M) := by
  unfold xX1_takeTokens_44
  refine K_istore (q := 46) (ll' := [(7, .inl (s0)), (0, .inr (10, 0, t)), (2, .inl (l2)), (3, .inl (l3)), (4, .inl (l4)), (5, .inl (l5)), (6, .inl (l6))]) dX1_takeTokens_44 (by decide) rfl rfl ?_
  refine K_iload (q := 48) 0 dX1_takeTokens_46 rfl rfl ?_
  refine K_if_eq (q := 51) (tgt := 118) dX1_takeTokens_48 rfl ?_ rfl ?_
  · exact J_sub [1, 2, 3, 4, 5, 6, 0] (tX1_takeTokens_118 t l2 l3 l4 l5 l6 s0 M) rfl
  · refine K_aload_n (q := 52) 1 dX1_takeTokens_51 rfl rfl rfl ?_
    refine K_iload_n (q := 53) 2 dX1_takeTokens_52 rfl rfl rfl ?_
    refine K_cvi (q := 56) [.inl (l2)] dX1_takeTokens_53 cb_X1_linesHeld cvRX1_227 rc_0 (show (10 : Nat) ≠ 0 by decide) rfl (Nat.le_of_ble_eq_true rfl) ⟨by decide, by decide⟩ (Nat.le_of_ble_eq_true rfl) rfl (tX1_linesHeld t l2 M) rfl (fun v2 M1 => ?_)
    refine K_aload_n (q := 57) 1 dX1_takeTokens_56 rfl rfl rfl ?_
    refine K_getI (q := 60) (ci := 0) 11 dX1_takeTokens_57 fRX1_40 rfl rfl rfl (fun v3 => ?_)
    refine K_icmp_lt (q := 63) (tgt := 118) dX1_takeTokens_60 rfl ?_ rfl ?_
    · exact J_sub [1, 2, 3, 4, 5, 6, 0] (tX1_takeTokens_118 t l2 l3 l4 l5 l6 s0 M1) rfl
    · refine K_aload_n (q := 64) 1 dX1_takeTokens_63 rfl rfl rfl ?_
      refine K_iload_n (q := 65) 2 dX1_takeTokens_64 rfl rfl rfl ?_
      refine K_cvi (q := 68) [.inl (l2)] dX1_takeTokens_65 cb_X1_missedLine cvRX1_173 rc_0 (show (10 : Nat) ≠ 0 by decide) rfl (Nat.le_of_ble_eq_true rfl) ⟨by decide, by decide⟩ (Nat.le_of_ble_eq_true rfl) rfl (tX1_missedLine t l2 M1) rfl (fun v5 M4 => ?_)
      refine K_iload_n (q := 69) 3 dX1_takeTokens_68 rfl rfl rfl ?_
      refine K_icmp_eq (q := 72) (tgt := 98) dX1_takeTokens_69 rfl ?_ rfl ?_
      · refine K_aload_n (q := 99) 1 dX1_takeTokens_98 rfl rfl rfl ?_
        refine K_iload_n (q := 100) 2 dX1_takeTokens_99 rfl rfl rfl ?_
        refine K_aload_n (q := 101) 1 dX1_takeTokens_100 rfl rfl rfl ?_
        refine K_getR (q := 104) (ci := 0) (a2 := t + 1) 1 dX1_takeTokens_101 fRX1_11 rfl rfl (by decide) rfl rfl ?_
        refine K_iload (q := 106) 5 dX1_takeTokens_104 rfl rfl ?_
        refine K_bipush (q := 108) (v := nI 14) dX1_takeTokens_106 rfl rfl ?_
        refine K_iadd (q := 109) dX1_takeTokens_108 rfl ?_
        refine K_iald (q := 110) dX1_takeTokens_109 rfl (fun v6 => ?_)
        refine K_bipush (q := 112) (v := nI 15) dX1_takeTokens_110 rfl rfl ?_
        refine K_iand (q := 113) dX1_takeTokens_112 rfl ?_
        refine K_iconst (q := 114) (v := nI 1) dX1_takeTokens_113 rfl rfl ?_
        refine K_isub (q := 115) dX1_takeTokens_114 rfl ?_
        refine K_cvv (q := 118) [.inl (l2), .inl ((v6 &&& (nI 15)) - (nI 1))] dX1_takeTokens_115 cb_X1_evictLine cvRX1_179 rc_0 (show (10 : Nat) ≠ 0 by decide) rfl (Nat.le_of_ble_eq_true rfl) ⟨by decide, by decide⟩ (Nat.le_of_ble_eq_true rfl) rfl (tX1_evictLine t l2 ((v6 &&& (nI 15)) - (nI 1)) M4) rfl (fun M7 => ?_)
        exact J_sub [1, 2, 3, 4, 5, 6, 0] (tX1_takeTokens_118 t l2 l3 l4 l5 l6 s0 M7) rfl
      · refine K_aload_n (q := 73) 1 dX1_takeTokens_72 rfl rfl rfl ?_
        refine K_getR (q := 76) (ci := 0) (a2 := t + 8) 0 dX1_takeTokens_73 fRX1_46 rfl rfl (by decide) rfl rfl ?_
        refine K_aload_n (q := 77) 1 dX1_takeTokens_76 rfl rfl rfl ?_
        refine K_getI (q := 80) (ci := 0) 14 dX1_takeTokens_77 fRX1_70 rfl rfl rfl (fun v8 => ?_)
        refine K_iconst (q := 81) (v := nI 5) dX1_takeTokens_80 rfl rfl ?_
        refine K_iload_n (q := 82) 2 dX1_takeTokens_81 rfl rfl rfl ?_
        refine K_iload_n (q := 83) 3 dX1_takeTokens_82 rfl rfl rfl ?_
        refine K_cvv (q := 86) [.inl (v8), .inl ((nI 5)), .inl (l2), .inl (l3)] dX1_takeTokens_83 cb_X5_note cvRX1_111 rc_1 (show (11 : Nat) ≠ 0 by decide) rfl (Nat.le_of_ble_eq_true rfl) ⟨by decide, by decide⟩ (Nat.le_of_ble_eq_true rfl) rfl (tX5_note (t + 8) v8 (nI 5) l2 l3 M4) rfl (fun M9 => ?_)
        refine K_aload_n (q := 87) 1 dX1_takeTokens_86 rfl rfl rfl ?_
        refine K_iload_n (q := 88) 2 dX1_takeTokens_87 rfl rfl rfl ?_
        refine K_bipush (q := 90) (v := nI 6) dX1_takeTokens_88 rfl rfl ?_
        refine K_iconst (q := 91) (v := nI 3) dX1_takeTokens_90 rfl rfl ?_
        refine K_iload_n (q := 92) 3 dX1_takeTokens_91 rfl rfl rfl ?_
        refine K_iload (q := 94) 4 dX1_takeTokens_92 rfl rfl ?_
        refine K_cvv (q := 97) [.inl (l2), .inl ((nI 6)), .inl ((nI 3)), .inl (l3), .inl (l4)] dX1_takeTokens_94 cb_X1_post cvRX1_152 rc_0 (show (10 : Nat) ≠ 0 by decide) rfl (Nat.le_of_ble_eq_true rfl) ⟨by decide, by decide⟩ (Nat.le_of_ble_eq_true rfl) rfl (tX1_post t l2 (nI 6) (nI 3) l3 l4 M9) rfl (fun M10 => ?_)
        exact J_vret dX1_takeTokens_97
def xX1_takeTokens_43  (t : Nat) (l2 : Int32) (l3 : Int32) (l4 : Int32) (l5 : Int32) (l6 : Int32) (M : j_M) : Option (j_M) := xX1_takeTokens_44 t l2 l3 l4 l5 l6 (nI 0) M
set_option maxRecDepth 20000 in
set_option maxHeartbeats 2000000 in
theorem tX1_takeTokens_43  (t : Nat)  (l2 : Int32) (l3 : Int32) (l4 : Int32) (l5 : Int32) (l6 : Int32) (M : j_M) : J (ρ := j_M) yX1_takeTokens cX1_takeTokens 8 none 3 85 j_ev 43 [(0, .inr (10, 0, t)), (2, .inl (l2)), (3, .inl (l3)), (4, .inl (l4)), (5, .inl (l5)), (6, .inl (l6))] [] M (xX1_takeTokens_43 t l2 l3 l4 l5 l6 M) := by
  unfold xX1_takeTokens_43
  refine K_iconst (q := 44) (v := nI 0) dX1_takeTokens_43 rfl rfl ?_
  exact J_sub [0, 1, 2, 3, 4, 5] (tX1_takeTokens_44 t l2 l3 l4 l5 l6 (nI 0) M) rfl
def xX1_takeTokens (t : Nat) (l1 : Int32) (l2 : Int32) (l3 : Int32) (l4 : Int32) (M : j_M) : Option (j_M) := obv (xX1_remember t l2 l1 l3 (nI 1) M) fun M1 => obi (xX1_blockOf l2 M1) fun v3 M2 => (if l2 = (nI 6) then xX1_takeTokens_43 t l2 l3 l4 v3 (v3 + l3) M2 else gd (v3 + l3) 112 (oli (M2 (t + 1) (ix (v3 + l3))) fun v4 => obi (xX3_count v4 M2) fun v6 M5 => (if v6 = (0 : Int32) then xX1_takeTokens_44 t l2 l3 l4 v3 (v3 + l3) (nI 1) M5 else xX1_takeTokens_43 t l2 l3 l4 v3 (v3 + l3) M5)))
set_option maxRecDepth 20000 in
set_option maxHeartbeats 2000000 in
theorem tX1_takeTokens (t : Nat) (l1 : Int32) (l2 : Int32) (l3 : Int32) (l4 : Int32) (M : j_M) : J (ρ := j_M) yX1_takeTokens cX1_takeTokens 8 none 3 85 j_ev 0 [(0, .inr (10, 0, t)), (1, .inl (l1)), (2, .inl (l2)), (3, .inl (l3)), (4, .inl (l4))] [] M (xX1_takeTokens t l1 l2 l3 l4 M) := by
  unfold xX1_takeTokens
  refine K_aload_n (q := 1) 0 dX1_takeTokens_0 rfl rfl rfl ?_
  refine K_iload_n (q := 2) 2 dX1_takeTokens_1 rfl rfl rfl ?_
  refine K_iload_n (q := 3) 1 dX1_takeTokens_2 rfl rfl rfl ?_
  refine K_iload_n (q := 4) 3 dX1_takeTokens_3 rfl rfl rfl ?_
  refine K_iconst (q := 5) (v := nI 1) dX1_takeTokens_4 rfl rfl ?_
  refine K_cvv (q := 8) [.inl (l2), .inl (l1), .inl (l3), .inl ((nI 1))] dX1_takeTokens_5 cb_X1_remember cvRX1_220 rc_0 (show (10 : Nat) ≠ 0 by decide) rfl (Nat.le_of_ble_eq_true rfl) ⟨by decide, by decide⟩ (Nat.le_of_ble_eq_true rfl) rfl (tX1_remember t l2 l1 l3 (nI 1) M) rfl (fun M1 => ?_)
  refine K_iload_n (q := 9) 2 dX1_takeTokens_8 rfl rfl rfl ?_
  refine K_csi (q := 12) [.inl (l2)] dX1_takeTokens_9 cb_X1_blockOf cvRX1_73 rfl (Nat.le_of_ble_eq_true rfl) ⟨by decide, by decide⟩ (Nat.le_of_ble_eq_true rfl) rfl (tX1_blockOf l2 M1) rfl (fun v3 M2 => ?_)
  refine K_istore (q := 14) (ll' := [(5, .inl (v3)), (0, .inr (10, 0, t)), (1, .inl (l1)), (2, .inl (l2)), (3, .inl (l3)), (4, .inl (l4))]) dX1_takeTokens_12 (by decide) rfl rfl ?_
  refine K_iload (q := 16) 0 dX1_takeTokens_14 rfl rfl ?_
  refine K_iload_n (q := 17) 4 dX1_takeTokens_16 rfl rfl rfl ?_
  refine K_iadd (q := 18) dX1_takeTokens_17 rfl ?_
  refine K_istore (q := 20) (ll' := [(6, .inl (v3 + l3)), (5, .inl (v3)), (0, .inr (10, 0, t)), (1, .inl (l1)), (2, .inl (l2)), (3, .inl (l3)), (4, .inl (l4))]) dX1_takeTokens_18 (by decide) rfl rfl ?_
  refine K_iload_n (q := 21) 4 dX1_takeTokens_20 rfl rfl rfl ?_
  refine K_bipush (q := 23) (v := nI 6) dX1_takeTokens_21 rfl rfl ?_
  refine K_icmp_eq (q := 26) (tgt := 43) dX1_takeTokens_23 rfl ?_ rfl ?_
  · exact J_sub [2, 4, 5, 6, 1, 0] (tX1_takeTokens_43 t l2 l3 l4 v3 (v3 + l3) M2) rfl
  · refine K_aload_n (q := 27) 2 dX1_takeTokens_26 rfl rfl rfl ?_
    refine K_getR (q := 30) (ci := 0) (a2 := t + 1) 1 dX1_takeTokens_27 fRX1_11 rfl rfl (by decide) rfl rfl ?_
    refine K_iload (q := 32) 0 dX1_takeTokens_30 rfl rfl ?_
    refine K_iald (q := 33) dX1_takeTokens_32 rfl (fun v4 => ?_)
    refine K_csi (q := 36) [.inl (v4)] dX1_takeTokens_33 cb_X3_count cvRX1_82 rfl (Nat.le_of_ble_eq_true rfl) ⟨by decide, by decide⟩ (Nat.le_of_ble_eq_true rfl) rfl (tX3_count v4 M2) rfl (fun v6 M5 => ?_)
    refine K_if_ne (q := 39) (tgt := 43) dX1_takeTokens_36 rfl ?_ rfl ?_
    · exact J_sub [2, 4, 5, 6, 1, 0] (tX1_takeTokens_43 t l2 l3 l4 v3 (v3 + l3) M5) rfl
    · refine K_iconst (q := 40) (v := nI 1) dX1_takeTokens_39 rfl rfl ?_
      refine J_goto (tgt := 44) dX1_takeTokens_40 rfl ?_
      exact J_sub [2, 4, 5, 6, 1, 0] (tX1_takeTokens_44 t l2 l3 l4 v3 (v3 + l3) (nI 1) M5) rfl
theorem dX1_deliverAt_0 : decode cX1_deliverAt 0 = .ok (.aload_n 0, 1) := by decide +kernel
theorem dX1_deliverAt_1 : decode cX1_deliverAt 1 = .ok (.getfield 15, 3) := by decide +kernel
theorem dX1_deliverAt_4 : decode cX1_deliverAt 4 = .ok (.iload_n 1, 1) := by decide +kernel
theorem dX1_deliverAt_5 : decode cX1_deliverAt 5 = .ok (.iaload, 1) := by decide +kernel
theorem dX1_deliverAt_6 : decode cX1_deliverAt 6 = .ok (.istore_n 2, 1) := by decide +kernel
theorem dX1_deliverAt_7 : decode cX1_deliverAt 7 = .ok (.aload_n 0, 1) := by decide +kernel
theorem dX1_deliverAt_8 : decode cX1_deliverAt 8 = .ok (.dup, 1) := by decide +kernel
theorem dX1_deliverAt_9 : decode cX1_deliverAt 9 = .ok (.getfield 64, 3) := by decide +kernel
theorem dX1_deliverAt_12 : decode cX1_deliverAt 12 = .ok (.iconst 1, 1) := by decide +kernel
theorem dX1_deliverAt_13 : decode cX1_deliverAt 13 = .ok (.isub, 1) := by decide +kernel
theorem dX1_deliverAt_14 : decode cX1_deliverAt 14 = .ok (.putfield 64, 3) := by decide +kernel
theorem dX1_deliverAt_17 : decode cX1_deliverAt 17 = .ok (.aload_n 0, 1) := by decide +kernel
theorem dX1_deliverAt_18 : decode cX1_deliverAt 18 = .ok (.getfield 15, 3) := by decide +kernel
theorem dX1_deliverAt_21 : decode cX1_deliverAt 21 = .ok (.iload_n 1, 1) := by decide +kernel
theorem dX1_deliverAt_22 : decode cX1_deliverAt 22 = .ok (.iconst 1, 1) := by decide +kernel
theorem dX1_deliverAt_23 : decode cX1_deliverAt 23 = .ok (.iadd, 1) := by decide +kernel
theorem dX1_deliverAt_24 : decode cX1_deliverAt 24 = .ok (.aload_n 0, 1) := by decide +kernel
theorem dX1_deliverAt_25 : decode cX1_deliverAt 25 = .ok (.getfield 15, 3) := by decide +kernel
theorem dX1_deliverAt_28 : decode cX1_deliverAt 28 = .ok (.iload_n 1, 1) := by decide +kernel
theorem dX1_deliverAt_29 : decode cX1_deliverAt 29 = .ok (.aload_n 0, 1) := by decide +kernel
theorem dX1_deliverAt_30 : decode cX1_deliverAt 30 = .ok (.getfield 64, 3) := by decide +kernel
theorem dX1_deliverAt_33 : decode cX1_deliverAt 33 = .ok (.iload_n 1, 1) := by decide +kernel
theorem dX1_deliverAt_34 : decode cX1_deliverAt 34 = .ok (.isub, 1) := by decide +kernel
theorem dX1_deliverAt_35 : decode cX1_deliverAt 35 = .ok (.invokestatic 58, 3) := by decide +kernel
theorem dX1_deliverAt_38 : decode cX1_deliverAt 38 = .ok (.aload_n 0, 1) := by decide +kernel
theorem dX1_deliverAt_39 : decode cX1_deliverAt 39 = .ok (.getfield 46, 3) := by decide +kernel
theorem dX1_deliverAt_42 : decode cX1_deliverAt 42 = .ok (.dup, 1) := by decide +kernel
theorem dX1_deliverAt_43 : decode cX1_deliverAt 43 = .ok (.getfield 195, 3) := by decide +kernel
theorem dX1_deliverAt_46 : decode cX1_deliverAt 46 = .ok (.iconst 1, 1) := by decide +kernel
theorem dX1_deliverAt_47 : decode cX1_deliverAt 47 = .ok (.iadd, 1) := by decide +kernel
theorem dX1_deliverAt_48 : decode cX1_deliverAt 48 = .ok (.putfield 195, 3) := by decide +kernel
theorem dX1_deliverAt_51 : decode cX1_deliverAt 51 = .ok (.iload_n 2, 1) := by decide +kernel
theorem dX1_deliverAt_52 : decode cX1_deliverAt 52 = .ok (.invokestatic 198, 3) := by decide +kernel
theorem dX1_deliverAt_55 : decode cX1_deliverAt 55 = .ok (.istore_n 3, 1) := by decide +kernel
theorem dX1_deliverAt_56 : decode cX1_deliverAt 56 = .ok (.iload_n 2, 1) := by decide +kernel
theorem dX1_deliverAt_57 : decode cX1_deliverAt 57 = .ok (.invokestatic 201, 3) := by decide +kernel
theorem dX1_deliverAt_60 : decode cX1_deliverAt 60 = .ok (.istore 4, 2) := by decide +kernel
theorem dX1_deliverAt_62 : decode cX1_deliverAt 62 = .ok (.iload_n 2, 1) := by decide +kernel
theorem dX1_deliverAt_63 : decode cX1_deliverAt 63 = .ok (.invokestatic 204, 3) := by decide +kernel
theorem dX1_deliverAt_66 : decode cX1_deliverAt 66 = .ok (.istore 5, 2) := by decide +kernel
theorem dX1_deliverAt_68 : decode cX1_deliverAt 68 = .ok (.iload_n 2, 1) := by decide +kernel
theorem dX1_deliverAt_69 : decode cX1_deliverAt 69 = .ok (.invokestatic 159, 3) := by decide +kernel
theorem dX1_deliverAt_72 : decode cX1_deliverAt 72 = .ok (.istore 6, 2) := by decide +kernel
theorem dX1_deliverAt_74 : decode cX1_deliverAt 74 = .ok (.iload 6, 2) := by decide +kernel
theorem dX1_deliverAt_76 : decode cX1_deliverAt 76 = .ok (.tableswitch 78 1 4 #[32, 32, 46, 62], 32) := by decide +kernel
theorem dX1_deliverAt_108 : decode cX1_deliverAt 108 = .ok (.aload_n 0, 1) := by decide +kernel
theorem dX1_deliverAt_109 : decode cX1_deliverAt 109 = .ok (.iload_n 3, 1) := by decide +kernel
theorem dX1_deliverAt_110 : decode cX1_deliverAt 110 = .ok (.iload 4, 2) := by decide +kernel
theorem dX1_deliverAt_112 : decode cX1_deliverAt 112 = .ok (.iload 5, 2) := by decide +kernel
theorem dX1_deliverAt_114 : decode cX1_deliverAt 114 = .ok (.iload 6, 2) := by decide +kernel
theorem dX1_deliverAt_116 : decode cX1_deliverAt 116 = .ok (.invokevirtual 205, 3) := by decide +kernel
theorem dX1_deliverAt_119 : decode cX1_deliverAt 119 = .ok (.goto 48, 3) := by decide +kernel
theorem dX1_deliverAt_122 : decode cX1_deliverAt 122 = .ok (.aload_n 0, 1) := by decide +kernel
theorem dX1_deliverAt_123 : decode cX1_deliverAt 123 = .ok (.iload_n 3, 1) := by decide +kernel
theorem dX1_deliverAt_124 : decode cX1_deliverAt 124 = .ok (.iload 4, 2) := by decide +kernel
theorem dX1_deliverAt_126 : decode cX1_deliverAt 126 = .ok (.iload 5, 2) := by decide +kernel
theorem dX1_deliverAt_128 : decode cX1_deliverAt 128 = .ok (.iload_n 2, 1) := by decide +kernel
theorem dX1_deliverAt_129 : decode cX1_deliverAt 129 = .ok (.invokestatic 208, 3) := by decide +kernel
theorem dX1_deliverAt_132 : decode cX1_deliverAt 132 = .ok (.invokevirtual 211, 3) := by decide +kernel
theorem dX1_deliverAt_135 : decode cX1_deliverAt 135 = .ok (.goto 32, 3) := by decide +kernel
theorem dX1_deliverAt_138 : decode cX1_deliverAt 138 = .ok (.aload_n 0, 1) := by decide +kernel
theorem dX1_deliverAt_139 : decode cX1_deliverAt 139 = .ok (.iload_n 3, 1) := by decide +kernel
theorem dX1_deliverAt_140 : decode cX1_deliverAt 140 = .ok (.iload 4, 2) := by decide +kernel
theorem dX1_deliverAt_142 : decode cX1_deliverAt 142 = .ok (.iload 5, 2) := by decide +kernel
theorem dX1_deliverAt_144 : decode cX1_deliverAt 144 = .ok (.iload_n 2, 1) := by decide +kernel
theorem dX1_deliverAt_145 : decode cX1_deliverAt 145 = .ok (.invokestatic 208, 3) := by decide +kernel
theorem dX1_deliverAt_148 : decode cX1_deliverAt 148 = .ok (.invokevirtual 214, 3) := by decide +kernel
theorem dX1_deliverAt_151 : decode cX1_deliverAt 151 = .ok (.goto 16, 3) := by decide +kernel
theorem dX1_deliverAt_154 : decode cX1_deliverAt 154 = .ok (.aload_n 0, 1) := by decide +kernel
theorem dX1_deliverAt_155 : decode cX1_deliverAt 155 = .ok (.iload_n 3, 1) := by decide +kernel
theorem dX1_deliverAt_156 : decode cX1_deliverAt 156 = .ok (.iload 4, 2) := by decide +kernel
theorem dX1_deliverAt_158 : decode cX1_deliverAt 158 = .ok (.iload 5, 2) := by decide +kernel
theorem dX1_deliverAt_160 : decode cX1_deliverAt 160 = .ok (.iload_n 2, 1) := by decide +kernel
theorem dX1_deliverAt_161 : decode cX1_deliverAt 161 = .ok (.invokestatic 208, 3) := by decide +kernel
theorem dX1_deliverAt_164 : decode cX1_deliverAt 164 = .ok (.invokevirtual 217, 3) := by decide +kernel
theorem dX1_deliverAt_167 : decode cX1_deliverAt 167 = .ok (.iload 6, 2) := by decide +kernel
theorem dX1_deliverAt_169 : decode cX1_deliverAt 169 = .ok (.ireturn, 1) := by decide +kernel
def xX1_deliverAt (t : Nat) (l1 : Int32) (M : j_M) : Option (Int32 × j_M) := gd l1 256 (oli (M (t + 2) (ix l1)) fun v1 => oli (M t 8) fun v2 => oml (mw M t 8 (v2 - (nI 1))) fun M3 => oli (M3 t 8) fun v4 => gc (l1 + (nI 1)) l1 (v4 - l1) 256 256 (oml (mcp M3 (t + 2) (ix (l1 + (nI 1))) (t + 2) (ix l1) (ix (v4 - l1))) fun M5 => oli (M5 (t + 8) 14) fun v6 => oml (mw M5 (t + 8) 14 (v6 + (nI 1))) fun M7 => obi (xX4_from v1 M7) fun v9 M8 => obi (xX4_to v1 M8) fun v11 M10 => obi (xX4_line v1 M10) fun v13 M12 => obi (xX4_kind v1 M12) fun v15 M14 => osw v15 [((nI 1), obv (xX1_answer t v9 v11 v13 v15 M14) fun M16 => some (v15, M16)), ((nI 2), obv (xX1_answer t v9 v11 v13 v15 M14) fun M17 => some (v15, M17)), ((nI 3), obi (xX4_cargo v1 M14) fun v19 M18 => obv (xX1_takeTokens t v9 v11 v13 v19 M18) fun M20 => some (v15, M20)), ((nI 4), obi (xX4_cargo v1 M14) fun v22 M21 => obv (xX1_heedForGood t v9 v11 v13 v22 M21) fun M23 => some (v15, M23))] (obi (xX4_cargo v1 M14) fun v25 M24 => obv (xX1_heedRecall t v9 v11 v13 v25 M24) fun M26 => some (v15, M26))))
set_option maxRecDepth 20000 in
set_option maxHeartbeats 2000000 in
theorem tX1_deliverAt (t : Nat) (l1 : Int32) (M : j_M) : J (ρ := Int32 × j_M) yX1_deliverAt cX1_deliverAt 7 (some .int) 4 112 j_ei 0 [(0, .inr (10, 0, t)), (1, .inl (l1))] [] M (xX1_deliverAt t l1 M) := by
  unfold xX1_deliverAt
  refine K_aload_n (q := 1) 0 dX1_deliverAt_0 rfl rfl rfl ?_
  refine K_getR (q := 4) (ci := 0) (a2 := t + 2) 2 dX1_deliverAt_1 fRX1_15 rfl rfl (by decide) rfl rfl ?_
  refine K_iload_n (q := 5) 1 dX1_deliverAt_4 rfl rfl rfl ?_
  refine K_iald (q := 6) dX1_deliverAt_5 rfl (fun v1 => ?_)
  refine K_istore_n (q := 7) (ll' := [(2, .inl (v1)), (0, .inr (10, 0, t)), (1, .inl (l1))]) dX1_deliverAt_6 rfl (by decide) rfl rfl ?_
  refine K_aload_n (q := 8) 1 dX1_deliverAt_7 rfl rfl rfl ?_
  refine K_dup (q := 9) dX1_deliverAt_8 rfl ?_
  refine K_getI (q := 12) (ci := 0) 8 dX1_deliverAt_9 fRX1_64 rfl rfl rfl (fun v2 => ?_)
  refine K_iconst (q := 13) (v := nI 1) dX1_deliverAt_12 rfl rfl ?_
  refine K_isub (q := 14) dX1_deliverAt_13 rfl ?_
  refine K_putI (q := 17) (ci := 0) 8 dX1_deliverAt_14 fRX1_64 fp_0_8 rfl rfl (by decide) rfl (fun M3 => ?_)
  refine K_aload_n (q := 18) 1 dX1_deliverAt_17 rfl rfl rfl ?_
  refine K_getR (q := 21) (ci := 0) (a2 := t + 2) 2 dX1_deliverAt_18 fRX1_15 rfl rfl (by decide) rfl rfl ?_
  refine K_iload_n (q := 22) 2 dX1_deliverAt_21 rfl rfl rfl ?_
  refine K_iconst (q := 23) (v := nI 1) dX1_deliverAt_22 rfl rfl ?_
  refine K_iadd (q := 24) dX1_deliverAt_23 rfl ?_
  refine K_aload_n (q := 25) 1 dX1_deliverAt_24 rfl rfl rfl ?_
  refine K_getR (q := 28) (ci := 0) (a2 := t + 2) 2 dX1_deliverAt_25 fRX1_15 rfl rfl (by decide) rfl rfl ?_
  refine K_iload_n (q := 29) 2 dX1_deliverAt_28 rfl rfl rfl ?_
  refine K_aload_n (q := 30) 1 dX1_deliverAt_29 rfl rfl rfl ?_
  refine K_getI (q := 33) (ci := 0) 8 dX1_deliverAt_30 fRX1_64 rfl rfl rfl (fun v4 => ?_)
  refine K_iload_n (q := 34) 2 dX1_deliverAt_33 rfl rfl rfl ?_
  refine K_isub (q := 35) dX1_deliverAt_34 rfl ?_
  refine K_acopy (q := 38) dX1_deliverAt_35 (j_in 569 (by decide +kernel) (by decide +kernel)) ac_nat ac_stat ac_ini (by decide) (Nat.le_of_ble_eq_true rfl) rfl (fun M5 => ?_)
  refine K_aload_n (q := 39) 1 dX1_deliverAt_38 rfl rfl rfl ?_
  refine K_getR (q := 42) (ci := 0) (a2 := t + 8) 0 dX1_deliverAt_39 fRX1_46 rfl rfl (by decide) rfl rfl ?_
  refine K_dup (q := 43) dX1_deliverAt_42 rfl ?_
  refine K_getI (q := 46) (ci := 1) 14 dX1_deliverAt_43 fRX1_195 rfl rfl rfl (fun v6 => ?_)
  refine K_iconst (q := 47) (v := nI 1) dX1_deliverAt_46 rfl rfl ?_
  refine K_iadd (q := 48) dX1_deliverAt_47 rfl ?_
  refine K_putI (q := 51) (ci := 1) 14 dX1_deliverAt_48 fRX1_195 fp_1_14 rfl rfl (by decide) rfl (fun M7 => ?_)
  refine K_iload_n (q := 52) 0 dX1_deliverAt_51 rfl rfl rfl ?_
  refine K_csi (q := 55) [.inl (v1)] dX1_deliverAt_52 cb_X4_from cvRX1_198 rfl (Nat.le_of_ble_eq_true rfl) ⟨by decide, by decide⟩ (Nat.le_of_ble_eq_true rfl) rfl (tX4_from v1 M7) rfl (fun v9 M8 => ?_)
  refine K_istore_n (q := 56) (ll' := [(3, .inl (v9)), (2, .inl (v1)), (0, .inr (10, 0, t)), (1, .inl (l1))]) dX1_deliverAt_55 rfl (by decide) rfl rfl ?_
  refine K_iload_n (q := 57) 1 dX1_deliverAt_56 rfl rfl rfl ?_
  refine K_csi (q := 60) [.inl (v1)] dX1_deliverAt_57 cb_X4_to cvRX1_201 rfl (Nat.le_of_ble_eq_true rfl) ⟨by decide, by decide⟩ (Nat.le_of_ble_eq_true rfl) rfl (tX4_to v1 M8) rfl (fun v11 M10 => ?_)
  refine K_istore (q := 62) (ll' := [(4, .inl (v11)), (3, .inl (v9)), (2, .inl (v1)), (0, .inr (10, 0, t)), (1, .inl (l1))]) dX1_deliverAt_60 (by decide) rfl rfl ?_
  refine K_iload_n (q := 63) 2 dX1_deliverAt_62 rfl rfl rfl ?_
  refine K_csi (q := 66) [.inl (v1)] dX1_deliverAt_63 cb_X4_line cvRX1_204 rfl (Nat.le_of_ble_eq_true rfl) ⟨by decide, by decide⟩ (Nat.le_of_ble_eq_true rfl) rfl (tX4_line v1 M10) rfl (fun v13 M12 => ?_)
  refine K_istore (q := 68) (ll' := [(5, .inl (v13)), (4, .inl (v11)), (3, .inl (v9)), (2, .inl (v1)), (0, .inr (10, 0, t)), (1, .inl (l1))]) dX1_deliverAt_66 (by decide) rfl rfl ?_
  refine K_iload_n (q := 69) 3 dX1_deliverAt_68 rfl rfl rfl ?_
  refine K_csi (q := 72) [.inl (v1)] dX1_deliverAt_69 cb_X4_kind cvRX1_159 rfl (Nat.le_of_ble_eq_true rfl) ⟨by decide, by decide⟩ (Nat.le_of_ble_eq_true rfl) rfl (tX4_kind v1 M12) rfl (fun v15 M14 => ?_)
  refine K_istore (q := 74) (ll' := [(6, .inl (v15)), (5, .inl (v13)), (4, .inl (v11)), (3, .inl (v9)), (2, .inl (v1)), (0, .inr (10, 0, t)), (1, .inl (l1))]) dX1_deliverAt_72 (by decide) rfl rfl ?_
  refine K_iload (q := 76) 0 dX1_deliverAt_74 rfl rfl ?_
  refine K_tsw (dt := 154) [108, 108, 122, 138] dX1_deliverAt_76 rfl rfl rfl rfl ⟨?_, ?_, ?_, ?_, trivial⟩ ?_
  · refine K_aload_n (q := 109) 5 dX1_deliverAt_108 rfl rfl rfl ?_
    refine K_iload_n (q := 110) 3 dX1_deliverAt_109 rfl rfl rfl ?_
    refine K_iload (q := 112) 2 dX1_deliverAt_110 rfl rfl ?_
    refine K_iload (q := 114) 1 dX1_deliverAt_112 rfl rfl ?_
    refine K_iload (q := 116) 0 dX1_deliverAt_114 rfl rfl ?_
    refine K_cvv (q := 119) [.inl (v9), .inl (v11), .inl (v13), .inl (v15)] dX1_deliverAt_116 cb_X1_answer cvRX1_205 rc_0 (show (10 : Nat) ≠ 0 by decide) rfl (Nat.le_of_ble_eq_true rfl) ⟨by decide, by decide⟩ (Nat.le_of_ble_eq_true rfl) rfl (tX1_answer t v9 v11 v13 v15 M14) rfl (fun M16 => ?_)
    refine J_goto (tgt := 167) dX1_deliverAt_119 rfl ?_
    refine K_iload (q := 169) 0 dX1_deliverAt_167 rfl rfl ?_
    exact J_iret dX1_deliverAt_169
  · refine K_aload_n (q := 109) 5 dX1_deliverAt_108 rfl rfl rfl ?_
    refine K_iload_n (q := 110) 3 dX1_deliverAt_109 rfl rfl rfl ?_
    refine K_iload (q := 112) 2 dX1_deliverAt_110 rfl rfl ?_
    refine K_iload (q := 114) 1 dX1_deliverAt_112 rfl rfl ?_
    refine K_iload (q := 116) 0 dX1_deliverAt_114 rfl rfl ?_
    refine K_cvv (q := 119) [.inl (v9), .inl (v11), .inl (v13), .inl (v15)] dX1_deliverAt_116 cb_X1_answer cvRX1_205 rc_0 (show (10 : Nat) ≠ 0 by decide) rfl (Nat.le_of_ble_eq_true rfl) ⟨by decide, by decide⟩ (Nat.le_of_ble_eq_true rfl) rfl (tX1_answer t v9 v11 v13 v15 M14) rfl (fun M17 => ?_)
    refine J_goto (tgt := 167) dX1_deliverAt_119 rfl ?_
    refine K_iload (q := 169) 0 dX1_deliverAt_167 rfl rfl ?_
    exact J_iret dX1_deliverAt_169
  · refine K_aload_n (q := 123) 5 dX1_deliverAt_122 rfl rfl rfl ?_
    refine K_iload_n (q := 124) 3 dX1_deliverAt_123 rfl rfl rfl ?_
    refine K_iload (q := 126) 2 dX1_deliverAt_124 rfl rfl ?_
    refine K_iload (q := 128) 1 dX1_deliverAt_126 rfl rfl ?_
    refine K_iload_n (q := 129) 4 dX1_deliverAt_128 rfl rfl rfl ?_
    refine K_csi (q := 132) [.inl (v1)] dX1_deliverAt_129 cb_X4_cargo cvRX1_208 rfl (Nat.le_of_ble_eq_true rfl) ⟨by decide, by decide⟩ (Nat.le_of_ble_eq_true rfl) rfl (tX4_cargo v1 M14) rfl (fun v19 M18 => ?_)
    refine K_cvv (q := 135) [.inl (v9), .inl (v11), .inl (v13), .inl (v19)] dX1_deliverAt_132 cb_X1_takeTokens cvRX1_211 rc_0 (show (10 : Nat) ≠ 0 by decide) rfl (Nat.le_of_ble_eq_true rfl) ⟨by decide, by decide⟩ (Nat.le_of_ble_eq_true rfl) rfl (tX1_takeTokens t v9 v11 v13 v19 M18) rfl (fun M20 => ?_)
    refine J_goto (tgt := 167) dX1_deliverAt_135 rfl ?_
    refine K_iload (q := 169) 0 dX1_deliverAt_167 rfl rfl ?_
    exact J_iret dX1_deliverAt_169
  · refine K_aload_n (q := 139) 5 dX1_deliverAt_138 rfl rfl rfl ?_
    refine K_iload_n (q := 140) 3 dX1_deliverAt_139 rfl rfl rfl ?_
    refine K_iload (q := 142) 2 dX1_deliverAt_140 rfl rfl ?_
    refine K_iload (q := 144) 1 dX1_deliverAt_142 rfl rfl ?_
    refine K_iload_n (q := 145) 4 dX1_deliverAt_144 rfl rfl rfl ?_
    refine K_csi (q := 148) [.inl (v1)] dX1_deliverAt_145 cb_X4_cargo cvRX1_208 rfl (Nat.le_of_ble_eq_true rfl) ⟨by decide, by decide⟩ (Nat.le_of_ble_eq_true rfl) rfl (tX4_cargo v1 M14) rfl (fun v22 M21 => ?_)
    refine K_cvv (q := 151) [.inl (v9), .inl (v11), .inl (v13), .inl (v22)] dX1_deliverAt_148 cb_X1_heedForGood cvRX1_214 rc_0 (show (10 : Nat) ≠ 0 by decide) rfl (Nat.le_of_ble_eq_true rfl) ⟨by decide, by decide⟩ (Nat.le_of_ble_eq_true rfl) rfl (tX1_heedForGood t v9 v11 v13 v22 M21) rfl (fun M23 => ?_)
    refine J_goto (tgt := 167) dX1_deliverAt_151 rfl ?_
    refine K_iload (q := 169) 0 dX1_deliverAt_167 rfl rfl ?_
    exact J_iret dX1_deliverAt_169
  · refine K_aload_n (q := 155) 5 dX1_deliverAt_154 rfl rfl rfl ?_
    refine K_iload_n (q := 156) 3 dX1_deliverAt_155 rfl rfl rfl ?_
    refine K_iload (q := 158) 2 dX1_deliverAt_156 rfl rfl ?_
    refine K_iload (q := 160) 1 dX1_deliverAt_158 rfl rfl ?_
    refine K_iload_n (q := 161) 4 dX1_deliverAt_160 rfl rfl rfl ?_
    refine K_csi (q := 164) [.inl (v1)] dX1_deliverAt_161 cb_X4_cargo cvRX1_208 rfl (Nat.le_of_ble_eq_true rfl) ⟨by decide, by decide⟩ (Nat.le_of_ble_eq_true rfl) rfl (tX4_cargo v1 M14) rfl (fun v25 M24 => ?_)
    refine K_cvv (q := 167) [.inl (v9), .inl (v11), .inl (v13), .inl (v25)] dX1_deliverAt_164 cb_X1_heedRecall cvRX1_217 rc_0 (show (10 : Nat) ≠ 0 by decide) rfl (Nat.le_of_ble_eq_true rfl) ⟨by decide, by decide⟩ (Nat.le_of_ble_eq_true rfl) rfl (tX1_heedRecall t v9 v11 v13 v25 M24) rfl (fun M26 => ?_)
    refine K_iload (q := 169) 0 dX1_deliverAt_167 rfl rfl ?_
    exact J_iret dX1_deliverAt_169
theorem dX1_askForGood_0 : decode cX1_askForGood 0 = .ok (.iload_n 1, 1) := by decide +kernel
theorem dX1_askForGood_1 : decode cX1_askForGood 1 = .ok (.invokestatic 73, 3) := by decide +kernel
theorem dX1_askForGood_4 : decode cX1_askForGood 4 = .ok (.istore_n 2, 1) := by decide +kernel
theorem dX1_askForGood_5 : decode cX1_askForGood 5 = .ok (.aload_n 0, 1) := by decide +kernel
theorem dX1_askForGood_6 : decode cX1_askForGood 6 = .ok (.getfield 11, 3) := by decide +kernel
theorem dX1_askForGood_9 : decode cX1_askForGood 9 = .ok (.iload_n 2, 1) := by decide +kernel
theorem dX1_askForGood_10 : decode cX1_askForGood 10 = .ok (.bipush 15, 2) := by decide +kernel
theorem dX1_askForGood_12 : decode cX1_askForGood 12 = .ok (.iadd, 1) := by decide +kernel
theorem dX1_askForGood_13 : decode cX1_askForGood 13 = .ok (.iaload, 1) := by decide +kernel
theorem dX1_askForGood_14 : decode cX1_askForGood 14 = .ok (.istore_n 3, 1) := by decide +kernel
theorem dX1_askForGood_15 : decode cX1_askForGood 15 = .ok (.iload_n 3, 1) := by decide +kernel
theorem dX1_askForGood_16 : decode cX1_askForGood 16 = .ok (.invokestatic 77, 3) := by decide +kernel
theorem dX1_askForGood_19 : decode cX1_askForGood 19 = .ok (.istore 4, 2) := by decide +kernel
theorem dX1_askForGood_21 : decode cX1_askForGood 21 = .ok (.iload_n 3, 1) := by decide +kernel
theorem dX1_askForGood_22 : decode cX1_askForGood 22 = .ok (.invokestatic 142, 3) := by decide +kernel
theorem dX1_askForGood_25 : decode cX1_askForGood 25 = .ok (.iconst 1, 1) := by decide +kernel
theorem dX1_askForGood_26 : decode cX1_askForGood 26 = .ok (.if_icmp .ne 7, 3) := by decide +kernel
theorem dX1_askForGood_29 : decode cX1_askForGood 29 = .ok (.iconst 1, 1) := by decide +kernel
theorem dX1_askForGood_30 : decode cX1_askForGood 30 = .ok (.goto 4, 3) := by decide +kernel
theorem dX1_askForGood_33 : decode cX1_askForGood 33 = .ok (.iconst 2, 1) := by decide +kernel
theorem dX1_askForGood_34 : decode cX1_askForGood 34 = .ok (.istore 5, 2) := by decide +kernel
theorem dX1_askForGood_36 : decode cX1_askForGood 36 = .ok (.aload_n 0, 1) := by decide +kernel
theorem dX1_askForGood_37 : decode cX1_askForGood 37 = .ok (.getfield 11, 3) := by decide +kernel
theorem dX1_askForGood_40 : decode cX1_askForGood 40 = .ok (.iload_n 2, 1) := by decide +kernel
theorem dX1_askForGood_41 : decode cX1_askForGood 41 = .ok (.bipush 8, 2) := by decide +kernel
theorem dX1_askForGood_43 : decode cX1_askForGood 43 = .ok (.iadd, 1) := by decide +kernel
theorem dX1_askForGood_44 : decode cX1_askForGood 44 = .ok (.iload_n 1, 1) := by decide +kernel
theorem dX1_askForGood_45 : decode cX1_askForGood 45 = .ok (.iadd, 1) := by decide +kernel
theorem dX1_askForGood_46 : decode cX1_askForGood 46 = .ok (.iaload, 1) := by decide +kernel
theorem dX1_askForGood_47 : decode cX1_askForGood 47 = .ok (.invokestatic 251, 3) := by decide +kernel
theorem dX1_askForGood_50 : decode cX1_askForGood 50 = .ok (.iconst 1, 1) := by decide +kernel
theorem dX1_askForGood_51 : decode cX1_askForGood 51 = .ok (.iadd, 1) := by decide +kernel
theorem dX1_askForGood_52 : decode cX1_askForGood 52 = .ok (.istore 6, 2) := by decide +kernel
theorem dX1_askForGood_54 : decode cX1_askForGood 54 = .ok (.aload_n 0, 1) := by decide +kernel
theorem dX1_askForGood_55 : decode cX1_askForGood 55 = .ok (.getfield 11, 3) := by decide +kernel
theorem dX1_askForGood_58 : decode cX1_askForGood 58 = .ok (.iload_n 2, 1) := by decide +kernel
theorem dX1_askForGood_59 : decode cX1_askForGood 59 = .ok (.bipush 8, 2) := by decide +kernel
theorem dX1_askForGood_61 : decode cX1_askForGood 61 = .ok (.iadd, 1) := by decide +kernel
theorem dX1_askForGood_62 : decode cX1_askForGood 62 = .ok (.iload_n 1, 1) := by decide +kernel
theorem dX1_askForGood_63 : decode cX1_askForGood 63 = .ok (.iadd, 1) := by decide +kernel
theorem dX1_askForGood_64 : decode cX1_askForGood 64 = .ok (.iload 6, 2) := by decide +kernel
theorem dX1_askForGood_66 : decode cX1_askForGood 66 = .ok (.iload 4, 2) := by decide +kernel
theorem dX1_askForGood_68 : decode cX1_askForGood 68 = .ok (.iload 5, 2) := by decide +kernel
theorem dX1_askForGood_70 : decode cX1_askForGood 70 = .ok (.invokestatic 264, 3) := by decide +kernel
theorem dX1_askForGood_73 : decode cX1_askForGood 73 = .ok (.iastore, 1) := by decide +kernel
theorem dX1_askForGood_74 : decode cX1_askForGood 74 = .ok (.aload_n 0, 1) := by decide +kernel
theorem dX1_askForGood_75 : decode cX1_askForGood 75 = .ok (.getfield 46, 3) := by decide +kernel
theorem dX1_askForGood_78 : decode cX1_askForGood 78 = .ok (.getfield 267, 3) := by decide +kernel
theorem dX1_askForGood_81 : decode cX1_askForGood 81 = .ok (.iload_n 1, 1) := by decide +kernel
theorem dX1_askForGood_82 : decode cX1_askForGood 82 = .ok (.dup2, 1) := by decide +kernel
theorem dX1_askForGood_83 : decode cX1_askForGood 83 = .ok (.iaload, 1) := by decide +kernel
theorem dX1_askForGood_84 : decode cX1_askForGood 84 = .ok (.iconst 1, 1) := by decide +kernel
theorem dX1_askForGood_85 : decode cX1_askForGood 85 = .ok (.iadd, 1) := by decide +kernel
theorem dX1_askForGood_86 : decode cX1_askForGood 86 = .ok (.iastore, 1) := by decide +kernel
theorem dX1_askForGood_87 : decode cX1_askForGood 87 = .ok (.aload_n 0, 1) := by decide +kernel
theorem dX1_askForGood_88 : decode cX1_askForGood 88 = .ok (.getfield 46, 3) := by decide +kernel
theorem dX1_askForGood_91 : decode cX1_askForGood 91 = .ok (.aload_n 0, 1) := by decide +kernel
theorem dX1_askForGood_92 : decode cX1_askForGood 92 = .ok (.getfield 70, 3) := by decide +kernel
theorem dX1_askForGood_95 : decode cX1_askForGood 95 = .ok (.iconst 3, 1) := by decide +kernel
theorem dX1_askForGood_96 : decode cX1_askForGood 96 = .ok (.iload_n 1, 1) := by decide +kernel
theorem dX1_askForGood_97 : decode cX1_askForGood 97 = .ok (.iload 4, 2) := by decide +kernel
theorem dX1_askForGood_99 : decode cX1_askForGood 99 = .ok (.invokevirtual 111, 3) := by decide +kernel
theorem dX1_askForGood_102 : decode cX1_askForGood 102 = .ok (.aload_n 0, 1) := by decide +kernel
theorem dX1_askForGood_103 : decode cX1_askForGood 103 = .ok (.iload_n 1, 1) := by decide +kernel
theorem dX1_askForGood_104 : decode cX1_askForGood 104 = .ok (.iconst 4, 1) := by decide +kernel
theorem dX1_askForGood_105 : decode cX1_askForGood 105 = .ok (.iload 4, 2) := by decide +kernel
theorem dX1_askForGood_107 : decode cX1_askForGood 107 = .ok (.iload 5, 2) := by decide +kernel
theorem dX1_askForGood_109 : decode cX1_askForGood 109 = .ok (.iload 6, 2) := by decide +kernel
theorem dX1_askForGood_111 : decode cX1_askForGood 111 = .ok (.iconst 2, 1) := by decide +kernel
theorem dX1_askForGood_112 : decode cX1_askForGood 112 = .ok (.ishl, 1) := by decide +kernel
theorem dX1_askForGood_113 : decode cX1_askForGood 113 = .ok (.ior, 1) := by decide +kernel
theorem dX1_askForGood_114 : decode cX1_askForGood 114 = .ok (.invokevirtual 256, 3) := by decide +kernel
theorem dX1_askForGood_117 : decode cX1_askForGood 117 = .ok (.aload_n 0, 1) := by decide +kernel
theorem dX1_askForGood_118 : decode cX1_askForGood 118 = .ok (.getfield 11, 3) := by decide +kernel
theorem dX1_askForGood_121 : decode cX1_askForGood 121 = .ok (.iload_n 2, 1) := by decide +kernel
theorem dX1_askForGood_122 : decode cX1_askForGood 122 = .ok (.bipush 15, 2) := by decide +kernel
theorem dX1_askForGood_124 : decode cX1_askForGood 124 = .ok (.iadd, 1) := by decide +kernel
theorem dX1_askForGood_125 : decode cX1_askForGood 125 = .ok (.iload_n 3, 1) := by decide +kernel
theorem dX1_askForGood_126 : decode cX1_askForGood 126 = .ok (.bipush 32, 2) := by decide +kernel
theorem dX1_askForGood_128 : decode cX1_askForGood 128 = .ok (.ior, 1) := by decide +kernel
theorem dX1_askForGood_129 : decode cX1_askForGood 129 = .ok (.iastore, 1) := by decide +kernel
theorem dX1_askForGood_130 : decode cX1_askForGood 130 = .ok (.aload_n 0, 1) := by decide +kernel
theorem dX1_askForGood_131 : decode cX1_askForGood 131 = .ok (.iload_n 1, 1) := by decide +kernel
theorem dX1_askForGood_132 : decode cX1_askForGood 132 = .ok (.iload 4, 2) := by decide +kernel
theorem dX1_askForGood_134 : decode cX1_askForGood 134 = .ok (.invokevirtual 233, 3) := by decide +kernel
theorem dX1_askForGood_137 : decode cX1_askForGood 137 = .ok (.return_, 1) := by decide +kernel
def xX1_askForGood_34  (t : Nat) (l1 : Int32) (l2 : Int32) (l3 : Int32) (l4 : Int32) (s0 : Int32) (M : j_M) : Option (j_M) := gd ((l2 + (nI 8)) + l1) 112 (oli (M (t + 1) (ix ((l2 + (nI 8)) + l1))) fun v1 => obi (xX2_seq v1 M) fun v3 M2 => obi (xX2_active (v3 + (nI 1)) l4 s0 M2) fun v5 M4 => gd ((l2 + (nI 8)) + l1) 112 (oml (mw M4 (t + 1) (ix ((l2 + (nI 8)) + l1)) v5) fun M6 => gd l1 6 (oli (M6 (t + 19) (ix l1)) fun v7 => gd l1 6 (oml (mw M6 (t + 19) (ix l1) (v7 + (nI 1))) fun M8 => oli (M8 t 14) fun v9 => obv (xX5_note (t + 8) v9 (nI 3) l1 l4 M8) fun M10 => obv (xX1_postToOthers t l1 (nI 4) l4 (s0 ||| ((v3 + (nI 1)) <<< ((nI 2) &&& 31))) M10) fun M11 => gd (l2 + (nI 15)) 112 (oml (mw M11 (t + 1) (ix (l2 + (nI 15))) (l3 ||| (nI 32))) fun M12 => obv (xX1_settle t l1 l4 M12) fun M13 => some M13)))))
set_option maxRecDepth 20000 in
set_option maxHeartbeats 2000000 in
theorem tX1_askForGood_34  (t : Nat)  (l1 : Int32) (l2 : Int32) (l3 : Int32) (l4 : Int32) (s0 : Int32) (M : j_M) : J (ρ := j_M) yX1_askForGood cX1_askForGood 7 none 3 85 j_ev 34 [(0, .inr (10, 0, t)), (1, .inl (l1)), (2, .inl (l2)), (3, .inl (l3)), (4, .inl (l4))] [.inl (s0)] M (xX1_askForGood_34 t l1 l2 l3 l4 s0 M) := by
  unfold xX1_askForGood_34
  refine K_istore (q := 36) (ll' := [(5, .inl (s0)), (0, .inr (10, 0, t)), (1, .inl (l1)), (2, .inl (l2)), (3, .inl (l3)), (4, .inl (l4))]) dX1_askForGood_34 (by decide) rfl rfl ?_
  refine K_aload_n (q := 37) 1 dX1_askForGood_36 rfl rfl rfl ?_
  refine K_getR (q := 40) (ci := 0) (a2 := t + 1) 1 dX1_askForGood_37 fRX1_11 rfl rfl (by decide) rfl rfl ?_
  refine K_iload_n (q := 41) 3 dX1_askForGood_40 rfl rfl rfl ?_
  refine K_bipush (q := 43) (v := nI 8) dX1_askForGood_41 rfl rfl ?_
  refine K_iadd (q := 44) dX1_askForGood_43 rfl ?_
  refine K_iload_n (q := 45) 2 dX1_askForGood_44 rfl rfl rfl ?_
  refine K_iadd (q := 46) dX1_askForGood_45 rfl ?_
  refine K_iald (q := 47) dX1_askForGood_46 rfl (fun v1 => ?_)
  refine K_csi (q := 50) [.inl (v1)] dX1_askForGood_47 cb_X2_seq cvRX1_251 rfl (Nat.le_of_ble_eq_true rfl) ⟨by decide, by decide⟩ (Nat.le_of_ble_eq_true rfl) rfl (tX2_seq v1 M) rfl (fun v3 M2 => ?_)
  refine K_iconst (q := 51) (v := nI 1) dX1_askForGood_50 rfl rfl ?_
  refine K_iadd (q := 52) dX1_askForGood_51 rfl ?_
  refine K_istore (q := 54) (ll' := [(6, .inl (v3 + (nI 1))), (5, .inl (s0)), (0, .inr (10, 0, t)), (1, .inl (l1)), (2, .inl (l2)), (3, .inl (l3)), (4, .inl (l4))]) dX1_askForGood_52 (by decide) rfl rfl ?_
  refine K_aload_n (q := 55) 2 dX1_askForGood_54 rfl rfl rfl ?_
  refine K_getR (q := 58) (ci := 0) (a2 := t + 1) 1 dX1_askForGood_55 fRX1_11 rfl rfl (by decide) rfl rfl ?_
  refine K_iload_n (q := 59) 4 dX1_askForGood_58 rfl rfl rfl ?_
  refine K_bipush (q := 61) (v := nI 8) dX1_askForGood_59 rfl rfl ?_
  refine K_iadd (q := 62) dX1_askForGood_61 rfl ?_
  refine K_iload_n (q := 63) 3 dX1_askForGood_62 rfl rfl rfl ?_
  refine K_iadd (q := 64) dX1_askForGood_63 rfl ?_
  refine K_iload (q := 66) 0 dX1_askForGood_64 rfl rfl ?_
  refine K_iload (q := 68) 6 dX1_askForGood_66 rfl rfl ?_
  refine K_iload (q := 70) 1 dX1_askForGood_68 rfl rfl ?_
  refine K_csi (q := 73) [.inl (v3 + (nI 1)), .inl (l4), .inl (s0)] dX1_askForGood_70 cb_X2_active cvRX1_264 rfl (Nat.le_of_ble_eq_true rfl) ⟨by decide, by decide⟩ (Nat.le_of_ble_eq_true rfl) rfl (tX2_active (v3 + (nI 1)) l4 s0 M2) rfl (fun v5 M4 => ?_)
  refine K_iast (q := 74) dX1_askForGood_73 rfl (fun M6 => ?_)
  refine K_aload_n (q := 75) 2 dX1_askForGood_74 rfl rfl rfl ?_
  refine K_getR (q := 78) (ci := 0) (a2 := t + 8) 0 dX1_askForGood_75 fRX1_46 rfl rfl (by decide) rfl rfl ?_
  refine K_getR (q := 81) (ci := 1) (a2 := t + 19) 10 dX1_askForGood_78 fRX1_267 rfl rfl (by decide) rfl rfl ?_
  refine K_iload_n (q := 82) 3 dX1_askForGood_81 rfl rfl rfl ?_
  refine K_dup2 (q := 83) dX1_askForGood_82 rfl ?_
  refine K_iald (q := 84) dX1_askForGood_83 rfl (fun v7 => ?_)
  refine K_iconst (q := 85) (v := nI 1) dX1_askForGood_84 rfl rfl ?_
  refine K_iadd (q := 86) dX1_askForGood_85 rfl ?_
  refine K_iast (q := 87) dX1_askForGood_86 rfl (fun M8 => ?_)
  refine K_aload_n (q := 88) 2 dX1_askForGood_87 rfl rfl rfl ?_
  refine K_getR (q := 91) (ci := 0) (a2 := t + 8) 0 dX1_askForGood_88 fRX1_46 rfl rfl (by decide) rfl rfl ?_
  refine K_aload_n (q := 92) 2 dX1_askForGood_91 rfl rfl rfl ?_
  refine K_getI (q := 95) (ci := 0) 14 dX1_askForGood_92 fRX1_70 rfl rfl rfl (fun v9 => ?_)
  refine K_iconst (q := 96) (v := nI 3) dX1_askForGood_95 rfl rfl ?_
  refine K_iload_n (q := 97) 3 dX1_askForGood_96 rfl rfl rfl ?_
  refine K_iload (q := 99) 6 dX1_askForGood_97 rfl rfl ?_
  refine K_cvv (q := 102) [.inl (v9), .inl ((nI 3)), .inl (l1), .inl (l4)] dX1_askForGood_99 cb_X5_note cvRX1_111 rc_1 (show (11 : Nat) ≠ 0 by decide) rfl (Nat.le_of_ble_eq_true rfl) ⟨by decide, by decide⟩ (Nat.le_of_ble_eq_true rfl) rfl (tX5_note (t + 8) v9 (nI 3) l1 l4 M8) rfl (fun M10 => ?_)
  refine K_aload_n (q := 103) 2 dX1_askForGood_102 rfl rfl rfl ?_
  refine K_iload_n (q := 104) 3 dX1_askForGood_103 rfl rfl rfl ?_
  refine K_iconst (q := 105) (v := nI 4) dX1_askForGood_104 rfl rfl ?_
  refine K_iload (q := 107) 6 dX1_askForGood_105 rfl rfl ?_
  refine K_iload (q := 109) 1 dX1_askForGood_107 rfl rfl ?_
  refine K_iload (q := 111) 0 dX1_askForGood_109 rfl rfl ?_
  refine K_iconst (q := 112) (v := nI 2) dX1_askForGood_111 rfl rfl ?_
  refine K_ishl (q := 113) dX1_askForGood_112 rfl ?_
  refine K_ior (q := 114) dX1_askForGood_113 rfl ?_
  refine K_cvv (q := 117) [.inl (l1), .inl ((nI 4)), .inl (l4), .inl (s0 ||| ((v3 + (nI 1)) <<< ((nI 2) &&& 31)))] dX1_askForGood_114 cb_X1_postToOthers cvRX1_256 rc_0 (show (10 : Nat) ≠ 0 by decide) rfl (Nat.le_of_ble_eq_true rfl) ⟨by decide, by decide⟩ (Nat.le_of_ble_eq_true rfl) rfl (tX1_postToOthers t l1 (nI 4) l4 (s0 ||| ((v3 + (nI 1)) <<< ((nI 2) &&& 31))) M10) rfl (fun M11 => ?_)
  refine K_aload_n (q := 118) 2 dX1_askForGood_117 rfl rfl rfl ?_
  refine K_getR (q := 121) (ci := 0) (a2 := t + 1) 1 dX1_askForGood_118 fRX1_11 rfl rfl (by decide) rfl rfl ?_
  refine K_iload_n (q := 122) 4 dX1_askForGood_121 rfl rfl rfl ?_
  refine K_bipush (q := 124) (v := nI 15) dX1_askForGood_122 rfl rfl ?_
  refine K_iadd (q := 125) dX1_askForGood_124 rfl ?_
  refine K_iload_n (q := 126) 5 dX1_askForGood_125 rfl rfl rfl ?_
  refine K_bipush (q := 128) (v := nI 32) dX1_askForGood_126 rfl rfl ?_
  refine K_ior (q := 129) dX1_askForGood_128 rfl ?_
  refine K_iast (q := 130) dX1_askForGood_129 rfl (fun M12 => ?_)
  refine K_aload_n (q := 131) 2 dX1_askForGood_130 rfl rfl rfl ?_
  refine K_iload_n (q := 132) 3 dX1_askForGood_131 rfl rfl rfl ?_
  refine K_iload (q := 134) 6 dX1_askForGood_132 rfl rfl ?_
  refine K_cvv (q := 137) [.inl (l1), .inl (l4)] dX1_askForGood_134 cb_X1_settle cvRX1_233 rc_0 (show (10 : Nat) ≠ 0 by decide) rfl (Nat.le_of_ble_eq_true rfl) ⟨by decide, by decide⟩ (Nat.le_of_ble_eq_true rfl) rfl (tX1_settle t l1 l4 M12) rfl (fun M13 => ?_)
  exact J_vret dX1_askForGood_137
def xX1_askForGood (t : Nat) (l1 : Int32) (M : j_M) : Option (j_M) := obi (xX1_blockOf l1 M) fun v2 M1 => gd (v2 + (nI 15)) 112 (oli (M1 (t + 1) (ix (v2 + (nI 15)))) fun v3 => obi (xX7_line v3 M1) fun v5 M4 => obi (xX7_what v3 M4) fun v7 M6 => (if v7 = (nI 1) then xX1_askForGood_34 t l1 v2 v3 v5 (nI 1) M6 else xX1_askForGood_34 t l1 v2 v3 v5 (nI 2) M6))
set_option maxRecDepth 20000 in
set_option maxHeartbeats 2000000 in
theorem tX1_askForGood (t : Nat) (l1 : Int32) (M : j_M) : J (ρ := j_M) yX1_askForGood cX1_askForGood 7 none 3 85 j_ev 0 [(0, .inr (10, 0, t)), (1, .inl (l1))] [] M (xX1_askForGood t l1 M) := by
  unfold xX1_askForGood
  refine K_iload_n (q := 1) 1 dX1_askForGood_0 rfl rfl rfl ?_
  refine K_csi (q := 4) [.inl (l1)] dX1_askForGood_1 cb_X1_blockOf cvRX1_73 rfl (Nat.le_of_ble_eq_true rfl) ⟨by decide, by decide⟩ (Nat.le_of_ble_eq_true rfl) rfl (tX1_blockOf l1 M) rfl (fun v2 M1 => ?_)
  refine K_istore_n (q := 5) (ll' := [(2, .inl (v2)), (0, .inr (10, 0, t)), (1, .inl (l1))]) dX1_askForGood_4 rfl (by decide) rfl rfl ?_
  refine K_aload_n (q := 6) 1 dX1_askForGood_5 rfl rfl rfl ?_
  refine K_getR (q := 9) (ci := 0) (a2 := t + 1) 1 dX1_askForGood_6 fRX1_11 rfl rfl (by decide) rfl rfl ?_
  refine K_iload_n (q := 10) 0 dX1_askForGood_9 rfl rfl rfl ?_
  refine K_bipush (q := 12) (v := nI 15) dX1_askForGood_10 rfl rfl ?_
  refine K_iadd (q := 13) dX1_askForGood_12 rfl ?_
  refine K_iald (q := 14) dX1_askForGood_13 rfl (fun v3 => ?_)
  refine K_istore_n (q := 15) (ll' := [(3, .inl (v3)), (2, .inl (v2)), (0, .inr (10, 0, t)), (1, .inl (l1))]) dX1_askForGood_14 rfl (by decide) rfl rfl ?_
  refine K_iload_n (q := 16) 0 dX1_askForGood_15 rfl rfl rfl ?_
  refine K_csi (q := 19) [.inl (v3)] dX1_askForGood_16 cb_X7_line cvRX1_77 rfl (Nat.le_of_ble_eq_true rfl) ⟨by decide, by decide⟩ (Nat.le_of_ble_eq_true rfl) rfl (tX7_line v3 M1) rfl (fun v5 M4 => ?_)
  refine K_istore (q := 21) (ll' := [(4, .inl (v5)), (3, .inl (v3)), (2, .inl (v2)), (0, .inr (10, 0, t)), (1, .inl (l1))]) dX1_askForGood_19 (by decide) rfl rfl ?_
  refine K_iload_n (q := 22) 1 dX1_askForGood_21 rfl rfl rfl ?_
  refine K_csi (q := 25) [.inl (v3)] dX1_askForGood_22 cb_X7_what cvRX1_142 rfl (Nat.le_of_ble_eq_true rfl) ⟨by decide, by decide⟩ (Nat.le_of_ble_eq_true rfl) rfl (tX7_what v3 M4) rfl (fun v7 M6 => ?_)
  refine K_iconst (q := 26) (v := nI 1) dX1_askForGood_25 rfl rfl ?_
  refine K_icmp_ne (q := 29) (tgt := 33) dX1_askForGood_26 rfl ?_ rfl ?_
  · refine K_iconst (q := 34) (v := nI 2) dX1_askForGood_33 rfl rfl ?_
    exact J_sub [3, 4, 2, 1, 0] (tX1_askForGood_34 t l1 v2 v3 v5 (nI 2) M6) rfl
  · refine K_iconst (q := 30) (v := nI 1) dX1_askForGood_29 rfl rfl ?_
    refine J_goto (tgt := 34) dX1_askForGood_30 rfl ?_
    exact J_sub [3, 4, 2, 1, 0] (tX1_askForGood_34 t l1 v2 v3 v5 (nI 1) M6) rfl
theorem dX1_mustWait_0 : decode cX1_mustWait 0 = .ok (.iload_n 1, 1) := by decide +kernel
theorem dX1_mustWait_1 : decode cX1_mustWait 1 = .ok (.invokestatic 73, 3) := by decide +kernel
theorem dX1_mustWait_4 : decode cX1_mustWait 4 = .ok (.bipush 8, 2) := by decide +kernel
theorem dX1_mustWait_6 : decode cX1_mustWait 6 = .ok (.iadd, 1) := by decide +kernel
theorem dX1_mustWait_7 : decode cX1_mustWait 7 = .ok (.istore_n 3, 1) := by decide +kernel
theorem dX1_mustWait_8 : decode cX1_mustWait 8 = .ok (.iconst 0, 1) := by decide +kernel
theorem dX1_mustWait_9 : decode cX1_mustWait 9 = .ok (.istore 4, 2) := by decide +kernel
theorem dX1_mustWait_11 : decode cX1_mustWait 11 = .ok (.iload 4, 2) := by decide +kernel
theorem dX1_mustWait_13 : decode cX1_mustWait 13 = .ok (.aload_n 0, 1) := by decide +kernel
theorem dX1_mustWait_14 : decode cX1_mustWait 14 = .ok (.getfield 33, 3) := by decide +kernel
theorem dX1_mustWait_17 : decode cX1_mustWait 17 = .ok (.if_icmp .ge 39, 3) := by decide +kernel
theorem dX1_mustWait_20 : decode cX1_mustWait 20 = .ok (.aload_n 0, 1) := by decide +kernel
theorem dX1_mustWait_21 : decode cX1_mustWait 21 = .ok (.getfield 11, 3) := by decide +kernel
theorem dX1_mustWait_24 : decode cX1_mustWait 24 = .ok (.iload_n 3, 1) := by decide +kernel
theorem dX1_mustWait_25 : decode cX1_mustWait 25 = .ok (.iload 4, 2) := by decide +kernel
theorem dX1_mustWait_27 : decode cX1_mustWait 27 = .ok (.iadd, 1) := by decide +kernel
theorem dX1_mustWait_28 : decode cX1_mustWait 28 = .ok (.iaload, 1) := by decide +kernel
theorem dX1_mustWait_29 : decode cX1_mustWait 29 = .ok (.istore 5, 2) := by decide +kernel
theorem dX1_mustWait_31 : decode cX1_mustWait 31 = .ok (.iload 5, 2) := by decide +kernel
theorem dX1_mustWait_33 : decode cX1_mustWait 33 = .ok (.iload_n 2, 1) := by decide +kernel
theorem dX1_mustWait_34 : decode cX1_mustWait 34 = .ok (.invokestatic 259, 3) := by decide +kernel
theorem dX1_mustWait_37 : decode cX1_mustWait 37 = .ok (.ifCond .eq 13, 3) := by decide +kernel
theorem dX1_mustWait_40 : decode cX1_mustWait 40 = .ok (.iload 5, 2) := by decide +kernel
theorem dX1_mustWait_42 : decode cX1_mustWait 42 = .ok (.invokestatic 282, 3) := by decide +kernel
theorem dX1_mustWait_45 : decode cX1_mustWait 45 = .ok (.ifCond .eq 5, 3) := by decide +kernel
theorem dX1_mustWait_48 : decode cX1_mustWait 48 = .ok (.iconst 1, 1) := by decide +kernel
theorem dX1_mustWait_49 : decode cX1_mustWait 49 = .ok (.ireturn, 1) := by decide +kernel
theorem dX1_mustWait_50 : decode cX1_mustWait 50 = .ok (.iinc 4 1, 3) := by decide +kernel
theorem dX1_mustWait_53 : decode cX1_mustWait 53 = .ok (.goto (-42), 3) := by decide +kernel
theorem dX1_mustWait_56 : decode cX1_mustWait 56 = .ok (.iconst 0, 1) := by decide +kernel
theorem dX1_mustWait_57 : decode cX1_mustWait 57 = .ok (.istore 4, 2) := by decide +kernel
theorem dX1_mustWait_59 : decode cX1_mustWait 59 = .ok (.iload 4, 2) := by decide +kernel
theorem dX1_mustWait_61 : decode cX1_mustWait 61 = .ok (.aload_n 0, 1) := by decide +kernel
theorem dX1_mustWait_62 : decode cX1_mustWait 62 = .ok (.getfield 64, 3) := by decide +kernel
theorem dX1_mustWait_65 : decode cX1_mustWait 65 = .ok (.if_icmp .ge 39, 3) := by decide +kernel
theorem dX1_mustWait_68 : decode cX1_mustWait 68 = .ok (.aload_n 0, 1) := by decide +kernel
theorem dX1_mustWait_69 : decode cX1_mustWait 69 = .ok (.getfield 15, 3) := by decide +kernel
theorem dX1_mustWait_72 : decode cX1_mustWait 72 = .ok (.iload 4, 2) := by decide +kernel
theorem dX1_mustWait_74 : decode cX1_mustWait 74 = .ok (.iaload, 1) := by decide +kernel
theorem dX1_mustWait_75 : decode cX1_mustWait 75 = .ok (.invokestatic 198, 3) := by decide +kernel
theorem dX1_mustWait_78 : decode cX1_mustWait 78 = .ok (.iload_n 1, 1) := by decide +kernel
theorem dX1_mustWait_79 : decode cX1_mustWait 79 = .ok (.if_icmp .ne 19, 3) := by decide +kernel
theorem dX1_mustWait_82 : decode cX1_mustWait 82 = .ok (.aload_n 0, 1) := by decide +kernel
theorem dX1_mustWait_83 : decode cX1_mustWait 83 = .ok (.getfield 15, 3) := by decide +kernel
theorem dX1_mustWait_86 : decode cX1_mustWait 86 = .ok (.iload 4, 2) := by decide +kernel
theorem dX1_mustWait_88 : decode cX1_mustWait 88 = .ok (.iaload, 1) := by decide +kernel
theorem dX1_mustWait_89 : decode cX1_mustWait 89 = .ok (.invokestatic 159, 3) := by decide +kernel
theorem dX1_mustWait_92 : decode cX1_mustWait 92 = .ok (.iconst 4, 1) := by decide +kernel
theorem dX1_mustWait_93 : decode cX1_mustWait 93 = .ok (.if_icmp .lt 5, 3) := by decide +kernel
theorem dX1_mustWait_96 : decode cX1_mustWait 96 = .ok (.iconst 1, 1) := by decide +kernel
theorem dX1_mustWait_97 : decode cX1_mustWait 97 = .ok (.ireturn, 1) := by decide +kernel
theorem dX1_mustWait_98 : decode cX1_mustWait 98 = .ok (.iinc 4 1, 3) := by decide +kernel
theorem dX1_mustWait_101 : decode cX1_mustWait 101 = .ok (.goto (-42), 3) := by decide +kernel
theorem dX1_mustWait_104 : decode cX1_mustWait 104 = .ok (.iconst 0, 1) := by decide +kernel
theorem dX1_mustWait_105 : decode cX1_mustWait 105 = .ok (.ireturn, 1) := by decide +kernel
def xX1_mustWait_59  (t : Nat) : Nat → Int32 → Int32 → j_M → Option (Int32 × j_M)
  | 0, _, _, _ => none
  | n + 1, l1, l4, M => oli (M t 8) fun v1 => (if v1 ≤ l4 then some ((nI 0), M) else gd l4 256 (oli (M (t + 2) (ix l4)) fun v2 => obi (xX4_from v2 M) fun v4 M3 => (if v4 = l1 then gd l4 256 (oli (M3 (t + 2) (ix l4)) fun v5 => obi (xX4_kind v5 M3) fun v7 M6 => (if v7 < (nI 4) then xX1_mustWait_59 t n l1 (l4 + (nI 1)) M6 else some ((nI 1), M6))) else xX1_mustWait_59 t n l1 (l4 + (nI 1)) M3)))
set_option maxRecDepth 20000 in
set_option maxHeartbeats 2000000 in
theorem tX1_mustWait_59  (t : Nat)  : ∀ (n : Nat) (l1 : Int32) (l4 : Int32) (M : j_M), J (ρ := Int32 × j_M) yX1_mustWait cX1_mustWait 6 (some .boolean) 1 21 j_ei 59 [(0, .inr (10, 0, t)), (1, .inl (l1)), (4, .inl (l4))] [] M (xX1_mustWait_59 t n l1 l4 M) := by
  intro n
  induction n with
  | zero => intros; exact J_none
  | succ n ih =>
    intro l1 l4 M
    rw [xX1_mustWait_59.eq_2]
    refine K_iload (q := 61) 2 dX1_mustWait_59 rfl rfl ?_
    refine K_aload_n (q := 62) 0 dX1_mustWait_61 rfl rfl rfl ?_
    refine K_getI (q := 65) (ci := 0) 8 dX1_mustWait_62 fRX1_64 rfl rfl rfl (fun v1 => ?_)
    refine K_icmp_ge (q := 68) (tgt := 104) dX1_mustWait_65 rfl ?_ rfl ?_
    · refine K_iconst (q := 105) (v := nI 0) dX1_mustWait_104 rfl rfl ?_
      exact J_zret dX1_mustWait_105 (by decide)
    · refine K_aload_n (q := 69) 0 dX1_mustWait_68 rfl rfl rfl ?_
      refine K_getR (q := 72) (ci := 0) (a2 := t + 2) 2 dX1_mustWait_69 fRX1_15 rfl rfl (by decide) rfl rfl ?_
      refine K_iload (q := 74) 2 dX1_mustWait_72 rfl rfl ?_
      refine K_iald (q := 75) dX1_mustWait_74 rfl (fun v2 => ?_)
      refine K_csi (q := 78) [.inl (v2)] dX1_mustWait_75 cb_X4_from cvRX1_198 rfl (Nat.le_of_ble_eq_true rfl) ⟨by decide, by decide⟩ (Nat.le_of_ble_eq_true rfl) rfl (tX4_from v2 M) rfl (fun v4 M3 => ?_)
      refine K_iload_n (q := 79) 1 dX1_mustWait_78 rfl rfl rfl ?_
      refine K_icmp_ne (q := 82) (tgt := 98) dX1_mustWait_79 rfl ?_ rfl ?_
      · refine K_iinc (q := 101) (v := l4 + (nI 1)) (ll' := [(4, .inl (l4 + (nI 1))), (0, .inr (10, 0, t)), (1, .inl (l1))]) 2 dX1_mustWait_98 rfl rfl (by decide) rfl rfl ?_
        refine J_goto (tgt := 59) dX1_mustWait_101 rfl ?_
        exact J_sub [1, 2, 0] (ih l1 (l4 + (nI 1)) M3) rfl
      · refine K_aload_n (q := 83) 0 dX1_mustWait_82 rfl rfl rfl ?_
        refine K_getR (q := 86) (ci := 0) (a2 := t + 2) 2 dX1_mustWait_83 fRX1_15 rfl rfl (by decide) rfl rfl ?_
        refine K_iload (q := 88) 2 dX1_mustWait_86 rfl rfl ?_
        refine K_iald (q := 89) dX1_mustWait_88 rfl (fun v5 => ?_)
        refine K_csi (q := 92) [.inl (v5)] dX1_mustWait_89 cb_X4_kind cvRX1_159 rfl (Nat.le_of_ble_eq_true rfl) ⟨by decide, by decide⟩ (Nat.le_of_ble_eq_true rfl) rfl (tX4_kind v5 M3) rfl (fun v7 M6 => ?_)
        refine K_iconst (q := 93) (v := nI 4) dX1_mustWait_92 rfl rfl ?_
        refine K_icmp_lt (q := 96) (tgt := 98) dX1_mustWait_93 rfl ?_ rfl ?_
        · refine K_iinc (q := 101) (v := l4 + (nI 1)) (ll' := [(4, .inl (l4 + (nI 1))), (0, .inr (10, 0, t)), (1, .inl (l1))]) 2 dX1_mustWait_98 rfl rfl (by decide) rfl rfl ?_
          refine J_goto (tgt := 59) dX1_mustWait_101 rfl ?_
          exact J_sub [1, 2, 0] (ih l1 (l4 + (nI 1)) M6) rfl
        · refine K_iconst (q := 97) (v := nI 1) dX1_mustWait_96 rfl rfl ?_
          exact J_zret dX1_mustWait_97 (by decide)
def xX1_mustWait_11  (t : Nat) : Nat → Int32 → Int32 → Int32 → Int32 → j_M → Option (Int32 × j_M)
  | 0, _, _, _, _, _ => none
  | n + 1, l1, l2, l3, l4, M => oli (M t 9) fun v1 => (if v1 ≤ l4 then xX1_mustWait_59 t fu l1 (nI 0) M else gd (l3 + l4) 112 (oli (M (t + 1) (ix (l3 + l4))) fun v2 => obi (xX2_isActiveFor v2 l2 M) fun v4 M3 => (if v4 = (0 : Int32) then xX1_mustWait_11 t n l1 l2 l3 (l4 + (nI 1)) M3 else obi (xX2_isMarked v2 M3) fun v6 M5 => (if v6 = (0 : Int32) then xX1_mustWait_11 t n l1 l2 l3 (l4 + (nI 1)) M5 else some ((nI 1), M5)))))
set_option maxRecDepth 20000 in
set_option maxHeartbeats 2000000 in
theorem tX1_mustWait_11  (t : Nat)  : ∀ (n : Nat) (l1 : Int32) (l2 : Int32) (l3 : Int32) (l4 : Int32) (M : j_M), J (ρ := Int32 × j_M) yX1_mustWait cX1_mustWait 6 (some .boolean) 1 21 j_ei 11 [(0, .inr (10, 0, t)), (1, .inl (l1)), (2, .inl (l2)), (3, .inl (l3)), (4, .inl (l4))] [] M (xX1_mustWait_11 t n l1 l2 l3 l4 M) := by
  intro n
  induction n with
  | zero => intros; exact J_none
  | succ n ih =>
    intro l1 l2 l3 l4 M
    rw [xX1_mustWait_11.eq_2]
    refine K_iload (q := 13) 4 dX1_mustWait_11 rfl rfl ?_
    refine K_aload_n (q := 14) 0 dX1_mustWait_13 rfl rfl rfl ?_
    refine K_getI (q := 17) (ci := 0) 9 dX1_mustWait_14 fRX1_33 rfl rfl rfl (fun v1 => ?_)
    refine K_icmp_ge (q := 20) (tgt := 56) dX1_mustWait_17 rfl ?_ rfl ?_
    · refine K_iconst (q := 57) (v := nI 0) dX1_mustWait_56 rfl rfl ?_
      refine K_istore (q := 59) (ll' := [(4, .inl ((nI 0))), (0, .inr (10, 0, t)), (1, .inl (l1)), (2, .inl (l2)), (3, .inl (l3))]) dX1_mustWait_57 (by decide) rfl rfl ?_
      exact J_sub [1, 2, 0] (tX1_mustWait_59 t fu l1 (nI 0) M) rfl
    · refine K_aload_n (q := 21) 0 dX1_mustWait_20 rfl rfl rfl ?_
      refine K_getR (q := 24) (ci := 0) (a2 := t + 1) 1 dX1_mustWait_21 fRX1_11 rfl rfl (by decide) rfl rfl ?_
      refine K_iload_n (q := 25) 3 dX1_mustWait_24 rfl rfl rfl ?_
      refine K_iload (q := 27) 4 dX1_mustWait_25 rfl rfl ?_
      refine K_iadd (q := 28) dX1_mustWait_27 rfl ?_
      refine K_iald (q := 29) dX1_mustWait_28 rfl (fun v2 => ?_)
      refine K_istore (q := 31) (ll' := [(5, .inl (v2)), (0, .inr (10, 0, t)), (1, .inl (l1)), (2, .inl (l2)), (3, .inl (l3)), (4, .inl (l4))]) dX1_mustWait_29 (by decide) rfl rfl ?_
      refine K_iload (q := 33) 0 dX1_mustWait_31 rfl rfl ?_
      refine K_iload_n (q := 34) 3 dX1_mustWait_33 rfl rfl rfl ?_
      refine K_csi (q := 37) [.inl (v2), .inl (l2)] dX1_mustWait_34 cb_X2_isActiveFor cvRX1_259 rfl (Nat.le_of_ble_eq_true rfl) ⟨by decide, by decide⟩ (Nat.le_of_ble_eq_true rfl) rfl (tX2_isActiveFor v2 l2 M) rfl (fun v4 M3 => ?_)
      refine K_if_eq (q := 40) (tgt := 50) dX1_mustWait_37 rfl ?_ rfl ?_
      · refine K_iinc (q := 53) (v := l4 + (nI 1)) (ll' := [(4, .inl (l4 + (nI 1))), (5, .inl (v2)), (0, .inr (10, 0, t)), (1, .inl (l1)), (2, .inl (l2)), (3, .inl (l3))]) 5 dX1_mustWait_50 rfl rfl (by decide) rfl rfl ?_
        refine J_goto (tgt := 11) dX1_mustWait_53 rfl ?_
        exact J_sub [2, 3, 4, 5, 0] (ih l1 l2 l3 (l4 + (nI 1)) M3) rfl
      · refine K_iload (q := 42) 0 dX1_mustWait_40 rfl rfl ?_
        refine K_csi (q := 45) [.inl (v2)] dX1_mustWait_42 cb_X2_isMarked cvRX1_282 rfl (Nat.le_of_ble_eq_true rfl) ⟨by decide, by decide⟩ (Nat.le_of_ble_eq_true rfl) rfl (tX2_isMarked v2 M3) rfl (fun v6 M5 => ?_)
        refine K_if_eq (q := 48) (tgt := 50) dX1_mustWait_45 rfl ?_ rfl ?_
        · refine K_iinc (q := 53) (v := l4 + (nI 1)) (ll' := [(4, .inl (l4 + (nI 1))), (5, .inl (v2)), (0, .inr (10, 0, t)), (1, .inl (l1)), (2, .inl (l2)), (3, .inl (l3))]) 5 dX1_mustWait_50 rfl rfl (by decide) rfl rfl ?_
          refine J_goto (tgt := 11) dX1_mustWait_53 rfl ?_
          exact J_sub [2, 3, 4, 5, 0] (ih l1 l2 l3 (l4 + (nI 1)) M5) rfl
        · refine K_iconst (q := 49) (v := nI 1) dX1_mustWait_48 rfl rfl ?_
          exact J_zret dX1_mustWait_49 (by decide)
def xX1_mustWait (t : Nat) (l1 : Int32) (l2 : Int32) (M : j_M) : Option (Int32 × j_M) := obi (xX1_blockOf l1 M) fun v2 M1 => xX1_mustWait_11 t fu l1 l2 (v2 + (nI 8)) (nI 0) M1
set_option maxRecDepth 20000 in
set_option maxHeartbeats 2000000 in
theorem tX1_mustWait (t : Nat) (l1 : Int32) (l2 : Int32) (M : j_M) : J (ρ := Int32 × j_M) yX1_mustWait cX1_mustWait 6 (some .boolean) 1 21 j_ei 0 [(0, .inr (10, 0, t)), (1, .inl (l1)), (2, .inl (l2))] [] M (xX1_mustWait t l1 l2 M) := by
  unfold xX1_mustWait
  refine K_iload_n (q := 1) 1 dX1_mustWait_0 rfl rfl rfl ?_
  refine K_csi (q := 4) [.inl (l1)] dX1_mustWait_1 cb_X1_blockOf cvRX1_73 rfl (Nat.le_of_ble_eq_true rfl) ⟨by decide, by decide⟩ (Nat.le_of_ble_eq_true rfl) rfl (tX1_blockOf l1 M) rfl (fun v2 M1 => ?_)
  refine K_bipush (q := 6) (v := nI 8) dX1_mustWait_4 rfl rfl ?_
  refine K_iadd (q := 7) dX1_mustWait_6 rfl ?_
  refine K_istore_n (q := 8) (ll' := [(3, .inl (v2 + (nI 8))), (0, .inr (10, 0, t)), (1, .inl (l1)), (2, .inl (l2))]) dX1_mustWait_7 rfl (by decide) rfl rfl ?_
  refine K_iconst (q := 9) (v := nI 0) dX1_mustWait_8 rfl rfl ?_
  refine K_istore (q := 11) (ll' := [(4, .inl ((nI 0))), (3, .inl (v2 + (nI 8))), (0, .inr (10, 0, t)), (1, .inl (l1)), (2, .inl (l2))]) dX1_mustWait_9 (by decide) rfl rfl ?_
  exact J_sub [2, 3, 4, 1, 0] (tX1_mustWait_11 t fu l1 l2 (v2 + (nI 8)) (nI 0) M1) rfl
theorem dX1_tickOnce_0 : decode cX1_tickOnce 0 = .ok (.aload_n 0, 1) := by decide +kernel
theorem dX1_tickOnce_1 : decode cX1_tickOnce 1 = .ok (.dup, 1) := by decide +kernel
theorem dX1_tickOnce_2 : decode cX1_tickOnce 2 = .ok (.getfield 70, 3) := by decide +kernel
theorem dX1_tickOnce_5 : decode cX1_tickOnce 5 = .ok (.iconst 1, 1) := by decide +kernel
theorem dX1_tickOnce_6 : decode cX1_tickOnce 6 = .ok (.iadd, 1) := by decide +kernel
theorem dX1_tickOnce_7 : decode cX1_tickOnce 7 = .ok (.putfield 70, 3) := by decide +kernel
theorem dX1_tickOnce_10 : decode cX1_tickOnce 10 = .ok (.aload_n 0, 1) := by decide +kernel
theorem dX1_tickOnce_11 : decode cX1_tickOnce 11 = .ok (.getfield 70, 3) := by decide +kernel
theorem dX1_tickOnce_14 : decode cX1_tickOnce 14 = .ok (.bipush 16, 2) := by decide +kernel
theorem dX1_tickOnce_16 : decode cX1_tickOnce 16 = .ok (.irem, 1) := by decide +kernel
theorem dX1_tickOnce_17 : decode cX1_tickOnce 17 = .ok (.ifCond .ne 11, 3) := by decide +kernel
theorem dX1_tickOnce_20 : decode cX1_tickOnce 20 = .ok (.aload_n 0, 1) := by decide +kernel
theorem dX1_tickOnce_21 : decode cX1_tickOnce 21 = .ok (.getfield 21, 3) := by decide +kernel
theorem dX1_tickOnce_24 : decode cX1_tickOnce 24 = .ok (.iconst 0, 1) := by decide +kernel
theorem dX1_tickOnce_25 : decode cX1_tickOnce 25 = .ok (.invokestatic 50, 3) := by decide +kernel
theorem dX1_tickOnce_28 : decode cX1_tickOnce 28 = .ok (.iconst 0, 1) := by decide +kernel
theorem dX1_tickOnce_29 : decode cX1_tickOnce 29 = .ok (.istore_n 1, 1) := by decide +kernel
theorem dX1_tickOnce_30 : decode cX1_tickOnce 30 = .ok (.iload_n 1, 1) := by decide +kernel
theorem dX1_tickOnce_31 : decode cX1_tickOnce 31 = .ok (.aload_n 0, 1) := by decide +kernel
theorem dX1_tickOnce_32 : decode cX1_tickOnce 32 = .ok (.getfield 33, 3) := by decide +kernel
theorem dX1_tickOnce_35 : decode cX1_tickOnce 35 = .ok (.if_icmp .ge 134, 3) := by decide +kernel
theorem dX1_tickOnce_38 : decode cX1_tickOnce 38 = .ok (.aload_n 0, 1) := by decide +kernel
theorem dX1_tickOnce_39 : decode cX1_tickOnce 39 = .ok (.iload_n 1, 1) := by decide +kernel
theorem dX1_tickOnce_40 : decode cX1_tickOnce 40 = .ok (.invokevirtual 85, 3) := by decide +kernel
theorem dX1_tickOnce_43 : decode cX1_tickOnce 43 = .ok (.istore_n 2, 1) := by decide +kernel
theorem dX1_tickOnce_44 : decode cX1_tickOnce 44 = .ok (.iload_n 2, 1) := by decide +kernel
theorem dX1_tickOnce_45 : decode cX1_tickOnce 45 = .ok (.ifCond .eq 118, 3) := by decide +kernel
theorem dX1_tickOnce_48 : decode cX1_tickOnce 48 = .ok (.iload_n 2, 1) := by decide +kernel
theorem dX1_tickOnce_49 : decode cX1_tickOnce 49 = .ok (.invokestatic 242, 3) := by decide +kernel
theorem dX1_tickOnce_52 : decode cX1_tickOnce 52 = .ok (.ifCond .ne 111, 3) := by decide +kernel
theorem dX1_tickOnce_55 : decode cX1_tickOnce 55 = .ok (.aload_n 0, 1) := by decide +kernel
theorem dX1_tickOnce_56 : decode cX1_tickOnce 56 = .ok (.getfield 70, 3) := by decide +kernel
theorem dX1_tickOnce_59 : decode cX1_tickOnce 59 = .ok (.aload_n 0, 1) := by decide +kernel
theorem dX1_tickOnce_60 : decode cX1_tickOnce 60 = .ok (.getfield 27, 3) := by decide +kernel
theorem dX1_tickOnce_63 : decode cX1_tickOnce 63 = .ok (.iload_n 1, 1) := by decide +kernel
theorem dX1_tickOnce_64 : decode cX1_tickOnce 64 = .ok (.iaload, 1) := by decide +kernel
theorem dX1_tickOnce_65 : decode cX1_tickOnce 65 = .ok (.isub, 1) := by decide +kernel
theorem dX1_tickOnce_66 : decode cX1_tickOnce 66 = .ok (.aload_n 0, 1) := by decide +kernel
theorem dX1_tickOnce_67 : decode cX1_tickOnce 67 = .ok (.getfield 43, 3) := by decide +kernel
theorem dX1_tickOnce_70 : decode cX1_tickOnce 70 = .ok (.if_icmp .ge 6, 3) := by decide +kernel
theorem dX1_tickOnce_73 : decode cX1_tickOnce 73 = .ok (.goto 90, 3) := by decide +kernel
theorem dX1_tickOnce_76 : decode cX1_tickOnce 76 = .ok (.aload_n 0, 1) := by decide +kernel
theorem dX1_tickOnce_77 : decode cX1_tickOnce 77 = .ok (.getfield 24, 3) := by decide +kernel
theorem dX1_tickOnce_80 : decode cX1_tickOnce 80 = .ok (.iload_n 1, 1) := by decide +kernel
theorem dX1_tickOnce_81 : decode cX1_tickOnce 81 = .ok (.iaload, 1) := by decide +kernel
theorem dX1_tickOnce_82 : decode cX1_tickOnce 82 = .ok (.iconst 3, 1) := by decide +kernel
theorem dX1_tickOnce_83 : decode cX1_tickOnce 83 = .ok (.if_icmp .ge 7, 3) := by decide +kernel
theorem dX1_tickOnce_86 : decode cX1_tickOnce 86 = .ok (.iconst 1, 1) := by decide +kernel
theorem dX1_tickOnce_87 : decode cX1_tickOnce 87 = .ok (.goto 4, 3) := by decide +kernel
theorem dX1_tickOnce_90 : decode cX1_tickOnce 90 = .ok (.iconst 0, 1) := by decide +kernel
theorem dX1_tickOnce_91 : decode cX1_tickOnce 91 = .ok (.istore_n 3, 1) := by decide +kernel
theorem dX1_tickOnce_92 : decode cX1_tickOnce 92 = .ok (.iload_n 3, 1) := by decide +kernel
theorem dX1_tickOnce_93 : decode cX1_tickOnce 93 = .ok (.ifCond .eq 13, 3) := by decide +kernel
theorem dX1_tickOnce_96 : decode cX1_tickOnce 96 = .ok (.aload_n 0, 1) := by decide +kernel
theorem dX1_tickOnce_97 : decode cX1_tickOnce 97 = .ok (.getfield 24, 3) := by decide +kernel
theorem dX1_tickOnce_100 : decode cX1_tickOnce 100 = .ok (.iload_n 1, 1) := by decide +kernel
theorem dX1_tickOnce_101 : decode cX1_tickOnce 101 = .ok (.dup2, 1) := by decide +kernel
theorem dX1_tickOnce_102 : decode cX1_tickOnce 102 = .ok (.iaload, 1) := by decide +kernel
theorem dX1_tickOnce_103 : decode cX1_tickOnce 103 = .ok (.iconst 1, 1) := by decide +kernel
theorem dX1_tickOnce_104 : decode cX1_tickOnce 104 = .ok (.iadd, 1) := by decide +kernel
theorem dX1_tickOnce_105 : decode cX1_tickOnce 105 = .ok (.iastore, 1) := by decide +kernel
theorem dX1_tickOnce_106 : decode cX1_tickOnce 106 = .ok (.iload_n 3, 1) := by decide +kernel
theorem dX1_tickOnce_107 : decode cX1_tickOnce 107 = .ok (.ifCond .ne 15, 3) := by decide +kernel
theorem dX1_tickOnce_110 : decode cX1_tickOnce 110 = .ok (.aload_n 0, 1) := by decide +kernel
theorem dX1_tickOnce_111 : decode cX1_tickOnce 111 = .ok (.iload_n 1, 1) := by decide +kernel
theorem dX1_tickOnce_112 : decode cX1_tickOnce 112 = .ok (.iload_n 2, 1) := by decide +kernel
theorem dX1_tickOnce_113 : decode cX1_tickOnce 113 = .ok (.invokestatic 77, 3) := by decide +kernel
theorem dX1_tickOnce_116 : decode cX1_tickOnce 116 = .ok (.invokevirtual 276, 3) := by decide +kernel
theorem dX1_tickOnce_119 : decode cX1_tickOnce 119 = .ok (.ifCond .eq 39, 3) := by decide +kernel
theorem dX1_tickOnce_122 : decode cX1_tickOnce 122 = .ok (.aload_n 0, 1) := by decide +kernel
theorem dX1_tickOnce_123 : decode cX1_tickOnce 123 = .ok (.getfield 27, 3) := by decide +kernel
theorem dX1_tickOnce_126 : decode cX1_tickOnce 126 = .ok (.iload_n 1, 1) := by decide +kernel
theorem dX1_tickOnce_127 : decode cX1_tickOnce 127 = .ok (.aload_n 0, 1) := by decide +kernel
theorem dX1_tickOnce_128 : decode cX1_tickOnce 128 = .ok (.getfield 70, 3) := by decide +kernel
theorem dX1_tickOnce_131 : decode cX1_tickOnce 131 = .ok (.iastore, 1) := by decide +kernel
theorem dX1_tickOnce_132 : decode cX1_tickOnce 132 = .ok (.aload_n 0, 1) := by decide +kernel
theorem dX1_tickOnce_133 : decode cX1_tickOnce 133 = .ok (.getfield 46, 3) := by decide +kernel
theorem dX1_tickOnce_136 : decode cX1_tickOnce 136 = .ok (.aload_n 0, 1) := by decide +kernel
theorem dX1_tickOnce_137 : decode cX1_tickOnce 137 = .ok (.getfield 70, 3) := by decide +kernel
theorem dX1_tickOnce_140 : decode cX1_tickOnce 140 = .ok (.bipush 6, 2) := by decide +kernel
theorem dX1_tickOnce_142 : decode cX1_tickOnce 142 = .ok (.iload_n 1, 1) := by decide +kernel
theorem dX1_tickOnce_143 : decode cX1_tickOnce 143 = .ok (.iload_n 2, 1) := by decide +kernel
theorem dX1_tickOnce_144 : decode cX1_tickOnce 144 = .ok (.invokestatic 77, 3) := by decide +kernel
theorem dX1_tickOnce_147 : decode cX1_tickOnce 147 = .ok (.invokevirtual 111, 3) := by decide +kernel
theorem dX1_tickOnce_150 : decode cX1_tickOnce 150 = .ok (.aload_n 0, 1) := by decide +kernel
theorem dX1_tickOnce_151 : decode cX1_tickOnce 151 = .ok (.iload_n 1, 1) := by decide +kernel
theorem dX1_tickOnce_152 : decode cX1_tickOnce 152 = .ok (.invokevirtual 123, 3) := by decide +kernel
theorem dX1_tickOnce_155 : decode cX1_tickOnce 155 = .ok (.goto 8, 3) := by decide +kernel
theorem dX1_tickOnce_158 : decode cX1_tickOnce 158 = .ok (.aload_n 0, 1) := by decide +kernel
theorem dX1_tickOnce_159 : decode cX1_tickOnce 159 = .ok (.iload_n 1, 1) := by decide +kernel
theorem dX1_tickOnce_160 : decode cX1_tickOnce 160 = .ok (.invokevirtual 279, 3) := by decide +kernel
theorem dX1_tickOnce_163 : decode cX1_tickOnce 163 = .ok (.iinc 1 1, 3) := by decide +kernel
theorem dX1_tickOnce_166 : decode cX1_tickOnce 166 = .ok (.goto (-136), 3) := by decide +kernel
theorem dX1_tickOnce_169 : decode cX1_tickOnce 169 = .ok (.return_, 1) := by decide +kernel
def xX1_tickOnce_122 (k30 : Int32 → j_M → Option (j_M)) (t : Nat) (l1 : Int32) (l2 : Int32) (M : j_M) : Option (j_M) := oli (M t 14) fun v1 => gd l1 6 (oml (mw M (t + 6) (ix l1) v1) fun M2 => oli (M2 t 14) fun v3 => obi (xX7_line l2 M2) fun v5 M4 => obv (xX5_note (t + 8) v3 (nI 6) l1 v5 M4) fun M6 => obv (xX1_ask t l1 M6) fun M7 => k30 (l1 + (nI 1)) M7)
set_option maxRecDepth 20000 in
set_option maxHeartbeats 2000000 in
theorem tX1_tickOnce_122 (k30 : Int32 → j_M → Option (j_M)) (t : Nat) (hk30 : ∀ (l1 : Int32) (M : j_M), J (ρ := j_M) yX1_tickOnce cX1_tickOnce 4 none 4 111 j_ev 30 [(0, .inr (10, 0, t)), (1, .inl (l1))] [] M (k30 l1 M)) (l1 : Int32) (l2 : Int32) (M : j_M) : J (ρ := j_M) yX1_tickOnce cX1_tickOnce 4 none 4 111 j_ev 122 [(0, .inr (10, 0, t)), (1, .inl (l1)), (2, .inl (l2))] [] M (xX1_tickOnce_122 k30 t l1 l2 M) := by
  unfold xX1_tickOnce_122
  refine K_aload_n (q := 123) 0 dX1_tickOnce_122 rfl rfl rfl ?_
  refine K_getR (q := 126) (ci := 0) (a2 := t + 6) 6 dX1_tickOnce_123 fRX1_27 rfl rfl (by decide) rfl rfl ?_
  refine K_iload_n (q := 127) 1 dX1_tickOnce_126 rfl rfl rfl ?_
  refine K_aload_n (q := 128) 0 dX1_tickOnce_127 rfl rfl rfl ?_
  refine K_getI (q := 131) (ci := 0) 14 dX1_tickOnce_128 fRX1_70 rfl rfl rfl (fun v1 => ?_)
  refine K_iast (q := 132) dX1_tickOnce_131 rfl (fun M2 => ?_)
  refine K_aload_n (q := 133) 0 dX1_tickOnce_132 rfl rfl rfl ?_
  refine K_getR (q := 136) (ci := 0) (a2 := t + 8) 0 dX1_tickOnce_133 fRX1_46 rfl rfl (by decide) rfl rfl ?_
  refine K_aload_n (q := 137) 0 dX1_tickOnce_136 rfl rfl rfl ?_
  refine K_getI (q := 140) (ci := 0) 14 dX1_tickOnce_137 fRX1_70 rfl rfl rfl (fun v3 => ?_)
  refine K_bipush (q := 142) (v := nI 6) dX1_tickOnce_140 rfl rfl ?_
  refine K_iload_n (q := 143) 1 dX1_tickOnce_142 rfl rfl rfl ?_
  refine K_iload_n (q := 144) 2 dX1_tickOnce_143 rfl rfl rfl ?_
  refine K_csi (q := 147) [.inl (l2)] dX1_tickOnce_144 cb_X7_line cvRX1_77 rfl (Nat.le_of_ble_eq_true rfl) ⟨by decide, by decide⟩ (Nat.le_of_ble_eq_true rfl) rfl (tX7_line l2 M2) rfl (fun v5 M4 => ?_)
  refine K_cvv (q := 150) [.inl (v3), .inl ((nI 6)), .inl (l1), .inl (v5)] dX1_tickOnce_147 cb_X5_note cvRX1_111 rc_1 (show (11 : Nat) ≠ 0 by decide) rfl (Nat.le_of_ble_eq_true rfl) ⟨by decide, by decide⟩ (Nat.le_of_ble_eq_true rfl) rfl (tX5_note (t + 8) v3 (nI 6) l1 v5 M4) rfl (fun M6 => ?_)
  refine K_aload_n (q := 151) 0 dX1_tickOnce_150 rfl rfl rfl ?_
  refine K_iload_n (q := 152) 1 dX1_tickOnce_151 rfl rfl rfl ?_
  refine K_cvv (q := 155) [.inl (l1)] dX1_tickOnce_152 cb_X1_ask cvRX1_123 rc_0 (show (10 : Nat) ≠ 0 by decide) rfl (Nat.le_of_ble_eq_true rfl) ⟨by decide, by decide⟩ (Nat.le_of_ble_eq_true rfl) rfl (tX1_ask t l1 M6) rfl (fun M7 => ?_)
  refine J_goto (tgt := 163) dX1_tickOnce_155 rfl ?_
  refine K_iinc (q := 166) (v := l1 + (nI 1)) (ll' := [(1, .inl (l1 + (nI 1))), (0, .inr (10, 0, t)), (2, .inl (l2))]) 1 dX1_tickOnce_163 rfl rfl (by decide) rfl rfl ?_
  refine J_goto (tgt := 30) dX1_tickOnce_166 rfl ?_
  exact J_sub [1, 0] (hk30 (l1 + (nI 1)) M7) rfl
def xX1_tickOnce_106 (k30 : Int32 → j_M → Option (j_M)) (t : Nat) (l1 : Int32) (l2 : Int32) (l3 : Int32) (M : j_M) : Option (j_M) := (if l3 = (0 : Int32) then obi (xX7_line l2 M) fun v2 M1 => obi (xX1_mustWait t l1 v2 M1) fun v4 M3 => (if v4 = (0 : Int32) then obv (xX1_askForGood t l1 M3) fun M5 => k30 (l1 + (nI 1)) M5 else xX1_tickOnce_122 k30 t l1 l2 M3) else xX1_tickOnce_122 k30 t l1 l2 M)
set_option maxRecDepth 20000 in
set_option maxHeartbeats 2000000 in
theorem tX1_tickOnce_106 (k30 : Int32 → j_M → Option (j_M)) (t : Nat) (hk30 : ∀ (l1 : Int32) (M : j_M), J (ρ := j_M) yX1_tickOnce cX1_tickOnce 4 none 4 111 j_ev 30 [(0, .inr (10, 0, t)), (1, .inl (l1))] [] M (k30 l1 M)) (l1 : Int32) (l2 : Int32) (l3 : Int32) (M : j_M) : J (ρ := j_M) yX1_tickOnce cX1_tickOnce 4 none 4 111 j_ev 106 [(0, .inr (10, 0, t)), (1, .inl (l1)), (2, .inl (l2)), (3, .inl (l3))] [] M (xX1_tickOnce_106 k30 t l1 l2 l3 M) := by
  unfold xX1_tickOnce_106
  refine K_iload_n (q := 107) 3 dX1_tickOnce_106 rfl rfl rfl ?_
  refine K_if_ne (q := 110) (tgt := 122) dX1_tickOnce_107 rfl ?_ rfl ?_
  · exact J_sub [0, 1, 2] (tX1_tickOnce_122 k30 t hk30 l1 l2 M) rfl
  · refine K_aload_n (q := 111) 0 dX1_tickOnce_110 rfl rfl rfl ?_
    refine K_iload_n (q := 112) 1 dX1_tickOnce_111 rfl rfl rfl ?_
    refine K_iload_n (q := 113) 2 dX1_tickOnce_112 rfl rfl rfl ?_
    refine K_csi (q := 116) [.inl (l2)] dX1_tickOnce_113 cb_X7_line cvRX1_77 rfl (Nat.le_of_ble_eq_true rfl) ⟨by decide, by decide⟩ (Nat.le_of_ble_eq_true rfl) rfl (tX7_line l2 M) rfl (fun v2 M1 => ?_)
    refine K_cvi (q := 119) [.inl (l1), .inl (v2)] dX1_tickOnce_116 cb_X1_mustWait cvRX1_276 rc_0 (show (10 : Nat) ≠ 0 by decide) rfl (Nat.le_of_ble_eq_true rfl) ⟨by decide, by decide⟩ (Nat.le_of_ble_eq_true rfl) rfl (tX1_mustWait t l1 v2 M1) rfl (fun v4 M3 => ?_)
    refine K_if_eq (q := 122) (tgt := 158) dX1_tickOnce_119 rfl ?_ rfl ?_
    · refine K_aload_n (q := 159) 0 dX1_tickOnce_158 rfl rfl rfl ?_
      refine K_iload_n (q := 160) 1 dX1_tickOnce_159 rfl rfl rfl ?_
      refine K_cvv (q := 163) [.inl (l1)] dX1_tickOnce_160 cb_X1_askForGood cvRX1_279 rc_0 (show (10 : Nat) ≠ 0 by decide) rfl (Nat.le_of_ble_eq_true rfl) ⟨by decide, by decide⟩ (Nat.le_of_ble_eq_true rfl) rfl (tX1_askForGood t l1 M3) rfl (fun M5 => ?_)
      refine K_iinc (q := 166) (v := l1 + (nI 1)) (ll' := [(1, .inl (l1 + (nI 1))), (0, .inr (10, 0, t)), (2, .inl (l2)), (3, .inl (l3))]) 1 dX1_tickOnce_163 rfl rfl (by decide) rfl rfl ?_
      refine J_goto (tgt := 30) dX1_tickOnce_166 rfl ?_
      exact J_sub [1, 0] (hk30 (l1 + (nI 1)) M5) rfl
    · exact J_sub [0, 1, 2] (tX1_tickOnce_122 k30 t hk30 l1 l2 M3) rfl
def xX1_tickOnce_91 (k30 : Int32 → j_M → Option (j_M)) (t : Nat) (l1 : Int32) (l2 : Int32) (s0 : Int32) (M : j_M) : Option (j_M) := (if s0 = (0 : Int32) then xX1_tickOnce_106 k30 t l1 l2 s0 M else gd l1 6 (oli (M (t + 5) (ix l1)) fun v1 => gd l1 6 (oml (mw M (t + 5) (ix l1) (v1 + (nI 1))) fun M2 => xX1_tickOnce_106 k30 t l1 l2 s0 M2)))
set_option maxRecDepth 20000 in
set_option maxHeartbeats 2000000 in
theorem tX1_tickOnce_91 (k30 : Int32 → j_M → Option (j_M)) (t : Nat) (hk30 : ∀ (l1 : Int32) (M : j_M), J (ρ := j_M) yX1_tickOnce cX1_tickOnce 4 none 4 111 j_ev 30 [(0, .inr (10, 0, t)), (1, .inl (l1))] [] M (k30 l1 M)) (l1 : Int32) (l2 : Int32) (s0 : Int32) (M : j_M) : J (ρ := j_M) yX1_tickOnce cX1_tickOnce 4 none 4 111 j_ev 91 [(0, .inr (10, 0, t)), (1, .inl (l1)), (2, .inl (l2))] [.inl (s0)] M (xX1_tickOnce_91 k30 t l1 l2 s0 M) := by
  unfold xX1_tickOnce_91
  refine K_istore_n (q := 92) (ll' := [(3, .inl (s0)), (0, .inr (10, 0, t)), (1, .inl (l1)), (2, .inl (l2))]) dX1_tickOnce_91 rfl (by decide) rfl rfl ?_
  refine K_iload_n (q := 93) 0 dX1_tickOnce_92 rfl rfl rfl ?_
  refine K_if_eq (q := 96) (tgt := 106) dX1_tickOnce_93 rfl ?_ rfl ?_
  · exact J_sub [1, 2, 3, 0] (tX1_tickOnce_106 k30 t hk30 l1 l2 s0 M) rfl
  · refine K_aload_n (q := 97) 1 dX1_tickOnce_96 rfl rfl rfl ?_
    refine K_getR (q := 100) (ci := 0) (a2 := t + 5) 5 dX1_tickOnce_97 fRX1_24 rfl rfl (by decide) rfl rfl ?_
    refine K_iload_n (q := 101) 2 dX1_tickOnce_100 rfl rfl rfl ?_
    refine K_dup2 (q := 102) dX1_tickOnce_101 rfl ?_
    refine K_iald (q := 103) dX1_tickOnce_102 rfl (fun v1 => ?_)
    refine K_iconst (q := 104) (v := nI 1) dX1_tickOnce_103 rfl rfl ?_
    refine K_iadd (q := 105) dX1_tickOnce_104 rfl ?_
    refine K_iast (q := 106) dX1_tickOnce_105 rfl (fun M2 => ?_)
    exact J_sub [1, 2, 3, 0] (tX1_tickOnce_106 k30 t hk30 l1 l2 s0 M2) rfl
def xX1_tickOnce_30  (t : Nat) : Nat → Int32 → j_M → Option (j_M)
  | 0, _, _ => none
  | n + 1, l1, M => oli (M t 9) fun v1 => (if v1 ≤ l1 then some M else obi (xX1_missOf t l1 M) fun v3 M2 => (if v3 = (0 : Int32) then xX1_tickOnce_30 t n (l1 + (nI 1)) M2 else obi (xX7_isForGood v3 M2) fun v5 M4 => (if v5 = (0 : Int32) then oli (M4 t 14) fun v6 => gd l1 6 (oli (M4 (t + 6) (ix l1)) fun v7 => oli (M4 t 13) fun v8 => (if v8 ≤ (v6 - v7) then gd l1 6 (oli (M4 (t + 5) (ix l1)) fun v9 => (if (nI 3) ≤ v9 then xX1_tickOnce_91 (xX1_tickOnce_30 t n) t l1 v3 (nI 0) M4 else xX1_tickOnce_91 (xX1_tickOnce_30 t n) t l1 v3 (nI 1) M4)) else xX1_tickOnce_30 t n (l1 + (nI 1)) M4)) else xX1_tickOnce_30 t n (l1 + (nI 1)) M4)))
set_option maxRecDepth 20000 in
set_option maxHeartbeats 2000000 in
theorem tX1_tickOnce_30  (t : Nat)  : ∀ (n : Nat) (l1 : Int32) (M : j_M), J (ρ := j_M) yX1_tickOnce cX1_tickOnce 4 none 4 111 j_ev 30 [(0, .inr (10, 0, t)), (1, .inl (l1))] [] M (xX1_tickOnce_30 t n l1 M) := by
  intro n
  induction n with
  | zero => intros; exact J_none
  | succ n ih =>
    intro l1 M
    rw [xX1_tickOnce_30.eq_2]
    refine K_iload_n (q := 31) 1 dX1_tickOnce_30 rfl rfl rfl ?_
    refine K_aload_n (q := 32) 0 dX1_tickOnce_31 rfl rfl rfl ?_
    refine K_getI (q := 35) (ci := 0) 9 dX1_tickOnce_32 fRX1_33 rfl rfl rfl (fun v1 => ?_)
    refine K_icmp_ge (q := 38) (tgt := 169) dX1_tickOnce_35 rfl ?_ rfl ?_
    · exact J_vret dX1_tickOnce_169
    · refine K_aload_n (q := 39) 0 dX1_tickOnce_38 rfl rfl rfl ?_
      refine K_iload_n (q := 40) 1 dX1_tickOnce_39 rfl rfl rfl ?_
      refine K_cvi (q := 43) [.inl (l1)] dX1_tickOnce_40 cb_X1_missOf cvRX1_85 rc_0 (show (10 : Nat) ≠ 0 by decide) rfl (Nat.le_of_ble_eq_true rfl) ⟨by decide, by decide⟩ (Nat.le_of_ble_eq_true rfl) rfl (tX1_missOf t l1 M) rfl (fun v3 M2 => ?_)
      refine K_istore_n (q := 44) (ll' := [(2, .inl (v3)), (0, .inr (10, 0, t)), (1, .inl (l1))]) dX1_tickOnce_43 rfl (by decide) rfl rfl ?_
      refine K_iload_n (q := 45) 0 dX1_tickOnce_44 rfl rfl rfl ?_
      refine K_if_eq (q := 48) (tgt := 163) dX1_tickOnce_45 rfl ?_ rfl ?_
      · refine K_iinc (q := 166) (v := l1 + (nI 1)) (ll' := [(1, .inl (l1 + (nI 1))), (2, .inl (v3)), (0, .inr (10, 0, t))]) 2 dX1_tickOnce_163 rfl rfl (by decide) rfl rfl ?_
        refine J_goto (tgt := 30) dX1_tickOnce_166 rfl ?_
        exact J_sub [2, 0] (ih (l1 + (nI 1)) M2) rfl
      · refine K_iload_n (q := 49) 0 dX1_tickOnce_48 rfl rfl rfl ?_
        refine K_csi (q := 52) [.inl (v3)] dX1_tickOnce_49 cb_X7_isForGood cvRX1_242 rfl (Nat.le_of_ble_eq_true rfl) ⟨by decide, by decide⟩ (Nat.le_of_ble_eq_true rfl) rfl (tX7_isForGood v3 M2) rfl (fun v5 M4 => ?_)
        refine K_if_ne (q := 55) (tgt := 163) dX1_tickOnce_52 rfl ?_ rfl ?_
        · refine K_iinc (q := 166) (v := l1 + (nI 1)) (ll' := [(1, .inl (l1 + (nI 1))), (2, .inl (v3)), (0, .inr (10, 0, t))]) 2 dX1_tickOnce_163 rfl rfl (by decide) rfl rfl ?_
          refine J_goto (tgt := 30) dX1_tickOnce_166 rfl ?_
          exact J_sub [2, 0] (ih (l1 + (nI 1)) M4) rfl
        · refine K_aload_n (q := 56) 1 dX1_tickOnce_55 rfl rfl rfl ?_
          refine K_getI (q := 59) (ci := 0) 14 dX1_tickOnce_56 fRX1_70 rfl rfl rfl (fun v6 => ?_)
          refine K_aload_n (q := 60) 1 dX1_tickOnce_59 rfl rfl rfl ?_
          refine K_getR (q := 63) (ci := 0) (a2 := t + 6) 6 dX1_tickOnce_60 fRX1_27 rfl rfl (by decide) rfl rfl ?_
          refine K_iload_n (q := 64) 2 dX1_tickOnce_63 rfl rfl rfl ?_
          refine K_iald (q := 65) dX1_tickOnce_64 rfl (fun v7 => ?_)
          refine K_isub (q := 66) dX1_tickOnce_65 rfl ?_
          refine K_aload_n (q := 67) 1 dX1_tickOnce_66 rfl rfl rfl ?_
          refine K_getI (q := 70) (ci := 0) 13 dX1_tickOnce_67 fRX1_43 rfl rfl rfl (fun v8 => ?_)
          refine K_icmp_ge (q := 73) (tgt := 76) dX1_tickOnce_70 rfl ?_ rfl ?_
          · refine K_aload_n (q := 77) 1 dX1_tickOnce_76 rfl rfl rfl ?_
            refine K_getR (q := 80) (ci := 0) (a2 := t + 5) 5 dX1_tickOnce_77 fRX1_24 rfl rfl (by decide) rfl rfl ?_
            refine K_iload_n (q := 81) 2 dX1_tickOnce_80 rfl rfl rfl ?_
            refine K_iald (q := 82) dX1_tickOnce_81 rfl (fun v9 => ?_)
            refine K_iconst (q := 83) (v := nI 3) dX1_tickOnce_82 rfl rfl ?_
            refine K_icmp_ge (q := 86) (tgt := 90) dX1_tickOnce_83 rfl ?_ rfl ?_
            · refine K_iconst (q := 91) (v := nI 0) dX1_tickOnce_90 rfl rfl ?_
              exact J_sub [1, 2, 0] (tX1_tickOnce_91 (xX1_tickOnce_30 t n) t ih l1 v3 (nI 0) M4) rfl
            · refine K_iconst (q := 87) (v := nI 1) dX1_tickOnce_86 rfl rfl ?_
              refine J_goto (tgt := 91) dX1_tickOnce_87 rfl ?_
              exact J_sub [1, 2, 0] (tX1_tickOnce_91 (xX1_tickOnce_30 t n) t ih l1 v3 (nI 1) M4) rfl
          · refine J_goto (tgt := 163) dX1_tickOnce_73 rfl ?_
            refine K_iinc (q := 166) (v := l1 + (nI 1)) (ll' := [(1, .inl (l1 + (nI 1))), (2, .inl (v3)), (0, .inr (10, 0, t))]) 2 dX1_tickOnce_163 rfl rfl (by decide) rfl rfl ?_
            refine J_goto (tgt := 30) dX1_tickOnce_166 rfl ?_
            exact J_sub [2, 0] (ih (l1 + (nI 1)) M4) rfl
def xX1_tickOnce_28  (t : Nat)  (M : j_M) : Option (j_M) := xX1_tickOnce_30 t fu (nI 0) M
set_option maxRecDepth 20000 in
set_option maxHeartbeats 2000000 in
theorem tX1_tickOnce_28  (t : Nat)   (M : j_M) : J (ρ := j_M) yX1_tickOnce cX1_tickOnce 4 none 4 111 j_ev 28 [(0, .inr (10, 0, t))] [] M (xX1_tickOnce_28 t  M) := by
  unfold xX1_tickOnce_28
  refine K_iconst (q := 29) (v := nI 0) dX1_tickOnce_28 rfl rfl ?_
  refine K_istore_n (q := 30) (ll' := [(1, .inl ((nI 0))), (0, .inr (10, 0, t))]) dX1_tickOnce_29 rfl (by decide) rfl rfl ?_
  exact J_sub [1, 0] (tX1_tickOnce_30 t fu (nI 0) M) rfl
def xX1_tickOnce (t : Nat)  (M : j_M) : Option (j_M) := oli (M t 14) fun v1 => oml (mw M t 14 (v1 + (nI 1))) fun M2 => oli (M2 t 14) fun v3 => gn (nI 16) ((if v3 - v3 / (nI 16) * (nI 16) = (0 : Int32) then obv (xJ7_fill_53178 48 (t + 4) (nI 0) M2) fun M4 => xX1_tickOnce_28 t M4 else xX1_tickOnce_28 t M2))
set_option maxRecDepth 20000 in
set_option maxHeartbeats 2000000 in
theorem tX1_tickOnce (t : Nat)  (M : j_M) : J (ρ := j_M) yX1_tickOnce cX1_tickOnce 4 none 4 111 j_ev 0 [(0, .inr (10, 0, t))] [] M (xX1_tickOnce t  M) := by
  unfold xX1_tickOnce
  refine K_aload_n (q := 1) 0 dX1_tickOnce_0 rfl rfl rfl ?_
  refine K_dup (q := 2) dX1_tickOnce_1 rfl ?_
  refine K_getI (q := 5) (ci := 0) 14 dX1_tickOnce_2 fRX1_70 rfl rfl rfl (fun v1 => ?_)
  refine K_iconst (q := 6) (v := nI 1) dX1_tickOnce_5 rfl rfl ?_
  refine K_iadd (q := 7) dX1_tickOnce_6 rfl ?_
  refine K_putI (q := 10) (ci := 0) 14 dX1_tickOnce_7 fRX1_70 fp_0_14 rfl rfl (by decide) rfl (fun M2 => ?_)
  refine K_aload_n (q := 11) 0 dX1_tickOnce_10 rfl rfl rfl ?_
  refine K_getI (q := 14) (ci := 0) 14 dX1_tickOnce_11 fRX1_70 rfl rfl rfl (fun v3 => ?_)
  refine K_bipush (q := 16) (v := nI 16) dX1_tickOnce_14 rfl rfl ?_
  refine K_irem (q := 17) dX1_tickOnce_16 rfl ?_
  refine K_if_ne (q := 20) (tgt := 28) dX1_tickOnce_17 rfl ?_ rfl ?_
  · exact J_sub [0] (tX1_tickOnce_28 t M2) rfl
  · refine K_aload_n (q := 21) 0 dX1_tickOnce_20 rfl rfl rfl ?_
    refine K_getR (q := 24) (ci := 0) (a2 := t + 4) 4 dX1_tickOnce_21 fRX1_21 rfl rfl (by decide) rfl rfl ?_
    refine K_iconst (q := 25) (v := nI 0) dX1_tickOnce_24 rfl rfl ?_
    refine K_csv (q := 28) [.inr (1, 48, t + 4), .inl ((nI 0))] dX1_tickOnce_25 cb_J7_fill_53178 cvRX1_50 rfl (Nat.le_of_ble_eq_true rfl) ⟨by decide, by decide⟩ (Nat.le_of_ble_eq_true rfl) rfl (tJ7_fill_53178 48 (t + 4) (nI 0) M2) rfl (fun M4 => ?_)
    exact J_sub [0] (tX1_tickOnce_28 t M4) rfl
theorem dX1_calmRounds_0 : decode cX1_calmRounds 0 = .ok (.iconst 0, 1) := by decide +kernel
theorem dX1_calmRounds_1 : decode cX1_calmRounds 1 = .ok (.istore_n 2, 1) := by decide +kernel
theorem dX1_calmRounds_2 : decode cX1_calmRounds 2 = .ok (.iconst 0, 1) := by decide +kernel
theorem dX1_calmRounds_3 : decode cX1_calmRounds 3 = .ok (.istore_n 3, 1) := by decide +kernel
theorem dX1_calmRounds_4 : decode cX1_calmRounds 4 = .ok (.iload_n 3, 1) := by decide +kernel
theorem dX1_calmRounds_5 : decode cX1_calmRounds 5 = .ok (.iload_n 1, 1) := by decide +kernel
theorem dX1_calmRounds_6 : decode cX1_calmRounds 6 = .ok (.if_icmp .ge 46, 3) := by decide +kernel
theorem dX1_calmRounds_9 : decode cX1_calmRounds 9 = .ok (.iconst 0, 1) := by decide +kernel
theorem dX1_calmRounds_10 : decode cX1_calmRounds 10 = .ok (.istore 4, 2) := by decide +kernel
theorem dX1_calmRounds_12 : decode cX1_calmRounds 12 = .ok (.iload 4, 2) := by decide +kernel
theorem dX1_calmRounds_14 : decode cX1_calmRounds 14 = .ok (.sipush 2000, 3) := by decide +kernel
theorem dX1_calmRounds_17 : decode cX1_calmRounds 17 = .ok (.if_icmp .ge 25, 3) := by decide +kernel
theorem dX1_calmRounds_20 : decode cX1_calmRounds 20 = .ok (.aload_n 0, 1) := by decide +kernel
theorem dX1_calmRounds_21 : decode cX1_calmRounds 21 = .ok (.getfield 64, 3) := by decide +kernel
theorem dX1_calmRounds_24 : decode cX1_calmRounds 24 = .ok (.ifCond .le 18, 3) := by decide +kernel
theorem dX1_calmRounds_27 : decode cX1_calmRounds 27 = .ok (.aload_n 0, 1) := by decide +kernel
theorem dX1_calmRounds_28 : decode cX1_calmRounds 28 = .ok (.iconst 0, 1) := by decide +kernel
theorem dX1_calmRounds_29 : decode cX1_calmRounds 29 = .ok (.invokevirtual 192, 3) := by decide +kernel
theorem dX1_calmRounds_32 : decode cX1_calmRounds 32 = .ok (.pop, 1) := by decide +kernel
theorem dX1_calmRounds_33 : decode cX1_calmRounds 33 = .ok (.iinc 2 1, 3) := by decide +kernel
theorem dX1_calmRounds_36 : decode cX1_calmRounds 36 = .ok (.iinc 4 1, 3) := by decide +kernel
theorem dX1_calmRounds_39 : decode cX1_calmRounds 39 = .ok (.goto (-27), 3) := by decide +kernel
theorem dX1_calmRounds_42 : decode cX1_calmRounds 42 = .ok (.aload_n 0, 1) := by decide +kernel
theorem dX1_calmRounds_43 : decode cX1_calmRounds 43 = .ok (.invokevirtual 273, 3) := by decide +kernel
theorem dX1_calmRounds_46 : decode cX1_calmRounds 46 = .ok (.iinc 3 1, 3) := by decide +kernel
theorem dX1_calmRounds_49 : decode cX1_calmRounds 49 = .ok (.goto (-45), 3) := by decide +kernel
theorem dX1_calmRounds_52 : decode cX1_calmRounds 52 = .ok (.iload_n 2, 1) := by decide +kernel
theorem dX1_calmRounds_53 : decode cX1_calmRounds 53 = .ok (.ireturn, 1) := by decide +kernel
def xX1_calmRounds_42 (k4 : Int32 → Int32 → Int32 → j_M → Option (Int32 × j_M)) (t : Nat) (l1 : Int32) (l2 : Int32) (l3 : Int32) (M : j_M) : Option (Int32 × j_M) := obv (xX1_tickOnce t M) fun M1 => k4 l1 l2 (l3 + (nI 1)) M1
set_option maxRecDepth 20000 in
set_option maxHeartbeats 2000000 in
theorem tX1_calmRounds_42 (k4 : Int32 → Int32 → Int32 → j_M → Option (Int32 × j_M)) (t : Nat) (hk4 : ∀ (l1 : Int32) (l2 : Int32) (l3 : Int32) (M : j_M), J (ρ := Int32 × j_M) yX1_calmRounds cX1_calmRounds 5 (some .int) 5 138 j_ei 4 [(0, .inr (10, 0, t)), (1, .inl (l1)), (2, .inl (l2)), (3, .inl (l3))] [] M (k4 l1 l2 l3 M)) (l1 : Int32) (l2 : Int32) (l3 : Int32) (M : j_M) : J (ρ := Int32 × j_M) yX1_calmRounds cX1_calmRounds 5 (some .int) 5 138 j_ei 42 [(0, .inr (10, 0, t)), (1, .inl (l1)), (2, .inl (l2)), (3, .inl (l3))] [] M (xX1_calmRounds_42 k4 t l1 l2 l3 M) := by
  unfold xX1_calmRounds_42
  refine K_aload_n (q := 43) 0 dX1_calmRounds_42 rfl rfl rfl ?_
  refine K_cvv (q := 46) [] dX1_calmRounds_43 cb_X1_tickOnce cvRX1_273 rc_0 (show (10 : Nat) ≠ 0 by decide) rfl (Nat.le_of_ble_eq_true rfl) ⟨by decide, by decide⟩ (Nat.le_of_ble_eq_true rfl) rfl (tX1_tickOnce t M) rfl (fun M1 => ?_)
  refine K_iinc (q := 49) (v := l3 + (nI 1)) (ll' := [(3, .inl (l3 + (nI 1))), (0, .inr (10, 0, t)), (1, .inl (l1)), (2, .inl (l2))]) 3 dX1_calmRounds_46 rfl rfl (by decide) rfl rfl ?_
  refine J_goto (tgt := 4) dX1_calmRounds_49 rfl ?_
  exact J_sub [1, 2, 3, 0] (hk4 l1 l2 (l3 + (nI 1)) M1) rfl
def xX1_calmRounds_12 (k4 : Int32 → Int32 → Int32 → j_M → Option (Int32 × j_M)) (t : Nat) : Nat → Int32 → Int32 → Int32 → Int32 → j_M → Option (Int32 × j_M)
  | 0, _, _, _, _, _ => none
  | n + 1, l1, l2, l3, l4, M => (if (nI 2000) ≤ l4 then xX1_calmRounds_42 k4 t l1 l2 l3 M else oli (M t 8) fun v1 => (if v1 ≤ (0 : Int32) then xX1_calmRounds_42 k4 t l1 l2 l3 M else obi (xX1_deliverAt t (nI 0) M) fun v3 M2 => xX1_calmRounds_12 k4 t n l1 (l2 + (nI 1)) l3 (l4 + (nI 1)) M2))
set_option maxRecDepth 20000 in
set_option maxHeartbeats 2000000 in
theorem tX1_calmRounds_12 (k4 : Int32 → Int32 → Int32 → j_M → Option (Int32 × j_M)) (t : Nat) (hk4 : ∀ (l1 : Int32) (l2 : Int32) (l3 : Int32) (M : j_M), J (ρ := Int32 × j_M) yX1_calmRounds cX1_calmRounds 5 (some .int) 5 138 j_ei 4 [(0, .inr (10, 0, t)), (1, .inl (l1)), (2, .inl (l2)), (3, .inl (l3))] [] M (k4 l1 l2 l3 M)) : ∀ (n : Nat) (l1 : Int32) (l2 : Int32) (l3 : Int32) (l4 : Int32) (M : j_M), J (ρ := Int32 × j_M) yX1_calmRounds cX1_calmRounds 5 (some .int) 5 138 j_ei 12 [(0, .inr (10, 0, t)), (1, .inl (l1)), (2, .inl (l2)), (3, .inl (l3)), (4, .inl (l4))] [] M (xX1_calmRounds_12 k4 t n l1 l2 l3 l4 M) := by
  intro n
  induction n with
  | zero => intros; exact J_none
  | succ n ih =>
    intro l1 l2 l3 l4 M
    rw [xX1_calmRounds_12.eq_2]
    refine K_iload (q := 14) 4 dX1_calmRounds_12 rfl rfl ?_
    refine K_sipush (q := 17) (v := nI 2000) dX1_calmRounds_14 rfl rfl ?_
    refine K_icmp_ge (q := 20) (tgt := 42) dX1_calmRounds_17 rfl ?_ rfl ?_
    · exact J_sub [0, 1, 2, 3] (tX1_calmRounds_42 k4 t hk4 l1 l2 l3 M) rfl
    · refine K_aload_n (q := 21) 0 dX1_calmRounds_20 rfl rfl rfl ?_
      refine K_getI (q := 24) (ci := 0) 8 dX1_calmRounds_21 fRX1_64 rfl rfl rfl (fun v1 => ?_)
      refine K_if_le (q := 27) (tgt := 42) dX1_calmRounds_24 rfl ?_ rfl ?_
      · exact J_sub [0, 1, 2, 3] (tX1_calmRounds_42 k4 t hk4 l1 l2 l3 M) rfl
      · refine K_aload_n (q := 28) 0 dX1_calmRounds_27 rfl rfl rfl ?_
        refine K_iconst (q := 29) (v := nI 0) dX1_calmRounds_28 rfl rfl ?_
        refine K_cvi (q := 32) [.inl ((nI 0))] dX1_calmRounds_29 cb_X1_deliverAt cvRX1_192 rc_0 (show (10 : Nat) ≠ 0 by decide) rfl (Nat.le_of_ble_eq_true rfl) ⟨by decide, by decide⟩ (Nat.le_of_ble_eq_true rfl) rfl (tX1_deliverAt t (nI 0) M) rfl (fun v3 M2 => ?_)
        refine K_pop (q := 33) dX1_calmRounds_32 rfl ?_
        refine K_iinc (q := 36) (v := l2 + (nI 1)) (ll' := [(2, .inl (l2 + (nI 1))), (0, .inr (10, 0, t)), (1, .inl (l1)), (3, .inl (l3)), (4, .inl (l4))]) 2 dX1_calmRounds_33 rfl rfl (by decide) rfl rfl ?_
        refine K_iinc (q := 39) (v := l4 + (nI 1)) (ll' := [(4, .inl (l4 + (nI 1))), (2, .inl (l2 + (nI 1))), (0, .inr (10, 0, t)), (1, .inl (l1)), (3, .inl (l3))]) 4 dX1_calmRounds_36 rfl rfl (by decide) rfl rfl ?_
        refine J_goto (tgt := 12) dX1_calmRounds_39 rfl ?_
        exact J_sub [2, 3, 1, 4, 0] (ih l1 (l2 + (nI 1)) l3 (l4 + (nI 1)) M2) rfl
def xX1_calmRounds_4  (t : Nat) : Nat → Int32 → Int32 → Int32 → j_M → Option (Int32 × j_M)
  | 0, _, _, _, _ => none
  | n + 1, l1, l2, l3, M => (if l1 ≤ l3 then some (l2, M) else xX1_calmRounds_12 (xX1_calmRounds_4 t n) t fu l1 l2 l3 (nI 0) M)
set_option maxRecDepth 20000 in
set_option maxHeartbeats 2000000 in
theorem tX1_calmRounds_4  (t : Nat)  : ∀ (n : Nat) (l1 : Int32) (l2 : Int32) (l3 : Int32) (M : j_M), J (ρ := Int32 × j_M) yX1_calmRounds cX1_calmRounds 5 (some .int) 5 138 j_ei 4 [(0, .inr (10, 0, t)), (1, .inl (l1)), (2, .inl (l2)), (3, .inl (l3))] [] M (xX1_calmRounds_4 t n l1 l2 l3 M) := by
  intro n
  induction n with
  | zero => intros; exact J_none
  | succ n ih =>
    intro l1 l2 l3 M
    rw [xX1_calmRounds_4.eq_2]
    refine K_iload_n (q := 5) 3 dX1_calmRounds_4 rfl rfl rfl ?_
    refine K_iload_n (q := 6) 1 dX1_calmRounds_5 rfl rfl rfl ?_
    refine K_icmp_ge (q := 9) (tgt := 52) dX1_calmRounds_6 rfl ?_ rfl ?_
    · refine K_iload_n (q := 53) 2 dX1_calmRounds_52 rfl rfl rfl ?_
      exact J_iret dX1_calmRounds_53
    · refine K_iconst (q := 10) (v := nI 0) dX1_calmRounds_9 rfl rfl ?_
      refine K_istore (q := 12) (ll' := [(4, .inl ((nI 0))), (0, .inr (10, 0, t)), (1, .inl (l1)), (2, .inl (l2)), (3, .inl (l3))]) dX1_calmRounds_10 (by decide) rfl rfl ?_
      exact J_sub [1, 2, 3, 4, 0] (tX1_calmRounds_12 (xX1_calmRounds_4 t n) t ih fu l1 l2 l3 (nI 0) M) rfl
def xX1_calmRounds (t : Nat) (l1 : Int32) (M : j_M) : Option (Int32 × j_M) := xX1_calmRounds_4 t fu l1 (nI 0) (nI 0) M
set_option maxRecDepth 20000 in
set_option maxHeartbeats 2000000 in
theorem tX1_calmRounds (t : Nat) (l1 : Int32) (M : j_M) : J (ρ := Int32 × j_M) yX1_calmRounds cX1_calmRounds 5 (some .int) 5 138 j_ei 0 [(0, .inr (10, 0, t)), (1, .inl (l1))] [] M (xX1_calmRounds t l1 M) := by
  unfold xX1_calmRounds
  refine K_iconst (q := 1) (v := nI 0) dX1_calmRounds_0 rfl rfl ?_
  refine K_istore_n (q := 2) (ll' := [(2, .inl ((nI 0))), (0, .inr (10, 0, t)), (1, .inl (l1))]) dX1_calmRounds_1 rfl (by decide) rfl rfl ?_
  refine K_iconst (q := 3) (v := nI 0) dX1_calmRounds_2 rfl rfl ?_
  refine K_istore_n (q := 4) (ll' := [(3, .inl ((nI 0))), (2, .inl ((nI 0))), (0, .inr (10, 0, t)), (1, .inl (l1))]) dX1_calmRounds_3 rfl (by decide) rfl rfl ?_
  exact J_sub [2, 3, 1, 0] (tX1_calmRounds_4 t fu l1 (nI 0) (nI 0) M) rfl
theorem dX1_evictIfAllowed_0 : decode cX1_evictIfAllowed 0 = .ok (.aload_n 0, 1) := by decide +kernel
theorem dX1_evictIfAllowed_1 : decode cX1_evictIfAllowed 1 = .ok (.iload_n 1, 1) := by decide +kernel
theorem dX1_evictIfAllowed_2 : decode cX1_evictIfAllowed 2 = .ok (.invokevirtual 92, 3) := by decide +kernel
theorem dX1_evictIfAllowed_5 : decode cX1_evictIfAllowed 5 = .ok (.ifCond .eq 19, 3) := by decide +kernel
theorem dX1_evictIfAllowed_8 : decode cX1_evictIfAllowed 8 = .ok (.iload_n 2, 1) := by decide +kernel
theorem dX1_evictIfAllowed_9 : decode cX1_evictIfAllowed 9 = .ok (.invokestatic 96, 3) := by decide +kernel
theorem dX1_evictIfAllowed_12 : decode cX1_evictIfAllowed 12 = .ok (.ifCond .eq 12, 3) := by decide +kernel
theorem dX1_evictIfAllowed_15 : decode cX1_evictIfAllowed 15 = .ok (.aload_n 0, 1) := by decide +kernel
theorem dX1_evictIfAllowed_16 : decode cX1_evictIfAllowed 16 = .ok (.iload_n 1, 1) := by decide +kernel
theorem dX1_evictIfAllowed_17 : decode cX1_evictIfAllowed 17 = .ok (.invokevirtual 173, 3) := by decide +kernel
theorem dX1_evictIfAllowed_20 : decode cX1_evictIfAllowed 20 = .ok (.iload_n 2, 1) := by decide +kernel
theorem dX1_evictIfAllowed_21 : decode cX1_evictIfAllowed 21 = .ok (.if_icmp .ne 5, 3) := by decide +kernel
theorem dX1_evictIfAllowed_24 : decode cX1_evictIfAllowed 24 = .ok (.iconst 0, 1) := by decide +kernel
theorem dX1_evictIfAllowed_25 : decode cX1_evictIfAllowed 25 = .ok (.ireturn, 1) := by decide +kernel
theorem dX1_evictIfAllowed_26 : decode cX1_evictIfAllowed 26 = .ok (.aload_n 0, 1) := by decide +kernel
theorem dX1_evictIfAllowed_27 : decode cX1_evictIfAllowed 27 = .ok (.iload_n 1, 1) := by decide +kernel
theorem dX1_evictIfAllowed_28 : decode cX1_evictIfAllowed 28 = .ok (.iload_n 2, 1) := by decide +kernel
theorem dX1_evictIfAllowed_29 : decode cX1_evictIfAllowed 29 = .ok (.invokevirtual 176, 3) := by decide +kernel
theorem dX1_evictIfAllowed_32 : decode cX1_evictIfAllowed 32 = .ok (.invokestatic 82, 3) := by decide +kernel
theorem dX1_evictIfAllowed_35 : decode cX1_evictIfAllowed 35 = .ok (.ifCond .ne 5, 3) := by decide +kernel
theorem dX1_evictIfAllowed_38 : decode cX1_evictIfAllowed 38 = .ok (.iconst 0, 1) := by decide +kernel
theorem dX1_evictIfAllowed_39 : decode cX1_evictIfAllowed 39 = .ok (.ireturn, 1) := by decide +kernel
theorem dX1_evictIfAllowed_40 : decode cX1_evictIfAllowed 40 = .ok (.aload_n 0, 1) := by decide +kernel
theorem dX1_evictIfAllowed_41 : decode cX1_evictIfAllowed 41 = .ok (.iload_n 1, 1) := by decide +kernel
theorem dX1_evictIfAllowed_42 : decode cX1_evictIfAllowed 42 = .ok (.iload_n 2, 1) := by decide +kernel
theorem dX1_evictIfAllowed_43 : decode cX1_evictIfAllowed 43 = .ok (.invokevirtual 179, 3) := by decide +kernel
theorem dX1_evictIfAllowed_46 : decode cX1_evictIfAllowed 46 = .ok (.iconst 1, 1) := by decide +kernel
theorem dX1_evictIfAllowed_47 : decode cX1_evictIfAllowed 47 = .ok (.ireturn, 1) := by decide +kernel
def xX1_evictIfAllowed (t : Nat) (l1 : Int32) (l2 : Int32) (M : j_M) : Option (Int32 × j_M) := obi (xX1_isCpu t l1 M) fun v2 M1 => (if v2 = (0 : Int32) then some ((nI 0), M1) else obi (xX11_isLine l2 M1) fun v4 M3 => (if v4 = (0 : Int32) then some ((nI 0), M3) else obi (xX1_missedLine t l1 M3) fun v6 M5 => (if v6 = l2 then some ((nI 0), M5) else obi (xX1_heldAt t l1 l2 M5) fun v8 M7 => obi (xX3_count v8 M7) fun v10 M9 => (if v10 = (0 : Int32) then some ((nI 0), M9) else obv (xX1_evictLine t l1 l2 M9) fun M11 => some ((nI 1), M11)))))
set_option maxRecDepth 20000 in
set_option maxHeartbeats 2000000 in
theorem tX1_evictIfAllowed (t : Nat) (l1 : Int32) (l2 : Int32) (M : j_M) : J (ρ := Int32 × j_M) yX1_evictIfAllowed cX1_evictIfAllowed 3 (some .boolean) 3 83 j_ei 0 [(0, .inr (10, 0, t)), (1, .inl (l1)), (2, .inl (l2))] [] M (xX1_evictIfAllowed t l1 l2 M) := by
  unfold xX1_evictIfAllowed
  refine K_aload_n (q := 1) 0 dX1_evictIfAllowed_0 rfl rfl rfl ?_
  refine K_iload_n (q := 2) 1 dX1_evictIfAllowed_1 rfl rfl rfl ?_
  refine K_cvi (q := 5) [.inl (l1)] dX1_evictIfAllowed_2 cb_X1_isCpu cvRX1_92 rc_0 (show (10 : Nat) ≠ 0 by decide) rfl (Nat.le_of_ble_eq_true rfl) ⟨by decide, by decide⟩ (Nat.le_of_ble_eq_true rfl) rfl (tX1_isCpu t l1 M) rfl (fun v2 M1 => ?_)
  refine K_if_eq (q := 8) (tgt := 24) dX1_evictIfAllowed_5 rfl ?_ rfl ?_
  · refine K_iconst (q := 25) (v := nI 0) dX1_evictIfAllowed_24 rfl rfl ?_
    exact J_zret dX1_evictIfAllowed_25 (by decide)
  · refine K_iload_n (q := 9) 2 dX1_evictIfAllowed_8 rfl rfl rfl ?_
    refine K_csi (q := 12) [.inl (l2)] dX1_evictIfAllowed_9 cb_X11_isLine cvRX1_96 rfl (Nat.le_of_ble_eq_true rfl) ⟨by decide, by decide⟩ (Nat.le_of_ble_eq_true rfl) rfl (tX11_isLine l2 M1) rfl (fun v4 M3 => ?_)
    refine K_if_eq (q := 15) (tgt := 24) dX1_evictIfAllowed_12 rfl ?_ rfl ?_
    · refine K_iconst (q := 25) (v := nI 0) dX1_evictIfAllowed_24 rfl rfl ?_
      exact J_zret dX1_evictIfAllowed_25 (by decide)
    · refine K_aload_n (q := 16) 0 dX1_evictIfAllowed_15 rfl rfl rfl ?_
      refine K_iload_n (q := 17) 1 dX1_evictIfAllowed_16 rfl rfl rfl ?_
      refine K_cvi (q := 20) [.inl (l1)] dX1_evictIfAllowed_17 cb_X1_missedLine cvRX1_173 rc_0 (show (10 : Nat) ≠ 0 by decide) rfl (Nat.le_of_ble_eq_true rfl) ⟨by decide, by decide⟩ (Nat.le_of_ble_eq_true rfl) rfl (tX1_missedLine t l1 M3) rfl (fun v6 M5 => ?_)
      refine K_iload_n (q := 21) 2 dX1_evictIfAllowed_20 rfl rfl rfl ?_
      refine K_icmp_ne (q := 24) (tgt := 26) dX1_evictIfAllowed_21 rfl ?_ rfl ?_
      · refine K_aload_n (q := 27) 0 dX1_evictIfAllowed_26 rfl rfl rfl ?_
        refine K_iload_n (q := 28) 1 dX1_evictIfAllowed_27 rfl rfl rfl ?_
        refine K_iload_n (q := 29) 2 dX1_evictIfAllowed_28 rfl rfl rfl ?_
        refine K_cvi (q := 32) [.inl (l1), .inl (l2)] dX1_evictIfAllowed_29 cb_X1_heldAt cvRX1_176 rc_0 (show (10 : Nat) ≠ 0 by decide) rfl (Nat.le_of_ble_eq_true rfl) ⟨by decide, by decide⟩ (Nat.le_of_ble_eq_true rfl) rfl (tX1_heldAt t l1 l2 M5) rfl (fun v8 M7 => ?_)
        refine K_csi (q := 35) [.inl (v8)] dX1_evictIfAllowed_32 cb_X3_count cvRX1_82 rfl (Nat.le_of_ble_eq_true rfl) ⟨by decide, by decide⟩ (Nat.le_of_ble_eq_true rfl) rfl (tX3_count v8 M7) rfl (fun v10 M9 => ?_)
        refine K_if_ne (q := 38) (tgt := 40) dX1_evictIfAllowed_35 rfl ?_ rfl ?_
        · refine K_aload_n (q := 41) 0 dX1_evictIfAllowed_40 rfl rfl rfl ?_
          refine K_iload_n (q := 42) 1 dX1_evictIfAllowed_41 rfl rfl rfl ?_
          refine K_iload_n (q := 43) 2 dX1_evictIfAllowed_42 rfl rfl rfl ?_
          refine K_cvv (q := 46) [.inl (l1), .inl (l2)] dX1_evictIfAllowed_43 cb_X1_evictLine cvRX1_179 rc_0 (show (10 : Nat) ≠ 0 by decide) rfl (Nat.le_of_ble_eq_true rfl) ⟨by decide, by decide⟩ (Nat.le_of_ble_eq_true rfl) rfl (tX1_evictLine t l1 l2 M9) rfl (fun M11 => ?_)
          refine K_iconst (q := 47) (v := nI 1) dX1_evictIfAllowed_46 rfl rfl ?_
          exact J_zret dX1_evictIfAllowed_47 (by decide)
        · refine K_iconst (q := 39) (v := nI 0) dX1_evictIfAllowed_38 rfl rfl ?_
          exact J_zret dX1_evictIfAllowed_39 (by decide)
      · refine K_iconst (q := 25) (v := nI 0) dX1_evictIfAllowed_24 rfl rfl ?_
        exact J_zret dX1_evictIfAllowed_25 (by decide)
theorem dX1_become_0 : decode cX1_become 0 = .ok (.aload_n 1, 1) := by decide +kernel
theorem dX1_become_1 : decode cX1_become 1 = .ok (.getfield 11, 3) := by decide +kernel
theorem dX1_become_4 : decode cX1_become 4 = .ok (.iconst 0, 1) := by decide +kernel
theorem dX1_become_5 : decode cX1_become 5 = .ok (.aload_n 0, 1) := by decide +kernel
theorem dX1_become_6 : decode cX1_become 6 = .ok (.getfield 11, 3) := by decide +kernel
theorem dX1_become_9 : decode cX1_become 9 = .ok (.iconst 0, 1) := by decide +kernel
theorem dX1_become_10 : decode cX1_become 10 = .ok (.aload_n 0, 1) := by decide +kernel
theorem dX1_become_11 : decode cX1_become 11 = .ok (.getfield 11, 3) := by decide +kernel
theorem dX1_become_14 : decode cX1_become 14 = .ok (.arraylength, 1) := by decide +kernel
theorem dX1_become_15 : decode cX1_become 15 = .ok (.invokestatic 58, 3) := by decide +kernel
theorem dX1_become_18 : decode cX1_become 18 = .ok (.aload_n 1, 1) := by decide +kernel
theorem dX1_become_19 : decode cX1_become 19 = .ok (.getfield 15, 3) := by decide +kernel
theorem dX1_become_22 : decode cX1_become 22 = .ok (.iconst 0, 1) := by decide +kernel
theorem dX1_become_23 : decode cX1_become 23 = .ok (.aload_n 0, 1) := by decide +kernel
theorem dX1_become_24 : decode cX1_become 24 = .ok (.getfield 15, 3) := by decide +kernel
theorem dX1_become_27 : decode cX1_become 27 = .ok (.iconst 0, 1) := by decide +kernel
theorem dX1_become_28 : decode cX1_become 28 = .ok (.aload_n 0, 1) := by decide +kernel
theorem dX1_become_29 : decode cX1_become 29 = .ok (.getfield 15, 3) := by decide +kernel
theorem dX1_become_32 : decode cX1_become 32 = .ok (.arraylength, 1) := by decide +kernel
theorem dX1_become_33 : decode cX1_become 33 = .ok (.invokestatic 58, 3) := by decide +kernel
theorem dX1_become_36 : decode cX1_become 36 = .ok (.aload_n 1, 1) := by decide +kernel
theorem dX1_become_37 : decode cX1_become 37 = .ok (.getfield 18, 3) := by decide +kernel
theorem dX1_become_40 : decode cX1_become 40 = .ok (.iconst 0, 1) := by decide +kernel
theorem dX1_become_41 : decode cX1_become 41 = .ok (.aload_n 0, 1) := by decide +kernel
theorem dX1_become_42 : decode cX1_become 42 = .ok (.getfield 18, 3) := by decide +kernel
theorem dX1_become_45 : decode cX1_become 45 = .ok (.iconst 0, 1) := by decide +kernel
theorem dX1_become_46 : decode cX1_become 46 = .ok (.aload_n 0, 1) := by decide +kernel
theorem dX1_become_47 : decode cX1_become 47 = .ok (.getfield 18, 3) := by decide +kernel
theorem dX1_become_50 : decode cX1_become 50 = .ok (.arraylength, 1) := by decide +kernel
theorem dX1_become_51 : decode cX1_become 51 = .ok (.invokestatic 58, 3) := by decide +kernel
theorem dX1_become_54 : decode cX1_become 54 = .ok (.aload_n 1, 1) := by decide +kernel
theorem dX1_become_55 : decode cX1_become 55 = .ok (.getfield 21, 3) := by decide +kernel
theorem dX1_become_58 : decode cX1_become 58 = .ok (.iconst 0, 1) := by decide +kernel
theorem dX1_become_59 : decode cX1_become 59 = .ok (.aload_n 0, 1) := by decide +kernel
theorem dX1_become_60 : decode cX1_become 60 = .ok (.getfield 21, 3) := by decide +kernel
theorem dX1_become_63 : decode cX1_become 63 = .ok (.iconst 0, 1) := by decide +kernel
theorem dX1_become_64 : decode cX1_become 64 = .ok (.aload_n 0, 1) := by decide +kernel
theorem dX1_become_65 : decode cX1_become 65 = .ok (.getfield 21, 3) := by decide +kernel
theorem dX1_become_68 : decode cX1_become 68 = .ok (.arraylength, 1) := by decide +kernel
theorem dX1_become_69 : decode cX1_become 69 = .ok (.invokestatic 58, 3) := by decide +kernel
theorem dX1_become_72 : decode cX1_become 72 = .ok (.aload_n 1, 1) := by decide +kernel
theorem dX1_become_73 : decode cX1_become 73 = .ok (.getfield 24, 3) := by decide +kernel
theorem dX1_become_76 : decode cX1_become 76 = .ok (.iconst 0, 1) := by decide +kernel
theorem dX1_become_77 : decode cX1_become 77 = .ok (.aload_n 0, 1) := by decide +kernel
theorem dX1_become_78 : decode cX1_become 78 = .ok (.getfield 24, 3) := by decide +kernel
theorem dX1_become_81 : decode cX1_become 81 = .ok (.iconst 0, 1) := by decide +kernel
theorem dX1_become_82 : decode cX1_become 82 = .ok (.bipush 6, 2) := by decide +kernel
theorem dX1_become_84 : decode cX1_become 84 = .ok (.invokestatic 58, 3) := by decide +kernel
theorem dX1_become_87 : decode cX1_become 87 = .ok (.aload_n 1, 1) := by decide +kernel
theorem dX1_become_88 : decode cX1_become 88 = .ok (.getfield 27, 3) := by decide +kernel
theorem dX1_become_91 : decode cX1_become 91 = .ok (.iconst 0, 1) := by decide +kernel
theorem dX1_become_92 : decode cX1_become 92 = .ok (.aload_n 0, 1) := by decide +kernel
theorem dX1_become_93 : decode cX1_become 93 = .ok (.getfield 27, 3) := by decide +kernel
theorem dX1_become_96 : decode cX1_become 96 = .ok (.iconst 0, 1) := by decide +kernel
theorem dX1_become_97 : decode cX1_become 97 = .ok (.bipush 6, 2) := by decide +kernel
theorem dX1_become_99 : decode cX1_become 99 = .ok (.invokestatic 58, 3) := by decide +kernel
theorem dX1_become_102 : decode cX1_become 102 = .ok (.aload_n 1, 1) := by decide +kernel
theorem dX1_become_103 : decode cX1_become 103 = .ok (.getfield 30, 3) := by decide +kernel
theorem dX1_become_106 : decode cX1_become 106 = .ok (.iconst 0, 1) := by decide +kernel
theorem dX1_become_107 : decode cX1_become 107 = .ok (.aload_n 0, 1) := by decide +kernel
theorem dX1_become_108 : decode cX1_become 108 = .ok (.getfield 30, 3) := by decide +kernel
theorem dX1_become_111 : decode cX1_become 111 = .ok (.iconst 0, 1) := by decide +kernel
theorem dX1_become_112 : decode cX1_become 112 = .ok (.bipush 6, 2) := by decide +kernel
theorem dX1_become_114 : decode cX1_become 114 = .ok (.invokestatic 58, 3) := by decide +kernel
theorem dX1_become_117 : decode cX1_become 117 = .ok (.aload_n 0, 1) := by decide +kernel
theorem dX1_become_118 : decode cX1_become 118 = .ok (.aload_n 1, 1) := by decide +kernel
theorem dX1_become_119 : decode cX1_become 119 = .ok (.getfield 64, 3) := by decide +kernel
theorem dX1_become_122 : decode cX1_become 122 = .ok (.putfield 64, 3) := by decide +kernel
theorem dX1_become_125 : decode cX1_become 125 = .ok (.aload_n 0, 1) := by decide +kernel
theorem dX1_become_126 : decode cX1_become 126 = .ok (.aload_n 1, 1) := by decide +kernel
theorem dX1_become_127 : decode cX1_become 127 = .ok (.getfield 33, 3) := by decide +kernel
theorem dX1_become_130 : decode cX1_become 130 = .ok (.putfield 33, 3) := by decide +kernel
theorem dX1_become_133 : decode cX1_become 133 = .ok (.aload_n 0, 1) := by decide +kernel
theorem dX1_become_134 : decode cX1_become 134 = .ok (.aload_n 1, 1) := by decide +kernel
theorem dX1_become_135 : decode cX1_become 135 = .ok (.getfield 37, 3) := by decide +kernel
theorem dX1_become_138 : decode cX1_become 138 = .ok (.putfield 37, 3) := by decide +kernel
theorem dX1_become_141 : decode cX1_become 141 = .ok (.aload_n 0, 1) := by decide +kernel
theorem dX1_become_142 : decode cX1_become 142 = .ok (.aload_n 1, 1) := by decide +kernel
theorem dX1_become_143 : decode cX1_become 143 = .ok (.getfield 40, 3) := by decide +kernel
theorem dX1_become_146 : decode cX1_become 146 = .ok (.putfield 40, 3) := by decide +kernel
theorem dX1_become_149 : decode cX1_become 149 = .ok (.aload_n 0, 1) := by decide +kernel
theorem dX1_become_150 : decode cX1_become 150 = .ok (.aload_n 1, 1) := by decide +kernel
theorem dX1_become_151 : decode cX1_become 151 = .ok (.getfield 67, 3) := by decide +kernel
theorem dX1_become_154 : decode cX1_become 154 = .ok (.putfield 67, 3) := by decide +kernel
theorem dX1_become_157 : decode cX1_become 157 = .ok (.aload_n 0, 1) := by decide +kernel
theorem dX1_become_158 : decode cX1_become 158 = .ok (.aload_n 1, 1) := by decide +kernel
theorem dX1_become_159 : decode cX1_become 159 = .ok (.getfield 43, 3) := by decide +kernel
theorem dX1_become_162 : decode cX1_become 162 = .ok (.putfield 43, 3) := by decide +kernel
theorem dX1_become_165 : decode cX1_become 165 = .ok (.aload_n 0, 1) := by decide +kernel
theorem dX1_become_166 : decode cX1_become 166 = .ok (.aload_n 1, 1) := by decide +kernel
theorem dX1_become_167 : decode cX1_become 167 = .ok (.getfield 70, 3) := by decide +kernel
theorem dX1_become_170 : decode cX1_become 170 = .ok (.putfield 70, 3) := by decide +kernel
theorem dX1_become_173 : decode cX1_become 173 = .ok (.return_, 1) := by decide +kernel
def xX1_become (t : Nat) (u1 : Nat)  (M : j_M) : Option (j_M) := gc (nI 0) (nI 0) (nI 112) 112 112 (oml (mcp M (u1 + 1) (ix (nI 0)) (t + 1) (ix (nI 0)) (ix (nI 112))) fun M1 => gc (nI 0) (nI 0) (nI 256) 256 256 (oml (mcp M1 (u1 + 2) (ix (nI 0)) (t + 2) (ix (nI 0)) (ix (nI 256))) fun M2 => gc (nI 0) (nI 0) (nI 48) 48 48 (oml (mcp M2 (u1 + 3) (ix (nI 0)) (t + 3) (ix (nI 0)) (ix (nI 48))) fun M3 => gc (nI 0) (nI 0) (nI 48) 48 48 (oml (mcp M3 (u1 + 4) (ix (nI 0)) (t + 4) (ix (nI 0)) (ix (nI 48))) fun M4 => gc (nI 0) (nI 0) (nI 6) 6 6 (oml (mcp M4 (u1 + 5) (ix (nI 0)) (t + 5) (ix (nI 0)) (ix (nI 6))) fun M5 => gc (nI 0) (nI 0) (nI 6) 6 6 (oml (mcp M5 (u1 + 6) (ix (nI 0)) (t + 6) (ix (nI 0)) (ix (nI 6))) fun M6 => gc (nI 0) (nI 0) (nI 6) 6 6 (oml (mcp M6 (u1 + 7) (ix (nI 0)) (t + 7) (ix (nI 0)) (ix (nI 6))) fun M7 => oli (M7 u1 8) fun v8 => oml (mw M7 t 8 v8) fun M9 => oli (M9 u1 9) fun v10 => oml (mw M9 t 9 v10) fun M11 => oli (M11 u1 10) fun v12 => oml (mw M11 t 10 v12) fun M13 => oli (M13 u1 11) fun v14 => oml (mw M13 t 11 v14) fun M15 => oli (M15 u1 12) fun v16 => oml (mw M15 t 12 v16) fun M17 => oli (M17 u1 13) fun v18 => oml (mw M17 t 13 v18) fun M19 => oli (M19 u1 14) fun v20 => oml (mw M19 t 14 v20) fun M21 => some M21)))))))
set_option maxRecDepth 20000 in
set_option maxHeartbeats 2000000 in
theorem tX1_become (t : Nat) (u1 : Nat)  (M : j_M) : J (ρ := j_M) yX1_become cX1_become 2 none 1 30 j_ev 0 [(0, .inr (10, 0, t)), (1, .inr (10, 0, u1))] [] M (xX1_become t u1  M) := by
  unfold xX1_become
  refine K_aload_n (q := 1) 1 dX1_become_0 rfl rfl rfl ?_
  refine K_getR (q := 4) (ci := 0) (a2 := u1 + 1) 1 dX1_become_1 fRX1_11 rfl rfl (by decide) rfl rfl ?_
  refine K_iconst (q := 5) (v := nI 0) dX1_become_4 rfl rfl ?_
  refine K_aload_n (q := 6) 0 dX1_become_5 rfl rfl rfl ?_
  refine K_getR (q := 9) (ci := 0) (a2 := t + 1) 1 dX1_become_6 fRX1_11 rfl rfl (by decide) rfl rfl ?_
  refine K_iconst (q := 10) (v := nI 0) dX1_become_9 rfl rfl ?_
  refine K_aload_n (q := 11) 0 dX1_become_10 rfl rfl rfl ?_
  refine K_getR (q := 14) (ci := 0) (a2 := t + 1) 1 dX1_become_11 fRX1_11 rfl rfl (by decide) rfl rfl ?_
  refine K_alen (q := 15) (v := (nI 112)) dX1_become_14 rfl rfl ?_
  refine K_acopy (q := 18) dX1_become_15 (j_in 569 (by decide +kernel) (by decide +kernel)) ac_nat ac_stat ac_ini (by decide) (Nat.le_of_ble_eq_true rfl) rfl (fun M1 => ?_)
  refine K_aload_n (q := 19) 1 dX1_become_18 rfl rfl rfl ?_
  refine K_getR (q := 22) (ci := 0) (a2 := u1 + 2) 2 dX1_become_19 fRX1_15 rfl rfl (by decide) rfl rfl ?_
  refine K_iconst (q := 23) (v := nI 0) dX1_become_22 rfl rfl ?_
  refine K_aload_n (q := 24) 0 dX1_become_23 rfl rfl rfl ?_
  refine K_getR (q := 27) (ci := 0) (a2 := t + 2) 2 dX1_become_24 fRX1_15 rfl rfl (by decide) rfl rfl ?_
  refine K_iconst (q := 28) (v := nI 0) dX1_become_27 rfl rfl ?_
  refine K_aload_n (q := 29) 0 dX1_become_28 rfl rfl rfl ?_
  refine K_getR (q := 32) (ci := 0) (a2 := t + 2) 2 dX1_become_29 fRX1_15 rfl rfl (by decide) rfl rfl ?_
  refine K_alen (q := 33) (v := (nI 256)) dX1_become_32 rfl rfl ?_
  refine K_acopy (q := 36) dX1_become_33 (j_in 569 (by decide +kernel) (by decide +kernel)) ac_nat ac_stat ac_ini (by decide) (Nat.le_of_ble_eq_true rfl) rfl (fun M2 => ?_)
  refine K_aload_n (q := 37) 1 dX1_become_36 rfl rfl rfl ?_
  refine K_getR (q := 40) (ci := 0) (a2 := u1 + 3) 3 dX1_become_37 fRX1_18 rfl rfl (by decide) rfl rfl ?_
  refine K_iconst (q := 41) (v := nI 0) dX1_become_40 rfl rfl ?_
  refine K_aload_n (q := 42) 0 dX1_become_41 rfl rfl rfl ?_
  refine K_getR (q := 45) (ci := 0) (a2 := t + 3) 3 dX1_become_42 fRX1_18 rfl rfl (by decide) rfl rfl ?_
  refine K_iconst (q := 46) (v := nI 0) dX1_become_45 rfl rfl ?_
  refine K_aload_n (q := 47) 0 dX1_become_46 rfl rfl rfl ?_
  refine K_getR (q := 50) (ci := 0) (a2 := t + 3) 3 dX1_become_47 fRX1_18 rfl rfl (by decide) rfl rfl ?_
  refine K_alen (q := 51) (v := (nI 48)) dX1_become_50 rfl rfl ?_
  refine K_acopy (q := 54) dX1_become_51 (j_in 569 (by decide +kernel) (by decide +kernel)) ac_nat ac_stat ac_ini (by decide) (Nat.le_of_ble_eq_true rfl) rfl (fun M3 => ?_)
  refine K_aload_n (q := 55) 1 dX1_become_54 rfl rfl rfl ?_
  refine K_getR (q := 58) (ci := 0) (a2 := u1 + 4) 4 dX1_become_55 fRX1_21 rfl rfl (by decide) rfl rfl ?_
  refine K_iconst (q := 59) (v := nI 0) dX1_become_58 rfl rfl ?_
  refine K_aload_n (q := 60) 0 dX1_become_59 rfl rfl rfl ?_
  refine K_getR (q := 63) (ci := 0) (a2 := t + 4) 4 dX1_become_60 fRX1_21 rfl rfl (by decide) rfl rfl ?_
  refine K_iconst (q := 64) (v := nI 0) dX1_become_63 rfl rfl ?_
  refine K_aload_n (q := 65) 0 dX1_become_64 rfl rfl rfl ?_
  refine K_getR (q := 68) (ci := 0) (a2 := t + 4) 4 dX1_become_65 fRX1_21 rfl rfl (by decide) rfl rfl ?_
  refine K_alen (q := 69) (v := (nI 48)) dX1_become_68 rfl rfl ?_
  refine K_acopy (q := 72) dX1_become_69 (j_in 569 (by decide +kernel) (by decide +kernel)) ac_nat ac_stat ac_ini (by decide) (Nat.le_of_ble_eq_true rfl) rfl (fun M4 => ?_)
  refine K_aload_n (q := 73) 1 dX1_become_72 rfl rfl rfl ?_
  refine K_getR (q := 76) (ci := 0) (a2 := u1 + 5) 5 dX1_become_73 fRX1_24 rfl rfl (by decide) rfl rfl ?_
  refine K_iconst (q := 77) (v := nI 0) dX1_become_76 rfl rfl ?_
  refine K_aload_n (q := 78) 0 dX1_become_77 rfl rfl rfl ?_
  refine K_getR (q := 81) (ci := 0) (a2 := t + 5) 5 dX1_become_78 fRX1_24 rfl rfl (by decide) rfl rfl ?_
  refine K_iconst (q := 82) (v := nI 0) dX1_become_81 rfl rfl ?_
  refine K_bipush (q := 84) (v := nI 6) dX1_become_82 rfl rfl ?_
  refine K_acopy (q := 87) dX1_become_84 (j_in 569 (by decide +kernel) (by decide +kernel)) ac_nat ac_stat ac_ini (by decide) (Nat.le_of_ble_eq_true rfl) rfl (fun M5 => ?_)
  refine K_aload_n (q := 88) 1 dX1_become_87 rfl rfl rfl ?_
  refine K_getR (q := 91) (ci := 0) (a2 := u1 + 6) 6 dX1_become_88 fRX1_27 rfl rfl (by decide) rfl rfl ?_
  refine K_iconst (q := 92) (v := nI 0) dX1_become_91 rfl rfl ?_
  refine K_aload_n (q := 93) 0 dX1_become_92 rfl rfl rfl ?_
  refine K_getR (q := 96) (ci := 0) (a2 := t + 6) 6 dX1_become_93 fRX1_27 rfl rfl (by decide) rfl rfl ?_
  refine K_iconst (q := 97) (v := nI 0) dX1_become_96 rfl rfl ?_
  refine K_bipush (q := 99) (v := nI 6) dX1_become_97 rfl rfl ?_
  refine K_acopy (q := 102) dX1_become_99 (j_in 569 (by decide +kernel) (by decide +kernel)) ac_nat ac_stat ac_ini (by decide) (Nat.le_of_ble_eq_true rfl) rfl (fun M6 => ?_)
  refine K_aload_n (q := 103) 1 dX1_become_102 rfl rfl rfl ?_
  refine K_getR (q := 106) (ci := 0) (a2 := u1 + 7) 7 dX1_become_103 fRX1_30 rfl rfl (by decide) rfl rfl ?_
  refine K_iconst (q := 107) (v := nI 0) dX1_become_106 rfl rfl ?_
  refine K_aload_n (q := 108) 0 dX1_become_107 rfl rfl rfl ?_
  refine K_getR (q := 111) (ci := 0) (a2 := t + 7) 7 dX1_become_108 fRX1_30 rfl rfl (by decide) rfl rfl ?_
  refine K_iconst (q := 112) (v := nI 0) dX1_become_111 rfl rfl ?_
  refine K_bipush (q := 114) (v := nI 6) dX1_become_112 rfl rfl ?_
  refine K_acopy (q := 117) dX1_become_114 (j_in 569 (by decide +kernel) (by decide +kernel)) ac_nat ac_stat ac_ini (by decide) (Nat.le_of_ble_eq_true rfl) rfl (fun M7 => ?_)
  refine K_aload_n (q := 118) 0 dX1_become_117 rfl rfl rfl ?_
  refine K_aload_n (q := 119) 1 dX1_become_118 rfl rfl rfl ?_
  refine K_getI (q := 122) (ci := 0) 8 dX1_become_119 fRX1_64 rfl rfl rfl (fun v8 => ?_)
  refine K_putI (q := 125) (ci := 0) 8 dX1_become_122 fRX1_64 fp_0_8 rfl rfl (by decide) rfl (fun M9 => ?_)
  refine K_aload_n (q := 126) 0 dX1_become_125 rfl rfl rfl ?_
  refine K_aload_n (q := 127) 1 dX1_become_126 rfl rfl rfl ?_
  refine K_getI (q := 130) (ci := 0) 9 dX1_become_127 fRX1_33 rfl rfl rfl (fun v10 => ?_)
  refine K_putI (q := 133) (ci := 0) 9 dX1_become_130 fRX1_33 fp_0_9 rfl rfl (by decide) rfl (fun M11 => ?_)
  refine K_aload_n (q := 134) 0 dX1_become_133 rfl rfl rfl ?_
  refine K_aload_n (q := 135) 1 dX1_become_134 rfl rfl rfl ?_
  refine K_getI (q := 138) (ci := 0) 10 dX1_become_135 fRX1_37 rfl rfl rfl (fun v12 => ?_)
  refine K_putI (q := 141) (ci := 0) 10 dX1_become_138 fRX1_37 fp_0_10 rfl rfl (by decide) rfl (fun M13 => ?_)
  refine K_aload_n (q := 142) 0 dX1_become_141 rfl rfl rfl ?_
  refine K_aload_n (q := 143) 1 dX1_become_142 rfl rfl rfl ?_
  refine K_getI (q := 146) (ci := 0) 11 dX1_become_143 fRX1_40 rfl rfl rfl (fun v14 => ?_)
  refine K_putI (q := 149) (ci := 0) 11 dX1_become_146 fRX1_40 fp_0_11 rfl rfl (by decide) rfl (fun M15 => ?_)
  refine K_aload_n (q := 150) 0 dX1_become_149 rfl rfl rfl ?_
  refine K_aload_n (q := 151) 1 dX1_become_150 rfl rfl rfl ?_
  refine K_getI (q := 154) (ci := 0) 12 dX1_become_151 fRX1_67 rfl rfl rfl (fun v16 => ?_)
  refine K_putI (q := 157) (ci := 0) 12 dX1_become_154 fRX1_67 fp_0_12 rfl rfl (by decide) rfl (fun M17 => ?_)
  refine K_aload_n (q := 158) 0 dX1_become_157 rfl rfl rfl ?_
  refine K_aload_n (q := 159) 1 dX1_become_158 rfl rfl rfl ?_
  refine K_getI (q := 162) (ci := 0) 13 dX1_become_159 fRX1_43 rfl rfl rfl (fun v18 => ?_)
  refine K_putI (q := 165) (ci := 0) 13 dX1_become_162 fRX1_43 fp_0_13 rfl rfl (by decide) rfl (fun M19 => ?_)
  refine K_aload_n (q := 166) 0 dX1_become_165 rfl rfl rfl ?_
  refine K_aload_n (q := 167) 1 dX1_become_166 rfl rfl rfl ?_
  refine K_getI (q := 170) (ci := 0) 14 dX1_become_167 fRX1_70 rfl rfl rfl (fun v20 => ?_)
  refine K_putI (q := 173) (ci := 0) 14 dX1_become_170 fRX1_70 fp_0_14 rfl rfl (by decide) rfl (fun M21 => ?_)
  exact J_vret dX1_become_173
theorem dX1_allTokensOnWay_0 : decode cX1_allTokensOnWay 0 = .ok (.iconst 0, 1) := by decide +kernel
theorem dX1_allTokensOnWay_1 : decode cX1_allTokensOnWay 1 = .ok (.istore_n 1, 1) := by decide +kernel
theorem dX1_allTokensOnWay_2 : decode cX1_allTokensOnWay 2 = .ok (.iconst 0, 1) := by decide +kernel
theorem dX1_allTokensOnWay_3 : decode cX1_allTokensOnWay 3 = .ok (.istore_n 2, 1) := by decide +kernel
theorem dX1_allTokensOnWay_4 : decode cX1_allTokensOnWay 4 = .ok (.iload_n 2, 1) := by decide +kernel
theorem dX1_allTokensOnWay_5 : decode cX1_allTokensOnWay 5 = .ok (.aload_n 0, 1) := by decide +kernel
theorem dX1_allTokensOnWay_6 : decode cX1_allTokensOnWay 6 = .ok (.getfield 64, 3) := by decide +kernel
theorem dX1_allTokensOnWay_9 : decode cX1_allTokensOnWay 9 = .ok (.if_icmp .ge 22, 3) := by decide +kernel
theorem dX1_allTokensOnWay_12 : decode cX1_allTokensOnWay 12 = .ok (.iload_n 1, 1) := by decide +kernel
theorem dX1_allTokensOnWay_13 : decode cX1_allTokensOnWay 13 = .ok (.aload_n 0, 1) := by decide +kernel
theorem dX1_allTokensOnWay_14 : decode cX1_allTokensOnWay 14 = .ok (.getfield 15, 3) := by decide +kernel
theorem dX1_allTokensOnWay_17 : decode cX1_allTokensOnWay 17 = .ok (.iload_n 2, 1) := by decide +kernel
theorem dX1_allTokensOnWay_18 : decode cX1_allTokensOnWay 18 = .ok (.iaload, 1) := by decide +kernel
theorem dX1_allTokensOnWay_19 : decode cX1_allTokensOnWay 19 = .ok (.iconst 4, 1) := by decide +kernel
theorem dX1_allTokensOnWay_20 : decode cX1_allTokensOnWay 20 = .ok (.invokestatic 288, 3) := by decide +kernel
theorem dX1_allTokensOnWay_23 : decode cX1_allTokensOnWay 23 = .ok (.iadd, 1) := by decide +kernel
theorem dX1_allTokensOnWay_24 : decode cX1_allTokensOnWay 24 = .ok (.istore_n 1, 1) := by decide +kernel
theorem dX1_allTokensOnWay_25 : decode cX1_allTokensOnWay 25 = .ok (.iinc 2 1, 3) := by decide +kernel
theorem dX1_allTokensOnWay_28 : decode cX1_allTokensOnWay 28 = .ok (.goto (-24), 3) := by decide +kernel
theorem dX1_allTokensOnWay_31 : decode cX1_allTokensOnWay 31 = .ok (.iload_n 1, 1) := by decide +kernel
theorem dX1_allTokensOnWay_32 : decode cX1_allTokensOnWay 32 = .ok (.ireturn, 1) := by decide +kernel
def xX1_allTokensOnWay_4  (t : Nat) : Nat → Int32 → Int32 → j_M → Option (Int32 × j_M)
  | 0, _, _, _ => none
  | n + 1, l1, l2, M => oli (M t 8) fun v1 => (if v1 ≤ l2 then some (l1, M) else gd l2 256 (oli (M (t + 2) (ix l2)) fun v2 => obi (xX4_inside v2 (nI 4) M) fun v4 M3 => xX1_allTokensOnWay_4 t n (l1 + v4) (l2 + (nI 1)) M3))
set_option maxRecDepth 20000 in
set_option maxHeartbeats 2000000 in
theorem tX1_allTokensOnWay_4  (t : Nat)  : ∀ (n : Nat) (l1 : Int32) (l2 : Int32) (M : j_M), J (ρ := Int32 × j_M) yX1_allTokensOnWay cX1_allTokensOnWay 3 (some .int) 2 45 j_ei 4 [(0, .inr (10, 0, t)), (1, .inl (l1)), (2, .inl (l2))] [] M (xX1_allTokensOnWay_4 t n l1 l2 M) := by
  intro n
  induction n with
  | zero => intros; exact J_none
  | succ n ih =>
    intro l1 l2 M
    rw [xX1_allTokensOnWay_4.eq_2]
    refine K_iload_n (q := 5) 2 dX1_allTokensOnWay_4 rfl rfl rfl ?_
    refine K_aload_n (q := 6) 0 dX1_allTokensOnWay_5 rfl rfl rfl ?_
    refine K_getI (q := 9) (ci := 0) 8 dX1_allTokensOnWay_6 fRX1_64 rfl rfl rfl (fun v1 => ?_)
    refine K_icmp_ge (q := 12) (tgt := 31) dX1_allTokensOnWay_9 rfl ?_ rfl ?_
    · refine K_iload_n (q := 32) 1 dX1_allTokensOnWay_31 rfl rfl rfl ?_
      exact J_iret dX1_allTokensOnWay_32
    · refine K_iload_n (q := 13) 1 dX1_allTokensOnWay_12 rfl rfl rfl ?_
      refine K_aload_n (q := 14) 0 dX1_allTokensOnWay_13 rfl rfl rfl ?_
      refine K_getR (q := 17) (ci := 0) (a2 := t + 2) 2 dX1_allTokensOnWay_14 fRX1_15 rfl rfl (by decide) rfl rfl ?_
      refine K_iload_n (q := 18) 2 dX1_allTokensOnWay_17 rfl rfl rfl ?_
      refine K_iald (q := 19) dX1_allTokensOnWay_18 rfl (fun v2 => ?_)
      refine K_iconst (q := 20) (v := nI 4) dX1_allTokensOnWay_19 rfl rfl ?_
      refine K_csi (q := 23) [.inl (v2), .inl ((nI 4))] dX1_allTokensOnWay_20 cb_X4_inside cvRX1_288 rfl (Nat.le_of_ble_eq_true rfl) ⟨by decide, by decide⟩ (Nat.le_of_ble_eq_true rfl) rfl (tX4_inside v2 (nI 4) M) rfl (fun v4 M3 => ?_)
      refine K_iadd (q := 24) dX1_allTokensOnWay_23 rfl ?_
      refine K_istore_n (q := 25) (ll' := [(1, .inl (l1 + v4)), (0, .inr (10, 0, t)), (2, .inl (l2))]) dX1_allTokensOnWay_24 rfl (by decide) rfl rfl ?_
      refine K_iinc (q := 28) (v := l2 + (nI 1)) (ll' := [(2, .inl (l2 + (nI 1))), (1, .inl (l1 + v4)), (0, .inr (10, 0, t))]) 2 dX1_allTokensOnWay_25 rfl rfl (by decide) rfl rfl ?_
      refine J_goto (tgt := 4) dX1_allTokensOnWay_28 rfl ?_
      exact J_sub [2, 1, 0] (ih (l1 + v4) (l2 + (nI 1)) M3) rfl
def xX1_allTokensOnWay (t : Nat)  (M : j_M) : Option (Int32 × j_M) := xX1_allTokensOnWay_4 t fu (nI 0) (nI 0) M
set_option maxRecDepth 20000 in
set_option maxHeartbeats 2000000 in
theorem tX1_allTokensOnWay (t : Nat)  (M : j_M) : J (ρ := Int32 × j_M) yX1_allTokensOnWay cX1_allTokensOnWay 3 (some .int) 2 45 j_ei 0 [(0, .inr (10, 0, t))] [] M (xX1_allTokensOnWay t  M) := by
  unfold xX1_allTokensOnWay
  refine K_iconst (q := 1) (v := nI 0) dX1_allTokensOnWay_0 rfl rfl ?_
  refine K_istore_n (q := 2) (ll' := [(1, .inl ((nI 0))), (0, .inr (10, 0, t))]) dX1_allTokensOnWay_1 rfl (by decide) rfl rfl ?_
  refine K_iconst (q := 3) (v := nI 0) dX1_allTokensOnWay_2 rfl rfl ?_
  refine K_istore_n (q := 4) (ll' := [(2, .inl ((nI 0))), (1, .inl ((nI 0))), (0, .inr (10, 0, t))]) dX1_allTokensOnWay_3 rfl (by decide) rfl rfl ?_
  exact J_sub [2, 1, 0] (tX1_allTokensOnWay_4 t fu (nI 0) (nI 0) M) rfl
theorem dX1_howManyMiss_0 : decode cX1_howManyMiss 0 = .ok (.iconst 0, 1) := by decide +kernel
theorem dX1_howManyMiss_1 : decode cX1_howManyMiss 1 = .ok (.istore_n 1, 1) := by decide +kernel
theorem dX1_howManyMiss_2 : decode cX1_howManyMiss 2 = .ok (.iconst 0, 1) := by decide +kernel
theorem dX1_howManyMiss_3 : decode cX1_howManyMiss 3 = .ok (.istore_n 2, 1) := by decide +kernel
theorem dX1_howManyMiss_4 : decode cX1_howManyMiss 4 = .ok (.iload_n 2, 1) := by decide +kernel
theorem dX1_howManyMiss_5 : decode cX1_howManyMiss 5 = .ok (.aload_n 0, 1) := by decide +kernel
theorem dX1_howManyMiss_6 : decode cX1_howManyMiss 6 = .ok (.getfield 33, 3) := by decide +kernel
theorem dX1_howManyMiss_9 : decode cX1_howManyMiss 9 = .ok (.if_icmp .ge 20, 3) := by decide +kernel
theorem dX1_howManyMiss_12 : decode cX1_howManyMiss 12 = .ok (.aload_n 0, 1) := by decide +kernel
theorem dX1_howManyMiss_13 : decode cX1_howManyMiss 13 = .ok (.iload_n 2, 1) := by decide +kernel
theorem dX1_howManyMiss_14 : decode cX1_howManyMiss 14 = .ok (.invokevirtual 85, 3) := by decide +kernel
theorem dX1_howManyMiss_17 : decode cX1_howManyMiss 17 = .ok (.ifCond .eq 6, 3) := by decide +kernel
theorem dX1_howManyMiss_20 : decode cX1_howManyMiss 20 = .ok (.iinc 1 1, 3) := by decide +kernel
theorem dX1_howManyMiss_23 : decode cX1_howManyMiss 23 = .ok (.iinc 2 1, 3) := by decide +kernel
theorem dX1_howManyMiss_26 : decode cX1_howManyMiss 26 = .ok (.goto (-22), 3) := by decide +kernel
theorem dX1_howManyMiss_29 : decode cX1_howManyMiss 29 = .ok (.iload_n 1, 1) := by decide +kernel
theorem dX1_howManyMiss_30 : decode cX1_howManyMiss 30 = .ok (.ireturn, 1) := by decide +kernel
def xX1_howManyMiss_4  (t : Nat) : Nat → Int32 → Int32 → j_M → Option (Int32 × j_M)
  | 0, _, _, _ => none
  | n + 1, l1, l2, M => oli (M t 9) fun v1 => (if v1 ≤ l2 then some (l1, M) else obi (xX1_missOf t l2 M) fun v3 M2 => (if v3 = (0 : Int32) then xX1_howManyMiss_4 t n l1 (l2 + (nI 1)) M2 else xX1_howManyMiss_4 t n (l1 + (nI 1)) (l2 + (nI 1)) M2))
set_option maxRecDepth 20000 in
set_option maxHeartbeats 2000000 in
theorem tX1_howManyMiss_4  (t : Nat)  : ∀ (n : Nat) (l1 : Int32) (l2 : Int32) (M : j_M), J (ρ := Int32 × j_M) yX1_howManyMiss cX1_howManyMiss 3 (some .int) 2 41 j_ei 4 [(0, .inr (10, 0, t)), (1, .inl (l1)), (2, .inl (l2))] [] M (xX1_howManyMiss_4 t n l1 l2 M) := by
  intro n
  induction n with
  | zero => intros; exact J_none
  | succ n ih =>
    intro l1 l2 M
    rw [xX1_howManyMiss_4.eq_2]
    refine K_iload_n (q := 5) 2 dX1_howManyMiss_4 rfl rfl rfl ?_
    refine K_aload_n (q := 6) 0 dX1_howManyMiss_5 rfl rfl rfl ?_
    refine K_getI (q := 9) (ci := 0) 9 dX1_howManyMiss_6 fRX1_33 rfl rfl rfl (fun v1 => ?_)
    refine K_icmp_ge (q := 12) (tgt := 29) dX1_howManyMiss_9 rfl ?_ rfl ?_
    · refine K_iload_n (q := 30) 1 dX1_howManyMiss_29 rfl rfl rfl ?_
      exact J_iret dX1_howManyMiss_30
    · refine K_aload_n (q := 13) 0 dX1_howManyMiss_12 rfl rfl rfl ?_
      refine K_iload_n (q := 14) 2 dX1_howManyMiss_13 rfl rfl rfl ?_
      refine K_cvi (q := 17) [.inl (l2)] dX1_howManyMiss_14 cb_X1_missOf cvRX1_85 rc_0 (show (10 : Nat) ≠ 0 by decide) rfl (Nat.le_of_ble_eq_true rfl) ⟨by decide, by decide⟩ (Nat.le_of_ble_eq_true rfl) rfl (tX1_missOf t l2 M) rfl (fun v3 M2 => ?_)
      refine K_if_eq (q := 20) (tgt := 23) dX1_howManyMiss_17 rfl ?_ rfl ?_
      · refine K_iinc (q := 26) (v := l2 + (nI 1)) (ll' := [(2, .inl (l2 + (nI 1))), (0, .inr (10, 0, t)), (1, .inl (l1))]) 2 dX1_howManyMiss_23 rfl rfl (by decide) rfl rfl ?_
        refine J_goto (tgt := 4) dX1_howManyMiss_26 rfl ?_
        exact J_sub [1, 2, 0] (ih l1 (l2 + (nI 1)) M2) rfl
      · refine K_iinc (q := 23) (v := l1 + (nI 1)) (ll' := [(1, .inl (l1 + (nI 1))), (0, .inr (10, 0, t)), (2, .inl (l2))]) 1 dX1_howManyMiss_20 rfl rfl (by decide) rfl rfl ?_
        refine K_iinc (q := 26) (v := l2 + (nI 1)) (ll' := [(2, .inl (l2 + (nI 1))), (1, .inl (l1 + (nI 1))), (0, .inr (10, 0, t))]) 2 dX1_howManyMiss_23 rfl rfl (by decide) rfl rfl ?_
        refine J_goto (tgt := 4) dX1_howManyMiss_26 rfl ?_
        exact J_sub [2, 1, 0] (ih (l1 + (nI 1)) (l2 + (nI 1)) M2) rfl
def xX1_howManyMiss (t : Nat)  (M : j_M) : Option (Int32 × j_M) := xX1_howManyMiss_4 t fu (nI 0) (nI 0) M
set_option maxRecDepth 20000 in
set_option maxHeartbeats 2000000 in
theorem tX1_howManyMiss (t : Nat)  (M : j_M) : J (ρ := Int32 × j_M) yX1_howManyMiss cX1_howManyMiss 3 (some .int) 2 41 j_ei 0 [(0, .inr (10, 0, t))] [] M (xX1_howManyMiss t  M) := by
  unfold xX1_howManyMiss
  refine K_iconst (q := 1) (v := nI 0) dX1_howManyMiss_0 rfl rfl ?_
  refine K_istore_n (q := 2) (ll' := [(1, .inl ((nI 0))), (0, .inr (10, 0, t))]) dX1_howManyMiss_1 rfl (by decide) rfl rfl ?_
  refine K_iconst (q := 3) (v := nI 0) dX1_howManyMiss_2 rfl rfl ?_
  refine K_istore_n (q := 4) (ll' := [(2, .inl ((nI 0))), (1, .inl ((nI 0))), (0, .inr (10, 0, t))]) dX1_howManyMiss_3 rfl (by decide) rfl rfl ?_
  exact J_sub [2, 1, 0] (tX1_howManyMiss_4 t fu (nI 0) (nI 0) M) rfl
theorem dX1_figure_0 : decode cX1_figure 0 = .ok (.iload_n 1, 1) := by decide +kernel
theorem dX1_figure_1 : decode cX1_figure 1 = .ok (.tableswitch 111 0 13 #[71, 76, 81, 86, 91, 96, 101, 111, 111, 111, 111, 111, 111, 106], 71) := by decide +kernel
theorem dX1_figure_72 : decode cX1_figure 72 = .ok (.aload_n 0, 1) := by decide +kernel
theorem dX1_figure_73 : decode cX1_figure 73 = .ok (.getfield 33, 3) := by decide +kernel
theorem dX1_figure_76 : decode cX1_figure 76 = .ok (.ireturn, 1) := by decide +kernel
theorem dX1_figure_77 : decode cX1_figure 77 = .ok (.aload_n 0, 1) := by decide +kernel
theorem dX1_figure_78 : decode cX1_figure 78 = .ok (.getfield 37, 3) := by decide +kernel
theorem dX1_figure_81 : decode cX1_figure 81 = .ok (.ireturn, 1) := by decide +kernel
theorem dX1_figure_82 : decode cX1_figure 82 = .ok (.aload_n 0, 1) := by decide +kernel
theorem dX1_figure_83 : decode cX1_figure 83 = .ok (.getfield 40, 3) := by decide +kernel
theorem dX1_figure_86 : decode cX1_figure 86 = .ok (.ireturn, 1) := by decide +kernel
theorem dX1_figure_87 : decode cX1_figure 87 = .ok (.aload_n 0, 1) := by decide +kernel
theorem dX1_figure_88 : decode cX1_figure 88 = .ok (.getfield 67, 3) := by decide +kernel
theorem dX1_figure_91 : decode cX1_figure 91 = .ok (.ireturn, 1) := by decide +kernel
theorem dX1_figure_92 : decode cX1_figure 92 = .ok (.aload_n 0, 1) := by decide +kernel
theorem dX1_figure_93 : decode cX1_figure 93 = .ok (.getfield 43, 3) := by decide +kernel
theorem dX1_figure_96 : decode cX1_figure 96 = .ok (.ireturn, 1) := by decide +kernel
theorem dX1_figure_97 : decode cX1_figure 97 = .ok (.aload_n 0, 1) := by decide +kernel
theorem dX1_figure_98 : decode cX1_figure 98 = .ok (.getfield 70, 3) := by decide +kernel
theorem dX1_figure_101 : decode cX1_figure 101 = .ok (.ireturn, 1) := by decide +kernel
theorem dX1_figure_102 : decode cX1_figure 102 = .ok (.aload_n 0, 1) := by decide +kernel
theorem dX1_figure_103 : decode cX1_figure 103 = .ok (.getfield 64, 3) := by decide +kernel
theorem dX1_figure_106 : decode cX1_figure 106 = .ok (.ireturn, 1) := by decide +kernel
theorem dX1_figure_107 : decode cX1_figure 107 = .ok (.aload_n 0, 1) := by decide +kernel
theorem dX1_figure_108 : decode cX1_figure 108 = .ok (.invokevirtual 294, 3) := by decide +kernel
theorem dX1_figure_111 : decode cX1_figure 111 = .ok (.ireturn, 1) := by decide +kernel
theorem dX1_figure_112 : decode cX1_figure 112 = .ok (.aload_n 0, 1) := by decide +kernel
theorem dX1_figure_113 : decode cX1_figure 113 = .ok (.invokevirtual 297, 3) := by decide +kernel
theorem dX1_figure_116 : decode cX1_figure 116 = .ok (.ireturn, 1) := by decide +kernel
def xX1_figure (t : Nat) (l1 : Int32) (M : j_M) : Option (Int32 × j_M) := osw l1 [((nI 0), oli (M t 9) fun v1 => some (v1, M)), ((nI 1), oli (M t 10) fun v2 => some (v2, M)), ((nI 2), oli (M t 11) fun v3 => some (v3, M)), ((nI 3), oli (M t 12) fun v4 => some (v4, M)), ((nI 4), oli (M t 13) fun v5 => some (v5, M)), ((nI 5), oli (M t 14) fun v6 => some (v6, M)), ((nI 6), oli (M t 8) fun v7 => some (v7, M)), ((nI 7), obi (xX1_howManyMiss t M) fun v9 M8 => some (v9, M8)), ((nI 8), obi (xX1_howManyMiss t M) fun v11 M10 => some (v11, M10)), ((nI 9), obi (xX1_howManyMiss t M) fun v13 M12 => some (v13, M12)), ((nI 10), obi (xX1_howManyMiss t M) fun v15 M14 => some (v15, M14)), ((nI 11), obi (xX1_howManyMiss t M) fun v17 M16 => some (v17, M16)), ((nI 12), obi (xX1_howManyMiss t M) fun v19 M18 => some (v19, M18)), ((nI 13), obi (xX1_allTokensOnWay t M) fun v21 M20 => some (v21, M20))] (obi (xX1_howManyMiss t M) fun v23 M22 => some (v23, M22))
set_option maxRecDepth 20000 in
set_option maxHeartbeats 2000000 in
theorem tX1_figure (t : Nat) (l1 : Int32) (M : j_M) : J (ρ := Int32 × j_M) yX1_figure cX1_figure 2 (some .int) 3 67 j_ei 0 [(0, .inr (10, 0, t)), (1, .inl (l1))] [] M (xX1_figure t l1 M) := by
  unfold xX1_figure
  refine K_iload_n (q := 1) 1 dX1_figure_0 rfl rfl rfl ?_
  refine K_tsw (dt := 112) [72, 77, 82, 87, 92, 97, 102, 112, 112, 112, 112, 112, 112, 107] dX1_figure_1 rfl rfl rfl rfl ⟨?_, ?_, ?_, ?_, ?_, ?_, ?_, ?_, ?_, ?_, ?_, ?_, ?_, ?_, trivial⟩ ?_
  · refine K_aload_n (q := 73) 0 dX1_figure_72 rfl rfl rfl ?_
    refine K_getI (q := 76) (ci := 0) 9 dX1_figure_73 fRX1_33 rfl rfl rfl (fun v1 => ?_)
    exact J_iret dX1_figure_76
  · refine K_aload_n (q := 78) 0 dX1_figure_77 rfl rfl rfl ?_
    refine K_getI (q := 81) (ci := 0) 10 dX1_figure_78 fRX1_37 rfl rfl rfl (fun v2 => ?_)
    exact J_iret dX1_figure_81
  · refine K_aload_n (q := 83) 0 dX1_figure_82 rfl rfl rfl ?_
    refine K_getI (q := 86) (ci := 0) 11 dX1_figure_83 fRX1_40 rfl rfl rfl (fun v3 => ?_)
    exact J_iret dX1_figure_86
  · refine K_aload_n (q := 88) 0 dX1_figure_87 rfl rfl rfl ?_
    refine K_getI (q := 91) (ci := 0) 12 dX1_figure_88 fRX1_67 rfl rfl rfl (fun v4 => ?_)
    exact J_iret dX1_figure_91
  · refine K_aload_n (q := 93) 0 dX1_figure_92 rfl rfl rfl ?_
    refine K_getI (q := 96) (ci := 0) 13 dX1_figure_93 fRX1_43 rfl rfl rfl (fun v5 => ?_)
    exact J_iret dX1_figure_96
  · refine K_aload_n (q := 98) 0 dX1_figure_97 rfl rfl rfl ?_
    refine K_getI (q := 101) (ci := 0) 14 dX1_figure_98 fRX1_70 rfl rfl rfl (fun v6 => ?_)
    exact J_iret dX1_figure_101
  · refine K_aload_n (q := 103) 0 dX1_figure_102 rfl rfl rfl ?_
    refine K_getI (q := 106) (ci := 0) 8 dX1_figure_103 fRX1_64 rfl rfl rfl (fun v7 => ?_)
    exact J_iret dX1_figure_106
  · refine K_aload_n (q := 113) 0 dX1_figure_112 rfl rfl rfl ?_
    refine K_cvi (q := 116) [] dX1_figure_113 cb_X1_howManyMiss cvRX1_297 rc_0 (show (10 : Nat) ≠ 0 by decide) rfl (Nat.le_of_ble_eq_true rfl) ⟨by decide, by decide⟩ (Nat.le_of_ble_eq_true rfl) rfl (tX1_howManyMiss t M) rfl (fun v9 M8 => ?_)
    exact J_iret dX1_figure_116
  · refine K_aload_n (q := 113) 0 dX1_figure_112 rfl rfl rfl ?_
    refine K_cvi (q := 116) [] dX1_figure_113 cb_X1_howManyMiss cvRX1_297 rc_0 (show (10 : Nat) ≠ 0 by decide) rfl (Nat.le_of_ble_eq_true rfl) ⟨by decide, by decide⟩ (Nat.le_of_ble_eq_true rfl) rfl (tX1_howManyMiss t M) rfl (fun v11 M10 => ?_)
    exact J_iret dX1_figure_116
  · refine K_aload_n (q := 113) 0 dX1_figure_112 rfl rfl rfl ?_
    refine K_cvi (q := 116) [] dX1_figure_113 cb_X1_howManyMiss cvRX1_297 rc_0 (show (10 : Nat) ≠ 0 by decide) rfl (Nat.le_of_ble_eq_true rfl) ⟨by decide, by decide⟩ (Nat.le_of_ble_eq_true rfl) rfl (tX1_howManyMiss t M) rfl (fun v13 M12 => ?_)
    exact J_iret dX1_figure_116
  · refine K_aload_n (q := 113) 0 dX1_figure_112 rfl rfl rfl ?_
    refine K_cvi (q := 116) [] dX1_figure_113 cb_X1_howManyMiss cvRX1_297 rc_0 (show (10 : Nat) ≠ 0 by decide) rfl (Nat.le_of_ble_eq_true rfl) ⟨by decide, by decide⟩ (Nat.le_of_ble_eq_true rfl) rfl (tX1_howManyMiss t M) rfl (fun v15 M14 => ?_)
    exact J_iret dX1_figure_116
  · refine K_aload_n (q := 113) 0 dX1_figure_112 rfl rfl rfl ?_
    refine K_cvi (q := 116) [] dX1_figure_113 cb_X1_howManyMiss cvRX1_297 rc_0 (show (10 : Nat) ≠ 0 by decide) rfl (Nat.le_of_ble_eq_true rfl) ⟨by decide, by decide⟩ (Nat.le_of_ble_eq_true rfl) rfl (tX1_howManyMiss t M) rfl (fun v17 M16 => ?_)
    exact J_iret dX1_figure_116
  · refine K_aload_n (q := 113) 0 dX1_figure_112 rfl rfl rfl ?_
    refine K_cvi (q := 116) [] dX1_figure_113 cb_X1_howManyMiss cvRX1_297 rc_0 (show (10 : Nat) ≠ 0 by decide) rfl (Nat.le_of_ble_eq_true rfl) ⟨by decide, by decide⟩ (Nat.le_of_ble_eq_true rfl) rfl (tX1_howManyMiss t M) rfl (fun v19 M18 => ?_)
    exact J_iret dX1_figure_116
  · refine K_aload_n (q := 108) 0 dX1_figure_107 rfl rfl rfl ?_
    refine K_cvi (q := 111) [] dX1_figure_108 cb_X1_allTokensOnWay cvRX1_294 rc_0 (show (10 : Nat) ≠ 0 by decide) rfl (Nat.le_of_ble_eq_true rfl) ⟨by decide, by decide⟩ (Nat.le_of_ble_eq_true rfl) rfl (tX1_allTokensOnWay t M) rfl (fun v21 M20 => ?_)
    exact J_iret dX1_figure_111
  · refine K_aload_n (q := 113) 0 dX1_figure_112 rfl rfl rfl ?_
    refine K_cvi (q := 116) [] dX1_figure_113 cb_X1_howManyMiss cvRX1_297 rc_0 (show (10 : Nat) ≠ 0 by decide) rfl (Nat.le_of_ble_eq_true rfl) ⟨by decide, by decide⟩ (Nat.le_of_ble_eq_true rfl) rfl (tX1_howManyMiss t M) rfl (fun v23 M22 => ?_)
    exact J_iret dX1_figure_116
theorem dX1_deliverMany_0 : decode cX1_deliverMany 0 = .ok (.iconst 0, 1) := by decide +kernel
theorem dX1_deliverMany_1 : decode cX1_deliverMany 1 = .ok (.istore_n 3, 1) := by decide +kernel
theorem dX1_deliverMany_2 : decode cX1_deliverMany 2 = .ok (.iload_n 3, 1) := by decide +kernel
theorem dX1_deliverMany_3 : decode cX1_deliverMany 3 = .ok (.iload_n 1, 1) := by decide +kernel
theorem dX1_deliverMany_4 : decode cX1_deliverMany 4 = .ok (.if_icmp .ge 35, 3) := by decide +kernel
theorem dX1_deliverMany_7 : decode cX1_deliverMany 7 = .ok (.aload_n 0, 1) := by decide +kernel
theorem dX1_deliverMany_8 : decode cX1_deliverMany 8 = .ok (.getfield 64, 3) := by decide +kernel
theorem dX1_deliverMany_11 : decode cX1_deliverMany 11 = .ok (.ifCond .le 28, 3) := by decide +kernel
theorem dX1_deliverMany_14 : decode cX1_deliverMany 14 = .ok (.aload_n 0, 1) := by decide +kernel
theorem dX1_deliverMany_15 : decode cX1_deliverMany 15 = .ok (.iload_n 2, 1) := by decide +kernel
theorem dX1_deliverMany_16 : decode cX1_deliverMany 16 = .ok (.ifCond .eq 12, 3) := by decide +kernel
theorem dX1_deliverMany_19 : decode cX1_deliverMany 19 = .ok (.aload_n 0, 1) := by decide +kernel
theorem dX1_deliverMany_20 : decode cX1_deliverMany 20 = .ok (.getfield 64, 3) := by decide +kernel
theorem dX1_deliverMany_23 : decode cX1_deliverMany 23 = .ok (.iconst 1, 1) := by decide +kernel
theorem dX1_deliverMany_24 : decode cX1_deliverMany 24 = .ok (.isub, 1) := by decide +kernel
theorem dX1_deliverMany_25 : decode cX1_deliverMany 25 = .ok (.goto 4, 3) := by decide +kernel
theorem dX1_deliverMany_28 : decode cX1_deliverMany 28 = .ok (.iconst 0, 1) := by decide +kernel
theorem dX1_deliverMany_29 : decode cX1_deliverMany 29 = .ok (.invokevirtual 192, 3) := by decide +kernel
theorem dX1_deliverMany_32 : decode cX1_deliverMany 32 = .ok (.pop, 1) := by decide +kernel
theorem dX1_deliverMany_33 : decode cX1_deliverMany 33 = .ok (.iinc 3 1, 3) := by decide +kernel
theorem dX1_deliverMany_36 : decode cX1_deliverMany 36 = .ok (.goto (-34), 3) := by decide +kernel
theorem dX1_deliverMany_39 : decode cX1_deliverMany 39 = .ok (.iload_n 3, 1) := by decide +kernel
theorem dX1_deliverMany_40 : decode cX1_deliverMany 40 = .ok (.ireturn, 1) := by decide +kernel
def xX1_deliverMany_29 (k2 : Int32 → Int32 → Int32 → j_M → Option (Int32 × j_M)) (t : Nat) (l1 : Int32) (l2 : Int32) (l3 : Int32) (s0 : Int32) (M : j_M) : Option (Int32 × j_M) := obi (xX1_deliverAt t s0 M) fun v2 M1 => k2 l1 l2 (l3 + (nI 1)) M1
set_option maxRecDepth 20000 in
set_option maxHeartbeats 2000000 in
theorem tX1_deliverMany_29 (k2 : Int32 → Int32 → Int32 → j_M → Option (Int32 × j_M)) (t : Nat) (hk2 : ∀ (l1 : Int32) (l2 : Int32) (l3 : Int32) (M : j_M), J (ρ := Int32 × j_M) yX1_deliverMany cX1_deliverMany 4 (some .int) 5 138 j_ei 2 [(0, .inr (10, 0, t)), (1, .inl (l1)), (2, .inl (l2)), (3, .inl (l3))] [] M (k2 l1 l2 l3 M)) (l1 : Int32) (l2 : Int32) (l3 : Int32) (s0 : Int32) (M : j_M) : J (ρ := Int32 × j_M) yX1_deliverMany cX1_deliverMany 4 (some .int) 5 138 j_ei 29 [(0, .inr (10, 0, t)), (1, .inl (l1)), (2, .inl (l2)), (3, .inl (l3))] [.inl (s0), .inr (10, 0, t)] M (xX1_deliverMany_29 k2 t l1 l2 l3 s0 M) := by
  unfold xX1_deliverMany_29
  refine K_cvi (q := 32) [.inl (s0)] dX1_deliverMany_29 cb_X1_deliverAt cvRX1_192 rc_0 (show (10 : Nat) ≠ 0 by decide) rfl (Nat.le_of_ble_eq_true rfl) ⟨by decide, by decide⟩ (Nat.le_of_ble_eq_true rfl) rfl (tX1_deliverAt t s0 M) rfl (fun v2 M1 => ?_)
  refine K_pop (q := 33) dX1_deliverMany_32 rfl ?_
  refine K_iinc (q := 36) (v := l3 + (nI 1)) (ll' := [(3, .inl (l3 + (nI 1))), (0, .inr (10, 0, t)), (1, .inl (l1)), (2, .inl (l2))]) 3 dX1_deliverMany_33 rfl rfl (by decide) rfl rfl ?_
  refine J_goto (tgt := 2) dX1_deliverMany_36 rfl ?_
  exact J_sub [1, 2, 3, 0] (hk2 l1 l2 (l3 + (nI 1)) M1) rfl
def xX1_deliverMany_2  (t : Nat) : Nat → Int32 → Int32 → Int32 → j_M → Option (Int32 × j_M)
  | 0, _, _, _, _ => none
  | n + 1, l1, l2, l3, M => (if l1 ≤ l3 then some (l3, M) else oli (M t 8) fun v1 => (if v1 ≤ (0 : Int32) then some (l3, M) else (if l2 = (0 : Int32) then xX1_deliverMany_29 (xX1_deliverMany_2 t n) t l1 l2 l3 (nI 0) M else oli (M t 8) fun v2 => xX1_deliverMany_29 (xX1_deliverMany_2 t n) t l1 l2 l3 (v2 - (nI 1)) M)))
set_option maxRecDepth 20000 in
set_option maxHeartbeats 2000000 in
theorem tX1_deliverMany_2  (t : Nat)  : ∀ (n : Nat) (l1 : Int32) (l2 : Int32) (l3 : Int32) (M : j_M), J (ρ := Int32 × j_M) yX1_deliverMany cX1_deliverMany 4 (some .int) 5 138 j_ei 2 [(0, .inr (10, 0, t)), (1, .inl (l1)), (2, .inl (l2)), (3, .inl (l3))] [] M (xX1_deliverMany_2 t n l1 l2 l3 M) := by
  intro n
  induction n with
  | zero => intros; exact J_none
  | succ n ih =>
    intro l1 l2 l3 M
    rw [xX1_deliverMany_2.eq_2]
    refine K_iload_n (q := 3) 3 dX1_deliverMany_2 rfl rfl rfl ?_
    refine K_iload_n (q := 4) 1 dX1_deliverMany_3 rfl rfl rfl ?_
    refine K_icmp_ge (q := 7) (tgt := 39) dX1_deliverMany_4 rfl ?_ rfl ?_
    · refine K_iload_n (q := 40) 3 dX1_deliverMany_39 rfl rfl rfl ?_
      exact J_iret dX1_deliverMany_40
    · refine K_aload_n (q := 8) 0 dX1_deliverMany_7 rfl rfl rfl ?_
      refine K_getI (q := 11) (ci := 0) 8 dX1_deliverMany_8 fRX1_64 rfl rfl rfl (fun v1 => ?_)
      refine K_if_le (q := 14) (tgt := 39) dX1_deliverMany_11 rfl ?_ rfl ?_
      · refine K_iload_n (q := 40) 3 dX1_deliverMany_39 rfl rfl rfl ?_
        exact J_iret dX1_deliverMany_40
      · refine K_aload_n (q := 15) 0 dX1_deliverMany_14 rfl rfl rfl ?_
        refine K_iload_n (q := 16) 2 dX1_deliverMany_15 rfl rfl rfl ?_
        refine K_if_eq (q := 19) (tgt := 28) dX1_deliverMany_16 rfl ?_ rfl ?_
        · refine K_iconst (q := 29) (v := nI 0) dX1_deliverMany_28 rfl rfl ?_
          exact J_sub [0, 1, 2, 3] (tX1_deliverMany_29 (xX1_deliverMany_2 t n) t ih l1 l2 l3 (nI 0) M) rfl
        · refine K_aload_n (q := 20) 0 dX1_deliverMany_19 rfl rfl rfl ?_
          refine K_getI (q := 23) (ci := 0) 8 dX1_deliverMany_20 fRX1_64 rfl rfl rfl (fun v2 => ?_)
          refine K_iconst (q := 24) (v := nI 1) dX1_deliverMany_23 rfl rfl ?_
          refine K_isub (q := 25) dX1_deliverMany_24 rfl ?_
          refine J_goto (tgt := 29) dX1_deliverMany_25 rfl ?_
          exact J_sub [0, 1, 2, 3] (tX1_deliverMany_29 (xX1_deliverMany_2 t n) t ih l1 l2 l3 (v2 - (nI 1)) M) rfl
def xX1_deliverMany (t : Nat) (l1 : Int32) (l2 : Int32) (M : j_M) : Option (Int32 × j_M) := xX1_deliverMany_2 t fu l1 l2 (nI 0) M
set_option maxRecDepth 20000 in
set_option maxHeartbeats 2000000 in
theorem tX1_deliverMany (t : Nat) (l1 : Int32) (l2 : Int32) (M : j_M) : J (ρ := Int32 × j_M) yX1_deliverMany cX1_deliverMany 4 (some .int) 5 138 j_ei 0 [(0, .inr (10, 0, t)), (1, .inl (l1)), (2, .inl (l2))] [] M (xX1_deliverMany t l1 l2 M) := by
  unfold xX1_deliverMany
  refine K_iconst (q := 1) (v := nI 0) dX1_deliverMany_0 rfl rfl ?_
  refine K_istore_n (q := 2) (ll' := [(3, .inl ((nI 0))), (0, .inr (10, 0, t)), (1, .inl (l1)), (2, .inl (l2))]) dX1_deliverMany_1 rfl (by decide) rfl rfl ?_
  exact J_sub [1, 2, 3, 0] (tX1_deliverMany_2 t fu l1 l2 (nI 0) M) rfl
theorem dX1_ticks_0 : decode cX1_ticks 0 = .ok (.iconst 0, 1) := by decide +kernel
theorem dX1_ticks_1 : decode cX1_ticks 1 = .ok (.istore_n 2, 1) := by decide +kernel
theorem dX1_ticks_2 : decode cX1_ticks 2 = .ok (.iload_n 2, 1) := by decide +kernel
theorem dX1_ticks_3 : decode cX1_ticks 3 = .ok (.iload_n 1, 1) := by decide +kernel
theorem dX1_ticks_4 : decode cX1_ticks 4 = .ok (.if_icmp .ge 13, 3) := by decide +kernel
theorem dX1_ticks_7 : decode cX1_ticks 7 = .ok (.aload_n 0, 1) := by decide +kernel
theorem dX1_ticks_8 : decode cX1_ticks 8 = .ok (.invokevirtual 273, 3) := by decide +kernel
theorem dX1_ticks_11 : decode cX1_ticks 11 = .ok (.iinc 2 1, 3) := by decide +kernel
theorem dX1_ticks_14 : decode cX1_ticks 14 = .ok (.goto (-12), 3) := by decide +kernel
theorem dX1_ticks_17 : decode cX1_ticks 17 = .ok (.return_, 1) := by decide +kernel
def xX1_ticks_2  (t : Nat) : Nat → Int32 → Int32 → j_M → Option (j_M)
  | 0, _, _, _ => none
  | n + 1, l1, l2, M => (if l1 ≤ l2 then some M else obv (xX1_tickOnce t M) fun M1 => xX1_ticks_2 t n l1 (l2 + (nI 1)) M1)
set_option maxRecDepth 20000 in
set_option maxHeartbeats 2000000 in
theorem tX1_ticks_2  (t : Nat)  : ∀ (n : Nat) (l1 : Int32) (l2 : Int32) (M : j_M), J (ρ := j_M) yX1_ticks cX1_ticks 3 none 5 134 j_ev 2 [(0, .inr (10, 0, t)), (1, .inl (l1)), (2, .inl (l2))] [] M (xX1_ticks_2 t n l1 l2 M) := by
  intro n
  induction n with
  | zero => intros; exact J_none
  | succ n ih =>
    intro l1 l2 M
    rw [xX1_ticks_2.eq_2]
    refine K_iload_n (q := 3) 2 dX1_ticks_2 rfl rfl rfl ?_
    refine K_iload_n (q := 4) 1 dX1_ticks_3 rfl rfl rfl ?_
    refine K_icmp_ge (q := 7) (tgt := 17) dX1_ticks_4 rfl ?_ rfl ?_
    · exact J_vret dX1_ticks_17
    · refine K_aload_n (q := 8) 0 dX1_ticks_7 rfl rfl rfl ?_
      refine K_cvv (q := 11) [] dX1_ticks_8 cb_X1_tickOnce cvRX1_273 rc_0 (show (10 : Nat) ≠ 0 by decide) rfl (Nat.le_of_ble_eq_true rfl) ⟨by decide, by decide⟩ (Nat.le_of_ble_eq_true rfl) rfl (tX1_tickOnce t M) rfl (fun M1 => ?_)
      refine K_iinc (q := 14) (v := l2 + (nI 1)) (ll' := [(2, .inl (l2 + (nI 1))), (0, .inr (10, 0, t)), (1, .inl (l1))]) 2 dX1_ticks_11 rfl rfl (by decide) rfl rfl ?_
      refine J_goto (tgt := 2) dX1_ticks_14 rfl ?_
      exact J_sub [1, 2, 0] (ih l1 (l2 + (nI 1)) M1) rfl
def xX1_ticks (t : Nat) (l1 : Int32) (M : j_M) : Option (j_M) := xX1_ticks_2 t fu l1 (nI 0) M
set_option maxRecDepth 20000 in
set_option maxHeartbeats 2000000 in
theorem tX1_ticks (t : Nat) (l1 : Int32) (M : j_M) : J (ρ := j_M) yX1_ticks cX1_ticks 3 none 5 134 j_ev 0 [(0, .inr (10, 0, t)), (1, .inl (l1))] [] M (xX1_ticks t l1 M) := by
  unfold xX1_ticks
  refine K_iconst (q := 1) (v := nI 0) dX1_ticks_0 rfl rfl ?_
  refine K_istore_n (q := 2) (ll' := [(2, .inl ((nI 0))), (0, .inr (10, 0, t)), (1, .inl (l1))]) dX1_ticks_1 rfl (by decide) rfl rfl ?_
  exact J_sub [1, 2, 0] (tX1_ticks_2 t fu l1 (nI 0) M) rfl
theorem dX1_cpusThatCan_0 : decode cX1_cpusThatCan 0 = .ok (.iconst 0, 1) := by decide +kernel
theorem dX1_cpusThatCan_1 : decode cX1_cpusThatCan 1 = .ok (.istore_n 3, 1) := by decide +kernel
theorem dX1_cpusThatCan_2 : decode cX1_cpusThatCan 2 = .ok (.iconst 0, 1) := by decide +kernel
theorem dX1_cpusThatCan_3 : decode cX1_cpusThatCan 3 = .ok (.istore 4, 2) := by decide +kernel
theorem dX1_cpusThatCan_5 : decode cX1_cpusThatCan 5 = .ok (.iload 4, 2) := by decide +kernel
theorem dX1_cpusThatCan_7 : decode cX1_cpusThatCan 7 = .ok (.aload_n 0, 1) := by decide +kernel
theorem dX1_cpusThatCan_8 : decode cX1_cpusThatCan 8 = .ok (.getfield 33, 3) := by decide +kernel
theorem dX1_cpusThatCan_11 : decode cX1_cpusThatCan 11 = .ok (.if_icmp .ge 27, 3) := by decide +kernel
theorem dX1_cpusThatCan_14 : decode cX1_cpusThatCan 14 = .ok (.aload_n 0, 1) := by decide +kernel
theorem dX1_cpusThatCan_15 : decode cX1_cpusThatCan 15 = .ok (.iload 4, 2) := by decide +kernel
theorem dX1_cpusThatCan_17 : decode cX1_cpusThatCan 17 = .ok (.iload_n 1, 1) := by decide +kernel
theorem dX1_cpusThatCan_18 : decode cX1_cpusThatCan 18 = .ok (.iload_n 2, 1) := by decide +kernel
theorem dX1_cpusThatCan_19 : decode cX1_cpusThatCan 19 = .ok (.invokevirtual 102, 3) := by decide +kernel
theorem dX1_cpusThatCan_22 : decode cX1_cpusThatCan 22 = .ok (.ifCond .eq 10, 3) := by decide +kernel
theorem dX1_cpusThatCan_25 : decode cX1_cpusThatCan 25 = .ok (.iload_n 3, 1) := by decide +kernel
theorem dX1_cpusThatCan_26 : decode cX1_cpusThatCan 26 = .ok (.iconst 1, 1) := by decide +kernel
theorem dX1_cpusThatCan_27 : decode cX1_cpusThatCan 27 = .ok (.iload 4, 2) := by decide +kernel
theorem dX1_cpusThatCan_29 : decode cX1_cpusThatCan 29 = .ok (.ishl, 1) := by decide +kernel
theorem dX1_cpusThatCan_30 : decode cX1_cpusThatCan 30 = .ok (.ior, 1) := by decide +kernel
theorem dX1_cpusThatCan_31 : decode cX1_cpusThatCan 31 = .ok (.istore_n 3, 1) := by decide +kernel
theorem dX1_cpusThatCan_32 : decode cX1_cpusThatCan 32 = .ok (.iinc 4 1, 3) := by decide +kernel
theorem dX1_cpusThatCan_35 : decode cX1_cpusThatCan 35 = .ok (.goto (-30), 3) := by decide +kernel
theorem dX1_cpusThatCan_38 : decode cX1_cpusThatCan 38 = .ok (.iload_n 3, 1) := by decide +kernel
theorem dX1_cpusThatCan_39 : decode cX1_cpusThatCan 39 = .ok (.ireturn, 1) := by decide +kernel
def xX1_cpusThatCan_5  (t : Nat) : Nat → Int32 → Int32 → Int32 → Int32 → j_M → Option (Int32 × j_M)
  | 0, _, _, _, _, _ => none
  | n + 1, l1, l2, l3, l4, M => oli (M t 9) fun v1 => (if v1 ≤ l4 then some (l3, M) else obi (xX1_wouldHit t l4 l1 l2 M) fun v3 M2 => (if v3 = (0 : Int32) then xX1_cpusThatCan_5 t n l1 l2 l3 (l4 + (nI 1)) M2 else xX1_cpusThatCan_5 t n l1 l2 (l3 ||| ((nI 1) <<< (l4 &&& 31))) (l4 + (nI 1)) M2))
set_option maxRecDepth 20000 in
set_option maxHeartbeats 2000000 in
theorem tX1_cpusThatCan_5  (t : Nat)  : ∀ (n : Nat) (l1 : Int32) (l2 : Int32) (l3 : Int32) (l4 : Int32) (M : j_M), J (ρ := Int32 × j_M) yX1_cpusThatCan cX1_cpusThatCan 5 (some .int) 2 45 j_ei 5 [(0, .inr (10, 0, t)), (1, .inl (l1)), (2, .inl (l2)), (3, .inl (l3)), (4, .inl (l4))] [] M (xX1_cpusThatCan_5 t n l1 l2 l3 l4 M) := by
  intro n
  induction n with
  | zero => intros; exact J_none
  | succ n ih =>
    intro l1 l2 l3 l4 M
    rw [xX1_cpusThatCan_5.eq_2]
    refine K_iload (q := 7) 4 dX1_cpusThatCan_5 rfl rfl ?_
    refine K_aload_n (q := 8) 0 dX1_cpusThatCan_7 rfl rfl rfl ?_
    refine K_getI (q := 11) (ci := 0) 9 dX1_cpusThatCan_8 fRX1_33 rfl rfl rfl (fun v1 => ?_)
    refine K_icmp_ge (q := 14) (tgt := 38) dX1_cpusThatCan_11 rfl ?_ rfl ?_
    · refine K_iload_n (q := 39) 3 dX1_cpusThatCan_38 rfl rfl rfl ?_
      exact J_iret dX1_cpusThatCan_39
    · refine K_aload_n (q := 15) 0 dX1_cpusThatCan_14 rfl rfl rfl ?_
      refine K_iload (q := 17) 4 dX1_cpusThatCan_15 rfl rfl ?_
      refine K_iload_n (q := 18) 1 dX1_cpusThatCan_17 rfl rfl rfl ?_
      refine K_iload_n (q := 19) 2 dX1_cpusThatCan_18 rfl rfl rfl ?_
      refine K_cvi (q := 22) [.inl (l4), .inl (l1), .inl (l2)] dX1_cpusThatCan_19 cb_X1_wouldHit cvRX1_102 rc_0 (show (10 : Nat) ≠ 0 by decide) rfl (Nat.le_of_ble_eq_true rfl) ⟨by decide, by decide⟩ (Nat.le_of_ble_eq_true rfl) rfl (tX1_wouldHit t l4 l1 l2 M) rfl (fun v3 M2 => ?_)
      refine K_if_eq (q := 25) (tgt := 32) dX1_cpusThatCan_22 rfl ?_ rfl ?_
      · refine K_iinc (q := 35) (v := l4 + (nI 1)) (ll' := [(4, .inl (l4 + (nI 1))), (0, .inr (10, 0, t)), (1, .inl (l1)), (2, .inl (l2)), (3, .inl (l3))]) 4 dX1_cpusThatCan_32 rfl rfl (by decide) rfl rfl ?_
        refine J_goto (tgt := 5) dX1_cpusThatCan_35 rfl ?_
        exact J_sub [1, 2, 3, 4, 0] (ih l1 l2 l3 (l4 + (nI 1)) M2) rfl
      · refine K_iload_n (q := 26) 3 dX1_cpusThatCan_25 rfl rfl rfl ?_
        refine K_iconst (q := 27) (v := nI 1) dX1_cpusThatCan_26 rfl rfl ?_
        refine K_iload (q := 29) 4 dX1_cpusThatCan_27 rfl rfl ?_
        refine K_ishl (q := 30) dX1_cpusThatCan_29 rfl ?_
        refine K_ior (q := 31) dX1_cpusThatCan_30 rfl ?_
        refine K_istore_n (q := 32) (ll' := [(3, .inl (l3 ||| ((nI 1) <<< (l4 &&& 31)))), (0, .inr (10, 0, t)), (1, .inl (l1)), (2, .inl (l2)), (4, .inl (l4))]) dX1_cpusThatCan_31 rfl (by decide) rfl rfl ?_
        refine K_iinc (q := 35) (v := l4 + (nI 1)) (ll' := [(4, .inl (l4 + (nI 1))), (3, .inl (l3 ||| ((nI 1) <<< (l4 &&& 31)))), (0, .inr (10, 0, t)), (1, .inl (l1)), (2, .inl (l2))]) 4 dX1_cpusThatCan_32 rfl rfl (by decide) rfl rfl ?_
        refine J_goto (tgt := 5) dX1_cpusThatCan_35 rfl ?_
        exact J_sub [2, 3, 4, 1, 0] (ih l1 l2 (l3 ||| ((nI 1) <<< (l4 &&& 31))) (l4 + (nI 1)) M2) rfl
def xX1_cpusThatCan (t : Nat) (l1 : Int32) (l2 : Int32) (M : j_M) : Option (Int32 × j_M) := xX1_cpusThatCan_5 t fu l1 l2 (nI 0) (nI 0) M
set_option maxRecDepth 20000 in
set_option maxHeartbeats 2000000 in
theorem tX1_cpusThatCan (t : Nat) (l1 : Int32) (l2 : Int32) (M : j_M) : J (ρ := Int32 × j_M) yX1_cpusThatCan cX1_cpusThatCan 5 (some .int) 2 45 j_ei 0 [(0, .inr (10, 0, t)), (1, .inl (l1)), (2, .inl (l2))] [] M (xX1_cpusThatCan t l1 l2 M) := by
  unfold xX1_cpusThatCan
  refine K_iconst (q := 1) (v := nI 0) dX1_cpusThatCan_0 rfl rfl ?_
  refine K_istore_n (q := 2) (ll' := [(3, .inl ((nI 0))), (0, .inr (10, 0, t)), (1, .inl (l1)), (2, .inl (l2))]) dX1_cpusThatCan_1 rfl (by decide) rfl rfl ?_
  refine K_iconst (q := 3) (v := nI 0) dX1_cpusThatCan_2 rfl rfl ?_
  refine K_istore (q := 5) (ll' := [(4, .inl ((nI 0))), (3, .inl ((nI 0))), (0, .inr (10, 0, t)), (1, .inl (l1)), (2, .inl (l2))]) dX1_cpusThatCan_3 (by decide) rfl rfl ?_
  exact J_sub [2, 3, 4, 1, 0] (tX1_cpusThatCan_5 t fu l1 l2 (nI 0) (nI 0) M) rfl
theorem dX1_cpusThatMiss_0 : decode cX1_cpusThatMiss 0 = .ok (.iconst 0, 1) := by decide +kernel
theorem dX1_cpusThatMiss_1 : decode cX1_cpusThatMiss 1 = .ok (.istore_n 2, 1) := by decide +kernel
theorem dX1_cpusThatMiss_2 : decode cX1_cpusThatMiss 2 = .ok (.iconst 0, 1) := by decide +kernel
theorem dX1_cpusThatMiss_3 : decode cX1_cpusThatMiss 3 = .ok (.istore_n 3, 1) := by decide +kernel
theorem dX1_cpusThatMiss_4 : decode cX1_cpusThatMiss 4 = .ok (.iload_n 3, 1) := by decide +kernel
theorem dX1_cpusThatMiss_5 : decode cX1_cpusThatMiss 5 = .ok (.aload_n 0, 1) := by decide +kernel
theorem dX1_cpusThatMiss_6 : decode cX1_cpusThatMiss 6 = .ok (.getfield 33, 3) := by decide +kernel
theorem dX1_cpusThatMiss_9 : decode cX1_cpusThatMiss 9 = .ok (.if_icmp .ge 24, 3) := by decide +kernel
theorem dX1_cpusThatMiss_12 : decode cX1_cpusThatMiss 12 = .ok (.aload_n 0, 1) := by decide +kernel
theorem dX1_cpusThatMiss_13 : decode cX1_cpusThatMiss 13 = .ok (.iload_n 3, 1) := by decide +kernel
theorem dX1_cpusThatMiss_14 : decode cX1_cpusThatMiss 14 = .ok (.invokevirtual 173, 3) := by decide +kernel
theorem dX1_cpusThatMiss_17 : decode cX1_cpusThatMiss 17 = .ok (.iload_n 1, 1) := by decide +kernel
theorem dX1_cpusThatMiss_18 : decode cX1_cpusThatMiss 18 = .ok (.if_icmp .ne 9, 3) := by decide +kernel
theorem dX1_cpusThatMiss_21 : decode cX1_cpusThatMiss 21 = .ok (.iload_n 2, 1) := by decide +kernel
theorem dX1_cpusThatMiss_22 : decode cX1_cpusThatMiss 22 = .ok (.iconst 1, 1) := by decide +kernel
theorem dX1_cpusThatMiss_23 : decode cX1_cpusThatMiss 23 = .ok (.iload_n 3, 1) := by decide +kernel
theorem dX1_cpusThatMiss_24 : decode cX1_cpusThatMiss 24 = .ok (.ishl, 1) := by decide +kernel
theorem dX1_cpusThatMiss_25 : decode cX1_cpusThatMiss 25 = .ok (.ior, 1) := by decide +kernel
theorem dX1_cpusThatMiss_26 : decode cX1_cpusThatMiss 26 = .ok (.istore_n 2, 1) := by decide +kernel
theorem dX1_cpusThatMiss_27 : decode cX1_cpusThatMiss 27 = .ok (.iinc 3 1, 3) := by decide +kernel
theorem dX1_cpusThatMiss_30 : decode cX1_cpusThatMiss 30 = .ok (.goto (-26), 3) := by decide +kernel
theorem dX1_cpusThatMiss_33 : decode cX1_cpusThatMiss 33 = .ok (.iload_n 2, 1) := by decide +kernel
theorem dX1_cpusThatMiss_34 : decode cX1_cpusThatMiss 34 = .ok (.ireturn, 1) := by decide +kernel
def xX1_cpusThatMiss_4  (t : Nat) : Nat → Int32 → Int32 → Int32 → j_M → Option (Int32 × j_M)
  | 0, _, _, _, _ => none
  | n + 1, l1, l2, l3, M => oli (M t 9) fun v1 => (if v1 ≤ l3 then some (l2, M) else obi (xX1_missedLine t l3 M) fun v3 M2 => (if v3 = l1 then xX1_cpusThatMiss_4 t n l1 (l2 ||| ((nI 1) <<< (l3 &&& 31))) (l3 + (nI 1)) M2 else xX1_cpusThatMiss_4 t n l1 l2 (l3 + (nI 1)) M2))
set_option maxRecDepth 20000 in
set_option maxHeartbeats 2000000 in
theorem tX1_cpusThatMiss_4  (t : Nat)  : ∀ (n : Nat) (l1 : Int32) (l2 : Int32) (l3 : Int32) (M : j_M), J (ρ := Int32 × j_M) yX1_cpusThatMiss cX1_cpusThatMiss 4 (some .int) 2 42 j_ei 4 [(0, .inr (10, 0, t)), (1, .inl (l1)), (2, .inl (l2)), (3, .inl (l3))] [] M (xX1_cpusThatMiss_4 t n l1 l2 l3 M) := by
  intro n
  induction n with
  | zero => intros; exact J_none
  | succ n ih =>
    intro l1 l2 l3 M
    rw [xX1_cpusThatMiss_4.eq_2]
    refine K_iload_n (q := 5) 3 dX1_cpusThatMiss_4 rfl rfl rfl ?_
    refine K_aload_n (q := 6) 0 dX1_cpusThatMiss_5 rfl rfl rfl ?_
    refine K_getI (q := 9) (ci := 0) 9 dX1_cpusThatMiss_6 fRX1_33 rfl rfl rfl (fun v1 => ?_)
    refine K_icmp_ge (q := 12) (tgt := 33) dX1_cpusThatMiss_9 rfl ?_ rfl ?_
    · refine K_iload_n (q := 34) 2 dX1_cpusThatMiss_33 rfl rfl rfl ?_
      exact J_iret dX1_cpusThatMiss_34
    · refine K_aload_n (q := 13) 0 dX1_cpusThatMiss_12 rfl rfl rfl ?_
      refine K_iload_n (q := 14) 3 dX1_cpusThatMiss_13 rfl rfl rfl ?_
      refine K_cvi (q := 17) [.inl (l3)] dX1_cpusThatMiss_14 cb_X1_missedLine cvRX1_173 rc_0 (show (10 : Nat) ≠ 0 by decide) rfl (Nat.le_of_ble_eq_true rfl) ⟨by decide, by decide⟩ (Nat.le_of_ble_eq_true rfl) rfl (tX1_missedLine t l3 M) rfl (fun v3 M2 => ?_)
      refine K_iload_n (q := 18) 1 dX1_cpusThatMiss_17 rfl rfl rfl ?_
      refine K_icmp_ne (q := 21) (tgt := 27) dX1_cpusThatMiss_18 rfl ?_ rfl ?_
      · refine K_iinc (q := 30) (v := l3 + (nI 1)) (ll' := [(3, .inl (l3 + (nI 1))), (0, .inr (10, 0, t)), (1, .inl (l1)), (2, .inl (l2))]) 3 dX1_cpusThatMiss_27 rfl rfl (by decide) rfl rfl ?_
        refine J_goto (tgt := 4) dX1_cpusThatMiss_30 rfl ?_
        exact J_sub [1, 2, 3, 0] (ih l1 l2 (l3 + (nI 1)) M2) rfl
      · refine K_iload_n (q := 22) 2 dX1_cpusThatMiss_21 rfl rfl rfl ?_
        refine K_iconst (q := 23) (v := nI 1) dX1_cpusThatMiss_22 rfl rfl ?_
        refine K_iload_n (q := 24) 3 dX1_cpusThatMiss_23 rfl rfl rfl ?_
        refine K_ishl (q := 25) dX1_cpusThatMiss_24 rfl ?_
        refine K_ior (q := 26) dX1_cpusThatMiss_25 rfl ?_
        refine K_istore_n (q := 27) (ll' := [(2, .inl (l2 ||| ((nI 1) <<< (l3 &&& 31)))), (0, .inr (10, 0, t)), (1, .inl (l1)), (3, .inl (l3))]) dX1_cpusThatMiss_26 rfl (by decide) rfl rfl ?_
        refine K_iinc (q := 30) (v := l3 + (nI 1)) (ll' := [(3, .inl (l3 + (nI 1))), (2, .inl (l2 ||| ((nI 1) <<< (l3 &&& 31)))), (0, .inr (10, 0, t)), (1, .inl (l1))]) 3 dX1_cpusThatMiss_27 rfl rfl (by decide) rfl rfl ?_
        refine J_goto (tgt := 4) dX1_cpusThatMiss_30 rfl ?_
        exact J_sub [2, 3, 1, 0] (ih l1 (l2 ||| ((nI 1) <<< (l3 &&& 31))) (l3 + (nI 1)) M2) rfl
def xX1_cpusThatMiss (t : Nat) (l1 : Int32) (M : j_M) : Option (Int32 × j_M) := xX1_cpusThatMiss_4 t fu l1 (nI 0) (nI 0) M
set_option maxRecDepth 20000 in
set_option maxHeartbeats 2000000 in
theorem tX1_cpusThatMiss (t : Nat) (l1 : Int32) (M : j_M) : J (ρ := Int32 × j_M) yX1_cpusThatMiss cX1_cpusThatMiss 4 (some .int) 2 42 j_ei 0 [(0, .inr (10, 0, t)), (1, .inl (l1))] [] M (xX1_cpusThatMiss t l1 M) := by
  unfold xX1_cpusThatMiss
  refine K_iconst (q := 1) (v := nI 0) dX1_cpusThatMiss_0 rfl rfl ?_
  refine K_istore_n (q := 2) (ll' := [(2, .inl ((nI 0))), (0, .inr (10, 0, t)), (1, .inl (l1))]) dX1_cpusThatMiss_1 rfl (by decide) rfl rfl ?_
  refine K_iconst (q := 3) (v := nI 0) dX1_cpusThatMiss_2 rfl rfl ?_
  refine K_istore_n (q := 4) (ll' := [(3, .inl ((nI 0))), (2, .inl ((nI 0))), (0, .inr (10, 0, t)), (1, .inl (l1))]) dX1_cpusThatMiss_3 rfl (by decide) rfl rfl ?_
  exact J_sub [2, 3, 1, 0] (tX1_cpusThatMiss_4 t fu l1 (nI 0) (nI 0) M) rfl
theorem dX1_nodesWithTokens_0 : decode cX1_nodesWithTokens 0 = .ok (.iconst 0, 1) := by decide +kernel
theorem dX1_nodesWithTokens_1 : decode cX1_nodesWithTokens 1 = .ok (.istore_n 2, 1) := by decide +kernel
theorem dX1_nodesWithTokens_2 : decode cX1_nodesWithTokens 2 = .ok (.iconst 0, 1) := by decide +kernel
theorem dX1_nodesWithTokens_3 : decode cX1_nodesWithTokens 3 = .ok (.istore_n 3, 1) := by decide +kernel
theorem dX1_nodesWithTokens_4 : decode cX1_nodesWithTokens 4 = .ok (.iload_n 3, 1) := by decide +kernel
theorem dX1_nodesWithTokens_5 : decode cX1_nodesWithTokens 5 = .ok (.bipush 7, 2) := by decide +kernel
theorem dX1_nodesWithTokens_7 : decode cX1_nodesWithTokens 7 = .ok (.if_icmp .ge 24, 3) := by decide +kernel
theorem dX1_nodesWithTokens_10 : decode cX1_nodesWithTokens 10 = .ok (.aload_n 0, 1) := by decide +kernel
theorem dX1_nodesWithTokens_11 : decode cX1_nodesWithTokens 11 = .ok (.iload_n 3, 1) := by decide +kernel
theorem dX1_nodesWithTokens_12 : decode cX1_nodesWithTokens 12 = .ok (.iload_n 1, 1) := by decide +kernel
theorem dX1_nodesWithTokens_13 : decode cX1_nodesWithTokens 13 = .ok (.invokevirtual 176, 3) := by decide +kernel
theorem dX1_nodesWithTokens_16 : decode cX1_nodesWithTokens 16 = .ok (.invokestatic 82, 3) := by decide +kernel
theorem dX1_nodesWithTokens_19 : decode cX1_nodesWithTokens 19 = .ok (.ifCond .le 6, 3) := by decide +kernel
theorem dX1_nodesWithTokens_22 : decode cX1_nodesWithTokens 22 = .ok (.iinc 2 1, 3) := by decide +kernel
theorem dX1_nodesWithTokens_25 : decode cX1_nodesWithTokens 25 = .ok (.iinc 3 1, 3) := by decide +kernel
theorem dX1_nodesWithTokens_28 : decode cX1_nodesWithTokens 28 = .ok (.goto (-24), 3) := by decide +kernel
theorem dX1_nodesWithTokens_31 : decode cX1_nodesWithTokens 31 = .ok (.iload_n 2, 1) := by decide +kernel
theorem dX1_nodesWithTokens_32 : decode cX1_nodesWithTokens 32 = .ok (.ireturn, 1) := by decide +kernel
def xX1_nodesWithTokens_4  (t : Nat) : Nat → Int32 → Int32 → Int32 → j_M → Option (Int32 × j_M)
  | 0, _, _, _, _ => none
  | n + 1, l1, l2, l3, M => (if (nI 7) ≤ l3 then some (l2, M) else obi (xX1_heldAt t l3 l1 M) fun v2 M1 => obi (xX3_count v2 M1) fun v4 M3 => (if v4 ≤ (0 : Int32) then xX1_nodesWithTokens_4 t n l1 l2 (l3 + (nI 1)) M3 else xX1_nodesWithTokens_4 t n l1 (l2 + (nI 1)) (l3 + (nI 1)) M3))
set_option maxRecDepth 20000 in
set_option maxHeartbeats 2000000 in
theorem tX1_nodesWithTokens_4  (t : Nat)  : ∀ (n : Nat) (l1 : Int32) (l2 : Int32) (l3 : Int32) (M : j_M), J (ρ := Int32 × j_M) yX1_nodesWithTokens cX1_nodesWithTokens 4 (some .int) 2 42 j_ei 4 [(0, .inr (10, 0, t)), (1, .inl (l1)), (2, .inl (l2)), (3, .inl (l3))] [] M (xX1_nodesWithTokens_4 t n l1 l2 l3 M) := by
  intro n
  induction n with
  | zero => intros; exact J_none
  | succ n ih =>
    intro l1 l2 l3 M
    rw [xX1_nodesWithTokens_4.eq_2]
    refine K_iload_n (q := 5) 3 dX1_nodesWithTokens_4 rfl rfl rfl ?_
    refine K_bipush (q := 7) (v := nI 7) dX1_nodesWithTokens_5 rfl rfl ?_
    refine K_icmp_ge (q := 10) (tgt := 31) dX1_nodesWithTokens_7 rfl ?_ rfl ?_
    · refine K_iload_n (q := 32) 2 dX1_nodesWithTokens_31 rfl rfl rfl ?_
      exact J_iret dX1_nodesWithTokens_32
    · refine K_aload_n (q := 11) 0 dX1_nodesWithTokens_10 rfl rfl rfl ?_
      refine K_iload_n (q := 12) 3 dX1_nodesWithTokens_11 rfl rfl rfl ?_
      refine K_iload_n (q := 13) 1 dX1_nodesWithTokens_12 rfl rfl rfl ?_
      refine K_cvi (q := 16) [.inl (l3), .inl (l1)] dX1_nodesWithTokens_13 cb_X1_heldAt cvRX1_176 rc_0 (show (10 : Nat) ≠ 0 by decide) rfl (Nat.le_of_ble_eq_true rfl) ⟨by decide, by decide⟩ (Nat.le_of_ble_eq_true rfl) rfl (tX1_heldAt t l3 l1 M) rfl (fun v2 M1 => ?_)
      refine K_csi (q := 19) [.inl (v2)] dX1_nodesWithTokens_16 cb_X3_count cvRX1_82 rfl (Nat.le_of_ble_eq_true rfl) ⟨by decide, by decide⟩ (Nat.le_of_ble_eq_true rfl) rfl (tX3_count v2 M1) rfl (fun v4 M3 => ?_)
      refine K_if_le (q := 22) (tgt := 25) dX1_nodesWithTokens_19 rfl ?_ rfl ?_
      · refine K_iinc (q := 28) (v := l3 + (nI 1)) (ll' := [(3, .inl (l3 + (nI 1))), (0, .inr (10, 0, t)), (1, .inl (l1)), (2, .inl (l2))]) 3 dX1_nodesWithTokens_25 rfl rfl (by decide) rfl rfl ?_
        refine J_goto (tgt := 4) dX1_nodesWithTokens_28 rfl ?_
        exact J_sub [1, 2, 3, 0] (ih l1 l2 (l3 + (nI 1)) M3) rfl
      · refine K_iinc (q := 25) (v := l2 + (nI 1)) (ll' := [(2, .inl (l2 + (nI 1))), (0, .inr (10, 0, t)), (1, .inl (l1)), (3, .inl (l3))]) 2 dX1_nodesWithTokens_22 rfl rfl (by decide) rfl rfl ?_
        refine K_iinc (q := 28) (v := l3 + (nI 1)) (ll' := [(3, .inl (l3 + (nI 1))), (2, .inl (l2 + (nI 1))), (0, .inr (10, 0, t)), (1, .inl (l1))]) 3 dX1_nodesWithTokens_25 rfl rfl (by decide) rfl rfl ?_
        refine J_goto (tgt := 4) dX1_nodesWithTokens_28 rfl ?_
        exact J_sub [2, 3, 1, 0] (ih l1 (l2 + (nI 1)) (l3 + (nI 1)) M3) rfl
def xX1_nodesWithTokens (t : Nat) (l1 : Int32) (M : j_M) : Option (Int32 × j_M) := xX1_nodesWithTokens_4 t fu l1 (nI 0) (nI 0) M
set_option maxRecDepth 20000 in
set_option maxHeartbeats 2000000 in
theorem tX1_nodesWithTokens (t : Nat) (l1 : Int32) (M : j_M) : J (ρ := Int32 × j_M) yX1_nodesWithTokens cX1_nodesWithTokens 4 (some .int) 2 42 j_ei 0 [(0, .inr (10, 0, t)), (1, .inl (l1))] [] M (xX1_nodesWithTokens t l1 M) := by
  unfold xX1_nodesWithTokens
  refine K_iconst (q := 1) (v := nI 0) dX1_nodesWithTokens_0 rfl rfl ?_
  refine K_istore_n (q := 2) (ll' := [(2, .inl ((nI 0))), (0, .inr (10, 0, t)), (1, .inl (l1))]) dX1_nodesWithTokens_1 rfl (by decide) rfl rfl ?_
  refine K_iconst (q := 3) (v := nI 0) dX1_nodesWithTokens_2 rfl rfl ?_
  refine K_istore_n (q := 4) (ll' := [(3, .inl ((nI 0))), (2, .inl ((nI 0))), (0, .inr (10, 0, t)), (1, .inl (l1))]) dX1_nodesWithTokens_3 rfl (by decide) rfl rfl ?_
  exact J_sub [2, 3, 1, 0] (tX1_nodesWithTokens_4 t fu l1 (nI 0) (nI 0) M) rfl
theorem dX1_nodesWithTurn_0 : decode cX1_nodesWithTurn 0 = .ok (.iconst 0, 1) := by decide +kernel
theorem dX1_nodesWithTurn_1 : decode cX1_nodesWithTurn 1 = .ok (.istore_n 2, 1) := by decide +kernel
theorem dX1_nodesWithTurn_2 : decode cX1_nodesWithTurn 2 = .ok (.iconst 0, 1) := by decide +kernel
theorem dX1_nodesWithTurn_3 : decode cX1_nodesWithTurn 3 = .ok (.istore_n 3, 1) := by decide +kernel
theorem dX1_nodesWithTurn_4 : decode cX1_nodesWithTurn 4 = .ok (.iload_n 3, 1) := by decide +kernel
theorem dX1_nodesWithTurn_5 : decode cX1_nodesWithTurn 5 = .ok (.bipush 7, 2) := by decide +kernel
theorem dX1_nodesWithTurn_7 : decode cX1_nodesWithTurn 7 = .ok (.if_icmp .ge 30, 3) := by decide +kernel
theorem dX1_nodesWithTurn_10 : decode cX1_nodesWithTurn 10 = .ok (.aload_n 0, 1) := by decide +kernel
theorem dX1_nodesWithTurn_11 : decode cX1_nodesWithTurn 11 = .ok (.iload_n 3, 1) := by decide +kernel
theorem dX1_nodesWithTurn_12 : decode cX1_nodesWithTurn 12 = .ok (.invokevirtual 291, 3) := by decide +kernel
theorem dX1_nodesWithTurn_15 : decode cX1_nodesWithTurn 15 = .ok (.ifCond .eq 16, 3) := by decide +kernel
theorem dX1_nodesWithTurn_18 : decode cX1_nodesWithTurn 18 = .ok (.aload_n 0, 1) := by decide +kernel
theorem dX1_nodesWithTurn_19 : decode cX1_nodesWithTurn 19 = .ok (.iload_n 3, 1) := by decide +kernel
theorem dX1_nodesWithTurn_20 : decode cX1_nodesWithTurn 20 = .ok (.iload_n 1, 1) := by decide +kernel
theorem dX1_nodesWithTurn_21 : decode cX1_nodesWithTurn 21 = .ok (.invokevirtual 224, 3) := by decide +kernel
theorem dX1_nodesWithTurn_24 : decode cX1_nodesWithTurn 24 = .ok (.iconst (-1), 1) := by decide +kernel
theorem dX1_nodesWithTurn_25 : decode cX1_nodesWithTurn 25 = .ok (.if_icmp .eq 6, 3) := by decide +kernel
theorem dX1_nodesWithTurn_28 : decode cX1_nodesWithTurn 28 = .ok (.iinc 2 1, 3) := by decide +kernel
theorem dX1_nodesWithTurn_31 : decode cX1_nodesWithTurn 31 = .ok (.iinc 3 1, 3) := by decide +kernel
theorem dX1_nodesWithTurn_34 : decode cX1_nodesWithTurn 34 = .ok (.goto (-30), 3) := by decide +kernel
theorem dX1_nodesWithTurn_37 : decode cX1_nodesWithTurn 37 = .ok (.iload_n 2, 1) := by decide +kernel
theorem dX1_nodesWithTurn_38 : decode cX1_nodesWithTurn 38 = .ok (.ireturn, 1) := by decide +kernel
def xX1_nodesWithTurn_4  (t : Nat) : Nat → Int32 → Int32 → Int32 → j_M → Option (Int32 × j_M)
  | 0, _, _, _, _ => none
  | n + 1, l1, l2, l3, M => (if (nI 7) ≤ l3 then some (l2, M) else obi (xX1_isNode t l3 M) fun v2 M1 => (if v2 = (0 : Int32) then xX1_nodesWithTurn_4 t n l1 l2 (l3 + (nI 1)) M1 else obi (xX1_turnAt t l3 l1 M1) fun v4 M3 => (if v4 = (-1 : Int32) then xX1_nodesWithTurn_4 t n l1 l2 (l3 + (nI 1)) M3 else xX1_nodesWithTurn_4 t n l1 (l2 + (nI 1)) (l3 + (nI 1)) M3)))
set_option maxRecDepth 20000 in
set_option maxHeartbeats 2000000 in
theorem tX1_nodesWithTurn_4  (t : Nat)  : ∀ (n : Nat) (l1 : Int32) (l2 : Int32) (l3 : Int32) (M : j_M), J (ρ := Int32 × j_M) yX1_nodesWithTurn cX1_nodesWithTurn 4 (some .int) 2 45 j_ei 4 [(0, .inr (10, 0, t)), (1, .inl (l1)), (2, .inl (l2)), (3, .inl (l3))] [] M (xX1_nodesWithTurn_4 t n l1 l2 l3 M) := by
  intro n
  induction n with
  | zero => intros; exact J_none
  | succ n ih =>
    intro l1 l2 l3 M
    rw [xX1_nodesWithTurn_4.eq_2]
    refine K_iload_n (q := 5) 3 dX1_nodesWithTurn_4 rfl rfl rfl ?_
    refine K_bipush (q := 7) (v := nI 7) dX1_nodesWithTurn_5 rfl rfl ?_
    refine K_icmp_ge (q := 10) (tgt := 37) dX1_nodesWithTurn_7 rfl ?_ rfl ?_
    · refine K_iload_n (q := 38) 2 dX1_nodesWithTurn_37 rfl rfl rfl ?_
      exact J_iret dX1_nodesWithTurn_38
    · refine K_aload_n (q := 11) 0 dX1_nodesWithTurn_10 rfl rfl rfl ?_
      refine K_iload_n (q := 12) 3 dX1_nodesWithTurn_11 rfl rfl rfl ?_
      refine K_cvi (q := 15) [.inl (l3)] dX1_nodesWithTurn_12 cb_X1_isNode cvRX1_291 rc_0 (show (10 : Nat) ≠ 0 by decide) rfl (Nat.le_of_ble_eq_true rfl) ⟨by decide, by decide⟩ (Nat.le_of_ble_eq_true rfl) rfl (tX1_isNode t l3 M) rfl (fun v2 M1 => ?_)
      refine K_if_eq (q := 18) (tgt := 31) dX1_nodesWithTurn_15 rfl ?_ rfl ?_
      · refine K_iinc (q := 34) (v := l3 + (nI 1)) (ll' := [(3, .inl (l3 + (nI 1))), (0, .inr (10, 0, t)), (1, .inl (l1)), (2, .inl (l2))]) 3 dX1_nodesWithTurn_31 rfl rfl (by decide) rfl rfl ?_
        refine J_goto (tgt := 4) dX1_nodesWithTurn_34 rfl ?_
        exact J_sub [1, 2, 3, 0] (ih l1 l2 (l3 + (nI 1)) M1) rfl
      · refine K_aload_n (q := 19) 0 dX1_nodesWithTurn_18 rfl rfl rfl ?_
        refine K_iload_n (q := 20) 3 dX1_nodesWithTurn_19 rfl rfl rfl ?_
        refine K_iload_n (q := 21) 1 dX1_nodesWithTurn_20 rfl rfl rfl ?_
        refine K_cvi (q := 24) [.inl (l3), .inl (l1)] dX1_nodesWithTurn_21 cb_X1_turnAt cvRX1_224 rc_0 (show (10 : Nat) ≠ 0 by decide) rfl (Nat.le_of_ble_eq_true rfl) ⟨by decide, by decide⟩ (Nat.le_of_ble_eq_true rfl) rfl (tX1_turnAt t l3 l1 M1) rfl (fun v4 M3 => ?_)
        refine K_iconst (q := 25) (v := -1) dX1_nodesWithTurn_24 rfl rfl ?_
        refine K_icmp_eq (q := 28) (tgt := 31) dX1_nodesWithTurn_25 rfl ?_ rfl ?_
        · refine K_iinc (q := 34) (v := l3 + (nI 1)) (ll' := [(3, .inl (l3 + (nI 1))), (0, .inr (10, 0, t)), (1, .inl (l1)), (2, .inl (l2))]) 3 dX1_nodesWithTurn_31 rfl rfl (by decide) rfl rfl ?_
          refine J_goto (tgt := 4) dX1_nodesWithTurn_34 rfl ?_
          exact J_sub [1, 2, 3, 0] (ih l1 l2 (l3 + (nI 1)) M3) rfl
        · refine K_iinc (q := 31) (v := l2 + (nI 1)) (ll' := [(2, .inl (l2 + (nI 1))), (0, .inr (10, 0, t)), (1, .inl (l1)), (3, .inl (l3))]) 2 dX1_nodesWithTurn_28 rfl rfl (by decide) rfl rfl ?_
          refine K_iinc (q := 34) (v := l3 + (nI 1)) (ll' := [(3, .inl (l3 + (nI 1))), (2, .inl (l2 + (nI 1))), (0, .inr (10, 0, t)), (1, .inl (l1))]) 3 dX1_nodesWithTurn_31 rfl rfl (by decide) rfl rfl ?_
          refine J_goto (tgt := 4) dX1_nodesWithTurn_34 rfl ?_
          exact J_sub [2, 3, 1, 0] (ih l1 (l2 + (nI 1)) (l3 + (nI 1)) M3) rfl
def xX1_nodesWithTurn (t : Nat) (l1 : Int32) (M : j_M) : Option (Int32 × j_M) := xX1_nodesWithTurn_4 t fu l1 (nI 0) (nI 0) M
set_option maxRecDepth 20000 in
set_option maxHeartbeats 2000000 in
theorem tX1_nodesWithTurn (t : Nat) (l1 : Int32) (M : j_M) : J (ρ := Int32 × j_M) yX1_nodesWithTurn cX1_nodesWithTurn 4 (some .int) 2 45 j_ei 0 [(0, .inr (10, 0, t)), (1, .inl (l1))] [] M (xX1_nodesWithTurn t l1 M) := by
  unfold xX1_nodesWithTurn
  refine K_iconst (q := 1) (v := nI 0) dX1_nodesWithTurn_0 rfl rfl ?_
  refine K_istore_n (q := 2) (ll' := [(2, .inl ((nI 0))), (0, .inr (10, 0, t)), (1, .inl (l1))]) dX1_nodesWithTurn_1 rfl (by decide) rfl rfl ?_
  refine K_iconst (q := 3) (v := nI 0) dX1_nodesWithTurn_2 rfl rfl ?_
  refine K_istore_n (q := 4) (ll' := [(3, .inl ((nI 0))), (2, .inl ((nI 0))), (0, .inr (10, 0, t)), (1, .inl (l1))]) dX1_nodesWithTurn_3 rfl (by decide) rfl rfl ?_
  exact J_sub [2, 3, 1, 0] (tX1_nodesWithTurn_4 t fu l1 (nI 0) (nI 0) M) rfl
theorem dX1_ownerNode_0 : decode cX1_ownerNode 0 = .ok (.iconst 0, 1) := by decide +kernel
theorem dX1_ownerNode_1 : decode cX1_ownerNode 1 = .ok (.istore_n 2, 1) := by decide +kernel
theorem dX1_ownerNode_2 : decode cX1_ownerNode 2 = .ok (.iload_n 2, 1) := by decide +kernel
theorem dX1_ownerNode_3 : decode cX1_ownerNode 3 = .ok (.bipush 7, 2) := by decide +kernel
theorem dX1_ownerNode_5 : decode cX1_ownerNode 5 = .ok (.if_icmp .ge 23, 3) := by decide +kernel
theorem dX1_ownerNode_8 : decode cX1_ownerNode 8 = .ok (.aload_n 0, 1) := by decide +kernel
theorem dX1_ownerNode_9 : decode cX1_ownerNode 9 = .ok (.iload_n 2, 1) := by decide +kernel
theorem dX1_ownerNode_10 : decode cX1_ownerNode 10 = .ok (.iload_n 1, 1) := by decide +kernel
theorem dX1_ownerNode_11 : decode cX1_ownerNode 11 = .ok (.invokevirtual 176, 3) := by decide +kernel
theorem dX1_ownerNode_14 : decode cX1_ownerNode 14 = .ok (.invokestatic 182, 3) := by decide +kernel
theorem dX1_ownerNode_17 : decode cX1_ownerNode 17 = .ok (.ifCond .eq 5, 3) := by decide +kernel
theorem dX1_ownerNode_20 : decode cX1_ownerNode 20 = .ok (.iload_n 2, 1) := by decide +kernel
theorem dX1_ownerNode_21 : decode cX1_ownerNode 21 = .ok (.ireturn, 1) := by decide +kernel
theorem dX1_ownerNode_22 : decode cX1_ownerNode 22 = .ok (.iinc 2 1, 3) := by decide +kernel
theorem dX1_ownerNode_25 : decode cX1_ownerNode 25 = .ok (.goto (-23), 3) := by decide +kernel
theorem dX1_ownerNode_28 : decode cX1_ownerNode 28 = .ok (.iconst (-1), 1) := by decide +kernel
theorem dX1_ownerNode_29 : decode cX1_ownerNode 29 = .ok (.ireturn, 1) := by decide +kernel
def xX1_ownerNode_2  (t : Nat) : Nat → Int32 → Int32 → j_M → Option (Int32 × j_M)
  | 0, _, _, _ => none
  | n + 1, l1, l2, M => (if (nI 7) ≤ l2 then some ((-1 : Int32), M) else obi (xX1_heldAt t l2 l1 M) fun v2 M1 => obi (xX3_isOwner v2 M1) fun v4 M3 => (if v4 = (0 : Int32) then xX1_ownerNode_2 t n l1 (l2 + (nI 1)) M3 else some (l2, M3)))
set_option maxRecDepth 20000 in
set_option maxHeartbeats 2000000 in
theorem tX1_ownerNode_2  (t : Nat)  : ∀ (n : Nat) (l1 : Int32) (l2 : Int32) (M : j_M), J (ρ := Int32 × j_M) yX1_ownerNode cX1_ownerNode 3 (some .int) 2 42 j_ei 2 [(0, .inr (10, 0, t)), (1, .inl (l1)), (2, .inl (l2))] [] M (xX1_ownerNode_2 t n l1 l2 M) := by
  intro n
  induction n with
  | zero => intros; exact J_none
  | succ n ih =>
    intro l1 l2 M
    rw [xX1_ownerNode_2.eq_2]
    refine K_iload_n (q := 3) 2 dX1_ownerNode_2 rfl rfl rfl ?_
    refine K_bipush (q := 5) (v := nI 7) dX1_ownerNode_3 rfl rfl ?_
    refine K_icmp_ge (q := 8) (tgt := 28) dX1_ownerNode_5 rfl ?_ rfl ?_
    · refine K_iconst (q := 29) (v := -1) dX1_ownerNode_28 rfl rfl ?_
      exact J_iret dX1_ownerNode_29
    · refine K_aload_n (q := 9) 0 dX1_ownerNode_8 rfl rfl rfl ?_
      refine K_iload_n (q := 10) 2 dX1_ownerNode_9 rfl rfl rfl ?_
      refine K_iload_n (q := 11) 1 dX1_ownerNode_10 rfl rfl rfl ?_
      refine K_cvi (q := 14) [.inl (l2), .inl (l1)] dX1_ownerNode_11 cb_X1_heldAt cvRX1_176 rc_0 (show (10 : Nat) ≠ 0 by decide) rfl (Nat.le_of_ble_eq_true rfl) ⟨by decide, by decide⟩ (Nat.le_of_ble_eq_true rfl) rfl (tX1_heldAt t l2 l1 M) rfl (fun v2 M1 => ?_)
      refine K_csi (q := 17) [.inl (v2)] dX1_ownerNode_14 cb_X3_isOwner cvRX1_182 rfl (Nat.le_of_ble_eq_true rfl) ⟨by decide, by decide⟩ (Nat.le_of_ble_eq_true rfl) rfl (tX3_isOwner v2 M1) rfl (fun v4 M3 => ?_)
      refine K_if_eq (q := 20) (tgt := 22) dX1_ownerNode_17 rfl ?_ rfl ?_
      · refine K_iinc (q := 25) (v := l2 + (nI 1)) (ll' := [(2, .inl (l2 + (nI 1))), (0, .inr (10, 0, t)), (1, .inl (l1))]) 2 dX1_ownerNode_22 rfl rfl (by decide) rfl rfl ?_
        refine J_goto (tgt := 2) dX1_ownerNode_25 rfl ?_
        exact J_sub [1, 2, 0] (ih l1 (l2 + (nI 1)) M3) rfl
      · refine K_iload_n (q := 21) 2 dX1_ownerNode_20 rfl rfl rfl ?_
        exact J_iret dX1_ownerNode_21
def xX1_ownerNode (t : Nat) (l1 : Int32) (M : j_M) : Option (Int32 × j_M) := xX1_ownerNode_2 t fu l1 (nI 0) M
set_option maxRecDepth 20000 in
set_option maxHeartbeats 2000000 in
theorem tX1_ownerNode (t : Nat) (l1 : Int32) (M : j_M) : J (ρ := Int32 × j_M) yX1_ownerNode cX1_ownerNode 3 (some .int) 2 42 j_ei 0 [(0, .inr (10, 0, t)), (1, .inl (l1))] [] M (xX1_ownerNode t l1 M) := by
  unfold xX1_ownerNode
  refine K_iconst (q := 1) (v := nI 0) dX1_ownerNode_0 rfl rfl ?_
  refine K_istore_n (q := 2) (ll' := [(2, .inl ((nI 0))), (0, .inr (10, 0, t)), (1, .inl (l1))]) dX1_ownerNode_1 rfl (by decide) rfl rfl ?_
  exact J_sub [1, 2, 0] (tX1_ownerNode_2 t fu l1 (nI 0) M) rfl
theorem dX1_tokensOnWay_0 : decode cX1_tokensOnWay 0 = .ok (.iconst 0, 1) := by decide +kernel
theorem dX1_tokensOnWay_1 : decode cX1_tokensOnWay 1 = .ok (.istore_n 2, 1) := by decide +kernel
theorem dX1_tokensOnWay_2 : decode cX1_tokensOnWay 2 = .ok (.iconst 0, 1) := by decide +kernel
theorem dX1_tokensOnWay_3 : decode cX1_tokensOnWay 3 = .ok (.istore_n 3, 1) := by decide +kernel
theorem dX1_tokensOnWay_4 : decode cX1_tokensOnWay 4 = .ok (.iload_n 3, 1) := by decide +kernel
theorem dX1_tokensOnWay_5 : decode cX1_tokensOnWay 5 = .ok (.aload_n 0, 1) := by decide +kernel
theorem dX1_tokensOnWay_6 : decode cX1_tokensOnWay 6 = .ok (.getfield 64, 3) := by decide +kernel
theorem dX1_tokensOnWay_9 : decode cX1_tokensOnWay 9 = .ok (.if_icmp .ge 35, 3) := by decide +kernel
theorem dX1_tokensOnWay_12 : decode cX1_tokensOnWay 12 = .ok (.aload_n 0, 1) := by decide +kernel
theorem dX1_tokensOnWay_13 : decode cX1_tokensOnWay 13 = .ok (.getfield 15, 3) := by decide +kernel
theorem dX1_tokensOnWay_16 : decode cX1_tokensOnWay 16 = .ok (.iload_n 3, 1) := by decide +kernel
theorem dX1_tokensOnWay_17 : decode cX1_tokensOnWay 17 = .ok (.iaload, 1) := by decide +kernel
theorem dX1_tokensOnWay_18 : decode cX1_tokensOnWay 18 = .ok (.invokestatic 204, 3) := by decide +kernel
theorem dX1_tokensOnWay_21 : decode cX1_tokensOnWay 21 = .ok (.iload_n 1, 1) := by decide +kernel
theorem dX1_tokensOnWay_22 : decode cX1_tokensOnWay 22 = .ok (.if_icmp .ne 16, 3) := by decide +kernel
theorem dX1_tokensOnWay_25 : decode cX1_tokensOnWay 25 = .ok (.iload_n 2, 1) := by decide +kernel
theorem dX1_tokensOnWay_26 : decode cX1_tokensOnWay 26 = .ok (.aload_n 0, 1) := by decide +kernel
theorem dX1_tokensOnWay_27 : decode cX1_tokensOnWay 27 = .ok (.getfield 15, 3) := by decide +kernel
theorem dX1_tokensOnWay_30 : decode cX1_tokensOnWay 30 = .ok (.iload_n 3, 1) := by decide +kernel
theorem dX1_tokensOnWay_31 : decode cX1_tokensOnWay 31 = .ok (.iaload, 1) := by decide +kernel
theorem dX1_tokensOnWay_32 : decode cX1_tokensOnWay 32 = .ok (.iconst 4, 1) := by decide +kernel
theorem dX1_tokensOnWay_33 : decode cX1_tokensOnWay 33 = .ok (.invokestatic 288, 3) := by decide +kernel
theorem dX1_tokensOnWay_36 : decode cX1_tokensOnWay 36 = .ok (.iadd, 1) := by decide +kernel
theorem dX1_tokensOnWay_37 : decode cX1_tokensOnWay 37 = .ok (.istore_n 2, 1) := by decide +kernel
theorem dX1_tokensOnWay_38 : decode cX1_tokensOnWay 38 = .ok (.iinc 3 1, 3) := by decide +kernel
theorem dX1_tokensOnWay_41 : decode cX1_tokensOnWay 41 = .ok (.goto (-37), 3) := by decide +kernel
theorem dX1_tokensOnWay_44 : decode cX1_tokensOnWay 44 = .ok (.iload_n 2, 1) := by decide +kernel
theorem dX1_tokensOnWay_45 : decode cX1_tokensOnWay 45 = .ok (.ireturn, 1) := by decide +kernel
def xX1_tokensOnWay_4  (t : Nat) : Nat → Int32 → Int32 → Int32 → j_M → Option (Int32 × j_M)
  | 0, _, _, _, _ => none
  | n + 1, l1, l2, l3, M => oli (M t 8) fun v1 => (if v1 ≤ l3 then some (l2, M) else gd l3 256 (oli (M (t + 2) (ix l3)) fun v2 => obi (xX4_line v2 M) fun v4 M3 => (if v4 = l1 then gd l3 256 (oli (M3 (t + 2) (ix l3)) fun v5 => obi (xX4_inside v5 (nI 4) M3) fun v7 M6 => xX1_tokensOnWay_4 t n l1 (l2 + v7) (l3 + (nI 1)) M6) else xX1_tokensOnWay_4 t n l1 l2 (l3 + (nI 1)) M3)))
set_option maxRecDepth 20000 in
set_option maxHeartbeats 2000000 in
theorem tX1_tokensOnWay_4  (t : Nat)  : ∀ (n : Nat) (l1 : Int32) (l2 : Int32) (l3 : Int32) (M : j_M), J (ρ := Int32 × j_M) yX1_tokensOnWay cX1_tokensOnWay 4 (some .int) 2 45 j_ei 4 [(0, .inr (10, 0, t)), (1, .inl (l1)), (2, .inl (l2)), (3, .inl (l3))] [] M (xX1_tokensOnWay_4 t n l1 l2 l3 M) := by
  intro n
  induction n with
  | zero => intros; exact J_none
  | succ n ih =>
    intro l1 l2 l3 M
    rw [xX1_tokensOnWay_4.eq_2]
    refine K_iload_n (q := 5) 3 dX1_tokensOnWay_4 rfl rfl rfl ?_
    refine K_aload_n (q := 6) 0 dX1_tokensOnWay_5 rfl rfl rfl ?_
    refine K_getI (q := 9) (ci := 0) 8 dX1_tokensOnWay_6 fRX1_64 rfl rfl rfl (fun v1 => ?_)
    refine K_icmp_ge (q := 12) (tgt := 44) dX1_tokensOnWay_9 rfl ?_ rfl ?_
    · refine K_iload_n (q := 45) 2 dX1_tokensOnWay_44 rfl rfl rfl ?_
      exact J_iret dX1_tokensOnWay_45
    · refine K_aload_n (q := 13) 0 dX1_tokensOnWay_12 rfl rfl rfl ?_
      refine K_getR (q := 16) (ci := 0) (a2 := t + 2) 2 dX1_tokensOnWay_13 fRX1_15 rfl rfl (by decide) rfl rfl ?_
      refine K_iload_n (q := 17) 3 dX1_tokensOnWay_16 rfl rfl rfl ?_
      refine K_iald (q := 18) dX1_tokensOnWay_17 rfl (fun v2 => ?_)
      refine K_csi (q := 21) [.inl (v2)] dX1_tokensOnWay_18 cb_X4_line cvRX1_204 rfl (Nat.le_of_ble_eq_true rfl) ⟨by decide, by decide⟩ (Nat.le_of_ble_eq_true rfl) rfl (tX4_line v2 M) rfl (fun v4 M3 => ?_)
      refine K_iload_n (q := 22) 1 dX1_tokensOnWay_21 rfl rfl rfl ?_
      refine K_icmp_ne (q := 25) (tgt := 38) dX1_tokensOnWay_22 rfl ?_ rfl ?_
      · refine K_iinc (q := 41) (v := l3 + (nI 1)) (ll' := [(3, .inl (l3 + (nI 1))), (0, .inr (10, 0, t)), (1, .inl (l1)), (2, .inl (l2))]) 3 dX1_tokensOnWay_38 rfl rfl (by decide) rfl rfl ?_
        refine J_goto (tgt := 4) dX1_tokensOnWay_41 rfl ?_
        exact J_sub [1, 2, 3, 0] (ih l1 l2 (l3 + (nI 1)) M3) rfl
      · refine K_iload_n (q := 26) 2 dX1_tokensOnWay_25 rfl rfl rfl ?_
        refine K_aload_n (q := 27) 0 dX1_tokensOnWay_26 rfl rfl rfl ?_
        refine K_getR (q := 30) (ci := 0) (a2 := t + 2) 2 dX1_tokensOnWay_27 fRX1_15 rfl rfl (by decide) rfl rfl ?_
        refine K_iload_n (q := 31) 3 dX1_tokensOnWay_30 rfl rfl rfl ?_
        refine K_iald (q := 32) dX1_tokensOnWay_31 rfl (fun v5 => ?_)
        refine K_iconst (q := 33) (v := nI 4) dX1_tokensOnWay_32 rfl rfl ?_
        refine K_csi (q := 36) [.inl (v5), .inl ((nI 4))] dX1_tokensOnWay_33 cb_X4_inside cvRX1_288 rfl (Nat.le_of_ble_eq_true rfl) ⟨by decide, by decide⟩ (Nat.le_of_ble_eq_true rfl) rfl (tX4_inside v5 (nI 4) M3) rfl (fun v7 M6 => ?_)
        refine K_iadd (q := 37) dX1_tokensOnWay_36 rfl ?_
        refine K_istore_n (q := 38) (ll' := [(2, .inl (l2 + v7)), (0, .inr (10, 0, t)), (1, .inl (l1)), (3, .inl (l3))]) dX1_tokensOnWay_37 rfl (by decide) rfl rfl ?_
        refine K_iinc (q := 41) (v := l3 + (nI 1)) (ll' := [(3, .inl (l3 + (nI 1))), (2, .inl (l2 + v7)), (0, .inr (10, 0, t)), (1, .inl (l1))]) 3 dX1_tokensOnWay_38 rfl rfl (by decide) rfl rfl ?_
        refine J_goto (tgt := 4) dX1_tokensOnWay_41 rfl ?_
        exact J_sub [2, 3, 1, 0] (ih l1 (l2 + v7) (l3 + (nI 1)) M6) rfl
def xX1_tokensOnWay (t : Nat) (l1 : Int32) (M : j_M) : Option (Int32 × j_M) := xX1_tokensOnWay_4 t fu l1 (nI 0) (nI 0) M
set_option maxRecDepth 20000 in
set_option maxHeartbeats 2000000 in
theorem tX1_tokensOnWay (t : Nat) (l1 : Int32) (M : j_M) : J (ρ := Int32 × j_M) yX1_tokensOnWay cX1_tokensOnWay 4 (some .int) 2 45 j_ei 0 [(0, .inr (10, 0, t)), (1, .inl (l1))] [] M (xX1_tokensOnWay t l1 M) := by
  unfold xX1_tokensOnWay
  refine K_iconst (q := 1) (v := nI 0) dX1_tokensOnWay_0 rfl rfl ?_
  refine K_istore_n (q := 2) (ll' := [(2, .inl ((nI 0))), (0, .inr (10, 0, t)), (1, .inl (l1))]) dX1_tokensOnWay_1 rfl (by decide) rfl rfl ?_
  refine K_iconst (q := 3) (v := nI 0) dX1_tokensOnWay_2 rfl rfl ?_
  refine K_istore_n (q := 4) (ll' := [(3, .inl ((nI 0))), (2, .inl ((nI 0))), (0, .inr (10, 0, t)), (1, .inl (l1))]) dX1_tokensOnWay_3 rfl (by decide) rfl rfl ?_
  exact J_sub [2, 3, 1, 0] (tX1_tokensOnWay_4 t fu l1 (nI 0) (nI 0) M) rfl
theorem dX1_writerOf_0 : decode cX1_writerOf 0 = .ok (.iconst 0, 1) := by decide +kernel
theorem dX1_writerOf_1 : decode cX1_writerOf 1 = .ok (.istore_n 2, 1) := by decide +kernel
theorem dX1_writerOf_2 : decode cX1_writerOf 2 = .ok (.iload_n 2, 1) := by decide +kernel
theorem dX1_writerOf_3 : decode cX1_writerOf 3 = .ok (.aload_n 0, 1) := by decide +kernel
theorem dX1_writerOf_4 : decode cX1_writerOf 4 = .ok (.getfield 33, 3) := by decide +kernel
theorem dX1_writerOf_7 : decode cX1_writerOf 7 = .ok (.if_icmp .ge 21, 3) := by decide +kernel
theorem dX1_writerOf_10 : decode cX1_writerOf 10 = .ok (.aload_n 0, 1) := by decide +kernel
theorem dX1_writerOf_11 : decode cX1_writerOf 11 = .ok (.iload_n 2, 1) := by decide +kernel
theorem dX1_writerOf_12 : decode cX1_writerOf 12 = .ok (.iload_n 1, 1) := by decide +kernel
theorem dX1_writerOf_13 : decode cX1_writerOf 13 = .ok (.iconst 2, 1) := by decide +kernel
theorem dX1_writerOf_14 : decode cX1_writerOf 14 = .ok (.invokevirtual 102, 3) := by decide +kernel
theorem dX1_writerOf_17 : decode cX1_writerOf 17 = .ok (.ifCond .eq 5, 3) := by decide +kernel
theorem dX1_writerOf_20 : decode cX1_writerOf 20 = .ok (.iload_n 2, 1) := by decide +kernel
theorem dX1_writerOf_21 : decode cX1_writerOf 21 = .ok (.ireturn, 1) := by decide +kernel
theorem dX1_writerOf_22 : decode cX1_writerOf 22 = .ok (.iinc 2 1, 3) := by decide +kernel
theorem dX1_writerOf_25 : decode cX1_writerOf 25 = .ok (.goto (-23), 3) := by decide +kernel
theorem dX1_writerOf_28 : decode cX1_writerOf 28 = .ok (.iconst (-1), 1) := by decide +kernel
theorem dX1_writerOf_29 : decode cX1_writerOf 29 = .ok (.ireturn, 1) := by decide +kernel
def xX1_writerOf_2  (t : Nat) : Nat → Int32 → Int32 → j_M → Option (Int32 × j_M)
  | 0, _, _, _ => none
  | n + 1, l1, l2, M => oli (M t 9) fun v1 => (if v1 ≤ l2 then some ((-1 : Int32), M) else obi (xX1_wouldHit t l2 l1 (nI 2) M) fun v3 M2 => (if v3 = (0 : Int32) then xX1_writerOf_2 t n l1 (l2 + (nI 1)) M2 else some (l2, M2)))
set_option maxRecDepth 20000 in
set_option maxHeartbeats 2000000 in
theorem tX1_writerOf_2  (t : Nat)  : ∀ (n : Nat) (l1 : Int32) (l2 : Int32) (M : j_M), J (ρ := Int32 × j_M) yX1_writerOf cX1_writerOf 3 (some .int) 2 45 j_ei 2 [(0, .inr (10, 0, t)), (1, .inl (l1)), (2, .inl (l2))] [] M (xX1_writerOf_2 t n l1 l2 M) := by
  intro n
  induction n with
  | zero => intros; exact J_none
  | succ n ih =>
    intro l1 l2 M
    rw [xX1_writerOf_2.eq_2]
    refine K_iload_n (q := 3) 2 dX1_writerOf_2 rfl rfl rfl ?_
    refine K_aload_n (q := 4) 0 dX1_writerOf_3 rfl rfl rfl ?_
    refine K_getI (q := 7) (ci := 0) 9 dX1_writerOf_4 fRX1_33 rfl rfl rfl (fun v1 => ?_)
    refine K_icmp_ge (q := 10) (tgt := 28) dX1_writerOf_7 rfl ?_ rfl ?_
    · refine K_iconst (q := 29) (v := -1) dX1_writerOf_28 rfl rfl ?_
      exact J_iret dX1_writerOf_29
    · refine K_aload_n (q := 11) 0 dX1_writerOf_10 rfl rfl rfl ?_
      refine K_iload_n (q := 12) 2 dX1_writerOf_11 rfl rfl rfl ?_
      refine K_iload_n (q := 13) 1 dX1_writerOf_12 rfl rfl rfl ?_
      refine K_iconst (q := 14) (v := nI 2) dX1_writerOf_13 rfl rfl ?_
      refine K_cvi (q := 17) [.inl (l2), .inl (l1), .inl ((nI 2))] dX1_writerOf_14 cb_X1_wouldHit cvRX1_102 rc_0 (show (10 : Nat) ≠ 0 by decide) rfl (Nat.le_of_ble_eq_true rfl) ⟨by decide, by decide⟩ (Nat.le_of_ble_eq_true rfl) rfl (tX1_wouldHit t l2 l1 (nI 2) M) rfl (fun v3 M2 => ?_)
      refine K_if_eq (q := 20) (tgt := 22) dX1_writerOf_17 rfl ?_ rfl ?_
      · refine K_iinc (q := 25) (v := l2 + (nI 1)) (ll' := [(2, .inl (l2 + (nI 1))), (0, .inr (10, 0, t)), (1, .inl (l1))]) 2 dX1_writerOf_22 rfl rfl (by decide) rfl rfl ?_
        refine J_goto (tgt := 2) dX1_writerOf_25 rfl ?_
        exact J_sub [1, 2, 0] (ih l1 (l2 + (nI 1)) M2) rfl
      · refine K_iload_n (q := 21) 2 dX1_writerOf_20 rfl rfl rfl ?_
        exact J_iret dX1_writerOf_21
def xX1_writerOf (t : Nat) (l1 : Int32) (M : j_M) : Option (Int32 × j_M) := xX1_writerOf_2 t fu l1 (nI 0) M
set_option maxRecDepth 20000 in
set_option maxHeartbeats 2000000 in
theorem tX1_writerOf (t : Nat) (l1 : Int32) (M : j_M) : J (ρ := Int32 × j_M) yX1_writerOf cX1_writerOf 3 (some .int) 2 45 j_ei 0 [(0, .inr (10, 0, t)), (1, .inl (l1))] [] M (xX1_writerOf t l1 M) := by
  unfold xX1_writerOf
  refine K_iconst (q := 1) (v := nI 0) dX1_writerOf_0 rfl rfl ?_
  refine K_istore_n (q := 2) (ll' := [(2, .inl ((nI 0))), (0, .inr (10, 0, t)), (1, .inl (l1))]) dX1_writerOf_1 rfl (by decide) rfl rfl ?_
  exact J_sub [1, 2, 0] (tX1_writerOf_2 t fu l1 (nI 0) M) rfl
theorem dX1_ownerData_0 : decode cX1_ownerData 0 = .ok (.aload_n 0, 1) := by decide +kernel
theorem dX1_ownerData_1 : decode cX1_ownerData 1 = .ok (.iload_n 1, 1) := by decide +kernel
theorem dX1_ownerData_2 : decode cX1_ownerData 2 = .ok (.invokevirtual 285, 3) := by decide +kernel
theorem dX1_ownerData_5 : decode cX1_ownerData 5 = .ok (.istore_n 2, 1) := by decide +kernel
theorem dX1_ownerData_6 : decode cX1_ownerData 6 = .ok (.iload_n 2, 1) := by decide +kernel
theorem dX1_ownerData_7 : decode cX1_ownerData 7 = .ok (.iconst (-1), 1) := by decide +kernel
theorem dX1_ownerData_8 : decode cX1_ownerData 8 = .ok (.if_icmp .eq 13, 3) := by decide +kernel
theorem dX1_ownerData_11 : decode cX1_ownerData 11 = .ok (.aload_n 0, 1) := by decide +kernel
theorem dX1_ownerData_12 : decode cX1_ownerData 12 = .ok (.iload_n 2, 1) := by decide +kernel
theorem dX1_ownerData_13 : decode cX1_ownerData 13 = .ok (.iload_n 1, 1) := by decide +kernel
theorem dX1_ownerData_14 : decode cX1_ownerData 14 = .ok (.invokevirtual 176, 3) := by decide +kernel
theorem dX1_ownerData_17 : decode cX1_ownerData 17 = .ok (.invokestatic 127, 3) := by decide +kernel
theorem dX1_ownerData_20 : decode cX1_ownerData 20 = .ok (.ireturn, 1) := by decide +kernel
theorem dX1_ownerData_21 : decode cX1_ownerData 21 = .ok (.iconst 0, 1) := by decide +kernel
theorem dX1_ownerData_22 : decode cX1_ownerData 22 = .ok (.istore_n 3, 1) := by decide +kernel
theorem dX1_ownerData_23 : decode cX1_ownerData 23 = .ok (.iload_n 3, 1) := by decide +kernel
theorem dX1_ownerData_24 : decode cX1_ownerData 24 = .ok (.aload_n 0, 1) := by decide +kernel
theorem dX1_ownerData_25 : decode cX1_ownerData 25 = .ok (.getfield 64, 3) := by decide +kernel
theorem dX1_ownerData_28 : decode cX1_ownerData 28 = .ok (.if_icmp .ge 48, 3) := by decide +kernel
theorem dX1_ownerData_31 : decode cX1_ownerData 31 = .ok (.aload_n 0, 1) := by decide +kernel
theorem dX1_ownerData_32 : decode cX1_ownerData 32 = .ok (.getfield 15, 3) := by decide +kernel
theorem dX1_ownerData_35 : decode cX1_ownerData 35 = .ok (.iload_n 3, 1) := by decide +kernel
theorem dX1_ownerData_36 : decode cX1_ownerData 36 = .ok (.iaload, 1) := by decide +kernel
theorem dX1_ownerData_37 : decode cX1_ownerData 37 = .ok (.invokestatic 204, 3) := by decide +kernel
theorem dX1_ownerData_40 : decode cX1_ownerData 40 = .ok (.iload_n 1, 1) := by decide +kernel
theorem dX1_ownerData_41 : decode cX1_ownerData 41 = .ok (.if_icmp .ne 29, 3) := by decide +kernel
theorem dX1_ownerData_44 : decode cX1_ownerData 44 = .ok (.aload_n 0, 1) := by decide +kernel
theorem dX1_ownerData_45 : decode cX1_ownerData 45 = .ok (.getfield 15, 3) := by decide +kernel
theorem dX1_ownerData_48 : decode cX1_ownerData 48 = .ok (.iload_n 3, 1) := by decide +kernel
theorem dX1_ownerData_49 : decode cX1_ownerData 49 = .ok (.iaload, 1) := by decide +kernel
theorem dX1_ownerData_50 : decode cX1_ownerData 50 = .ok (.iconst 5, 1) := by decide +kernel
theorem dX1_ownerData_51 : decode cX1_ownerData 51 = .ok (.invokestatic 288, 3) := by decide +kernel
theorem dX1_ownerData_54 : decode cX1_ownerData 54 = .ok (.iconst 1, 1) := by decide +kernel
theorem dX1_ownerData_55 : decode cX1_ownerData 55 = .ok (.if_icmp .ne 15, 3) := by decide +kernel
theorem dX1_ownerData_58 : decode cX1_ownerData 58 = .ok (.aload_n 0, 1) := by decide +kernel
theorem dX1_ownerData_59 : decode cX1_ownerData 59 = .ok (.getfield 15, 3) := by decide +kernel
theorem dX1_ownerData_62 : decode cX1_ownerData 62 = .ok (.iload_n 3, 1) := by decide +kernel
theorem dX1_ownerData_63 : decode cX1_ownerData 63 = .ok (.iaload, 1) := by decide +kernel
theorem dX1_ownerData_64 : decode cX1_ownerData 64 = .ok (.bipush 6, 2) := by decide +kernel
theorem dX1_ownerData_66 : decode cX1_ownerData 66 = .ok (.invokestatic 288, 3) := by decide +kernel
theorem dX1_ownerData_69 : decode cX1_ownerData 69 = .ok (.ireturn, 1) := by decide +kernel
theorem dX1_ownerData_70 : decode cX1_ownerData 70 = .ok (.iinc 3 1, 3) := by decide +kernel
theorem dX1_ownerData_73 : decode cX1_ownerData 73 = .ok (.goto (-50), 3) := by decide +kernel
theorem dX1_ownerData_76 : decode cX1_ownerData 76 = .ok (.iconst (-1), 1) := by decide +kernel
theorem dX1_ownerData_77 : decode cX1_ownerData 77 = .ok (.ireturn, 1) := by decide +kernel
def xX1_ownerData_23  (t : Nat) : Nat → Int32 → Int32 → j_M → Option (Int32 × j_M)
  | 0, _, _, _ => none
  | n + 1, l1, l3, M => oli (M t 8) fun v1 => (if v1 ≤ l3 then some ((-1 : Int32), M) else gd l3 256 (oli (M (t + 2) (ix l3)) fun v2 => obi (xX4_line v2 M) fun v4 M3 => (if v4 = l1 then gd l3 256 (oli (M3 (t + 2) (ix l3)) fun v5 => obi (xX4_inside v5 (nI 5) M3) fun v7 M6 => (if v7 = (nI 1) then gd l3 256 (oli (M6 (t + 2) (ix l3)) fun v8 => obi (xX4_inside v8 (nI 6) M6) fun v10 M9 => some (v10, M9)) else xX1_ownerData_23 t n l1 (l3 + (nI 1)) M6)) else xX1_ownerData_23 t n l1 (l3 + (nI 1)) M3)))
set_option maxRecDepth 20000 in
set_option maxHeartbeats 2000000 in
theorem tX1_ownerData_23  (t : Nat)  : ∀ (n : Nat) (l1 : Int32) (l3 : Int32) (M : j_M), J (ρ := Int32 × j_M) yX1_ownerData cX1_ownerData 4 (some .int) 3 64 j_ei 23 [(0, .inr (10, 0, t)), (1, .inl (l1)), (3, .inl (l3))] [] M (xX1_ownerData_23 t n l1 l3 M) := by
  intro n
  induction n with
  | zero => intros; exact J_none
  | succ n ih =>
    intro l1 l3 M
    rw [xX1_ownerData_23.eq_2]
    refine K_iload_n (q := 24) 2 dX1_ownerData_23 rfl rfl rfl ?_
    refine K_aload_n (q := 25) 0 dX1_ownerData_24 rfl rfl rfl ?_
    refine K_getI (q := 28) (ci := 0) 8 dX1_ownerData_25 fRX1_64 rfl rfl rfl (fun v1 => ?_)
    refine K_icmp_ge (q := 31) (tgt := 76) dX1_ownerData_28 rfl ?_ rfl ?_
    · refine K_iconst (q := 77) (v := -1) dX1_ownerData_76 rfl rfl ?_
      exact J_iret dX1_ownerData_77
    · refine K_aload_n (q := 32) 0 dX1_ownerData_31 rfl rfl rfl ?_
      refine K_getR (q := 35) (ci := 0) (a2 := t + 2) 2 dX1_ownerData_32 fRX1_15 rfl rfl (by decide) rfl rfl ?_
      refine K_iload_n (q := 36) 2 dX1_ownerData_35 rfl rfl rfl ?_
      refine K_iald (q := 37) dX1_ownerData_36 rfl (fun v2 => ?_)
      refine K_csi (q := 40) [.inl (v2)] dX1_ownerData_37 cb_X4_line cvRX1_204 rfl (Nat.le_of_ble_eq_true rfl) ⟨by decide, by decide⟩ (Nat.le_of_ble_eq_true rfl) rfl (tX4_line v2 M) rfl (fun v4 M3 => ?_)
      refine K_iload_n (q := 41) 1 dX1_ownerData_40 rfl rfl rfl ?_
      refine K_icmp_ne (q := 44) (tgt := 70) dX1_ownerData_41 rfl ?_ rfl ?_
      · refine K_iinc (q := 73) (v := l3 + (nI 1)) (ll' := [(3, .inl (l3 + (nI 1))), (0, .inr (10, 0, t)), (1, .inl (l1))]) 2 dX1_ownerData_70 rfl rfl (by decide) rfl rfl ?_
        refine J_goto (tgt := 23) dX1_ownerData_73 rfl ?_
        exact J_sub [1, 2, 0] (ih l1 (l3 + (nI 1)) M3) rfl
      · refine K_aload_n (q := 45) 0 dX1_ownerData_44 rfl rfl rfl ?_
        refine K_getR (q := 48) (ci := 0) (a2 := t + 2) 2 dX1_ownerData_45 fRX1_15 rfl rfl (by decide) rfl rfl ?_
        refine K_iload_n (q := 49) 2 dX1_ownerData_48 rfl rfl rfl ?_
        refine K_iald (q := 50) dX1_ownerData_49 rfl (fun v5 => ?_)
        refine K_iconst (q := 51) (v := nI 5) dX1_ownerData_50 rfl rfl ?_
        refine K_csi (q := 54) [.inl (v5), .inl ((nI 5))] dX1_ownerData_51 cb_X4_inside cvRX1_288 rfl (Nat.le_of_ble_eq_true rfl) ⟨by decide, by decide⟩ (Nat.le_of_ble_eq_true rfl) rfl (tX4_inside v5 (nI 5) M3) rfl (fun v7 M6 => ?_)
        refine K_iconst (q := 55) (v := nI 1) dX1_ownerData_54 rfl rfl ?_
        refine K_icmp_ne (q := 58) (tgt := 70) dX1_ownerData_55 rfl ?_ rfl ?_
        · refine K_iinc (q := 73) (v := l3 + (nI 1)) (ll' := [(3, .inl (l3 + (nI 1))), (0, .inr (10, 0, t)), (1, .inl (l1))]) 2 dX1_ownerData_70 rfl rfl (by decide) rfl rfl ?_
          refine J_goto (tgt := 23) dX1_ownerData_73 rfl ?_
          exact J_sub [1, 2, 0] (ih l1 (l3 + (nI 1)) M6) rfl
        · refine K_aload_n (q := 59) 0 dX1_ownerData_58 rfl rfl rfl ?_
          refine K_getR (q := 62) (ci := 0) (a2 := t + 2) 2 dX1_ownerData_59 fRX1_15 rfl rfl (by decide) rfl rfl ?_
          refine K_iload_n (q := 63) 2 dX1_ownerData_62 rfl rfl rfl ?_
          refine K_iald (q := 64) dX1_ownerData_63 rfl (fun v8 => ?_)
          refine K_bipush (q := 66) (v := nI 6) dX1_ownerData_64 rfl rfl ?_
          refine K_csi (q := 69) [.inl (v8), .inl ((nI 6))] dX1_ownerData_66 cb_X4_inside cvRX1_288 rfl (Nat.le_of_ble_eq_true rfl) ⟨by decide, by decide⟩ (Nat.le_of_ble_eq_true rfl) rfl (tX4_inside v8 (nI 6) M6) rfl (fun v10 M9 => ?_)
          exact J_iret dX1_ownerData_69
def xX1_ownerData (t : Nat) (l1 : Int32) (M : j_M) : Option (Int32 × j_M) := obi (xX1_ownerNode t l1 M) fun v2 M1 => (if v2 = (-1 : Int32) then xX1_ownerData_23 t fu l1 (nI 0) M1 else obi (xX1_heldAt t v2 l1 M1) fun v4 M3 => obi (xX3_data v4 M3) fun v6 M5 => some (v6, M5))
set_option maxRecDepth 20000 in
set_option maxHeartbeats 2000000 in
theorem tX1_ownerData (t : Nat) (l1 : Int32) (M : j_M) : J (ρ := Int32 × j_M) yX1_ownerData cX1_ownerData 4 (some .int) 3 64 j_ei 0 [(0, .inr (10, 0, t)), (1, .inl (l1))] [] M (xX1_ownerData t l1 M) := by
  unfold xX1_ownerData
  refine K_aload_n (q := 1) 0 dX1_ownerData_0 rfl rfl rfl ?_
  refine K_iload_n (q := 2) 1 dX1_ownerData_1 rfl rfl rfl ?_
  refine K_cvi (q := 5) [.inl (l1)] dX1_ownerData_2 cb_X1_ownerNode cvRX1_285 rc_0 (show (10 : Nat) ≠ 0 by decide) rfl (Nat.le_of_ble_eq_true rfl) ⟨by decide, by decide⟩ (Nat.le_of_ble_eq_true rfl) rfl (tX1_ownerNode t l1 M) rfl (fun v2 M1 => ?_)
  refine K_istore_n (q := 6) (ll' := [(2, .inl (v2)), (0, .inr (10, 0, t)), (1, .inl (l1))]) dX1_ownerData_5 rfl (by decide) rfl rfl ?_
  refine K_iload_n (q := 7) 0 dX1_ownerData_6 rfl rfl rfl ?_
  refine K_iconst (q := 8) (v := -1) dX1_ownerData_7 rfl rfl ?_
  refine K_icmp_eq (q := 11) (tgt := 21) dX1_ownerData_8 rfl ?_ rfl ?_
  · refine K_iconst (q := 22) (v := nI 0) dX1_ownerData_21 rfl rfl ?_
    refine K_istore_n (q := 23) (ll' := [(3, .inl ((nI 0))), (2, .inl (v2)), (0, .inr (10, 0, t)), (1, .inl (l1))]) dX1_ownerData_22 rfl (by decide) rfl rfl ?_
    exact J_sub [2, 3, 0] (tX1_ownerData_23 t fu l1 (nI 0) M1) rfl
  · refine K_aload_n (q := 12) 1 dX1_ownerData_11 rfl rfl rfl ?_
    refine K_iload_n (q := 13) 0 dX1_ownerData_12 rfl rfl rfl ?_
    refine K_iload_n (q := 14) 2 dX1_ownerData_13 rfl rfl rfl ?_
    refine K_cvi (q := 17) [.inl (v2), .inl (l1)] dX1_ownerData_14 cb_X1_heldAt cvRX1_176 rc_0 (show (10 : Nat) ≠ 0 by decide) rfl (Nat.le_of_ble_eq_true rfl) ⟨by decide, by decide⟩ (Nat.le_of_ble_eq_true rfl) rfl (tX1_heldAt t v2 l1 M1) rfl (fun v4 M3 => ?_)
    refine K_csi (q := 20) [.inl (v4)] dX1_ownerData_17 cb_X3_data cvRX1_127 rfl (Nat.le_of_ble_eq_true rfl) ⟨by decide, by decide⟩ (Nat.le_of_ble_eq_true rfl) rfl (tX3_data v4 M3) rfl (fun v6 M5 => ?_)
    exact J_iret dX1_ownerData_20
