/-! what a call needs of the tables of the method that is called -/
theorem ky_X10_textOf : am_Ky yX10_textOf cX10_textOf 2 (some (.object "WrackDeeds$Text")) 1 := ⟨am_word (k := 423) (by decide +kernel) rfl, am_word (k := 78) (by decide +kernel) rfl, by decide +kernel, by decide⟩
theorem kv_X10_textOf : am_KV yX10_textOf 10 := ⟨am_word (k := 422) (by decide +kernel) rfl, am_word (k := 0) (by decide +kernel) rfl, _, _, rfl⟩
theorem ky_X10_within : am_Ky yX10_within cX10_within 2 (some .boolean) 2 := ⟨am_word (k := 419) (by decide +kernel) rfl, am_word (k := 78) (by decide +kernel) rfl, by decide +kernel, by decide⟩
theorem ks_X10_within : am_KS yX10_within := am_word (k := 418) (by decide +kernel) rfl
theorem ky_X10_type : am_Ky yX10_type cX10_type 4 (some .int) 2 := ⟨am_word (k := 416) (by decide +kernel) rfl, am_word (k := 78) (by decide +kernel) rfl, by decide +kernel, by decide⟩
theorem kv_X10_type : am_KV yX10_type 10 := ⟨am_word (k := 414) (by decide +kernel) rfl, am_word (k := 415) (by decide +kernel) rfl, _, _, rfl⟩
theorem ky_X10_wipe : am_Ky yX10_wipe cX10_wipe 4 (some .int) 1 := ⟨am_word (k := 427) (by decide +kernel) rfl, am_word (k := 78) (by decide +kernel) rfl, by decide +kernel, by decide⟩
theorem kv_X10_wipe : am_KV yX10_wipe 10 := ⟨am_word (k := 425) (by decide +kernel) rfl, am_word (k := 426) (by decide +kernel) rfl, _, _, rfl⟩
theorem ky_X10_undo : am_Ky yX10_undo cX10_undo 3 (some .int) 1 := ⟨am_word (k := 431) (by decide +kernel) rfl, am_word (k := 78) (by decide +kernel) rfl, by decide +kernel, by decide⟩
theorem kv_X10_undo : am_KV yX10_undo 10 := ⟨am_word (k := 429) (by decide +kernel) rfl, am_word (k := 430) (by decide +kernel) rfl, _, _, rfl⟩
theorem ky_X0_chainOf : am_Ky yX0_chainOf cX0_chainOf 5 (some .int) 1 := ⟨am_word (k := 475) (by decide +kernel) rfl, am_word (k := 81) (by decide +kernel) rfl, by decide +kernel, by decide⟩
theorem kv_X0_chainOf : am_KV yX0_chainOf 0 := ⟨am_word (k := 474) (by decide +kernel) rfl, am_word (k := 7) (by decide +kernel) rfl, _, _, rfl⟩
theorem ky_X0_bladderOf : am_Ky yX0_bladderOf cX0_bladderOf 3 (some .int) 2 := ⟨am_word (k := 471) (by decide +kernel) rfl, am_word (k := 81) (by decide +kernel) rfl, by decide +kernel, by decide⟩
theorem kv_X0_bladderOf : am_KV yX0_bladderOf 0 := ⟨am_word (k := 469) (by decide +kernel) rfl, am_word (k := 470) (by decide +kernel) rfl, _, _, rfl⟩
theorem ky_X0_onOf : am_Ky yX0_onOf cX0_onOf 4 (some .int) 1 := ⟨am_word (k := 467) (by decide +kernel) rfl, am_word (k := 81) (by decide +kernel) rfl, by decide +kernel, by decide⟩
theorem kv_X0_onOf : am_KV yX0_onOf 0 := ⟨am_word (k := 466) (by decide +kernel) rfl, am_word (k := 6) (by decide +kernel) rfl, _, _, rfl⟩
theorem ky_X0_linkAll : am_Ky yX0_linkAll cX0_linkAll 2 none 0 := ⟨am_word (k := 463) (by decide +kernel) rfl, am_word (k := 81) (by decide +kernel) rfl, by decide +kernel, by decide⟩
theorem kv_X0_linkAll : am_KV yX0_linkAll 0 := ⟨am_word (k := 461) (by decide +kernel) rfl, am_word (k := 462) (by decide +kernel) rfl, _, _, rfl⟩
theorem ky_X0_takesBladder : am_Ky yX0_takesBladder cX0_takesBladder 2 (some .boolean) 1 := ⟨am_word (k := 459) (by decide +kernel) rfl, am_word (k := 81) (by decide +kernel) rfl, by decide +kernel, by decide⟩
theorem kv_X0_takesBladder : am_KV yX0_takesBladder 0 := ⟨am_word (k := 458) (by decide +kernel) rfl, am_word (k := 5) (by decide +kernel) rfl, _, _, rfl⟩
theorem ky_X0_takesFigure : am_Ky yX0_takesFigure cX0_takesFigure 2 (some .boolean) 1 := ⟨am_word (k := 451) (by decide +kernel) rfl, am_word (k := 81) (by decide +kernel) rfl, by decide +kernel, by decide⟩
theorem kv_X0_takesFigure : am_KV yX0_takesFigure 0 := ⟨am_word (k := 450) (by decide +kernel) rfl, am_word (k := 3) (by decide +kernel) rfl, _, _, rfl⟩
theorem ky_X0_takesKind : am_Ky yX0_takesKind cX0_takesKind 3 (some .boolean) 1 := ⟨am_word (k := 455) (by decide +kernel) rfl, am_word (k := 81) (by decide +kernel) rfl, by decide +kernel, by decide⟩
theorem kv_X0_takesKind : am_KV yX0_takesKind 0 := ⟨am_word (k := 454) (by decide +kernel) rfl, am_word (k := 4) (by decide +kernel) rfl, _, _, rfl⟩
theorem ky_X0_takes : am_Ky yX0_takes cX0_takes 2 (some .boolean) 1 := ⟨am_word (k := 447) (by decide +kernel) rfl, am_word (k := 81) (by decide +kernel) rfl, by decide +kernel, by decide⟩
theorem kv_X0_takes : am_KV yX0_takes 0 := ⟨am_word (k := 446) (by decide +kernel) rfl, am_word (k := 2) (by decide +kernel) rfl, _, _, rfl⟩
theorem ky_X0_parse : am_Ky yX0_parse cX0_parse 4 (some .int) 1 := ⟨am_word (k := 443) (by decide +kernel) rfl, am_word (k := 81) (by decide +kernel) rfl, by decide +kernel, by decide⟩
theorem kv_X0_parse : am_KV yX0_parse 0 := ⟨am_word (k := 441) (by decide +kernel) rfl, am_word (k := 442) (by decide +kernel) rfl, _, _, rfl⟩
theorem ky_X3_begin : am_Ky yX3_begin cX3_begin 3 none 2 := ⟨am_word (k := 491) (by decide +kernel) rfl, am_word (k := 84) (by decide +kernel) rfl, by decide +kernel, by decide⟩
theorem kv_X3_begin : am_KV yX3_begin 3 := ⟨am_word (k := 489) (by decide +kernel) rfl, am_word (k := 490) (by decide +kernel) rfl, _, _, rfl⟩
theorem ky_X10_stateAt : am_Ky yX10_stateAt cX10_stateAt 3 (some .int) 3 := ⟨am_word (k := 502) (by decide +kernel) rfl, am_word (k := 78) (by decide +kernel) rfl, by decide +kernel, by decide⟩
theorem ks_X10_stateAt : am_KS yX10_stateAt := am_word (k := 501) (by decide +kernel) rfl
theorem ky_X3_suffer : am_Ky yX3_suffer cX3_suffer 3 none 2 := ⟨am_word (k := 499) (by decide +kernel) rfl, am_word (k := 84) (by decide +kernel) rfl, by decide +kernel, by decide⟩
theorem kv_X3_suffer : am_KV yX3_suffer 3 := ⟨am_word (k := 498) (by decide +kernel) rfl, am_word (k := 8) (by decide +kernel) rfl, _, _, rfl⟩
theorem ky_X3_live : am_Ky yX3_live cX3_live 7 none 4 := ⟨am_word (k := 495) (by decide +kernel) rfl, am_word (k := 84) (by decide +kernel) rfl, by decide +kernel, by decide⟩
theorem kv_X3_live : am_KV yX3_live 3 := ⟨am_word (k := 493) (by decide +kernel) rfl, am_word (k := 494) (by decide +kernel) rfl, _, _, rfl⟩
theorem ky_X5_hangAll : am_Ky yX5_hangAll cX5_hangAll 5 none 3 := ⟨am_word (k := 487) (by decide +kernel) rfl, am_word (k := 83) (by decide +kernel) rfl, by decide +kernel, by decide⟩
theorem kv_X5_hangAll : am_KV yX5_hangAll 5 := ⟨am_word (k := 485) (by decide +kernel) rfl, am_word (k := 486) (by decide +kernel) rfl, _, _, rfl⟩
theorem ky_X7_firstBeyond : am_Ky yX7_firstBeyond cX7_firstBeyond 4 (some .int) 2 := ⟨am_word (k := 479) (by decide +kernel) rfl, am_word (k := 79) (by decide +kernel) rfl, by decide +kernel, by decide⟩
theorem kv_X7_firstBeyond : am_KV yX7_firstBeyond 7 := ⟨am_word (k := 477) (by decide +kernel) rfl, am_word (k := 478) (by decide +kernel) rfl, _, _, rfl⟩
theorem ky_X7_sound : am_Ky yX7_sound cX7_sound 1 (some .int) 0 := ⟨am_word (k := 483) (by decide +kernel) rfl, am_word (k := 79) (by decide +kernel) rfl, by decide +kernel, by decide⟩
theorem kv_X7_sound : am_KV yX7_sound 7 := ⟨am_word (k := 481) (by decide +kernel) rfl, am_word (k := 482) (by decide +kernel) rfl, _, _, rfl⟩
theorem ky_X5_nextRead : am_Ky yX5_nextRead cX5_nextRead 7 (some .int) 3 := ⟨am_word (k := 513) (by decide +kernel) rfl, am_word (k := 83) (by decide +kernel) rfl, by decide +kernel, by decide⟩
theorem kv_X5_nextRead : am_KV yX5_nextRead 5 := ⟨am_word (k := 511) (by decide +kernel) rfl, am_word (k := 512) (by decide +kernel) rfl, _, _, rfl⟩
theorem ky_X9_go : am_Ky yX9_go cX9_go 11 none 3 := ⟨am_word (k := 506) (by decide +kernel) rfl, am_word (k := 85) (by decide +kernel) rfl, by decide +kernel, by decide⟩
theorem kv_X9_go : am_KV yX9_go 9 := ⟨am_word (k := 504) (by decide +kernel) rfl, am_word (k := 505) (by decide +kernel) rfl, _, _, rfl⟩
theorem ky_X10_freshen : am_Ky yX10_freshen cX10_freshen 3 none 0 := ⟨am_word (k := 439) (by decide +kernel) rfl, am_word (k := 78) (by decide +kernel) rfl, by decide +kernel, by decide⟩
theorem kv_X10_freshen : am_KV yX10_freshen 10 := ⟨am_word (k := 438) (by decide +kernel) rfl, am_word (k := 1) (by decide +kernel) rfl, _, _, rfl⟩
theorem ky_X10_fault : am_Ky yX10_fault cX10_fault 2 (some .int) 1 := ⟨am_word (k := 435) (by decide +kernel) rfl, am_word (k := 78) (by decide +kernel) rfl, by decide +kernel, by decide⟩
theorem kv_X10_fault : am_KV yX10_fault 10 := ⟨am_word (k := 433) (by decide +kernel) rfl, am_word (k := 434) (by decide +kernel) rfl, _, _, rfl⟩
theorem ky_X10_isStrand : am_Ky yX10_isStrand cX10_isStrand 2 (some .boolean) 1 := ⟨am_word (k := 524) (by decide +kernel) rfl, am_word (k := 78) (by decide +kernel) rfl, by decide +kernel, by decide⟩
theorem kv_X10_isStrand : am_KV yX10_isStrand 10 := ⟨am_word (k := 523) (by decide +kernel) rfl, am_word (k := 9) (by decide +kernel) rfl, _, _, rfl⟩
theorem ky_X10_strand : am_Ky yX10_strand cX10_strand 3 (some .int) 2 := ⟨am_word (k := 520) (by decide +kernel) rfl, am_word (k := 78) (by decide +kernel) rfl, by decide +kernel, by decide⟩
theorem kv_X10_strand : am_KV yX10_strand 10 := ⟨am_word (k := 518) (by decide +kernel) rfl, am_word (k := 519) (by decide +kernel) rfl, _, _, rfl⟩
theorem ky_X10_tide : am_Ky yX10_tide cX10_tide 2 (some .int) 1 := ⟨am_word (k := 529) (by decide +kernel) rfl, am_word (k := 78) (by decide +kernel) rfl, by decide +kernel, by decide⟩
theorem kv_X10_tide : am_KV yX10_tide 10 := ⟨am_word (k := 527) (by decide +kernel) rfl, am_word (k := 528) (by decide +kernel) rfl, _, _, rfl⟩
theorem ky_X10_route : am_Ky yX10_route cX10_route 2 (some .int) 1 := ⟨am_word (k := 533) (by decide +kernel) rfl, am_word (k := 78) (by decide +kernel) rfl, by decide +kernel, by decide⟩
theorem kv_X10_route : am_KV yX10_route 10 := ⟨am_word (k := 531) (by decide +kernel) rfl, am_word (k := 532) (by decide +kernel) rfl, _, _, rfl⟩
theorem ky_X10_mayBeEvent : am_Ky yX10_mayBeEvent cX10_mayBeEvent 4 (some .boolean) 4 := ⟨am_word (k := 540) (by decide +kernel) rfl, am_word (k := 78) (by decide +kernel) rfl, by decide +kernel, by decide⟩
theorem ks_X10_mayBeEvent : am_KS yX10_mayBeEvent := am_word (k := 539) (by decide +kernel) rfl
theorem ky_X1_tell : am_Ky yX1_tell cX1_tell 5 none 4 := ⟨am_word (k := 544) (by decide +kernel) rfl, am_word (k := 82) (by decide +kernel) rfl, by decide +kernel, by decide⟩
theorem kv_X1_tell : am_KV yX1_tell 1 := ⟨am_word (k := 542) (by decide +kernel) rfl, am_word (k := 543) (by decide +kernel) rfl, _, _, rfl⟩
theorem ky_X10_event : am_Ky yX10_event cX10_event 5 (some .int) 4 := ⟨am_word (k := 537) (by decide +kernel) rfl, am_word (k := 78) (by decide +kernel) rfl, by decide +kernel, by decide⟩
theorem kv_X10_event : am_KV yX10_event 10 := ⟨am_word (k := 535) (by decide +kernel) rfl, am_word (k := 536) (by decide +kernel) rfl, _, _, rfl⟩
theorem ky_X10_back : am_Ky yX10_back cX10_back 1 (some .int) 0 := ⟨am_word (k := 548) (by decide +kernel) rfl, am_word (k := 78) (by decide +kernel) rfl, by decide +kernel, by decide⟩
theorem kv_X10_back : am_KV yX10_back 10 := ⟨am_word (k := 546) (by decide +kernel) rfl, am_word (k := 547) (by decide +kernel) rfl, _, _, rfl⟩
theorem ky_X10_eventFrom : am_Ky yX10_eventFrom cX10_eventFrom 4 (some .boolean) 2 := ⟨am_word (k := 560) (by decide +kernel) rfl, am_word (k := 78) (by decide +kernel) rfl, by decide +kernel, by decide⟩
theorem kv_X10_eventFrom : am_KV yX10_eventFrom 10 := ⟨am_word (k := 559) (by decide +kernel) rfl, am_word (k := 11) (by decide +kernel) rfl, _, _, rfl⟩
theorem ky_X10_finding : am_Ky yX10_finding cX10_finding 2 (some .int) 1 := ⟨am_word (k := 556) (by decide +kernel) rfl, am_word (k := 78) (by decide +kernel) rfl, by decide +kernel, by decide⟩
theorem kv_X10_finding : am_KV yX10_finding 10 := ⟨am_word (k := 555) (by decide +kernel) rfl, am_word (k := 10) (by decide +kernel) rfl, _, _, rfl⟩
theorem ky_X10_read : am_Ky yX10_read cX10_read 5 (some .int) 1 := ⟨am_word (k := 552) (by decide +kernel) rfl, am_word (k := 78) (by decide +kernel) rfl, by decide +kernel, by decide⟩
theorem kv_X10_read : am_KV yX10_read 10 := ⟨am_word (k := 550) (by decide +kernel) rfl, am_word (k := 551) (by decide +kernel) rfl, _, _, rfl⟩
theorem ky_X10_state : am_Ky yX10_state cX10_state 5 (some .int) 3 := ⟨am_word (k := 565) (by decide +kernel) rfl, am_word (k := 78) (by decide +kernel) rfl, by decide +kernel, by decide⟩
theorem kv_X10_state : am_KV yX10_state 10 := ⟨am_word (k := 563) (by decide +kernel) rfl, am_word (k := 564) (by decide +kernel) rfl, _, _, rfl⟩
theorem ky_X1_pops : am_Ky yX1_pops cX1_pops 5 (some .boolean) 3 := ⟨am_word (k := 577) (by decide +kernel) rfl, am_word (k := 82) (by decide +kernel) rfl, by decide +kernel, by decide⟩
theorem kv_X1_pops : am_KV yX1_pops 1 := ⟨am_word (k := 575) (by decide +kernel) rfl, am_word (k := 576) (by decide +kernel) rfl, _, _, rfl⟩
theorem ky_X10_bladderIn : am_Ky yX10_bladderIn cX10_bladderIn 4 (some .int) 3 := ⟨am_word (k := 573) (by decide +kernel) rfl, am_word (k := 78) (by decide +kernel) rfl, by decide +kernel, by decide⟩
theorem kv_X10_bladderIn : am_KV yX10_bladderIn 10 := ⟨am_word (k := 572) (by decide +kernel) rfl, am_word (k := 12) (by decide +kernel) rfl, _, _, rfl⟩
theorem ky_X10_says : am_Ky yX10_says cX10_says 4 (some .int) 3 := ⟨am_word (k := 569) (by decide +kernel) rfl, am_word (k := 78) (by decide +kernel) rfl, by decide +kernel, by decide⟩
theorem kv_X10_says : am_KV yX10_says 10 := ⟨am_word (k := 567) (by decide +kernel) rfl, am_word (k := 568) (by decide +kernel) rfl, _, _, rfl⟩
theorem ky_X3_legibleHours : am_Ky yX3_legibleHours cX3_legibleHours 3 (some .int) 0 := ⟨am_word (k := 585) (by decide +kernel) rfl, am_word (k := 84) (by decide +kernel) rfl, by decide +kernel, by decide⟩
theorem kv_X3_legibleHours : am_KV yX3_legibleHours 3 := ⟨am_word (k := 583) (by decide +kernel) rfl, am_word (k := 584) (by decide +kernel) rfl, _, _, rfl⟩
theorem ky_X10_deed : am_Ky yX10_deed cX10_deed 3 (some .int) 2 := ⟨am_word (k := 581) (by decide +kernel) rfl, am_word (k := 78) (by decide +kernel) rfl, by decide +kernel, by decide⟩
theorem kv_X10_deed : am_KV yX10_deed 10 := ⟨am_word (k := 579) (by decide +kernel) rfl, am_word (k := 580) (by decide +kernel) rfl, _, _, rfl⟩
theorem ky_X1_herons : am_Ky yX1_herons cX1_herons 5 (some .int) 2 := ⟨am_word (k := 597) (by decide +kernel) rfl, am_word (k := 82) (by decide +kernel) rfl, by decide +kernel, by decide⟩
theorem kv_X1_herons : am_KV yX1_herons 1 := ⟨am_word (k := 595) (by decide +kernel) rfl, am_word (k := 596) (by decide +kernel) rfl, _, _, rfl⟩
theorem ky_X10_voidBits : am_Ky yX10_voidBits cX10_voidBits 5 (some .int) 2 := ⟨am_word (k := 593) (by decide +kernel) rfl, am_word (k := 78) (by decide +kernel) rfl, by decide +kernel, by decide⟩
theorem kv_X10_voidBits : am_KV yX10_voidBits 10 := ⟨am_word (k := 592) (by decide +kernel) rfl, am_word (k := 13) (by decide +kernel) rfl, _, _, rfl⟩
theorem ky_X10_voids : am_Ky yX10_voids cX10_voids 2 (some .int) 1 := ⟨am_word (k := 589) (by decide +kernel) rfl, am_word (k := 78) (by decide +kernel) rfl, by decide +kernel, by decide⟩
theorem kv_X10_voids : am_KV yX10_voids 10 := ⟨am_word (k := 587) (by decide +kernel) rfl, am_word (k := 588) (by decide +kernel) rfl, _, _, rfl⟩
theorem ky_X0_inTwos : am_Ky yX0_inTwos cX0_inTwos 3 (some .boolean) 1 := ⟨am_word (k := 605) (by decide +kernel) rfl, am_word (k := 81) (by decide +kernel) rfl, by decide +kernel, by decide⟩
theorem kv_X0_inTwos : am_KV yX0_inTwos 0 := ⟨am_word (k := 603) (by decide +kernel) rfl, am_word (k := 604) (by decide +kernel) rfl, _, _, rfl⟩
theorem ky_X10_forged : am_Ky yX10_forged cX10_forged 3 (some .int) 0 := ⟨am_word (k := 601) (by decide +kernel) rfl, am_word (k := 78) (by decide +kernel) rfl, by decide +kernel, by decide⟩
theorem kv_X10_forged : am_KV yX10_forged 10 := ⟨am_word (k := 599) (by decide +kernel) rfl, am_word (k := 600) (by decide +kernel) rfl, _, _, rfl⟩
theorem ky_X0_runFrom : am_Ky yX0_runFrom cX0_runFrom 6 (some .int) 4 := ⟨am_word (k := 617) (by decide +kernel) rfl, am_word (k := 81) (by decide +kernel) rfl, by decide +kernel, by decide⟩
theorem kv_X0_runFrom : am_KV yX0_runFrom 0 := ⟨am_word (k := 616) (by decide +kernel) rfl, am_word (k := 14) (by decide +kernel) rfl, _, _, rfl⟩
theorem ky_X0_commonRun : am_Ky yX0_commonRun cX0_commonRun 6 (some .int) 2 := ⟨am_word (k := 613) (by decide +kernel) rfl, am_word (k := 81) (by decide +kernel) rfl, by decide +kernel, by decide⟩
theorem kv_X0_commonRun : am_KV yX0_commonRun 0 := ⟨am_word (k := 611) (by decide +kernel) rfl, am_word (k := 612) (by decide +kernel) rfl, _, _, rfl⟩
theorem ky_X10_tangled : am_Ky yX10_tangled cX10_tangled 7 (some .int) 1 := ⟨am_word (k := 609) (by decide +kernel) rfl, am_word (k := 78) (by decide +kernel) rfl, by decide +kernel, by decide⟩
theorem kv_X10_tangled : am_KV yX10_tangled 10 := ⟨am_word (k := 607) (by decide +kernel) rfl, am_word (k := 608) (by decide +kernel) rfl, _, _, rfl⟩
theorem ky_X10_reads : am_Ky yX10_reads cX10_reads 2 (some .int) 1 := ⟨am_word (k := 625) (by decide +kernel) rfl, am_word (k := 78) (by decide +kernel) rfl, by decide +kernel, by decide⟩
theorem kv_X10_reads : am_KV yX10_reads 10 := ⟨am_word (k := 623) (by decide +kernel) rfl, am_word (k := 624) (by decide +kernel) rfl, _, _, rfl⟩
theorem ky_X8_keepIfBetter : am_Ky yX8_keepIfBetter cX8_keepIfBetter 3 none 2 := ⟨am_word (k := 645) (by decide +kernel) rfl, am_word (k := 86) (by decide +kernel) rfl, by decide +kernel, by decide⟩
theorem kv_X8_keepIfBetter : am_KV yX8_keepIfBetter 8 := ⟨am_word (k := 644) (by decide +kernel) rfl, am_word (k := 15) (by decide +kernel) rfl, _, _, rfl⟩
theorem ky_X8_mayGetBetter : am_Ky yX8_mayGetBetter cX8_mayGetBetter 4 (some .boolean) 2 := ⟨am_word (k := 652) (by decide +kernel) rfl, am_word (k := 86) (by decide +kernel) rfl, by decide +kernel, by decide⟩
theorem kv_X8_mayGetBetter : am_KV yX8_mayGetBetter 8 := ⟨am_word (k := 651) (by decide +kernel) rfl, am_word (k := 16) (by decide +kernel) rfl, _, _, rfl⟩
theorem ky_X8_visit : am_Ky yX8_visit cX8_visit 10 none 6 := ⟨am_word (k := 641) (by decide +kernel) rfl, am_word (k := 86) (by decide +kernel) rfl, by decide +kernel, by decide⟩
theorem ks_X8_visit : am_KS yX8_visit := am_word (k := 640) (by decide +kernel) rfl
theorem ky_J7_fill_53178 : am_Ky yJ7_fill_53178 cJ7_fill_53178 4 none 2 := ⟨am_word (k := 637) (by decide +kernel) rfl, am_word (k := 91) (by decide +kernel) rfl, by decide +kernel, by decide⟩
theorem ks_J7_fill_53178 : am_KS yJ7_fill_53178 := am_word (k := 636) (by decide +kernel) rfl
theorem ky_X8_look : am_Ky yX8_look cX8_look 4 none 2 := ⟨am_word (k := 633) (by decide +kernel) rfl, am_word (k := 86) (by decide +kernel) rfl, by decide +kernel, by decide⟩
theorem kv_X8_look : am_KV yX8_look 8 := ⟨am_word (k := 631) (by decide +kernel) rfl, am_word (k := 632) (by decide +kernel) rfl, _, _, rfl⟩
theorem ky_X10_tour : am_Ky yX10_tour cX10_tour 2 (some .int) 1 := ⟨am_word (k := 629) (by decide +kernel) rfl, am_word (k := 78) (by decide +kernel) rfl, by decide +kernel, by decide⟩
theorem kv_X10_tour : am_KV yX10_tour 10 := ⟨am_word (k := 627) (by decide +kernel) rfl, am_word (k := 628) (by decide +kernel) rfl, _, _, rfl⟩
theorem ky_X10_legibleHoursAt : am_Ky yX10_legibleHoursAt cX10_legibleHoursAt 5 (some .int) 2 := ⟨am_word (k := 660) (by decide +kernel) rfl, am_word (k := 78) (by decide +kernel) rfl, by decide +kernel, by decide⟩
theorem kv_X10_legibleHoursAt : am_KV yX10_legibleHoursAt 10 := ⟨am_word (k := 659) (by decide +kernel) rfl, am_word (k := 17) (by decide +kernel) rfl, _, _, rfl⟩
theorem ky_X10_hang : am_Ky yX10_hang cX10_hang 7 (some .int) 2 := ⟨am_word (k := 656) (by decide +kernel) rfl, am_word (k := 78) (by decide +kernel) rfl, by decide +kernel, by decide⟩
theorem kv_X10_hang : am_KV yX10_hang 10 := ⟨am_word (k := 654) (by decide +kernel) rfl, am_word (k := 655) (by decide +kernel) rfl, _, _, rfl⟩
theorem ky_X10_bitAt : am_Ky yX10_bitAt cX10_bitAt 4 (some .int) 2 := ⟨am_word (k := 674) (by decide +kernel) rfl, am_word (k := 78) (by decide +kernel) rfl, by decide +kernel, by decide⟩
theorem ks_X10_bitAt : am_KS yX10_bitAt := am_word (k := 673) (by decide +kernel) rfl
theorem ky_J6_bitCount_0f7a4 : am_Ky yJ6_bitCount_0f7a4 cJ6_bitCount_0f7a4 1 (some .int) 1 := ⟨am_word (k := 668) (by decide +kernel) rfl, am_word (k := 93) (by decide +kernel) rfl, by decide +kernel, by decide⟩
theorem ks_J6_bitCount_0f7a4 : am_KS yJ6_bitCount_0f7a4 := am_word (k := 667) (by decide +kernel) rfl
theorem ky_X10_save : am_Ky yX10_save cX10_save 5 (some .int) 2 := ⟨am_word (k := 665) (by decide +kernel) rfl, am_word (k := 78) (by decide +kernel) rfl, by decide +kernel, by decide⟩
theorem kv_X10_save : am_KV yX10_save 10 := ⟨am_word (k := 663) (by decide +kernel) rfl, am_word (k := 664) (by decide +kernel) rfl, _, _, rfl⟩
theorem ky_X2_begin : am_Ky yX2_begin cX2_begin 2 none 1 := ⟨am_word (k := 682) (by decide +kernel) rfl, am_word (k := 88) (by decide +kernel) rfl, by decide +kernel, by decide⟩
theorem kv_X2_begin : am_KV yX2_begin 2 := ⟨am_word (k := 680) (by decide +kernel) rfl, am_word (k := 681) (by decide +kernel) rfl, _, _, rfl⟩
theorem ky_X2_leastBut : am_Ky yX2_leastBut cX2_leastBut 4 (some .int) 2 := ⟨am_word (k := 707) (by decide +kernel) rfl, am_word (k := 88) (by decide +kernel) rfl, by decide +kernel, by decide⟩
theorem kv_X2_leastBut : am_KV yX2_leastBut 2 := ⟨am_word (k := 706) (by decide +kernel) rfl, am_word (k := 20) (by decide +kernel) rfl, _, _, rfl⟩
theorem ky_X2_leastAt : am_Ky yX2_leastAt cX2_leastAt 4 (some .int) 1 := ⟨am_word (k := 703) (by decide +kernel) rfl, am_word (k := 88) (by decide +kernel) rfl, by decide +kernel, by decide⟩
theorem kv_X2_leastAt : am_KV yX2_leastAt 2 := ⟨am_word (k := 701) (by decide +kernel) rfl, am_word (k := 702) (by decide +kernel) rfl, _, _, rfl⟩
theorem ky_X2_sumBut : am_Ky yX2_sumBut cX2_sumBut 5 (some .int) 2 := ⟨am_word (k := 695) (by decide +kernel) rfl, am_word (k := 88) (by decide +kernel) rfl, by decide +kernel, by decide⟩
theorem kv_X2_sumBut : am_KV yX2_sumBut 2 := ⟨am_word (k := 694) (by decide +kernel) rfl, am_word (k := 19) (by decide +kernel) rfl, _, _, rfl⟩
theorem ky_X2_waysBehind : am_Ky yX2_waysBehind cX2_waysBehind 3 (some .int) 2 := ⟨am_word (k := 691) (by decide +kernel) rfl, am_word (k := 88) (by decide +kernel) rfl, by decide +kernel, by decide⟩
theorem kv_X2_waysBehind : am_KV yX2_waysBehind 2 := ⟨am_word (k := 690) (by decide +kernel) rfl, am_word (k := 18) (by decide +kernel) rfl, _, _, rfl⟩
theorem ky_X2_reckon : am_Ky yX2_reckon cX2_reckon 4 none 0 := ⟨am_word (k := 687) (by decide +kernel) rfl, am_word (k := 88) (by decide +kernel) rfl, by decide +kernel, by decide⟩
theorem kv_X2_reckon : am_KV yX2_reckon 2 := ⟨am_word (k := 685) (by decide +kernel) rfl, am_word (k := 686) (by decide +kernel) rfl, _, _, rfl⟩
theorem ky_X2_ways : am_Ky yX2_ways cX2_ways 1 (some .int) 0 := ⟨am_word (k := 699) (by decide +kernel) rfl, am_word (k := 88) (by decide +kernel) rfl, by decide +kernel, by decide⟩
theorem kv_X2_ways : am_KV yX2_ways 2 := ⟨am_word (k := 697) (by decide +kernel) rfl, am_word (k := 698) (by decide +kernel) rfl, _, _, rfl⟩
theorem ky_X10_fill : am_Ky yX10_fill cX10_fill 6 (some .int) 3 := ⟨am_word (k := 678) (by decide +kernel) rfl, am_word (k := 78) (by decide +kernel) rfl, by decide +kernel, by decide⟩
theorem kv_X10_fill : am_KV yX10_fill 10 := ⟨am_word (k := 676) (by decide +kernel) rfl, am_word (k := 677) (by decide +kernel) rfl, _, _, rfl⟩
theorem ky_X6_tell : am_Ky yX6_tell cX6_tell 4 none 3 := ⟨am_word (k := 715) (by decide +kernel) rfl, am_word (k := 87) (by decide +kernel) rfl, by decide +kernel, by decide⟩
theorem kv_X6_tell : am_KV yX6_tell 6 := ⟨am_word (k := 713) (by decide +kernel) rfl, am_word (k := 714) (by decide +kernel) rfl, _, _, rfl⟩
theorem ky_X10_seen : am_Ky yX10_seen cX10_seen 4 (some .int) 3 := ⟨am_word (k := 711) (by decide +kernel) rfl, am_word (k := 78) (by decide +kernel) rfl, by decide +kernel, by decide⟩
theorem kv_X10_seen : am_KV yX10_seen 10 := ⟨am_word (k := 709) (by decide +kernel) rfl, am_word (k := 710) (by decide +kernel) rfl, _, _, rfl⟩
theorem ky_X10_forget : am_Ky yX10_forget cX10_forget 2 (some .int) 0 := ⟨am_word (k := 719) (by decide +kernel) rfl, am_word (k := 78) (by decide +kernel) rfl, by decide +kernel, by decide⟩
theorem kv_X10_forget : am_KV yX10_forget 10 := ⟨am_word (k := 717) (by decide +kernel) rfl, am_word (k := 718) (by decide +kernel) rfl, _, _, rfl⟩
theorem ky_X10_comesOut : am_Ky yX10_comesOut cX10_comesOut 5 (some .boolean) 1 := ⟨am_word (k := 733) (by decide +kernel) rfl, am_word (k := 78) (by decide +kernel) rfl, by decide +kernel, by decide⟩
theorem kv_X10_comesOut : am_KV yX10_comesOut 10 := ⟨am_word (k := 732) (by decide +kernel) rfl, am_word (k := 22) (by decide +kernel) rfl, _, _, rfl⟩
theorem ky_X10_guessHanging : am_Ky yX10_guessHanging cX10_guessHanging 6 none 4 := ⟨am_word (k := 727) (by decide +kernel) rfl, am_word (k := 78) (by decide +kernel) rfl, by decide +kernel, by decide⟩
theorem kv_X10_guessHanging : am_KV yX10_guessHanging 10 := ⟨am_word (k := 726) (by decide +kernel) rfl, am_word (k := 21) (by decide +kernel) rfl, _, _, rfl⟩
theorem ky_X10_never : am_Ky yX10_never cX10_never 4 (some .int) 0 := ⟨am_word (k := 723) (by decide +kernel) rfl, am_word (k := 78) (by decide +kernel) rfl, by decide +kernel, by decide⟩
theorem kv_X10_never : am_KV yX10_never 10 := ⟨am_word (k := 721) (by decide +kernel) rfl, am_word (k := 722) (by decide +kernel) rfl, _, _, rfl⟩
theorem ky_X10_hungBits : am_Ky yX10_hungBits cX10_hungBits 4 (some .int) 1 := ⟨am_word (k := 741) (by decide +kernel) rfl, am_word (k := 78) (by decide +kernel) rfl, by decide +kernel, by decide⟩
theorem kv_X10_hungBits : am_KV yX10_hungBits 10 := ⟨am_word (k := 740) (by decide +kernel) rfl, am_word (k := 23) (by decide +kernel) rfl, _, _, rfl⟩
theorem ky_X10_sortBits : am_Ky yX10_sortBits cX10_sortBits 4 (some .int) 1 := ⟨am_word (k := 745) (by decide +kernel) rfl, am_word (k := 78) (by decide +kernel) rfl, by decide +kernel, by decide⟩
theorem kv_X10_sortBits : am_KV yX10_sortBits 10 := ⟨am_word (k := 744) (by decide +kernel) rfl, am_word (k := 24) (by decide +kernel) rfl, _, _, rfl⟩
theorem ky_X10_was : am_Ky yX10_was cX10_was 3 (some .int) 2 := ⟨am_word (k := 737) (by decide +kernel) rfl, am_word (k := 78) (by decide +kernel) rfl, by decide +kernel, by decide⟩
theorem kv_X10_was : am_KV yX10_was 10 := ⟨am_word (k := 735) (by decide +kernel) rfl, am_word (k := 736) (by decide +kernel) rfl, _, _, rfl⟩
theorem ky_X6_addAlike : am_Ky yX6_addAlike cX6_addAlike 3 none 1 := ⟨am_word (k := 754) (by decide +kernel) rfl, am_word (k := 87) (by decide +kernel) rfl, by decide +kernel, by decide⟩
theorem kv_X6_addAlike : am_KV yX6_addAlike 6 := ⟨am_word (k := 752) (by decide +kernel) rfl, am_word (k := 753) (by decide +kernel) rfl, _, _, rfl⟩
theorem ky_X6_mostAlike : am_Ky yX6_mostAlike cX6_mostAlike 4 (some .int) 1 := ⟨am_word (k := 758) (by decide +kernel) rfl, am_word (k := 87) (by decide +kernel) rfl, by decide +kernel, by decide⟩
theorem kv_X6_mostAlike : am_KV yX6_mostAlike 6 := ⟨am_word (k := 756) (by decide +kernel) rfl, am_word (k := 757) (by decide +kernel) rfl, _, _, rfl⟩
theorem ky_X10_ask : am_Ky yX10_ask cX10_ask 5 (some .int) 1 := ⟨am_word (k := 749) (by decide +kernel) rfl, am_word (k := 78) (by decide +kernel) rfl, by decide +kernel, by decide⟩
theorem kv_X10_ask : am_KV yX10_ask 10 := ⟨am_word (k := 747) (by decide +kernel) rfl, am_word (k := 748) (by decide +kernel) rfl, _, _, rfl⟩
theorem ky_X10_risk : am_Ky yX10_risk cX10_risk 13 (some .long) 4 := ⟨am_word (k := 763) (by decide +kernel) rfl, am_word (k := 78) (by decide +kernel) rfl, by decide +kernel, by decide⟩
theorem kv_X10_risk : am_KV yX10_risk 10 := ⟨am_word (k := 761) (by decide +kernel) rfl, am_word (k := 762) (by decide +kernel) rfl, _, _, rfl⟩
theorem ky_X1_lot : am_Ky yX1_lot cX1_lot 2 (some .int) 1 := ⟨am_word (k := 778) (by decide +kernel) rfl, am_word (k := 82) (by decide +kernel) rfl, by decide +kernel, by decide⟩
theorem kv_X1_lot : am_KV yX1_lot 1 := ⟨am_word (k := 777) (by decide +kernel) rfl, am_word (k := 25) (by decide +kernel) rfl, _, _, rfl⟩
theorem ky_X1_draw : am_Ky yX1_draw cX1_draw 8 none 3 := ⟨am_word (k := 774) (by decide +kernel) rfl, am_word (k := 82) (by decide +kernel) rfl, by decide +kernel, by decide⟩
theorem kv_X1_draw : am_KV yX1_draw 1 := ⟨am_word (k := 772) (by decide +kernel) rfl, am_word (k := 773) (by decide +kernel) rfl, _, _, rfl⟩
theorem ky_X10_century : am_Ky yX10_century cX10_century 4 (some .int) 3 := ⟨am_word (k := 770) (by decide +kernel) rfl, am_word (k := 78) (by decide +kernel) rfl, by decide +kernel, by decide⟩
theorem kv_X10_century : am_KV yX10_century 10 := ⟨am_word (k := 768) (by decide +kernel) rfl, am_word (k := 769) (by decide +kernel) rfl, _, _, rfl⟩
theorem ky_X4_make : am_Ky yX4_make cX4_make 3 none 2 := ⟨am_word (k := 788) (by decide +kernel) rfl, am_word (k := 89) (by decide +kernel) rfl, by decide +kernel, by decide⟩
theorem kv_X4_make : am_KV yX4_make 4 := ⟨am_word (k := 786) (by decide +kernel) rfl, am_word (k := 787) (by decide +kernel) rfl, _, _, rfl⟩
theorem ky_X10_sheet : am_Ky yX10_sheet cX10_sheet 4 (some .int) 3 := ⟨am_word (k := 784) (by decide +kernel) rfl, am_word (k := 78) (by decide +kernel) rfl, by decide +kernel, by decide⟩
theorem kv_X10_sheet : am_KV yX10_sheet 10 := ⟨am_word (k := 782) (by decide +kernel) rfl, am_word (k := 783) (by decide +kernel) rfl, _, _, rfl⟩
theorem ky_X10_lose : am_Ky yX10_lose cX10_lose 3 (some .int) 1 := ⟨am_word (k := 795) (by decide +kernel) rfl, am_word (k := 78) (by decide +kernel) rfl, by decide +kernel, by decide⟩
theorem kv_X10_lose : am_KV yX10_lose 10 := ⟨am_word (k := 793) (by decide +kernel) rfl, am_word (k := 794) (by decide +kernel) rfl, _, _, rfl⟩
theorem ky_X10_itemFinding : am_Ky yX10_itemFinding cX10_itemFinding 3 (some .int) 3 := ⟨am_word (k := 802) (by decide +kernel) rfl, am_word (k := 78) (by decide +kernel) rfl, by decide +kernel, by decide⟩
theorem ks_X10_itemFinding : am_KS yX10_itemFinding := am_word (k := 801) (by decide +kernel) rfl
theorem ky_X4_put : am_Ky yX4_put cX4_put 3 none 2 := ⟨am_word (k := 806) (by decide +kernel) rfl, am_word (k := 89) (by decide +kernel) rfl, by decide +kernel, by decide⟩
theorem kv_X4_put : am_KV yX4_put 4 := ⟨am_word (k := 804) (by decide +kernel) rfl, am_word (k := 805) (by decide +kernel) rfl, _, _, rfl⟩
theorem ky_X10_lay : am_Ky yX10_lay cX10_lay 7 (some .int) 4 := ⟨am_word (k := 799) (by decide +kernel) rfl, am_word (k := 78) (by decide +kernel) rfl, by decide +kernel, by decide⟩
theorem kv_X10_lay : am_KV yX10_lay 10 := ⟨am_word (k := 797) (by decide +kernel) rfl, am_word (k := 798) (by decide +kernel) rfl, _, _, rfl⟩
theorem ky_X10_get : am_Ky yX10_get cX10_get 6 (some .int) 3 := ⟨am_word (k := 811) (by decide +kernel) rfl, am_word (k := 78) (by decide +kernel) rfl, by decide +kernel, by decide⟩
theorem kv_X10_get : am_KV yX10_get 10 := ⟨am_word (k := 809) (by decide +kernel) rfl, am_word (k := 810) (by decide +kernel) rfl, _, _, rfl⟩
theorem ky_X4_hasRun : am_Ky yX4_hasRun cX4_hasRun 3 (some .boolean) 2 := ⟨am_word (k := 820) (by decide +kernel) rfl, am_word (k := 89) (by decide +kernel) rfl, by decide +kernel, by decide⟩
theorem kv_X4_hasRun : am_KV yX4_hasRun 4 := ⟨am_word (k := 818) (by decide +kernel) rfl, am_word (k := 819) (by decide +kernel) rfl, _, _, rfl⟩
theorem ky_X10_copy : am_Ky yX10_copy cX10_copy 8 (some .int) 5 := ⟨am_word (k := 816) (by decide +kernel) rfl, am_word (k := 78) (by decide +kernel) rfl, by decide +kernel, by decide⟩
theorem kv_X10_copy : am_KV yX10_copy 10 := ⟨am_word (k := 814) (by decide +kernel) rfl, am_word (k := 815) (by decide +kernel) rfl, _, _, rfl⟩
theorem ky_X10_write : am_Ky yX10_write cX10_write 6 (some .int) 2 := ⟨am_word (k := 825) (by decide +kernel) rfl, am_word (k := 78) (by decide +kernel) rfl, by decide +kernel, by decide⟩
theorem kv_X10_write : am_KV yX10_write 10 := ⟨am_word (k := 823) (by decide +kernel) rfl, am_word (k := 824) (by decide +kernel) rfl, _, _, rfl⟩
theorem ky_X10_count : am_Ky yX10_count cX10_count 2 (some .int) 1 := ⟨am_word (k := 830) (by decide +kernel) rfl, am_word (k := 78) (by decide +kernel) rfl, by decide +kernel, by decide⟩
theorem kv_X10_count : am_KV yX10_count 10 := ⟨am_word (k := 828) (by decide +kernel) rfl, am_word (k := 829) (by decide +kernel) rfl, _, _, rfl⟩
theorem ky_X10_digestDeed : am_Ky yX10_digestDeed cX10_digestDeed 6 (some .long) 2 := ⟨am_word (k := 855) (by decide +kernel) rfl, am_word (k := 78) (by decide +kernel) rfl, by decide +kernel, by decide⟩
theorem kv_X10_digestDeed : am_KV yX10_digestDeed 10 := ⟨am_word (k := 854) (by decide +kernel) rfl, am_word (k := 28) (by decide +kernel) rfl, _, _, rfl⟩
theorem ky_X10_digestHour : am_Ky yX10_digestHour cX10_digestHour 7 (some .long) 3 := ⟨am_word (k := 848) (by decide +kernel) rfl, am_word (k := 78) (by decide +kernel) rfl, by decide +kernel, by decide⟩
theorem kv_X10_digestHour : am_KV yX10_digestHour 10 := ⟨am_word (k := 847) (by decide +kernel) rfl, am_word (k := 27) (by decide +kernel) rfl, _, _, rfl⟩
theorem ky_X10_digestTold : am_Ky yX10_digestTold cX10_digestTold 7 (some .long) 2 := ⟨am_word (k := 843) (by decide +kernel) rfl, am_word (k := 78) (by decide +kernel) rfl, by decide +kernel, by decide⟩
theorem kv_X10_digestTold : am_KV yX10_digestTold 10 := ⟨am_word (k := 842) (by decide +kernel) rfl, am_word (k := 26) (by decide +kernel) rfl, _, _, rfl⟩
theorem ky_X10_digestWhole : am_Ky yX10_digestWhole cX10_digestWhole 6 (some .long) 1 := ⟨am_word (k := 866) (by decide +kernel) rfl, am_word (k := 78) (by decide +kernel) rfl, by decide +kernel, by decide⟩
theorem kv_X10_digestWhole : am_KV yX10_digestWhole 10 := ⟨am_word (k := 865) (by decide +kernel) rfl, am_word (k := 29) (by decide +kernel) rfl, _, _, rfl⟩
theorem ky_X10_digest : am_Ky yX10_digest cX10_digest 5 (some .long) 0 := ⟨am_word (k := 834) (by decide +kernel) rfl, am_word (k := 78) (by decide +kernel) rfl, by decide +kernel, by decide⟩
theorem kv_X10_digest : am_KV yX10_digest 10 := ⟨am_word (k := 832) (by decide +kernel) rfl, am_word (k := 833) (by decide +kernel) rfl, _, _, rfl⟩
theorem ky_X11_in : am_Ky yX11_in cX11_in 6 (some .boolean) 3 := ⟨am_word (k := 999) (by decide +kernel) rfl, am_word (k := 90) (by decide +kernel) rfl, by decide +kernel, by decide⟩
theorem ks_X11_in : am_KS yX11_in := am_word (k := 998) (by decide +kernel) rfl
theorem ky_X11_no : am_Ky yX11_no cX11_no 1 (some .long) 1 := ⟨am_word (k := 1336) (by decide +kernel) rfl, am_word (k := 90) (by decide +kernel) rfl, by decide +kernel, by decide⟩
theorem ks_X11_no : am_KS yX11_no := am_word (k := 1335) (by decide +kernel) rfl
theorem ky_X11_isTwo : am_Ky yX11_isTwo cX11_isTwo 1 (some .boolean) 1 := ⟨am_word (k := 1139) (by decide +kernel) rfl, am_word (k := 90) (by decide +kernel) rfl, by decide +kernel, by decide⟩
theorem ks_X11_isTwo : am_KS yX11_isTwo := am_word (k := 1138) (by decide +kernel) rfl
theorem ky_X11_isIn : am_Ky yX11_isIn cX11_isIn 2 (some .boolean) 2 := ⟨am_word (k := 1136) (by decide +kernel) rfl, am_word (k := 90) (by decide +kernel) rfl, by decide +kernel, by decide⟩
theorem ks_X11_isIn : am_KS yX11_isIn := am_word (k := 1135) (by decide +kernel) rfl
theorem ky_X11_ones : am_Ky yX11_ones cX11_ones 3 (some .int) 1 := ⟨am_word (k := 1353) (by decide +kernel) rfl, am_word (k := 90) (by decide +kernel) rfl, by decide +kernel, by decide⟩
theorem ks_X11_ones : am_KS yX11_ones := am_word (k := 1352) (by decide +kernel) rfl
theorem ky_X11_lesser : am_Ky yX11_lesser cX11_lesser 2 (some .int) 2 := ⟨am_word (k := 1360) (by decide +kernel) rfl, am_word (k := 90) (by decide +kernel) rfl, by decide +kernel, by decide⟩
theorem ks_X11_lesser : am_KS yX11_lesser := am_word (k := 1359) (by decide +kernel) rfl
theorem ky_X11_greater : am_Ky yX11_greater cX11_greater 2 (some .int) 2 := ⟨am_word (k := 1207) (by decide +kernel) rfl, am_word (k := 90) (by decide +kernel) rfl, by decide +kernel, by decide⟩
theorem ks_X11_greater : am_KS yX11_greater := am_word (k := 1206) (by decide +kernel) rfl
theorem ky_X11_part : am_Ky yX11_part cX11_part 11 (some .long) 3 := ⟨am_word (k := 1333) (by decide +kernel) rfl, am_word (k := 90) (by decide +kernel) rfl, by decide +kernel, by decide⟩
theorem ks_X11_part : am_KS yX11_part := am_word (k := 1332) (by decide +kernel) rfl
theorem ky_X11_finds : am_Ky yX11_finds cX11_finds 2 (some .int) 1 := ⟨am_word (k := 1004) (by decide +kernel) rfl, am_word (k := 90) (by decide +kernel) rfl, by decide +kernel, by decide⟩
theorem kv_X11_finds : am_KV yX11_finds 11 := ⟨am_word (k := 1003) (by decide +kernel) rfl, am_word (k := 30) (by decide +kernel) rfl, _, _, rfl⟩
theorem ky_X11_isSheet : am_Ky yX11_isSheet cX11_isSheet 1 (some .boolean) 1 := ⟨am_word (k := 995) (by decide +kernel) rfl, am_word (k := 90) (by decide +kernel) rfl, by decide +kernel, by decide⟩
theorem ks_X11_isSheet : am_KS yX11_isSheet := am_word (k := 994) (by decide +kernel) rfl
theorem ky_X11_sheet : am_Ky yX11_sheet cX11_sheet 5 (some .int) 3 := ⟨am_word (k := 992) (by decide +kernel) rfl, am_word (k := 90) (by decide +kernel) rfl, by decide +kernel, by decide⟩
theorem kv_X11_sheet : am_KV yX11_sheet 11 := ⟨am_word (k := 990) (by decide +kernel) rfl, am_word (k := 991) (by decide +kernel) rfl, _, _, rfl⟩
theorem ky_X11_lose : am_Ky yX11_lose cX11_lose 2 (some .int) 1 := ⟨am_word (k := 1008) (by decide +kernel) rfl, am_word (k := 90) (by decide +kernel) rfl, by decide +kernel, by decide⟩
theorem kv_X11_lose : am_KV yX11_lose 11 := ⟨am_word (k := 1006) (by decide +kernel) rfl, am_word (k := 1007) (by decide +kernel) rfl, _, _, rfl⟩
theorem ky_X11_lacks : am_Ky yX11_lacks cX11_lacks 4 (some .int) 3 := ⟨am_word (k := 1016) (by decide +kernel) rfl, am_word (k := 90) (by decide +kernel) rfl, by decide +kernel, by decide⟩
theorem kv_X11_lacks : am_KV yX11_lacks 11 := ⟨am_word (k := 1015) (by decide +kernel) rfl, am_word (k := 31) (by decide +kernel) rfl, _, _, rfl⟩
theorem ky_X11_cut : am_Ky yX11_cut cX11_cut 2 (some .int) 2 := ⟨am_word (k := 1019) (by decide +kernel) rfl, am_word (k := 90) (by decide +kernel) rfl, by decide +kernel, by decide⟩
theorem ks_X11_cut : am_KS yX11_cut := am_word (k := 1018) (by decide +kernel) rfl
theorem ky_X11_lay : am_Ky yX11_lay cX11_lay 6 (some .int) 4 := ⟨am_word (k := 1012) (by decide +kernel) rfl, am_word (k := 90) (by decide +kernel) rfl, by decide +kernel, by decide⟩
theorem kv_X11_lay : am_KV yX11_lay 11 := ⟨am_word (k := 1010) (by decide +kernel) rfl, am_word (k := 1011) (by decide +kernel) rfl, _, _, rfl⟩
theorem ky_X11_get : am_Ky yX11_get cX11_get 4 (some .int) 3 := ⟨am_word (k := 1023) (by decide +kernel) rfl, am_word (k := 90) (by decide +kernel) rfl, by decide +kernel, by decide⟩
theorem kv_X11_get : am_KV yX11_get 11 := ⟨am_word (k := 1021) (by decide +kernel) rfl, am_word (k := 1022) (by decide +kernel) rfl, _, _, rfl⟩
theorem ky_X11_copy : am_Ky yX11_copy cX11_copy 7 (some .int) 5 := ⟨am_word (k := 1028) (by decide +kernel) rfl, am_word (k := 90) (by decide +kernel) rfl, by decide +kernel, by decide⟩
theorem kv_X11_copy : am_KV yX11_copy 11 := ⟨am_word (k := 1026) (by decide +kernel) rfl, am_word (k := 1027) (by decide +kernel) rfl, _, _, rfl⟩
theorem ky_X11_isText : am_Ky yX11_isText cX11_isText 1 (some .boolean) 1 := ⟨am_word (k := 1035) (by decide +kernel) rfl, am_word (k := 90) (by decide +kernel) rfl, by decide +kernel, by decide⟩
theorem ks_X11_isText : am_KS yX11_isText := am_word (k := 1034) (by decide +kernel) rfl
theorem ky_X11_type : am_Ky yX11_type cX11_type 3 (some .int) 2 := ⟨am_word (k := 1032) (by decide +kernel) rfl, am_word (k := 90) (by decide +kernel) rfl, by decide +kernel, by decide⟩
theorem kv_X11_type : am_KV yX11_type 11 := ⟨am_word (k := 1030) (by decide +kernel) rfl, am_word (k := 1031) (by decide +kernel) rfl, _, _, rfl⟩
theorem ky_X11_wipe : am_Ky yX11_wipe cX11_wipe 3 (some .int) 1 := ⟨am_word (k := 1040) (by decide +kernel) rfl, am_word (k := 90) (by decide +kernel) rfl, by decide +kernel, by decide⟩
theorem kv_X11_wipe : am_KV yX11_wipe 11 := ⟨am_word (k := 1038) (by decide +kernel) rfl, am_word (k := 1039) (by decide +kernel) rfl, _, _, rfl⟩
theorem ky_X11_undo : am_Ky yX11_undo cX11_undo 2 (some .int) 1 := ⟨am_word (k := 1044) (by decide +kernel) rfl, am_word (k := 90) (by decide +kernel) rfl, by decide +kernel, by decide⟩
theorem kv_X11_undo : am_KV yX11_undo 11 := ⟨am_word (k := 1042) (by decide +kernel) rfl, am_word (k := 1043) (by decide +kernel) rfl, _, _, rfl⟩
theorem ky_X11_readsStrands : am_Ky yX11_readsStrands cX11_readsStrands 10 (some .int) 0 := ⟨am_word (k := 1056) (by decide +kernel) rfl, am_word (k := 90) (by decide +kernel) rfl, by decide +kernel, by decide⟩
theorem kv_X11_readsStrands : am_KV yX11_readsStrands 11 := ⟨am_word (k := 1055) (by decide +kernel) rfl, am_word (k := 33) (by decide +kernel) rfl, _, _, rfl⟩
theorem ky_X11_fives : am_Ky yX11_fives cX11_fives 2 none 0 := ⟨am_word (k := 1068) (by decide +kernel) rfl, am_word (k := 90) (by decide +kernel) rfl, by decide +kernel, by decide⟩
theorem kv_X11_fives : am_KV yX11_fives 11 := ⟨am_word (k := 1067) (by decide +kernel) rfl, am_word (k := 35) (by decide +kernel) rfl, _, _, rfl⟩
theorem ky_X11_readsTides : am_Ky yX11_readsTides cX11_readsTides 3 (some .int) 0 := ⟨am_word (k := 1064) (by decide +kernel) rfl, am_word (k := 90) (by decide +kernel) rfl, by decide +kernel, by decide⟩
theorem kv_X11_readsTides : am_KV yX11_readsTides 11 := ⟨am_word (k := 1063) (by decide +kernel) rfl, am_word (k := 34) (by decide +kernel) rfl, _, _, rfl⟩
theorem ky_X11_readsRoute : am_Ky yX11_readsRoute cX11_readsRoute 3 (some .int) 0 := ⟨am_word (k := 1072) (by decide +kernel) rfl, am_word (k := 90) (by decide +kernel) rfl, by decide +kernel, by decide⟩
theorem kv_X11_readsRoute : am_KV yX11_readsRoute 11 := ⟨am_word (k := 1071) (by decide +kernel) rfl, am_word (k := 36) (by decide +kernel) rfl, _, _, rfl⟩
theorem ky_X11_readsText : am_Ky yX11_readsText cX11_readsText 2 (some .int) 1 := ⟨am_word (k := 1052) (by decide +kernel) rfl, am_word (k := 90) (by decide +kernel) rfl, by decide +kernel, by decide⟩
theorem kv_X11_readsText : am_KV yX11_readsText 11 := ⟨am_word (k := 1051) (by decide +kernel) rfl, am_word (k := 32) (by decide +kernel) rfl, _, _, rfl⟩
theorem ky_X11_fault : am_Ky yX11_fault cX11_fault 2 (some .int) 1 := ⟨am_word (k := 1048) (by decide +kernel) rfl, am_word (k := 90) (by decide +kernel) rfl, by decide +kernel, by decide⟩
theorem kv_X11_fault : am_KV yX11_fault 11 := ⟨am_word (k := 1046) (by decide +kernel) rfl, am_word (k := 1047) (by decide +kernel) rfl, _, _, rfl⟩
theorem ky_X11_isStrand : am_Ky yX11_isStrand cX11_isStrand 2 (some .boolean) 1 := ⟨am_word (k := 1081) (by decide +kernel) rfl, am_word (k := 90) (by decide +kernel) rfl, by decide +kernel, by decide⟩
theorem kv_X11_isStrand : am_KV yX11_isStrand 11 := ⟨am_word (k := 1080) (by decide +kernel) rfl, am_word (k := 37) (by decide +kernel) rfl, _, _, rfl⟩
theorem ky_X11_isHour : am_Ky yX11_isHour cX11_isHour 1 (some .boolean) 1 := ⟨am_word (k := 1093) (by decide +kernel) rfl, am_word (k := 90) (by decide +kernel) rfl, by decide +kernel, by decide⟩
theorem ks_X11_isHour : am_KS yX11_isHour := am_word (k := 1092) (by decide +kernel) rfl
theorem ky_X11_strandBy : am_Ky yX11_strandBy cX11_strandBy 3 (some .int) 2 := ⟨am_word (k := 1086) (by decide +kernel) rfl, am_word (k := 90) (by decide +kernel) rfl, by decide +kernel, by decide⟩
theorem kv_X11_strandBy : am_KV yX11_strandBy 11 := ⟨am_word (k := 1085) (by decide +kernel) rfl, am_word (k := 38) (by decide +kernel) rfl, _, _, rfl⟩
theorem ky_X11_strand : am_Ky yX11_strand cX11_strand 3 (some .int) 2 := ⟨am_word (k := 1077) (by decide +kernel) rfl, am_word (k := 90) (by decide +kernel) rfl, by decide +kernel, by decide⟩
theorem kv_X11_strand : am_KV yX11_strand 11 := ⟨am_word (k := 1075) (by decide +kernel) rfl, am_word (k := 1076) (by decide +kernel) rfl, _, _, rfl⟩
theorem ky_X11_tide : am_Ky yX11_tide cX11_tide 2 (some .int) 1 := ⟨am_word (k := 1090) (by decide +kernel) rfl, am_word (k := 90) (by decide +kernel) rfl, by decide +kernel, by decide⟩
theorem kv_X11_tide : am_KV yX11_tide 11 := ⟨am_word (k := 1088) (by decide +kernel) rfl, am_word (k := 1089) (by decide +kernel) rfl, _, _, rfl⟩
theorem ky_X11_routeBy : am_Ky yX11_routeBy cX11_routeBy 2 (some .int) 1 := ⟨am_word (k := 1103) (by decide +kernel) rfl, am_word (k := 90) (by decide +kernel) rfl, by decide +kernel, by decide⟩
theorem kv_X11_routeBy : am_KV yX11_routeBy 11 := ⟨am_word (k := 1102) (by decide +kernel) rfl, am_word (k := 39) (by decide +kernel) rfl, _, _, rfl⟩
theorem ky_X11_route : am_Ky yX11_route cX11_route 2 (some .int) 1 := ⟨am_word (k := 1098) (by decide +kernel) rfl, am_word (k := 90) (by decide +kernel) rfl, by decide +kernel, by decide⟩
theorem kv_X11_route : am_KV yX11_route 11 := ⟨am_word (k := 1096) (by decide +kernel) rfl, am_word (k := 1097) (by decide +kernel) rfl, _, _, rfl⟩
theorem ky_X11_puts : am_Ky yX11_puts cX11_puts 5 none 4 := ⟨am_word (k := 1112) (by decide +kernel) rfl, am_word (k := 90) (by decide +kernel) rfl, by decide +kernel, by decide⟩
theorem kv_X11_puts : am_KV yX11_puts 11 := ⟨am_word (k := 1111) (by decide +kernel) rfl, am_word (k := 40) (by decide +kernel) rfl, _, _, rfl⟩
theorem ky_X11_event : am_Ky yX11_event cX11_event 5 (some .int) 4 := ⟨am_word (k := 1107) (by decide +kernel) rfl, am_word (k := 90) (by decide +kernel) rfl, by decide +kernel, by decide⟩
theorem kv_X11_event : am_KV yX11_event 11 := ⟨am_word (k := 1105) (by decide +kernel) rfl, am_word (k := 1106) (by decide +kernel) rfl, _, _, rfl⟩
theorem ky_X11_back : am_Ky yX11_back cX11_back 1 (some .int) 0 := ⟨am_word (k := 1116) (by decide +kernel) rfl, am_word (k := 90) (by decide +kernel) rfl, by decide +kernel, by decide⟩
theorem kv_X11_back : am_KV yX11_back 11 := ⟨am_word (k := 1114) (by decide +kernel) rfl, am_word (k := 1115) (by decide +kernel) rfl, _, _, rfl⟩
theorem ky_X11_read : am_Ky yX11_read cX11_read 5 (some .int) 1 := ⟨am_word (k := 1120) (by decide +kernel) rfl, am_word (k := 90) (by decide +kernel) rfl, by decide +kernel, by decide⟩
theorem kv_X11_read : am_KV yX11_read 11 := ⟨am_word (k := 1118) (by decide +kernel) rfl, am_word (k := 1119) (by decide +kernel) rfl, _, _, rfl⟩
theorem ky_X11_lives : am_Ky yX11_lives cX11_lives 8 none 0 := ⟨am_word (k := 1133) (by decide +kernel) rfl, am_word (k := 90) (by decide +kernel) rfl, by decide +kernel, by decide⟩
theorem kv_X11_lives : am_KV yX11_lives 11 := ⟨am_word (k := 1132) (by decide +kernel) rfl, am_word (k := 42) (by decide +kernel) rfl, _, _, rfl⟩
theorem ky_X11_find : am_Ky yX11_find cX11_find 1 none 0 := ⟨am_word (k := 1129) (by decide +kernel) rfl, am_word (k := 90) (by decide +kernel) rfl, by decide +kernel, by decide⟩
theorem kv_X11_find : am_KV yX11_find 11 := ⟨am_word (k := 1128) (by decide +kernel) rfl, am_word (k := 41) (by decide +kernel) rfl, _, _, rfl⟩
theorem ky_X11_lies : am_Ky yX11_lies cX11_lies 5 (some .int) 3 := ⟨am_word (k := 1147) (by decide +kernel) rfl, am_word (k := 90) (by decide +kernel) rfl, by decide +kernel, by decide⟩
theorem kv_X11_lies : am_KV yX11_lies 11 := ⟨am_word (k := 1146) (by decide +kernel) rfl, am_word (k := 44) (by decide +kernel) rfl, _, _, rfl⟩
theorem ky_X11_stateOf : am_Ky yX11_stateOf cX11_stateOf 3 (some .int) 2 := ⟨am_word (k := 1143) (by decide +kernel) rfl, am_word (k := 90) (by decide +kernel) rfl, by decide +kernel, by decide⟩
theorem kv_X11_stateOf : am_KV yX11_stateOf 11 := ⟨am_word (k := 1142) (by decide +kernel) rfl, am_word (k := 43) (by decide +kernel) rfl, _, _, rfl⟩
theorem ky_X11_state : am_Ky yX11_state cX11_state 4 (some .int) 3 := ⟨am_word (k := 1125) (by decide +kernel) rfl, am_word (k := 90) (by decide +kernel) rfl, by decide +kernel, by decide⟩
theorem kv_X11_state : am_KV yX11_state 11 := ⟨am_word (k := 1123) (by decide +kernel) rfl, am_word (k := 1124) (by decide +kernel) rfl, _, _, rfl⟩
theorem ky_X11_isPopped : am_Ky yX11_isPopped cX11_isPopped 4 (some .boolean) 3 := ⟨am_word (k := 1160) (by decide +kernel) rfl, am_word (k := 90) (by decide +kernel) rfl, by decide +kernel, by decide⟩
theorem kv_X11_isPopped : am_KV yX11_isPopped 11 := ⟨am_word (k := 1159) (by decide +kernel) rfl, am_word (k := 46) (by decide +kernel) rfl, _, _, rfl⟩
theorem ky_X11_saysOf : am_Ky yX11_saysOf cX11_saysOf 4 (some .int) 3 := ⟨am_word (k := 1156) (by decide +kernel) rfl, am_word (k := 90) (by decide +kernel) rfl, by decide +kernel, by decide⟩
theorem kv_X11_saysOf : am_KV yX11_saysOf 11 := ⟨am_word (k := 1155) (by decide +kernel) rfl, am_word (k := 45) (by decide +kernel) rfl, _, _, rfl⟩
theorem ky_X11_says : am_Ky yX11_says cX11_says 4 (some .int) 3 := ⟨am_word (k := 1151) (by decide +kernel) rfl, am_word (k := 90) (by decide +kernel) rfl, by decide +kernel, by decide⟩
theorem kv_X11_says : am_KV yX11_says 11 := ⟨am_word (k := 1149) (by decide +kernel) rfl, am_word (k := 1150) (by decide +kernel) rfl, _, _, rfl⟩
theorem ky_X11_hangsOn : am_Ky yX11_hangsOn cX11_hangsOn 3 (some .int) 1 := ⟨am_word (k := 1172) (by decide +kernel) rfl, am_word (k := 90) (by decide +kernel) rfl, by decide +kernel, by decide⟩
theorem kv_X11_hangsOn : am_KV yX11_hangsOn 11 := ⟨am_word (k := 1171) (by decide +kernel) rfl, am_word (k := 48) (by decide +kernel) rfl, _, _, rfl⟩
theorem ky_X11_legibleOf : am_Ky yX11_legibleOf cX11_legibleOf 4 (some .int) 1 := ⟨am_word (k := 1168) (by decide +kernel) rfl, am_word (k := 90) (by decide +kernel) rfl, by decide +kernel, by decide⟩
theorem kv_X11_legibleOf : am_KV yX11_legibleOf 11 := ⟨am_word (k := 1167) (by decide +kernel) rfl, am_word (k := 47) (by decide +kernel) rfl, _, _, rfl⟩
theorem ky_X11_deed : am_Ky yX11_deed cX11_deed 3 (some .int) 2 := ⟨am_word (k := 1164) (by decide +kernel) rfl, am_word (k := 90) (by decide +kernel) rfl, by decide +kernel, by decide⟩
theorem kv_X11_deed : am_KV yX11_deed 11 := ⟨am_word (k := 1162) (by decide +kernel) rfl, am_word (k := 1163) (by decide +kernel) rfl, _, _, rfl⟩
theorem ky_X11_isVoid : am_Ky yX11_isVoid cX11_isVoid 6 (some .boolean) 2 := ⟨am_word (k := 1184) (by decide +kernel) rfl, am_word (k := 90) (by decide +kernel) rfl, by decide +kernel, by decide⟩
theorem kv_X11_isVoid : am_KV yX11_isVoid 11 := ⟨am_word (k := 1183) (by decide +kernel) rfl, am_word (k := 50) (by decide +kernel) rfl, _, _, rfl⟩
theorem ky_X11_voidsBy : am_Ky yX11_voidsBy cX11_voidsBy 4 (some .int) 1 := ⟨am_word (k := 1180) (by decide +kernel) rfl, am_word (k := 90) (by decide +kernel) rfl, by decide +kernel, by decide⟩
theorem kv_X11_voidsBy : am_KV yX11_voidsBy 11 := ⟨am_word (k := 1179) (by decide +kernel) rfl, am_word (k := 49) (by decide +kernel) rfl, _, _, rfl⟩
theorem ky_X11_voids : am_Ky yX11_voids cX11_voids 2 (some .int) 1 := ⟨am_word (k := 1176) (by decide +kernel) rfl, am_word (k := 90) (by decide +kernel) rfl, by decide +kernel, by decide⟩
theorem kv_X11_voids : am_KV yX11_voids 11 := ⟨am_word (k := 1174) (by decide +kernel) rfl, am_word (k := 1175) (by decide +kernel) rfl, _, _, rfl⟩
theorem ky_X11_forgedNow : am_Ky yX11_forgedNow cX11_forgedNow 5 (some .int) 0 := ⟨am_word (k := 1192) (by decide +kernel) rfl, am_word (k := 90) (by decide +kernel) rfl, by decide +kernel, by decide⟩
theorem kv_X11_forgedNow : am_KV yX11_forgedNow 11 := ⟨am_word (k := 1191) (by decide +kernel) rfl, am_word (k := 51) (by decide +kernel) rfl, _, _, rfl⟩
theorem ky_X11_forged : am_Ky yX11_forged cX11_forged 1 (some .int) 0 := ⟨am_word (k := 1188) (by decide +kernel) rfl, am_word (k := 90) (by decide +kernel) rfl, by decide +kernel, by decide⟩
theorem kv_X11_forged : am_KV yX11_forged 11 := ⟨am_word (k := 1186) (by decide +kernel) rfl, am_word (k := 1187) (by decide +kernel) rfl, _, _, rfl⟩
theorem ky_X11_run : am_Ky yX11_run cX11_run 7 (some .int) 2 := ⟨am_word (k := 1204) (by decide +kernel) rfl, am_word (k := 90) (by decide +kernel) rfl, by decide +kernel, by decide⟩
theorem kv_X11_run : am_KV yX11_run 11 := ⟨am_word (k := 1203) (by decide +kernel) rfl, am_word (k := 53) (by decide +kernel) rfl, _, _, rfl⟩
theorem ky_X11_tangledNow : am_Ky yX11_tangledNow cX11_tangledNow 7 (some .int) 1 := ⟨am_word (k := 1200) (by decide +kernel) rfl, am_word (k := 90) (by decide +kernel) rfl, by decide +kernel, by decide⟩
theorem kv_X11_tangledNow : am_KV yX11_tangledNow 11 := ⟨am_word (k := 1199) (by decide +kernel) rfl, am_word (k := 52) (by decide +kernel) rfl, _, _, rfl⟩
theorem ky_X11_tangled : am_Ky yX11_tangled cX11_tangled 2 (some .int) 1 := ⟨am_word (k := 1196) (by decide +kernel) rfl, am_word (k := 90) (by decide +kernel) rfl, by decide +kernel, by decide⟩
theorem kv_X11_tangled : am_KV yX11_tangled 11 := ⟨am_word (k := 1194) (by decide +kernel) rfl, am_word (k := 1195) (by decide +kernel) rfl, _, _, rfl⟩
theorem ky_X11_readOn : am_Ky yX11_readOn cX11_readOn 7 (some .int) 3 := ⟨am_word (k := 1223) (by decide +kernel) rfl, am_word (k := 90) (by decide +kernel) rfl, by decide +kernel, by decide⟩
theorem kv_X11_readOn : am_KV yX11_readOn 11 := ⟨am_word (k := 1222) (by decide +kernel) rfl, am_word (k := 56) (by decide +kernel) rfl, _, _, rfl⟩
theorem ky_X11_goes : am_Ky yX11_goes cX11_goes 5 none 0 := ⟨am_word (k := 1219) (by decide +kernel) rfl, am_word (k := 90) (by decide +kernel) rfl, by decide +kernel, by decide⟩
theorem kv_X11_goes : am_KV yX11_goes 11 := ⟨am_word (k := 1218) (by decide +kernel) rfl, am_word (k := 55) (by decide +kernel) rfl, _, _, rfl⟩
theorem ky_X11_readsOf : am_Ky yX11_readsOf cX11_readsOf 4 (some .int) 1 := ⟨am_word (k := 1215) (by decide +kernel) rfl, am_word (k := 90) (by decide +kernel) rfl, by decide +kernel, by decide⟩
theorem kv_X11_readsOf : am_KV yX11_readsOf 11 := ⟨am_word (k := 1214) (by decide +kernel) rfl, am_word (k := 54) (by decide +kernel) rfl, _, _, rfl⟩
theorem ky_X11_reads : am_Ky yX11_reads cX11_reads 2 (some .int) 1 := ⟨am_word (k := 1211) (by decide +kernel) rfl, am_word (k := 90) (by decide +kernel) rfl, by decide +kernel, by decide⟩
theorem kv_X11_reads : am_KV yX11_reads 11 := ⟨am_word (k := 1209) (by decide +kernel) rfl, am_word (k := 1210) (by decide +kernel) rfl, _, _, rfl⟩
theorem ky_X11_nextHour : am_Ky yX11_nextHour cX11_nextHour 4 (some .int) 2 := ⟨am_word (k := 1239) (by decide +kernel) rfl, am_word (k := 90) (by decide +kernel) rfl, by decide +kernel, by decide⟩
theorem kv_X11_nextHour : am_KV yX11_nextHour 11 := ⟨am_word (k := 1238) (by decide +kernel) rfl, am_word (k := 59) (by decide +kernel) rfl, _, _, rfl⟩
theorem ky_X11_keepsTour : am_Ky yX11_keepsTour cX11_keepsTour 4 none 1 := ⟨am_word (k := 1235) (by decide +kernel) rfl, am_word (k := 90) (by decide +kernel) rfl, by decide +kernel, by decide⟩
theorem kv_X11_keepsTour : am_KV yX11_keepsTour 11 := ⟨am_word (k := 1234) (by decide +kernel) rfl, am_word (k := 58) (by decide +kernel) rfl, _, _, rfl⟩
theorem ky_X11_findTour : am_Ky yX11_findTour cX11_findTour 5 none 0 := ⟨am_word (k := 1231) (by decide +kernel) rfl, am_word (k := 90) (by decide +kernel) rfl, by decide +kernel, by decide⟩
theorem kv_X11_findTour : am_KV yX11_findTour 11 := ⟨am_word (k := 1230) (by decide +kernel) rfl, am_word (k := 57) (by decide +kernel) rfl, _, _, rfl⟩
theorem ky_X11_tourBy : am_Ky yX11_tourBy cX11_tourBy 2 (some .int) 1 := ⟨am_word (k := 1243) (by decide +kernel) rfl, am_word (k := 90) (by decide +kernel) rfl, by decide +kernel, by decide⟩
theorem kv_X11_tourBy : am_KV yX11_tourBy 11 := ⟨am_word (k := 1242) (by decide +kernel) rfl, am_word (k := 60) (by decide +kernel) rfl, _, _, rfl⟩
theorem ky_X11_tour : am_Ky yX11_tour cX11_tour 2 (some .int) 1 := ⟨am_word (k := 1227) (by decide +kernel) rfl, am_word (k := 90) (by decide +kernel) rfl, by decide +kernel, by decide⟩
theorem kv_X11_tour : am_KV yX11_tour 11 := ⟨am_word (k := 1225) (by decide +kernel) rfl, am_word (k := 1226) (by decide +kernel) rfl, _, _, rfl⟩
theorem ky_X11_hangOf : am_Ky yX11_hangOf cX11_hangOf 8 (some .int) 2 := ⟨am_word (k := 1251) (by decide +kernel) rfl, am_word (k := 90) (by decide +kernel) rfl, by decide +kernel, by decide⟩
theorem kv_X11_hangOf : am_KV yX11_hangOf 11 := ⟨am_word (k := 1250) (by decide +kernel) rfl, am_word (k := 61) (by decide +kernel) rfl, _, _, rfl⟩
theorem ky_X11_hang : am_Ky yX11_hang cX11_hang 3 (some .int) 2 := ⟨am_word (k := 1247) (by decide +kernel) rfl, am_word (k := 90) (by decide +kernel) rfl, by decide +kernel, by decide⟩
theorem kv_X11_hang : am_KV yX11_hang 11 := ⟨am_word (k := 1245) (by decide +kernel) rfl, am_word (k := 1246) (by decide +kernel) rfl, _, _, rfl⟩
theorem ky_X11_isSafe : am_Ky yX11_isSafe cX11_isSafe 3 (some .boolean) 2 := ⟨am_word (k := 1264) (by decide +kernel) rfl, am_word (k := 90) (by decide +kernel) rfl, by decide +kernel, by decide⟩
theorem kv_X11_isSafe : am_KV yX11_isSafe 11 := ⟨am_word (k := 1263) (by decide +kernel) rfl, am_word (k := 63) (by decide +kernel) rfl, _, _, rfl⟩
theorem ky_X11_saveOf : am_Ky yX11_saveOf cX11_saveOf 5 (some .int) 2 := ⟨am_word (k := 1260) (by decide +kernel) rfl, am_word (k := 90) (by decide +kernel) rfl, by decide +kernel, by decide⟩
theorem kv_X11_saveOf : am_KV yX11_saveOf 11 := ⟨am_word (k := 1259) (by decide +kernel) rfl, am_word (k := 62) (by decide +kernel) rfl, _, _, rfl⟩
theorem ky_X11_save : am_Ky yX11_save cX11_save 3 (some .int) 2 := ⟨am_word (k := 1255) (by decide +kernel) rfl, am_word (k := 90) (by decide +kernel) rfl, by decide +kernel, by decide⟩
theorem kv_X11_save : am_KV yX11_save 11 := ⟨am_word (k := 1253) (by decide +kernel) rfl, am_word (k := 1254) (by decide +kernel) rfl, _, _, rfl⟩
theorem ky_X11_mayBe : am_Ky yX11_mayBe cX11_mayBe 7 (some .boolean) 3 := ⟨am_word (k := 1276) (by decide +kernel) rfl, am_word (k := 90) (by decide +kernel) rfl, by decide +kernel, by decide⟩
theorem kv_X11_mayBe : am_KV yX11_mayBe 11 := ⟨am_word (k := 1275) (by decide +kernel) rfl, am_word (k := 65) (by decide +kernel) rfl, _, _, rfl⟩
theorem ky_X11_fillOf : am_Ky yX11_fillOf cX11_fillOf 8 (some .int) 3 := ⟨am_word (k := 1272) (by decide +kernel) rfl, am_word (k := 90) (by decide +kernel) rfl, by decide +kernel, by decide⟩
theorem kv_X11_fillOf : am_KV yX11_fillOf 11 := ⟨am_word (k := 1271) (by decide +kernel) rfl, am_word (k := 64) (by decide +kernel) rfl, _, _, rfl⟩
theorem ky_X11_fill : am_Ky yX11_fill cX11_fill 4 (some .int) 3 := ⟨am_word (k := 1268) (by decide +kernel) rfl, am_word (k := 90) (by decide +kernel) rfl, by decide +kernel, by decide⟩
theorem kv_X11_fill : am_KV yX11_fill 11 := ⟨am_word (k := 1266) (by decide +kernel) rfl, am_word (k := 1267) (by decide +kernel) rfl, _, _, rfl⟩
theorem ky_X11_seen : am_Ky yX11_seen cX11_seen 4 (some .int) 3 := ⟨am_word (k := 1280) (by decide +kernel) rfl, am_word (k := 90) (by decide +kernel) rfl, by decide +kernel, by decide⟩
theorem kv_X11_seen : am_KV yX11_seen 11 := ⟨am_word (k := 1278) (by decide +kernel) rfl, am_word (k := 1279) (by decide +kernel) rfl, _, _, rfl⟩
theorem ky_X11_forget : am_Ky yX11_forget cX11_forget 2 (some .int) 0 := ⟨am_word (k := 1285) (by decide +kernel) rfl, am_word (k := 90) (by decide +kernel) rfl, by decide +kernel, by decide⟩
theorem kv_X11_forget : am_KV yX11_forget 11 := ⟨am_word (k := 1283) (by decide +kernel) rfl, am_word (k := 1284) (by decide +kernel) rfl, _, _, rfl⟩
theorem ky_X11_isSeen : am_Ky yX11_isSeen cX11_isSeen 4 (some .boolean) 0 := ⟨am_word (k := 1297) (by decide +kernel) rfl, am_word (k := 90) (by decide +kernel) rfl, by decide +kernel, by decide⟩
theorem kv_X11_isSeen : am_KV yX11_isSeen 11 := ⟨am_word (k := 1296) (by decide +kernel) rfl, am_word (k := 67) (by decide +kernel) rfl, _, _, rfl⟩
theorem ky_X11_neverNow : am_Ky yX11_neverNow cX11_neverNow 3 (some .int) 0 := ⟨am_word (k := 1293) (by decide +kernel) rfl, am_word (k := 90) (by decide +kernel) rfl, by decide +kernel, by decide⟩
theorem kv_X11_neverNow : am_KV yX11_neverNow 11 := ⟨am_word (k := 1292) (by decide +kernel) rfl, am_word (k := 66) (by decide +kernel) rfl, _, _, rfl⟩
theorem ky_X11_never : am_Ky yX11_never cX11_never 1 (some .int) 0 := ⟨am_word (k := 1289) (by decide +kernel) rfl, am_word (k := 90) (by decide +kernel) rfl, by decide +kernel, by decide⟩
theorem kv_X11_never : am_KV yX11_never 11 := ⟨am_word (k := 1287) (by decide +kernel) rfl, am_word (k := 1288) (by decide +kernel) rfl, _, _, rfl⟩
theorem ky_X11_hungOf : am_Ky yX11_hungOf cX11_hungOf 5 (some .int) 1 := ⟨am_word (k := 1309) (by decide +kernel) rfl, am_word (k := 90) (by decide +kernel) rfl, by decide +kernel, by decide⟩
theorem kv_X11_hungOf : am_KV yX11_hungOf 11 := ⟨am_word (k := 1308) (by decide +kernel) rfl, am_word (k := 69) (by decide +kernel) rfl, _, _, rfl⟩
theorem ky_X11_sortOf : am_Ky yX11_sortOf cX11_sortOf 5 (some .int) 1 := ⟨am_word (k := 1313) (by decide +kernel) rfl, am_word (k := 90) (by decide +kernel) rfl, by decide +kernel, by decide⟩
theorem kv_X11_sortOf : am_KV yX11_sortOf 11 := ⟨am_word (k := 1312) (by decide +kernel) rfl, am_word (k := 70) (by decide +kernel) rfl, _, _, rfl⟩
theorem ky_X11_wasOf : am_Ky yX11_wasOf cX11_wasOf 3 (some .int) 2 := ⟨am_word (k := 1305) (by decide +kernel) rfl, am_word (k := 90) (by decide +kernel) rfl, by decide +kernel, by decide⟩
theorem kv_X11_wasOf : am_KV yX11_wasOf 11 := ⟨am_word (k := 1304) (by decide +kernel) rfl, am_word (k := 68) (by decide +kernel) rfl, _, _, rfl⟩
theorem ky_X11_was : am_Ky yX11_was cX11_was 3 (some .int) 2 := ⟨am_word (k := 1301) (by decide +kernel) rfl, am_word (k := 90) (by decide +kernel) rfl, by decide +kernel, by decide⟩
theorem kv_X11_was : am_KV yX11_was 11 := ⟨am_word (k := 1299) (by decide +kernel) rfl, am_word (k := 1300) (by decide +kernel) rfl, _, _, rfl⟩
theorem ky_X11_askOf : am_Ky yX11_askOf cX11_askOf 9 (some .int) 1 := ⟨am_word (k := 1321) (by decide +kernel) rfl, am_word (k := 90) (by decide +kernel) rfl, by decide +kernel, by decide⟩
theorem kv_X11_askOf : am_KV yX11_askOf 11 := ⟨am_word (k := 1320) (by decide +kernel) rfl, am_word (k := 71) (by decide +kernel) rfl, _, _, rfl⟩
theorem ky_X11_ask : am_Ky yX11_ask cX11_ask 2 (some .int) 1 := ⟨am_word (k := 1317) (by decide +kernel) rfl, am_word (k := 90) (by decide +kernel) rfl, by decide +kernel, by decide⟩
theorem kv_X11_ask : am_KV yX11_ask 11 := ⟨am_word (k := 1315) (by decide +kernel) rfl, am_word (k := 1316) (by decide +kernel) rfl, _, _, rfl⟩
theorem ky_X11_riskOf : am_Ky yX11_riskOf cX11_riskOf 11 (some .long) 4 := ⟨am_word (k := 1330) (by decide +kernel) rfl, am_word (k := 90) (by decide +kernel) rfl, by decide +kernel, by decide⟩
theorem kv_X11_riskOf : am_KV yX11_riskOf 11 := ⟨am_word (k := 1329) (by decide +kernel) rfl, am_word (k := 72) (by decide +kernel) rfl, _, _, rfl⟩
theorem ky_X11_risk : am_Ky yX11_risk cX11_risk 5 (some .long) 4 := ⟨am_word (k := 1325) (by decide +kernel) rfl, am_word (k := 90) (by decide +kernel) rfl, by decide +kernel, by decide⟩
theorem kv_X11_risk : am_KV yX11_risk 11 := ⟨am_word (k := 1323) (by decide +kernel) rfl, am_word (k := 1324) (by decide +kernel) rfl, _, _, rfl⟩
theorem ky_X11_lot : am_Ky yX11_lot cX11_lot 2 (some .int) 1 := ⟨am_word (k := 1349) (by decide +kernel) rfl, am_word (k := 90) (by decide +kernel) rfl, by decide +kernel, by decide⟩
theorem kv_X11_lot : am_KV yX11_lot 11 := ⟨am_word (k := 1348) (by decide +kernel) rfl, am_word (k := 74) (by decide +kernel) rfl, _, _, rfl⟩
theorem ky_X11_centuryOf : am_Ky yX11_centuryOf cX11_centuryOf 9 (some .int) 3 := ⟨am_word (k := 1345) (by decide +kernel) rfl, am_word (k := 90) (by decide +kernel) rfl, by decide +kernel, by decide⟩
theorem kv_X11_centuryOf : am_KV yX11_centuryOf 11 := ⟨am_word (k := 1344) (by decide +kernel) rfl, am_word (k := 73) (by decide +kernel) rfl, _, _, rfl⟩
theorem ky_X11_century : am_Ky yX11_century cX11_century 4 (some .int) 3 := ⟨am_word (k := 1341) (by decide +kernel) rfl, am_word (k := 90) (by decide +kernel) rfl, by decide +kernel, by decide⟩
theorem kv_X11_century : am_KV yX11_century 11 := ⟨am_word (k := 1339) (by decide +kernel) rfl, am_word (k := 1340) (by decide +kernel) rfl, _, _, rfl⟩
theorem ky_X11_write : am_Ky yX11_write cX11_write 5 (some .int) 2 := ⟨am_word (k := 1357) (by decide +kernel) rfl, am_word (k := 90) (by decide +kernel) rfl, by decide +kernel, by decide⟩
theorem kv_X11_write : am_KV yX11_write 11 := ⟨am_word (k := 1355) (by decide +kernel) rfl, am_word (k := 1356) (by decide +kernel) rfl, _, _, rfl⟩
theorem ky_X11_count : am_Ky yX11_count cX11_count 2 (some .int) 1 := ⟨am_word (k := 1364) (by decide +kernel) rfl, am_word (k := 90) (by decide +kernel) rfl, by decide +kernel, by decide⟩
theorem kv_X11_count : am_KV yX11_count 11 := ⟨am_word (k := 1362) (by decide +kernel) rfl, am_word (k := 1363) (by decide +kernel) rfl, _, _, rfl⟩
theorem ky_X11_tellsHour : am_Ky yX11_tellsHour cX11_tellsHour 7 (some .long) 3 := ⟨am_word (k := 1379) (by decide +kernel) rfl, am_word (k := 90) (by decide +kernel) rfl, by decide +kernel, by decide⟩
theorem kv_X11_tellsHour : am_KV yX11_tellsHour 11 := ⟨am_word (k := 1378) (by decide +kernel) rfl, am_word (k := 76) (by decide +kernel) rfl, _, _, rfl⟩
theorem ky_X11_tellsStrand : am_Ky yX11_tellsStrand cX11_tellsStrand 7 (some .long) 2 := ⟨am_word (k := 1375) (by decide +kernel) rfl, am_word (k := 90) (by decide +kernel) rfl, by decide +kernel, by decide⟩
theorem kv_X11_tellsStrand : am_KV yX11_tellsStrand 11 := ⟨am_word (k := 1374) (by decide +kernel) rfl, am_word (k := 75) (by decide +kernel) rfl, _, _, rfl⟩
theorem ky_X11_digest : am_Ky yX11_digest cX11_digest 4 (some .long) 0 := ⟨am_word (k := 1368) (by decide +kernel) rfl, am_word (k := 90) (by decide +kernel) rfl, by decide +kernel, by decide⟩
theorem kv_X11_digest : am_KV yX11_digest 11 := ⟨am_word (k := 1366) (by decide +kernel) rfl, am_word (k := 1367) (by decide +kernel) rfl, _, _, rfl⟩
