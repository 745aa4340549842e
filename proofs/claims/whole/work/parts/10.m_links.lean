theorem lkX12_has : Cond.code yX12_has cX12_has 2 (some .boolean) ∈ gd_tbl := in_I 1118 (by decide +kernel)
theorem ldX12_has : okD yX12_has 2 := ⟨by decide +kernel, by decide +kernel, by decide +kernel⟩
theorem ltX12_has : Cond.static yX12_has ∈ gd_tbl := in_I 1117 (by decide +kernel)
theorem liRX12 : Cond.initialized RX12 ∈ gd_tbl := in_I 115 (by decide +kernel)
theorem lkX12_allowsBy : Cond.code yX12_allowsBy cX12_allowsBy 4 (some .boolean) ∈ gd_tbl := in_I 1115 (by decide +kernel)
theorem ldX12_allowsBy : okD yX12_allowsBy 2 := ⟨by decide +kernel, by decide +kernel, by decide +kernel⟩
theorem lnX12_allowsBy : Cond.instanceMethod yX12_allowsBy ∈ gd_tbl := in_I 1114 (by decide +kernel)
theorem leX12_allowsBy : Cond.selects RX12 yX12_allowsBy yX12_allowsBy ∈ gd_tbl := in_I 32 (by decide +kernel)
theorem lkX12_in : Cond.code yX12_in cX12_in 3 (some .boolean) ∈ gd_tbl := in_I 1325 (by decide +kernel)
theorem ldX12_in : okD yX12_in 3 := ⟨by decide +kernel, by decide +kernel, by decide +kernel⟩
theorem ltX12_in : Cond.static yX12_in ∈ gd_tbl := in_I 1324 (by decide +kernel)
theorem lkX12_bits : Cond.code yX12_bits cX12_bits 3 (some .int) ∈ gd_tbl := in_I 1526 (by decide +kernel)
theorem ldX12_bits : okD yX12_bits 1 := ⟨by decide +kernel, by decide +kernel, by decide +kernel⟩
theorem ltX12_bits : Cond.static yX12_bits ∈ gd_tbl := in_I 1525 (by decide +kernel)
theorem lkX12_types : Cond.code yX12_types cX12_types 3 none ∈ gd_tbl := in_I 1337 (by decide +kernel)
theorem ldX12_types : okD yX12_types 1 := ⟨by decide +kernel, by decide +kernel, by decide +kernel⟩
theorem lnX12_types : Cond.instanceMethod yX12_types ∈ gd_tbl := in_I 1336 (by decide +kernel)
theorem leX12_types : Cond.selects RX12 yX12_types yX12_types ∈ gd_tbl := in_I 33 (by decide +kernel)
theorem lkX12_here : Cond.code yX12_here cX12_here 1 (some .int) ∈ gd_tbl := in_I 1349 (by decide +kernel)
theorem ldX12_here : okD yX12_here 0 := ⟨by decide +kernel, by decide +kernel, by decide +kernel⟩
theorem lnX12_here : Cond.instanceMethod yX12_here ∈ gd_tbl := in_I 1348 (by decide +kernel)
theorem leX12_here : Cond.selects RX12 yX12_here yX12_here ∈ gd_tbl := in_I 35 (by decide +kernel)
theorem lkX12_wrongAt : Cond.code yX12_wrongAt cX12_wrongAt 3 (some .boolean) ∈ gd_tbl := in_I 1353 (by decide +kernel)
theorem ldX12_wrongAt : okD yX12_wrongAt 2 := ⟨by decide +kernel, by decide +kernel, by decide +kernel⟩
theorem lnX12_wrongAt : Cond.instanceMethod yX12_wrongAt ∈ gd_tbl := in_I 1352 (by decide +kernel)
theorem leX12_wrongAt : Cond.selects RX12 yX12_wrongAt yX12_wrongAt ∈ gd_tbl := in_I 36 (by decide +kernel)
theorem lkX12_isDigit : Cond.code yX12_isDigit cX12_isDigit 1 (some .boolean) ∈ gd_tbl := in_I 1370 (by decide +kernel)
theorem ldX12_isDigit : okD yX12_isDigit 0 := ⟨by decide +kernel, by decide +kernel, by decide +kernel⟩
theorem lnX12_isDigit : Cond.instanceMethod yX12_isDigit ∈ gd_tbl := in_I 1369 (by decide +kernel)
theorem leX12_isDigit : Cond.selects RX12 yX12_isDigit yX12_isDigit ∈ gd_tbl := in_I 40 (by decide +kernel)
theorem lkX12_waitTop : Cond.code yX12_waitTop cX12_waitTop 1 (some .int) ∈ gd_tbl := in_I 1392 (by decide +kernel)
theorem ldX12_waitTop : okD yX12_waitTop 0 := ⟨by decide +kernel, by decide +kernel, by decide +kernel⟩
theorem lnX12_waitTop : Cond.instanceMethod yX12_waitTop ∈ gd_tbl := in_I 1391 (by decide +kernel)
theorem leX12_waitTop : Cond.selects RX12 yX12_waitTop yX12_waitTop ∈ gd_tbl := in_I 44 (by decide +kernel)
theorem lkX12_notes : Cond.code yX12_notes cX12_notes 3 none ∈ gd_tbl := in_I 1378 (by decide +kernel)
theorem ldX12_notes : okD yX12_notes 2 := ⟨by decide +kernel, by decide +kernel, by decide +kernel⟩
theorem lnX12_notes : Cond.instanceMethod yX12_notes ∈ gd_tbl := in_I 1377 (by decide +kernel)
theorem leX12_notes : Cond.selects RX12 yX12_notes yX12_notes ∈ gd_tbl := in_I 42 (by decide +kernel)
theorem lkX12_factOf : Cond.code yX12_factOf cX12_factOf 1 (some .int) ∈ gd_tbl := in_I 1381 (by decide +kernel)
theorem ldX12_factOf : okD yX12_factOf 1 := ⟨by decide +kernel, by decide +kernel, by decide +kernel⟩
theorem ltX12_factOf : Cond.static yX12_factOf ∈ gd_tbl := in_I 1380 (by decide +kernel)
theorem lkX12_readsNumber : Cond.code yX12_readsNumber cX12_readsNumber 2 (some .boolean) ∈ gd_tbl := in_I 1374 (by decide +kernel)
theorem ldX12_readsNumber : okD yX12_readsNumber 0 := ⟨by decide +kernel, by decide +kernel, by decide +kernel⟩
theorem lnX12_readsNumber : Cond.instanceMethod yX12_readsNumber ∈ gd_tbl := in_I 1373 (by decide +kernel)
theorem leX12_readsNumber : Cond.selects RX12 yX12_readsNumber yX12_readsNumber ∈ gd_tbl := in_I 41 (by decide +kernel)
theorem lkX12_opens : Cond.code yX12_opens cX12_opens 2 (some .boolean) ∈ gd_tbl := in_I 1365 (by decide +kernel)
theorem ldX12_opens : okD yX12_opens 1 := ⟨by decide +kernel, by decide +kernel, by decide +kernel⟩
theorem lnX12_opens : Cond.instanceMethod yX12_opens ∈ gd_tbl := in_I 1364 (by decide +kernel)
theorem leX12_opens : Cond.selects RX12 yX12_opens yX12_opens ∈ gd_tbl := in_I 39 (by decide +kernel)
theorem lkX12_readsFactor : Cond.code yX12_readsFactor cX12_readsFactor 2 (some .boolean) ∈ gd_tbl := in_I 1361 (by decide +kernel)
theorem ldX12_readsFactor : okD yX12_readsFactor 0 := ⟨by decide +kernel, by decide +kernel, by decide +kernel⟩
theorem lnX12_readsFactor : Cond.instanceMethod yX12_readsFactor ∈ gd_tbl := in_I 1360 (by decide +kernel)
theorem leX12_readsFactor : Cond.selects RX12 yX12_readsFactor yX12_readsFactor ∈ gd_tbl := in_I 38 (by decide +kernel)
theorem lkX12_sumSign : Cond.code yX12_sumSign cX12_sumSign 1 (some .int) ∈ gd_tbl := in_I 1384 (by decide +kernel)
theorem ldX12_sumSign : okD yX12_sumSign 1 := ⟨by decide +kernel, by decide +kernel, by decide +kernel⟩
theorem ltX12_sumSign : Cond.static yX12_sumSign ∈ gd_tbl := in_I 1383 (by decide +kernel)
theorem lkX12_hasOpenSum : Cond.code yX12_hasOpenSum cX12_hasOpenSum 3 (some .boolean) ∈ gd_tbl := in_I 1396 (by decide +kernel)
theorem ldX12_hasOpenSum : okD yX12_hasOpenSum 1 := ⟨by decide +kernel, by decide +kernel, by decide +kernel⟩
theorem lnX12_hasOpenSum : Cond.instanceMethod yX12_hasOpenSum ∈ gd_tbl := in_I 1395 (by decide +kernel)
theorem leX12_hasOpenSum : Cond.selects RX12 yX12_hasOpenSum yX12_hasOpenSum ∈ gd_tbl := in_I 45 (by decide +kernel)
theorem lkX12_closesSums : Cond.code yX12_closesSums cX12_closesSums 2 none ∈ gd_tbl := in_I 1388 (by decide +kernel)
theorem ldX12_closesSums : okD yX12_closesSums 1 := ⟨by decide +kernel, by decide +kernel, by decide +kernel⟩
theorem lnX12_closesSums : Cond.instanceMethod yX12_closesSums ∈ gd_tbl := in_I 1387 (by decide +kernel)
theorem leX12_closesSums : Cond.selects RX12 yX12_closesSums yX12_closesSums ∈ gd_tbl := in_I 43 (by decide +kernel)
theorem lkX12_readsSum : Cond.code yX12_readsSum cX12_readsSum 3 (some .boolean) ∈ gd_tbl := in_I 1357 (by decide +kernel)
theorem ldX12_readsSum : okD yX12_readsSum 0 := ⟨by decide +kernel, by decide +kernel, by decide +kernel⟩
theorem lnX12_readsSum : Cond.instanceMethod yX12_readsSum ∈ gd_tbl := in_I 1356 (by decide +kernel)
theorem leX12_readsSum : Cond.selects RX12 yX12_readsSum yX12_readsSum ∈ gd_tbl := in_I 37 (by decide +kernel)
theorem lkX12_endsPiece : Cond.code yX12_endsPiece cX12_endsPiece 1 none ∈ gd_tbl := in_I 1408 (by decide +kernel)
theorem ldX12_endsPiece : okD yX12_endsPiece 0 := ⟨by decide +kernel, by decide +kernel, by decide +kernel⟩
theorem lnX12_endsPiece : Cond.instanceMethod yX12_endsPiece ∈ gd_tbl := in_I 1407 (by decide +kernel)
theorem leX12_endsPiece : Cond.selects RX12 yX12_endsPiece yX12_endsPiece ∈ gd_tbl := in_I 48 (by decide +kernel)
theorem lkX12_readsCompared : Cond.code yX12_readsCompared cX12_readsCompared 2 (some .boolean) ∈ gd_tbl := in_I 1404 (by decide +kernel)
theorem ldX12_readsCompared : okD yX12_readsCompared 0 := ⟨by decide +kernel, by decide +kernel, by decide +kernel⟩
theorem lnX12_readsCompared : Cond.instanceMethod yX12_readsCompared ∈ gd_tbl := in_I 1403 (by decide +kernel)
theorem leX12_readsCompared : Cond.selects RX12 yX12_readsCompared yX12_readsCompared ∈ gd_tbl := in_I 47 (by decide +kernel)
theorem lkX12_lands : Cond.code yX12_lands cX12_lands 3 none ∈ gd_tbl := in_I 1412 (by decide +kernel)
theorem ldX12_lands : okD yX12_lands 1 := ⟨by decide +kernel, by decide +kernel, by decide +kernel⟩
theorem lnX12_lands : Cond.instanceMethod yX12_lands ∈ gd_tbl := in_I 1411 (by decide +kernel)
theorem leX12_lands : Cond.selects RX12 yX12_lands yX12_lands ∈ gd_tbl := in_I 49 (by decide +kernel)
theorem lkX12_jumps : Cond.code yX12_jumps cX12_jumps 2 none ∈ gd_tbl := in_I 1416 (by decide +kernel)
theorem ldX12_jumps : okD yX12_jumps 1 := ⟨by decide +kernel, by decide +kernel, by decide +kernel⟩
theorem lnX12_jumps : Cond.instanceMethod yX12_jumps ∈ gd_tbl := in_I 1415 (by decide +kernel)
theorem leX12_jumps : Cond.selects RX12 yX12_jumps yX12_jumps ∈ gd_tbl := in_I 50 (by decide +kernel)
theorem lkX12_readsCondition : Cond.code yX12_readsCondition cX12_readsCondition 1 (some .boolean) ∈ gd_tbl := in_I 1400 (by decide +kernel)
theorem ldX12_readsCondition : okD yX12_readsCondition 0 := ⟨by decide +kernel, by decide +kernel, by decide +kernel⟩
theorem lnX12_readsCondition : Cond.instanceMethod yX12_readsCondition ∈ gd_tbl := in_I 1399 (by decide +kernel)
theorem leX12_readsCondition : Cond.selects RX12 yX12_readsCondition yX12_readsCondition ∈ gd_tbl := in_I 46 (by decide +kernel)
theorem lkX12_readsRule : Cond.code yX12_readsRule cX12_readsRule 2 (some .boolean) ∈ gd_tbl := in_I 1345 (by decide +kernel)
theorem ldX12_readsRule : okD yX12_readsRule 0 := ⟨by decide +kernel, by decide +kernel, by decide +kernel⟩
theorem lnX12_readsRule : Cond.instanceMethod yX12_readsRule ∈ gd_tbl := in_I 1344 (by decide +kernel)
theorem leX12_readsRule : Cond.selects RX12 yX12_readsRule yX12_readsRule ∈ gd_tbl := in_I 34 (by decide +kernel)
theorem lkX12_takes : Cond.code yX12_takes cX12_takes 2 (some .boolean) ∈ gd_tbl := in_I 1420 (by decide +kernel)
theorem ldX12_takes : okD yX12_takes 1 := ⟨by decide +kernel, by decide +kernel, by decide +kernel⟩
theorem lnX12_takes : Cond.instanceMethod yX12_takes ∈ gd_tbl := in_I 1419 (by decide +kernel)
theorem leX12_takes : Cond.selects RX12 yX12_takes yX12_takes ∈ gd_tbl := in_I 51 (by decide +kernel)
theorem lkX12_reckon : Cond.code yX12_reckon cX12_reckon 3 (some .int) ∈ gd_tbl := in_I 1541 (by decide +kernel)
theorem ldX12_reckon : okD yX12_reckon 3 := ⟨by decide +kernel, by decide +kernel, by decide +kernel⟩
theorem ltX12_reckon : Cond.static yX12_reckon ∈ gd_tbl := in_I 1540 (by decide +kernel)
theorem lkX12_comesTo : Cond.code yX12_comesTo cX12_comesTo 8 (some .int) ∈ gd_tbl := in_I 1538 (by decide +kernel)
theorem ldX12_comesTo : okD yX12_comesTo 2 := ⟨by decide +kernel, by decide +kernel, by decide +kernel⟩
theorem lnX12_comesTo : Cond.instanceMethod yX12_comesTo ∈ gd_tbl := in_I 1537 (by decide +kernel)
theorem leX12_comesTo : Cond.selects RX12 yX12_comesTo yX12_comesTo ∈ gd_tbl := in_I 74 (by decide +kernel)
theorem lkX12_pricesOf : Cond.code yX12_pricesOf cX12_pricesOf 4 (some .int) ∈ gd_tbl := in_I 1523 (by decide +kernel)
theorem ldX12_pricesOf : okD yX12_pricesOf 1 := ⟨by decide +kernel, by decide +kernel, by decide +kernel⟩
theorem lnX12_pricesOf : Cond.instanceMethod yX12_pricesOf ∈ gd_tbl := in_I 1522 (by decide +kernel)
theorem leX12_pricesOf : Cond.selects RX12 yX12_pricesOf yX12_pricesOf ∈ gd_tbl := in_I 71 (by decide +kernel)
theorem lkX12_isFact : Cond.code yX12_isFact cX12_isFact 1 (some .boolean) ∈ gd_tbl := in_I 1438 (by decide +kernel)
theorem ldX12_isFact : okD yX12_isFact 1 := ⟨by decide +kernel, by decide +kernel, by decide +kernel⟩
theorem ltX12_isFact : Cond.static yX12_isFact ∈ gd_tbl := in_I 1437 (by decide +kernel)
theorem lkX12_lays : Cond.code yX12_lays cX12_lays 2 none ∈ gd_tbl := in_I 1442 (by decide +kernel)
theorem ldX12_lays : okD yX12_lays 1 := ⟨by decide +kernel, by decide +kernel, by decide +kernel⟩
theorem lnX12_lays : Cond.instanceMethod yX12_lays ∈ gd_tbl := in_I 1441 (by decide +kernel)
theorem leX12_lays : Cond.selects RX12 yX12_lays yX12_lays ∈ gd_tbl := in_I 54 (by decide +kernel)
theorem lkX12_lastSign : Cond.code yX12_lastSign cX12_lastSign 1 (some .int) ∈ gd_tbl := in_I 1450 (by decide +kernel)
theorem ldX12_lastSign : okD yX12_lastSign 0 := ⟨by decide +kernel, by decide +kernel, by decide +kernel⟩
theorem lnX12_lastSign : Cond.instanceMethod yX12_lastSign ∈ gd_tbl := in_I 1449 (by decide +kernel)
theorem leX12_lastSign : Cond.selects RX12 yX12_lastSign yX12_lastSign ∈ gd_tbl := in_I 56 (by decide +kernel)
theorem lkX12_laysLast : Cond.code yX12_laysLast cX12_laysLast 1 none ∈ gd_tbl := in_I 1454 (by decide +kernel)
theorem ldX12_laysLast : okD yX12_laysLast 0 := ⟨by decide +kernel, by decide +kernel, by decide +kernel⟩
theorem lnX12_laysLast : Cond.instanceMethod yX12_laysLast ∈ gd_tbl := in_I 1453 (by decide +kernel)
theorem leX12_laysLast : Cond.selects RX12 yX12_laysLast yX12_laysLast ∈ gd_tbl := in_I 57 (by decide +kernel)
theorem lkX12_begins : Cond.code yX12_begins cX12_begins 1 (some .boolean) ∈ gd_tbl := in_I 1435 (by decide +kernel)
theorem ldX12_begins : okD yX12_begins 1 := ⟨by decide +kernel, by decide +kernel, by decide +kernel⟩
theorem ltX12_begins : Cond.static yX12_begins ∈ gd_tbl := in_I 1434 (by decide +kernel)
theorem lkX12_endsTruth : Cond.code yX12_endsTruth cX12_endsTruth 1 none ∈ gd_tbl := in_I 1446 (by decide +kernel)
theorem ldX12_endsTruth : okD yX12_endsTruth 0 := ⟨by decide +kernel, by decide +kernel, by decide +kernel⟩
theorem lnX12_endsTruth : Cond.instanceMethod yX12_endsTruth ∈ gd_tbl := in_I 1445 (by decide +kernel)
theorem leX12_endsTruth : Cond.selects RX12 yX12_endsTruth yX12_endsTruth ∈ gd_tbl := in_I 55 (by decide +kernel)
theorem lkX12_opensOne : Cond.code yX12_opensOne cX12_opensOne 1 (some .boolean) ∈ gd_tbl := in_I 1458 (by decide +kernel)
theorem ldX12_opensOne : okD yX12_opensOne 0 := ⟨by decide +kernel, by decide +kernel, by decide +kernel⟩
theorem lnX12_opensOne : Cond.instanceMethod yX12_opensOne ∈ gd_tbl := in_I 1457 (by decide +kernel)
theorem leX12_opensOne : Cond.selects RX12 yX12_opensOne yX12_opensOne ∈ gd_tbl := in_I 58 (by decide +kernel)
theorem lkX12_waitsFor : Cond.code yX12_waitsFor cX12_waitsFor 2 none ∈ gd_tbl := in_I 1462 (by decide +kernel)
theorem ldX12_waitsFor : okD yX12_waitsFor 1 := ⟨by decide +kernel, by decide +kernel, by decide +kernel⟩
theorem lnX12_waitsFor : Cond.instanceMethod yX12_waitsFor ∈ gd_tbl := in_I 1461 (by decide +kernel)
theorem leX12_waitsFor : Cond.selects RX12 yX12_waitsFor yX12_waitsFor ∈ gd_tbl := in_I 59 (by decide +kernel)
theorem lkX12_laysTo : Cond.code yX12_laysTo cX12_laysTo 2 none ∈ gd_tbl := in_I 1474 (by decide +kernel)
theorem ldX12_laysTo : okD yX12_laysTo 1 := ⟨by decide +kernel, by decide +kernel, by decide +kernel⟩
theorem lnX12_laysTo : Cond.instanceMethod yX12_laysTo ∈ gd_tbl := in_I 1473 (by decide +kernel)
theorem leX12_laysTo : Cond.selects RX12 yX12_laysTo yX12_laysTo ∈ gd_tbl := in_I 62 (by decide +kernel)
theorem lkX12_closes : Cond.code yX12_closes cX12_closes 2 (some .boolean) ∈ gd_tbl := in_I 1470 (by decide +kernel)
theorem ldX12_closes : okD yX12_closes 0 := ⟨by decide +kernel, by decide +kernel, by decide +kernel⟩
theorem lnX12_closes : Cond.instanceMethod yX12_closes ∈ gd_tbl := in_I 1469 (by decide +kernel)
theorem leX12_closes : Cond.selects RX12 yX12_closes yX12_closes ∈ gd_tbl := in_I 61 (by decide +kernel)
theorem lkX12_goesOn : Cond.code yX12_goesOn cX12_goesOn 1 (some .boolean) ∈ gd_tbl := in_I 1478 (by decide +kernel)
theorem ldX12_goesOn : okD yX12_goesOn 0 := ⟨by decide +kernel, by decide +kernel, by decide +kernel⟩
theorem lnX12_goesOn : Cond.instanceMethod yX12_goesOn ∈ gd_tbl := in_I 1477 (by decide +kernel)
theorem leX12_goesOn : Cond.selects RX12 yX12_goesOn yX12_goesOn ∈ gd_tbl := in_I 63 (by decide +kernel)
theorem lkX12_readsSign : Cond.code yX12_readsSign cX12_readsSign 3 (some .boolean) ∈ gd_tbl := in_I 1466 (by decide +kernel)
theorem ldX12_readsSign : okD yX12_readsSign 0 := ⟨by decide +kernel, by decide +kernel, by decide +kernel⟩
theorem lnX12_readsSign : Cond.instanceMethod yX12_readsSign ∈ gd_tbl := in_I 1465 (by decide +kernel)
theorem leX12_readsSign : Cond.selects RX12 yX12_readsSign yX12_readsSign ∈ gd_tbl := in_I 60 (by decide +kernel)
theorem lkX12_readsPiece : Cond.code yX12_readsPiece cX12_readsPiece 2 (some .boolean) ∈ gd_tbl := in_I 1432 (by decide +kernel)
theorem ldX12_readsPiece : okD yX12_readsPiece 0 := ⟨by decide +kernel, by decide +kernel, by decide +kernel⟩
theorem lnX12_readsPiece : Cond.instanceMethod yX12_readsPiece ∈ gd_tbl := in_I 1431 (by decide +kernel)
theorem leX12_readsPiece : Cond.selects RX12 yX12_readsPiece yX12_readsPiece ∈ gd_tbl := in_I 53 (by decide +kernel)
theorem lkX12_isTrue : Cond.code yX12_isTrue cX12_isTrue 8 (some .boolean) ∈ gd_tbl := in_I 1486 (by decide +kernel)
theorem ldX12_isTrue : okD yX12_isTrue 1 := ⟨by decide +kernel, by decide +kernel, by decide +kernel⟩
theorem lnX12_isTrue : Cond.instanceMethod yX12_isTrue ∈ gd_tbl := in_I 1485 (by decide +kernel)
theorem leX12_isTrue : Cond.selects RX12 yX12_isTrue yX12_isTrue ∈ gd_tbl := in_I 65 (by decide +kernel)
theorem lkX12_readsFormula : Cond.code yX12_readsFormula cX12_readsFormula 3 (some .int) ∈ gd_tbl := in_I 1428 (by decide +kernel)
theorem ldX12_readsFormula : okD yX12_readsFormula 1 := ⟨by decide +kernel, by decide +kernel, by decide +kernel⟩
theorem lnX12_readsFormula : Cond.instanceMethod yX12_readsFormula ∈ gd_tbl := in_I 1427 (by decide +kernel)
theorem leX12_readsFormula : Cond.selects RX12 yX12_readsFormula yX12_readsFormula ∈ gd_tbl := in_I 52 (by decide +kernel)
theorem lkX12_laysRow : Cond.code yX12_laysRow cX12_laysRow 5 (some .int) ∈ gd_tbl := in_I 1482 (by decide +kernel)
theorem ldX12_laysRow : okD yX12_laysRow 2 := ⟨by decide +kernel, by decide +kernel, by decide +kernel⟩
theorem lnX12_laysRow : Cond.instanceMethod yX12_laysRow ∈ gd_tbl := in_I 1481 (by decide +kernel)
theorem leX12_laysRow : Cond.selects RX12 yX12_laysRow yX12_laysRow ∈ gd_tbl := in_I 64 (by decide +kernel)
theorem lkX12_laysFits : Cond.code yX12_laysFits cX12_laysFits 2 none ∈ gd_tbl := in_I 1111 (by decide +kernel)
theorem ldX12_laysFits : okD yX12_laysFits 0 := ⟨by decide +kernel, by decide +kernel, by decide +kernel⟩
theorem lnX12_laysFits : Cond.instanceMethod yX12_laysFits ∈ gd_tbl := in_I 1110 (by decide +kernel)
theorem leX12_laysFits : Cond.selects RX12 yX12_laysFits yX12_laysFits ∈ gd_tbl := in_I 31 (by decide +kernel)
theorem lkX12_holdsIn : Cond.code yX12_holdsIn cX12_holdsIn 3 (some .boolean) ∈ gd_tbl := in_I 1519 (by decide +kernel)
theorem ldX12_holdsIn : okD yX12_holdsIn 2 := ⟨by decide +kernel, by decide +kernel, by decide +kernel⟩
theorem lnX12_holdsIn : Cond.instanceMethod yX12_holdsIn ∈ gd_tbl := in_I 1518 (by decide +kernel)
theorem leX12_holdsIn : Cond.selects RX12 yX12_holdsIn yX12_holdsIn ∈ gd_tbl := in_I 70 (by decide +kernel)
theorem lkX12_leadsTo : Cond.code yX12_leadsTo cX12_leadsTo 6 (some .int) ∈ gd_tbl := in_I 1514 (by decide +kernel)
theorem ldX12_leadsTo : okD yX12_leadsTo 1 := ⟨by decide +kernel, by decide +kernel, by decide +kernel⟩
theorem lnX12_leadsTo : Cond.instanceMethod yX12_leadsTo ∈ gd_tbl := in_I 1513 (by decide +kernel)
theorem leX12_leadsTo : Cond.selects RX12 yX12_leadsTo yX12_leadsTo ∈ gd_tbl := in_I 69 (by decide +kernel)
theorem lkX12_feels : Cond.code yX12_feels cX12_feels 3 none ∈ gd_tbl := in_I 1530 (by decide +kernel)
theorem ldX12_feels : okD yX12_feels 2 := ⟨by decide +kernel, by decide +kernel, by decide +kernel⟩
theorem lnX12_feels : Cond.instanceMethod yX12_feels ∈ gd_tbl := in_I 1529 (by decide +kernel)
theorem leX12_feels : Cond.selects RX12 yX12_feels yX12_feels ∈ gd_tbl := in_I 72 (by decide +kernel)
theorem lkX12_balks : Cond.code yX12_balks cX12_balks 2 (some .boolean) ∈ gd_tbl := in_I 1534 (by decide +kernel)
theorem ldX12_balks : okD yX12_balks 0 := ⟨by decide +kernel, by decide +kernel, by decide +kernel⟩
theorem lnX12_balks : Cond.instanceMethod yX12_balks ∈ gd_tbl := in_I 1533 (by decide +kernel)
theorem leX12_balks : Cond.selects RX12 yX12_balks yX12_balks ∈ gd_tbl := in_I 73 (by decide +kernel)
theorem lkX12_byLaw : Cond.code yX12_byLaw cX12_byLaw 5 (some .int) ∈ gd_tbl := in_I 1545 (by decide +kernel)
theorem ldX12_byLaw : okD yX12_byLaw 2 := ⟨by decide +kernel, by decide +kernel, by decide +kernel⟩
theorem lnX12_byLaw : Cond.instanceMethod yX12_byLaw ∈ gd_tbl := in_I 1544 (by decide +kernel)
theorem leX12_byLaw : Cond.selects RX12 yX12_byLaw yX12_byLaw ∈ gd_tbl := in_I 75 (by decide +kernel)
theorem lkX12_tells : Cond.code yX12_tells cX12_tells 3 (some .int) ∈ gd_tbl := in_I 1510 (by decide +kernel)
theorem ldX12_tells : okD yX12_tells 1 := ⟨by decide +kernel, by decide +kernel, by decide +kernel⟩
theorem lnX12_tells : Cond.instanceMethod yX12_tells ∈ gd_tbl := in_I 1509 (by decide +kernel)
theorem leX12_tells : Cond.selects RX12 yX12_tells yX12_tells ∈ gd_tbl := in_I 68 (by decide +kernel)
theorem lkX12_min : Cond.code yX12_min cX12_min 2 (some .int) ∈ gd_tbl := in_I 1548 (by decide +kernel)
theorem ldX12_min : okD yX12_min 2 := ⟨by decide +kernel, by decide +kernel, by decide +kernel⟩
theorem ltX12_min : Cond.static yX12_min ∈ gd_tbl := in_I 1547 (by decide +kernel)
theorem lkX12_isWish : Cond.code yX12_isWish cX12_isWish 2 (some .boolean) ∈ gd_tbl := in_I 1502 (by decide +kernel)
theorem ldX12_isWish : okD yX12_isWish 1 := ⟨by decide +kernel, by decide +kernel, by decide +kernel⟩
theorem lnX12_isWish : Cond.instanceMethod yX12_isWish ∈ gd_tbl := in_I 1501 (by decide +kernel)
theorem leX12_isWish : Cond.selects RX12 yX12_isWish yX12_isWish ∈ gd_tbl := in_I 66 (by decide +kernel)
theorem lkX12_grants : Cond.code yX12_grants cX12_grants 3 (some .int) ∈ gd_tbl := in_I 1506 (by decide +kernel)
theorem ldX12_grants : okD yX12_grants 1 := ⟨by decide +kernel, by decide +kernel, by decide +kernel⟩
theorem lnX12_grants : Cond.instanceMethod yX12_grants ∈ gd_tbl := in_I 1505 (by decide +kernel)
theorem leX12_grants : Cond.selects RX12 yX12_grants yX12_grants ∈ gd_tbl := in_I 67 (by decide +kernel)
theorem lkX12_fitMany : Cond.code yX12_fitMany cX12_fitMany 3 (some .int) ∈ gd_tbl := in_I 1564 (by decide +kernel)
theorem ldX12_fitMany : okD yX12_fitMany 0 := ⟨by decide +kernel, by decide +kernel, by decide +kernel⟩
theorem lnX12_fitMany : Cond.instanceMethod yX12_fitMany ∈ gd_tbl := in_I 1563 (by decide +kernel)
theorem leX12_fitMany : Cond.selects RX12 yX12_fitMany yX12_fitMany ∈ gd_tbl := in_I 76 (by decide +kernel)
theorem lkX12_onOf : Cond.code yX12_onOf cX12_onOf 5 (some .int) ∈ gd_tbl := in_I 1576 (by decide +kernel)
theorem ldX12_onOf : okD yX12_onOf 1 := ⟨by decide +kernel, by decide +kernel, by decide +kernel⟩
theorem lnX12_onOf : Cond.instanceMethod yX12_onOf ∈ gd_tbl := in_I 1575 (by decide +kernel)
theorem leX12_onOf : Cond.selects RX12 yX12_onOf yX12_onOf ∈ gd_tbl := in_I 78 (by decide +kernel)
theorem lkX12_fitsWith : Cond.code yX12_fitsWith cX12_fitsWith 4 (some .int) ∈ gd_tbl := in_I 1572 (by decide +kernel)
theorem ldX12_fitsWith : okD yX12_fitsWith 1 := ⟨by decide +kernel, by decide +kernel, by decide +kernel⟩
theorem lnX12_fitsWith : Cond.instanceMethod yX12_fitsWith ∈ gd_tbl := in_I 1571 (by decide +kernel)
theorem leX12_fitsWith : Cond.selects RX12 yX12_fitsWith yX12_fitsWith ∈ gd_tbl := in_I 77 (by decide +kernel)
theorem lkX12_risingOf : Cond.code yX12_risingOf cX12_risingOf 5 (some .int) ∈ gd_tbl := in_I 1580 (by decide +kernel)
theorem ldX12_risingOf : okD yX12_risingOf 1 := ⟨by decide +kernel, by decide +kernel, by decide +kernel⟩
theorem lnX12_risingOf : Cond.instanceMethod yX12_risingOf ∈ gd_tbl := in_I 1579 (by decide +kernel)
theorem leX12_risingOf : Cond.selects RX12 yX12_risingOf yX12_risingOf ∈ gd_tbl := in_I 79 (by decide +kernel)
theorem lkX12_canBeBy : Cond.code yX12_canBeBy cX12_canBeBy 4 (some .boolean) ∈ gd_tbl := in_I 1588 (by decide +kernel)
theorem ldX12_canBeBy : okD yX12_canBeBy 2 := ⟨by decide +kernel, by decide +kernel, by decide +kernel⟩
theorem lnX12_canBeBy : Cond.instanceMethod yX12_canBeBy ∈ gd_tbl := in_I 1587 (by decide +kernel)
theorem leX12_canBeBy : Cond.selects RX12 yX12_canBeBy yX12_canBeBy ∈ gd_tbl := in_I 80 (by decide +kernel)
theorem lkX12_areWishes : Cond.code yX12_areWishes cX12_areWishes 4 (some .boolean) ∈ gd_tbl := in_I 1604 (by decide +kernel)
theorem ldX12_areWishes : okD yX12_areWishes 3 := ⟨by decide +kernel, by decide +kernel, by decide +kernel⟩
theorem lnX12_areWishes : Cond.instanceMethod yX12_areWishes ∈ gd_tbl := in_I 1603 (by decide +kernel)
theorem leX12_areWishes : Cond.selects RX12 yX12_areWishes yX12_areWishes ∈ gd_tbl := in_I 81 (by decide +kernel)
theorem lkX12_laysWho : Cond.code yX12_laysWho cX12_laysWho 4 (some .int) ∈ gd_tbl := in_I 1608 (by decide +kernel)
theorem ldX12_laysWho : okD yX12_laysWho 1 := ⟨by decide +kernel, by decide +kernel, by decide +kernel⟩
theorem lnX12_laysWho : Cond.instanceMethod yX12_laysWho ∈ gd_tbl := in_I 1607 (by decide +kernel)
theorem leX12_laysWho : Cond.selects RX12 yX12_laysWho yX12_laysWho ∈ gd_tbl := in_I 82 (by decide +kernel)
theorem lkX12_putsAside : Cond.code yX12_putsAside cX12_putsAside 1 none ∈ gd_tbl := in_I 1612 (by decide +kernel)
theorem ldX12_putsAside : okD yX12_putsAside 0 := ⟨by decide +kernel, by decide +kernel, by decide +kernel⟩
theorem lnX12_putsAside : Cond.instanceMethod yX12_putsAside ∈ gd_tbl := in_I 1611 (by decide +kernel)
theorem leX12_putsAside : Cond.selects RX12 yX12_putsAside yX12_putsAside ∈ gd_tbl := in_I 83 (by decide +kernel)
theorem lkX12_codesFor : Cond.code yX12_codesFor cX12_codesFor 4 (some .int) ∈ gd_tbl := in_I 1615 (by decide +kernel)
theorem ldX12_codesFor : okD yX12_codesFor 2 := ⟨by decide +kernel, by decide +kernel, by decide +kernel⟩
theorem ltX12_codesFor : Cond.static yX12_codesFor ∈ gd_tbl := in_I 1614 (by decide +kernel)
theorem lkX12_readsRow : Cond.code yX12_readsRow cX12_readsRow 7 (some .boolean) ∈ gd_tbl := in_I 1619 (by decide +kernel)
theorem ldX12_readsRow : okD yX12_readsRow 3 := ⟨by decide +kernel, by decide +kernel, by decide +kernel⟩
theorem lnX12_readsRow : Cond.instanceMethod yX12_readsRow ∈ gd_tbl := in_I 1618 (by decide +kernel)
theorem leX12_readsRow : Cond.selects RX12 yX12_readsRow yX12_readsRow ∈ gd_tbl := in_I 84 (by decide +kernel)
theorem lkX12_grantsRow : Cond.code yX12_grantsRow cX12_grantsRow 5 (some .int) ∈ gd_tbl := in_I 1623 (by decide +kernel)
theorem ldX12_grantsRow : okD yX12_grantsRow 1 := ⟨by decide +kernel, by decide +kernel, by decide +kernel⟩
theorem lnX12_grantsRow : Cond.instanceMethod yX12_grantsRow ∈ gd_tbl := in_I 1622 (by decide +kernel)
theorem leX12_grantsRow : Cond.selects RX12 yX12_grantsRow yX12_grantsRow ∈ gd_tbl := in_I 85 (by decide +kernel)
theorem lkX12_bringsBack : Cond.code yX12_bringsBack cX12_bringsBack 1 none ∈ gd_tbl := in_I 1627 (by decide +kernel)
theorem ldX12_bringsBack : okD yX12_bringsBack 0 := ⟨by decide +kernel, by decide +kernel, by decide +kernel⟩
theorem lnX12_bringsBack : Cond.instanceMethod yX12_bringsBack ∈ gd_tbl := in_I 1626 (by decide +kernel)
theorem leX12_bringsBack : Cond.selects RX12 yX12_bringsBack yX12_bringsBack ∈ gd_tbl := in_I 86 (by decide +kernel)
theorem lkX12_leadsRow : Cond.code yX12_leadsRow cX12_leadsRow 4 (some .boolean) ∈ gd_tbl := in_I 1635 (by decide +kernel)
theorem ldX12_leadsRow : okD yX12_leadsRow 2 := ⟨by decide +kernel, by decide +kernel, by decide +kernel⟩
theorem lnX12_leadsRow : Cond.instanceMethod yX12_leadsRow ∈ gd_tbl := in_I 1634 (by decide +kernel)
theorem leX12_leadsRow : Cond.selects RX12 yX12_leadsRow yX12_leadsRow ∈ gd_tbl := in_I 87 (by decide +kernel)
theorem lkX12_areLike : Cond.code yX12_areLike cX12_areLike 6 (some .boolean) ∈ gd_tbl := in_I 1651 (by decide +kernel)
theorem ldX12_areLike : okD yX12_areLike 3 := ⟨by decide +kernel, by decide +kernel, by decide +kernel⟩
theorem lnX12_areLike : Cond.instanceMethod yX12_areLike ∈ gd_tbl := in_I 1650 (by decide +kernel)
theorem leX12_areLike : Cond.selects RX12 yX12_areLike yX12_areLike ∈ gd_tbl := in_I 88 (by decide +kernel)
theorem lkX12_lessens : Cond.code yX12_lessens cX12_lessens 6 (some .boolean) ∈ gd_tbl := in_I 1663 (by decide +kernel)
theorem ldX12_lessens : okD yX12_lessens 2 := ⟨by decide +kernel, by decide +kernel, by decide +kernel⟩
theorem lnX12_lessens : Cond.instanceMethod yX12_lessens ∈ gd_tbl := in_I 1662 (by decide +kernel)
theorem leX12_lessens : Cond.selects RX12 yX12_lessens yX12_lessens ∈ gd_tbl := in_I 90 (by decide +kernel)
theorem lkX12_laysSteps : Cond.code yX12_laysSteps cX12_laysSteps 5 none ∈ gd_tbl := in_I 1659 (by decide +kernel)
theorem ldX12_laysSteps : okD yX12_laysSteps 1 := ⟨by decide +kernel, by decide +kernel, by decide +kernel⟩
theorem lnX12_laysSteps : Cond.instanceMethod yX12_laysSteps ∈ gd_tbl := in_I 1658 (by decide +kernel)
theorem leX12_laysSteps : Cond.selects RX12 yX12_laysSteps yX12_laysSteps ∈ gd_tbl := in_I 89 (by decide +kernel)
theorem lkX12_sureBy : Cond.code yX12_sureBy cX12_sureBy 4 (some .int) ∈ gd_tbl := in_I 1671 (by decide +kernel)
theorem ldX12_sureBy : okD yX12_sureBy 2 := ⟨by decide +kernel, by decide +kernel, by decide +kernel⟩
theorem lnX12_sureBy : Cond.instanceMethod yX12_sureBy ∈ gd_tbl := in_I 1670 (by decide +kernel)
theorem leX12_sureBy : Cond.selects RX12 yX12_sureBy yX12_sureBy ∈ gd_tbl := in_I 91 (by decide +kernel)
theorem lkX12_gcd : Cond.code yX12_gcd cX12_gcd 10 (some .long) ∈ gd_tbl := in_I 1685 (by decide +kernel)
theorem ldX12_gcd : okD yX12_gcd 2 := ⟨by decide +kernel, by decide +kernel, by decide +kernel⟩
theorem ltX12_gcd : Cond.static yX12_gcd ∈ gd_tbl := in_I 1684 (by decide +kernel)
theorem lkX12_weightOf : Cond.code yX12_weightOf cX12_weightOf 5 (some .long) ∈ gd_tbl := in_I 1681 (by decide +kernel)
theorem ldX12_weightOf : okD yX12_weightOf 1 := ⟨by decide +kernel, by decide +kernel, by decide +kernel⟩
theorem lnX12_weightOf : Cond.instanceMethod yX12_weightOf ∈ gd_tbl := in_I 1680 (by decide +kernel)
theorem leX12_weightOf : Cond.selects RX12 yX12_weightOf yX12_weightOf ∈ gd_tbl := in_I 92 (by decide +kernel)
theorem lkX12_isLeft : Cond.code yX12_isLeft cX12_isLeft 4 (some .boolean) ∈ gd_tbl := in_I 1697 (by decide +kernel)
theorem ldX12_isLeft : okD yX12_isLeft 3 := ⟨by decide +kernel, by decide +kernel, by decide +kernel⟩
theorem lnX12_isLeft : Cond.instanceMethod yX12_isLeft ∈ gd_tbl := in_I 1696 (by decide +kernel)
theorem leX12_isLeft : Cond.selects RX12 yX12_isLeft yX12_isLeft ∈ gd_tbl := in_I 94 (by decide +kernel)
theorem lkX12_leftBy : Cond.code yX12_leftBy cX12_leftBy 5 (some .int) ∈ gd_tbl := in_I 1693 (by decide +kernel)
theorem ldX12_leftBy : okD yX12_leftBy 2 := ⟨by decide +kernel, by decide +kernel, by decide +kernel⟩
theorem lnX12_leftBy : Cond.instanceMethod yX12_leftBy ∈ gd_tbl := in_I 1692 (by decide +kernel)
theorem leX12_leftBy : Cond.selects RX12 yX12_leftBy yX12_leftBy ∈ gd_tbl := in_I 93 (by decide +kernel)
theorem lkX12_max : Cond.code yX12_max cX12_max 2 (some .int) ∈ gd_tbl := in_I 1704 (by decide +kernel)
theorem ldX12_max : okD yX12_max 2 := ⟨by decide +kernel, by decide +kernel, by decide +kernel⟩
theorem ltX12_max : Cond.static yX12_max ∈ gd_tbl := in_I 1703 (by decide +kernel)
theorem lkX12_nextFact : Cond.code yX12_nextFact cX12_nextFact 9 (some .int) ∈ gd_tbl := in_I 1701 (by decide +kernel)
theorem ldX12_nextFact : okD yX12_nextFact 2 := ⟨by decide +kernel, by decide +kernel, by decide +kernel⟩
theorem lnX12_nextFact : Cond.instanceMethod yX12_nextFact ∈ gd_tbl := in_I 1700 (by decide +kernel)
theorem leX12_nextFact : Cond.selects RX12 yX12_nextFact yX12_nextFact ∈ gd_tbl := in_I 95 (by decide +kernel)
theorem lkX12_changes : Cond.code yX12_changes cX12_changes 4 none ∈ gd_tbl := in_I 1736 (by decide +kernel)
theorem ldX12_changes : okD yX12_changes 2 := ⟨by decide +kernel, by decide +kernel, by decide +kernel⟩
theorem lnX12_changes : Cond.instanceMethod yX12_changes ∈ gd_tbl := in_I 1735 (by decide +kernel)
theorem leX12_changes : Cond.selects RX12 yX12_changes yX12_changes ∈ gd_tbl := in_I 99 (by decide +kernel)
theorem lkX12_stateAt : Cond.code yX12_stateAt cX12_stateAt 2 (some .int) ∈ gd_tbl := in_I 1724 (by decide +kernel)
theorem ldX12_stateAt : okD yX12_stateAt 1 := ⟨by decide +kernel, by decide +kernel, by decide +kernel⟩
theorem lnX12_stateAt : Cond.instanceMethod yX12_stateAt ∈ gd_tbl := in_I 1723 (by decide +kernel)
theorem leX12_stateAt : Cond.selects RX12 yX12_stateAt yX12_stateAt ∈ gd_tbl := in_I 96 (by decide +kernel)
theorem lkX12_priceOfRow : Cond.code yX12_priceOfRow cX12_priceOfRow 5 (some .int) ∈ gd_tbl := in_I 1728 (by decide +kernel)
theorem ldX12_priceOfRow : okD yX12_priceOfRow 1 := ⟨by decide +kernel, by decide +kernel, by decide +kernel⟩
theorem lnX12_priceOfRow : Cond.instanceMethod yX12_priceOfRow ∈ gd_tbl := in_I 1727 (by decide +kernel)
theorem leX12_priceOfRow : Cond.selects RX12 yX12_priceOfRow yX12_priceOfRow ∈ gd_tbl := in_I 97 (by decide +kernel)
theorem lkX12_goesNext : Cond.code yX12_goesNext cX12_goesNext 6 (some .boolean) ∈ gd_tbl := in_I 1732 (by decide +kernel)
theorem ldX12_goesNext : okD yX12_goesNext 1 := ⟨by decide +kernel, by decide +kernel, by decide +kernel⟩
theorem lnX12_goesNext : Cond.instanceMethod yX12_goesNext ∈ gd_tbl := in_I 1731 (by decide +kernel)
theorem leX12_goesNext : Cond.selects RX12 yX12_goesNext yX12_goesNext ∈ gd_tbl := in_I 98 (by decide +kernel)
theorem lkX12_canAllBe : Cond.code yX12_canAllBe cX12_canAllBe 5 (some .boolean) ∈ gd_tbl := in_I 1752 (by decide +kernel)
theorem ldX12_canAllBe : okD yX12_canAllBe 1 := ⟨by decide +kernel, by decide +kernel, by decide +kernel⟩
theorem lnX12_canAllBe : Cond.instanceMethod yX12_canAllBe ∈ gd_tbl := in_I 1751 (by decide +kernel)
theorem leX12_canAllBe : Cond.selects RX12 yX12_canAllBe yX12_canAllBe ∈ gd_tbl := in_I 100 (by decide +kernel)
theorem lmRX12_107 : okS RX12 107 yX12_has cX12_has 2 (some .boolean) 2 := ⟨in_I 1116 (by decide +kernel), ltX12_has, liRX12, lkX12_has, ldX12_has, by decide⟩
theorem lfRX12_17_12 : lkF RX12 17 12 2 RX12 TX12 66 "PactYearsModel" := ⟨rfl, by decide, iX12, in_I 1121 (by decide +kernel), Or.inl rfl⟩
theorem lgRX12_17 : lkA RX12 17 2 [12] := fun ci h => by
  simp only [List.mem_cons, List.not_mem_nil, or_false] at h
  subst h; exact ⟨_, _, _, _, lfRX12_17_12⟩
theorem lfRX12_20_12 : lkF RX12 20 12 3 RX12 TX12 66 "PactYearsModel" := ⟨rfl, by decide, iX12, in_I 1122 (by decide +kernel), Or.inl rfl⟩
theorem lgRX12_20 : lkA RX12 20 3 [12] := fun ci h => by
  simp only [List.mem_cons, List.not_mem_nil, or_false] at h
  subst h; exact ⟨_, _, _, _, lfRX12_20_12⟩
theorem lfRX12_115_12 : lkF RX12 115 12 6 RX12 TX12 66 "PactYearsModel" := ⟨rfl, by decide, iX12, in_I 1125 (by decide +kernel), Or.inl rfl⟩
theorem lgRX12_115 : lkA RX12 115 6 [12] := fun ci h => by
  simp only [List.mem_cons, List.not_mem_nil, or_false] at h
  subst h; exact ⟨_, _, _, _, lfRX12_115_12⟩
theorem lmRX12_118 : okV RX12 118 RX12 yX12_allowsBy cX12_allowsBy 4 (some .boolean) 2 := ⟨in_I 1112 (by decide +kernel), lnX12_allowsBy, leX12_allowsBy, liRX12, lkX12_allowsBy, ⟨rfl, ldX12_allowsBy⟩, by decide⟩
theorem lmRX12_99 : okS RX12 99 yX12_in cX12_in 3 (some .boolean) 3 := ⟨in_I 1323 (by decide +kernel), ltX12_in, liRX12, lkX12_in, ldX12_in, by decide⟩
theorem lfRX12_103_12 : lkF RX12 103 12 5 RX12 TX12 66 "PactYearsModel" := ⟨rfl, by decide, iX12, in_I 1124 (by decide +kernel), Or.inl rfl⟩
theorem lgRX12_103 : lkA RX12 103 5 [12] := fun ci h => by
  simp only [List.mem_cons, List.not_mem_nil, or_false] at h
  subst h; exact ⟨_, _, _, _, lfRX12_103_12⟩
theorem lmRX12_111 : okS RX12 111 yX12_bits cX12_bits 3 (some .int) 1 := ⟨in_I 1524 (by decide +kernel), ltX12_bits, liRX12, lkX12_bits, ldX12_bits, by decide⟩
theorem lfRX12_13_12 : lkF RX12 13 12 1 RX12 TX12 66 "PactYearsModel" := ⟨rfl, by decide, iX12, in_I 1120 (by decide +kernel), Or.inl rfl⟩
theorem lgRX12_13 : lkA RX12 13 1 [12] := fun ci h => by
  simp only [List.mem_cons, List.not_mem_nil, or_false] at h
  subst h; exact ⟨_, _, _, _, lfRX12_13_12⟩
theorem lfRX12_7_12 : lkF RX12 7 12 0 RX12 TX12 66 "PactYearsModel" := ⟨rfl, by decide, iX12, in_I 1119 (by decide +kernel), Or.inl rfl⟩
theorem lgRX12_7 : lkA RX12 7 0 [12] := fun ci h => by
  simp only [List.mem_cons, List.not_mem_nil, or_false] at h
  subst h; exact ⟨_, _, _, _, lfRX12_7_12⟩
theorem lfRX12_121_12 : lkF RX12 121 12 7 RX12 TX12 66 "PactYearsModel" := ⟨rfl, by decide, iX12, in_I 1126 (by decide +kernel), Or.inl rfl⟩
theorem lpRX12_121 : lkP RX12 121 7 [12] .int := fun ci h => by
  simp only [List.mem_cons, List.not_mem_nil, or_false] at h
  subst h; exact ⟨_, _, _, _, tyX12, lfRX12_121_12, rfl, by decide +kernel, tyX12_ok, nmX12⟩
theorem lgRX12_121 : lkA RX12 121 7 [12] := fun ci h => by
  simp only [List.mem_cons, List.not_mem_nil, or_false] at h
  subst h; exact ⟨_, _, _, _, lfRX12_121_12⟩
theorem lfRX12_26_12 : lkF RX12 26 12 13 RX12 TX12 66 "PactYearsModel" := ⟨rfl, by decide, iX12, in_I 1132 (by decide +kernel), Or.inl rfl⟩
theorem lgRX12_26 : lkA RX12 26 13 [12] := fun ci h => by
  simp only [List.mem_cons, List.not_mem_nil, or_false] at h
  subst h; exact ⟨_, _, _, _, lfRX12_26_12⟩
theorem lfRX12_124_12 : lkF RX12 124 12 14 RX12 TX12 66 "PactYearsModel" := ⟨rfl, by decide, iX12, in_I 1133 (by decide +kernel), Or.inl rfl⟩
theorem lgRX12_124 : lkA RX12 124 14 [12] := fun ci h => by
  simp only [List.mem_cons, List.not_mem_nil, or_false] at h
  subst h; exact ⟨_, _, _, _, lfRX12_124_12⟩
theorem lpRX12_124 : lkP RX12 124 14 [12] .int := fun ci h => by
  simp only [List.mem_cons, List.not_mem_nil, or_false] at h
  subst h; exact ⟨_, _, _, _, tyX12, lfRX12_124_12, rfl, by decide +kernel, tyX12_ok, nmX12⟩
theorem lmRX12_127 : okV RX12 127 RX12 yX12_types cX12_types 3 none 1 := ⟨in_I 1334 (by decide +kernel), lnX12_types, leX12_types, liRX12, lkX12_types, ⟨rfl, ldX12_types⟩, by decide⟩
theorem lfRX12_131_12 : lkF RX12 131 12 15 RX12 TX12 66 "PactYearsModel" := ⟨rfl, by decide, iX12, in_I 1134 (by decide +kernel), Or.inl rfl⟩
theorem lgRX12_131 : lkA RX12 131 15 [12] := fun ci h => by
  simp only [List.mem_cons, List.not_mem_nil, or_false] at h
  subst h; exact ⟨_, _, _, _, lfRX12_131_12⟩
theorem lfRX12_134_12 : lkF RX12 134 12 16 RX12 TX12 66 "PactYearsModel" := ⟨rfl, by decide, iX12, in_I 1135 (by decide +kernel), Or.inl rfl⟩
theorem lgRX12_134 : lkA RX12 134 16 [12] := fun ci h => by
  simp only [List.mem_cons, List.not_mem_nil, or_false] at h
  subst h; exact ⟨_, _, _, _, lfRX12_134_12⟩
theorem lmRX12_137 : okV RX12 137 RX12 yX12_here cX12_here 1 (some .int) 0 := ⟨in_I 1346 (by decide +kernel), lnX12_here, leX12_here, liRX12, lkX12_here, ⟨rfl, ldX12_here⟩, by decide⟩
theorem lfRX12_141_12 : lkF RX12 141 12 17 RX12 TX12 66 "PactYearsModel" := ⟨rfl, by decide, iX12, in_I 1136 (by decide +kernel), Or.inl rfl⟩
theorem lpRX12_141 : lkP RX12 141 17 [12] .int := fun ci h => by
  simp only [List.mem_cons, List.not_mem_nil, or_false] at h
  subst h; exact ⟨_, _, _, _, tyX12, lfRX12_141_12, rfl, by decide +kernel, tyX12_ok, nmX12⟩
theorem lpRX12_131 : lkP RX12 131 15 [12] .int := fun ci h => by
  simp only [List.mem_cons, List.not_mem_nil, or_false] at h
  subst h; exact ⟨_, _, _, _, tyX12, lfRX12_131_12, rfl, by decide +kernel, tyX12_ok, nmX12⟩
theorem lmRX12_144 : okV RX12 144 RX12 yX12_wrongAt cX12_wrongAt 3 (some .boolean) 2 := ⟨in_I 1350 (by decide +kernel), lnX12_wrongAt, leX12_wrongAt, liRX12, lkX12_wrongAt, ⟨rfl, ldX12_wrongAt⟩, by decide⟩
theorem lfRX12_147_12 : lkF RX12 147 12 18 RX12 TX12 66 "PactYearsModel" := ⟨rfl, by decide, iX12, in_I 1137 (by decide +kernel), Or.inl rfl⟩
theorem lpRX12_147 : lkP RX12 147 18 [12] .int := fun ci h => by
  simp only [List.mem_cons, List.not_mem_nil, or_false] at h
  subst h; exact ⟨_, _, _, _, tyX12, lfRX12_147_12, rfl, by decide +kernel, tyX12_ok, nmX12⟩
theorem lmRX12_150 : okV RX12 150 RX12 yX12_isDigit cX12_isDigit 1 (some .boolean) 0 := ⟨in_I 1367 (by decide +kernel), lnX12_isDigit, leX12_isDigit, liRX12, lkX12_isDigit, ⟨rfl, ldX12_isDigit⟩, by decide⟩
theorem lgRX12_147 : lkA RX12 147 18 [12] := fun ci h => by
  simp only [List.mem_cons, List.not_mem_nil, or_false] at h
  subst h; exact ⟨_, _, _, _, lfRX12_147_12⟩
theorem lfRX12_30_12 : lkF RX12 30 12 24 RX12 TX12 66 "PactYearsModel" := ⟨rfl, by decide, iX12, in_I 1143 (by decide +kernel), Or.inl rfl⟩
theorem lgRX12_30 : lkA RX12 30 24 [12] := fun ci h => by
  simp only [List.mem_cons, List.not_mem_nil, or_false] at h
  subst h; exact ⟨_, _, _, _, lfRX12_30_12⟩
theorem lfRX12_154_12 : lkF RX12 154 12 20 RX12 TX12 66 "PactYearsModel" := ⟨rfl, by decide, iX12, in_I 1139 (by decide +kernel), Or.inl rfl⟩
theorem lgRX12_154 : lkA RX12 154 20 [12] := fun ci h => by
  simp only [List.mem_cons, List.not_mem_nil, or_false] at h
  subst h; exact ⟨_, _, _, _, lfRX12_154_12⟩
theorem lcRX12_157 : Cond.constant RX12 157 (1048576 : Int32) ∈ gd_tbl := in_I 1366 (by decide +kernel)
theorem lpRX12_154 : lkP RX12 154 20 [12] .int := fun ci h => by
  simp only [List.mem_cons, List.not_mem_nil, or_false] at h
  subst h; exact ⟨_, _, _, _, tyX12, lfRX12_154_12, rfl, by decide +kernel, tyX12_ok, nmX12⟩
theorem lfRX12_158_12 : lkF RX12 158 12 19 RX12 TX12 66 "PactYearsModel" := ⟨rfl, by decide, iX12, in_I 1138 (by decide +kernel), Or.inl rfl⟩
theorem lgRX12_158 : lkA RX12 158 19 [12] := fun ci h => by
  simp only [List.mem_cons, List.not_mem_nil, or_false] at h
  subst h; exact ⟨_, _, _, _, lfRX12_158_12⟩
theorem lpRX12_158 : lkP RX12 158 19 [12] .int := fun ci h => by
  simp only [List.mem_cons, List.not_mem_nil, or_false] at h
  subst h; exact ⟨_, _, _, _, tyX12, lfRX12_158_12, rfl, by decide +kernel, tyX12_ok, nmX12⟩
theorem lfRX12_33_12 : lkF RX12 33 12 25 RX12 TX12 66 "PactYearsModel" := ⟨rfl, by decide, iX12, in_I 1144 (by decide +kernel), Or.inl rfl⟩
theorem lgRX12_33 : lkA RX12 33 25 [12] := fun ci h => by
  simp only [List.mem_cons, List.not_mem_nil, or_false] at h
  subst h; exact ⟨_, _, _, _, lfRX12_33_12⟩
theorem lfRX12_161_12 : lkF RX12 161 12 21 RX12 TX12 66 "PactYearsModel" := ⟨rfl, by decide, iX12, in_I 1140 (by decide +kernel), Or.inl rfl⟩
theorem lgRX12_161 : lkA RX12 161 21 [12] := fun ci h => by
  simp only [List.mem_cons, List.not_mem_nil, or_false] at h
  subst h; exact ⟨_, _, _, _, lfRX12_161_12⟩
theorem lpRX12_161 : lkP RX12 161 21 [12] .int := fun ci h => by
  simp only [List.mem_cons, List.not_mem_nil, or_false] at h
  subst h; exact ⟨_, _, _, _, tyX12, lfRX12_161_12, rfl, by decide +kernel, tyX12_ok, nmX12⟩
theorem lmRX12_164 : okV RX12 164 RX12 yX12_waitTop cX12_waitTop 1 (some .int) 0 := ⟨in_I 1389 (by decide +kernel), lnX12_waitTop, leX12_waitTop, liRX12, lkX12_waitTop, ⟨rfl, ldX12_waitTop⟩, by decide⟩
theorem lmRX12_167 : okV RX12 167 RX12 yX12_notes cX12_notes 3 none 2 := ⟨in_I 1375 (by decide +kernel), lnX12_notes, leX12_notes, liRX12, lkX12_notes, ⟨rfl, ldX12_notes⟩, by decide⟩
theorem lmRX12_178 : okS RX12 178 yX12_factOf cX12_factOf 1 (some .int) 1 := ⟨in_I 1379 (by decide +kernel), ltX12_factOf, liRX12, lkX12_factOf, ldX12_factOf, by decide⟩
theorem lmRX12_175 : okV RX12 175 RX12 yX12_readsNumber cX12_readsNumber 2 (some .boolean) 0 := ⟨in_I 1371 (by decide +kernel), lnX12_readsNumber, leX12_readsNumber, liRX12, lkX12_readsNumber, ⟨rfl, ldX12_readsNumber⟩, by decide⟩
theorem lmRX12_171 : okV RX12 171 RX12 yX12_opens cX12_opens 2 (some .boolean) 1 := ⟨in_I 1362 (by decide +kernel), lnX12_opens, leX12_opens, liRX12, lkX12_opens, ⟨rfl, ldX12_opens⟩, by decide⟩
theorem lmRX12_181 : okV RX12 181 RX12 yX12_readsFactor cX12_readsFactor 2 (some .boolean) 0 := ⟨in_I 1358 (by decide +kernel), lnX12_readsFactor, leX12_readsFactor, liRX12, lkX12_readsFactor, ⟨rfl, ldX12_readsFactor⟩, by decide⟩
theorem lmRX12_184 : okS RX12 184 yX12_sumSign cX12_sumSign 1 (some .int) 1 := ⟨in_I 1382 (by decide +kernel), ltX12_sumSign, liRX12, lkX12_sumSign, ldX12_sumSign, by decide⟩
theorem lmRX12_191 : okV RX12 191 RX12 yX12_hasOpenSum cX12_hasOpenSum 3 (some .boolean) 1 := ⟨in_I 1393 (by decide +kernel), lnX12_hasOpenSum, leX12_hasOpenSum, liRX12, lkX12_hasOpenSum, ⟨rfl, ldX12_hasOpenSum⟩, by decide⟩
theorem lmRX12_187 : okV RX12 187 RX12 yX12_closesSums cX12_closesSums 2 none 1 := ⟨in_I 1385 (by decide +kernel), lnX12_closesSums, leX12_closesSums, liRX12, lkX12_closesSums, ⟨rfl, ldX12_closesSums⟩, by decide⟩
theorem lmRX12_194 : okV RX12 194 RX12 yX12_readsSum cX12_readsSum 3 (some .boolean) 0 := ⟨in_I 1354 (by decide +kernel), lnX12_readsSum, leX12_readsSum, liRX12, lkX12_readsSum, ⟨rfl, ldX12_readsSum⟩, by decide⟩
theorem lmRX12_197 : okV RX12 197 RX12 yX12_endsPiece cX12_endsPiece 1 none 0 := ⟨in_I 1405 (by decide +kernel), lnX12_endsPiece, leX12_endsPiece, liRX12, lkX12_endsPiece, ⟨rfl, ldX12_endsPiece⟩, by decide⟩
theorem lmRX12_200 : okV RX12 200 RX12 yX12_readsCompared cX12_readsCompared 2 (some .boolean) 0 := ⟨in_I 1401 (by decide +kernel), lnX12_readsCompared, leX12_readsCompared, liRX12, lkX12_readsCompared, ⟨rfl, ldX12_readsCompared⟩, by decide⟩
theorem lmRX12_203 : okV RX12 203 RX12 yX12_lands cX12_lands 3 none 1 := ⟨in_I 1409 (by decide +kernel), lnX12_lands, leX12_lands, liRX12, lkX12_lands, ⟨rfl, ldX12_lands⟩, by decide⟩
theorem lmRX12_206 : okV RX12 206 RX12 yX12_jumps cX12_jumps 2 none 1 := ⟨in_I 1413 (by decide +kernel), lnX12_jumps, leX12_jumps, liRX12, lkX12_jumps, ⟨rfl, ldX12_jumps⟩, by decide⟩
theorem lfRX12_209_12 : lkF RX12 209 12 22 RX12 TX12 66 "PactYearsModel" := ⟨rfl, by decide, iX12, in_I 1141 (by decide +kernel), Or.inl rfl⟩
theorem lgRX12_209 : lkA RX12 209 22 [12] := fun ci h => by
  simp only [List.mem_cons, List.not_mem_nil, or_false] at h
  subst h; exact ⟨_, _, _, _, lfRX12_209_12⟩
theorem lfRX12_36_12 : lkF RX12 36 12 26 RX12 TX12 66 "PactYearsModel" := ⟨rfl, by decide, iX12, in_I 1145 (by decide +kernel), Or.inl rfl⟩
theorem lgRX12_36 : lkA RX12 36 26 [12] := fun ci h => by
  simp only [List.mem_cons, List.not_mem_nil, or_false] at h
  subst h; exact ⟨_, _, _, _, lfRX12_36_12⟩
theorem lfRX12_39_12 : lkF RX12 39 12 27 RX12 TX12 66 "PactYearsModel" := ⟨rfl, by decide, iX12, in_I 1146 (by decide +kernel), Or.inl rfl⟩
theorem lgRX12_39 : lkA RX12 39 27 [12] := fun ci h => by
  simp only [List.mem_cons, List.not_mem_nil, or_false] at h
  subst h; exact ⟨_, _, _, _, lfRX12_39_12⟩
theorem lfRX12_42_12 : lkF RX12 42 12 28 RX12 TX12 66 "PactYearsModel" := ⟨rfl, by decide, iX12, in_I 1147 (by decide +kernel), Or.inl rfl⟩
theorem lgRX12_42 : lkA RX12 42 28 [12] := fun ci h => by
  simp only [List.mem_cons, List.not_mem_nil, or_false] at h
  subst h; exact ⟨_, _, _, _, lfRX12_42_12⟩
theorem lmRX12_212 : okV RX12 212 RX12 yX12_readsCondition cX12_readsCondition 1 (some .boolean) 0 := ⟨in_I 1397 (by decide +kernel), lnX12_readsCondition, leX12_readsCondition, liRX12, lkX12_readsCondition, ⟨rfl, ldX12_readsCondition⟩, by decide⟩
theorem lfRX12_45_12 : lkF RX12 45 12 29 RX12 TX12 66 "PactYearsModel" := ⟨rfl, by decide, iX12, in_I 1148 (by decide +kernel), Or.inl rfl⟩
theorem lgRX12_45 : lkA RX12 45 29 [12] := fun ci h => by
  simp only [List.mem_cons, List.not_mem_nil, or_false] at h
  subst h; exact ⟨_, _, _, _, lfRX12_45_12⟩
theorem lpRX12_209 : lkP RX12 209 22 [12] .int := fun ci h => by
  simp only [List.mem_cons, List.not_mem_nil, or_false] at h
  subst h; exact ⟨_, _, _, _, tyX12, lfRX12_209_12, rfl, by decide +kernel, tyX12_ok, nmX12⟩
theorem lpRX12_134 : lkP RX12 134 16 [12] .int := fun ci h => by
  simp only [List.mem_cons, List.not_mem_nil, or_false] at h
  subst h; exact ⟨_, _, _, _, tyX12, lfRX12_134_12, rfl, by decide +kernel, tyX12_ok, nmX12⟩
theorem lmRX12_215 : okV RX12 215 RX12 yX12_readsRule cX12_readsRule 2 (some .boolean) 0 := ⟨in_I 1342 (by decide +kernel), lnX12_readsRule, leX12_readsRule, liRX12, lkX12_readsRule, ⟨rfl, ldX12_readsRule⟩, by decide⟩
theorem lgRX12_141 : lkA RX12 141 17 [12] := fun ci h => by
  simp only [List.mem_cons, List.not_mem_nil, or_false] at h
  subst h; exact ⟨_, _, _, _, lfRX12_141_12⟩
theorem lfRX12_221_12 : lkF RX12 221 12 23 RX12 TX12 66 "PactYearsModel" := ⟨rfl, by decide, iX12, in_I 1142 (by decide +kernel), Or.inl rfl⟩
theorem lpRX12_221 : lkP RX12 221 23 [12] .int := fun ci h => by
  simp only [List.mem_cons, List.not_mem_nil, or_false] at h
  subst h; exact ⟨_, _, _, _, tyX12, lfRX12_221_12, rfl, by decide +kernel, tyX12_ok, nmX12⟩
theorem lfRX12_51_12 : lkF RX12 51 12 31 RX12 TX12 66 "PactYearsModel" := ⟨rfl, by decide, iX12, in_I 1150 (by decide +kernel), Or.inl rfl⟩
theorem lgRX12_51 : lkA RX12 51 31 [12] := fun ci h => by
  simp only [List.mem_cons, List.not_mem_nil, or_false] at h
  subst h; exact ⟨_, _, _, _, lfRX12_51_12⟩
theorem lfRX12_54_12 : lkF RX12 54 12 32 RX12 TX12 66 "PactYearsModel" := ⟨rfl, by decide, iX12, in_I 1151 (by decide +kernel), Or.inl rfl⟩
theorem lgRX12_54 : lkA RX12 54 32 [12] := fun ci h => by
  simp only [List.mem_cons, List.not_mem_nil, or_false] at h
  subst h; exact ⟨_, _, _, _, lfRX12_54_12⟩
theorem lfRX12_57_12 : lkF RX12 57 12 33 RX12 TX12 66 "PactYearsModel" := ⟨rfl, by decide, iX12, in_I 1152 (by decide +kernel), Or.inl rfl⟩
theorem lgRX12_57 : lkA RX12 57 33 [12] := fun ci h => by
  simp only [List.mem_cons, List.not_mem_nil, or_false] at h
  subst h; exact ⟨_, _, _, _, lfRX12_57_12⟩
theorem lfRX12_60_12 : lkF RX12 60 12 34 RX12 TX12 66 "PactYearsModel" := ⟨rfl, by decide, iX12, in_I 1153 (by decide +kernel), Or.inl rfl⟩
theorem lgRX12_60 : lkA RX12 60 34 [12] := fun ci h => by
  simp only [List.mem_cons, List.not_mem_nil, or_false] at h
  subst h; exact ⟨_, _, _, _, lfRX12_60_12⟩
theorem lfRX12_48_12 : lkF RX12 48 12 30 RX12 TX12 66 "PactYearsModel" := ⟨rfl, by decide, iX12, in_I 1149 (by decide +kernel), Or.inl rfl⟩
theorem lgRX12_48 : lkA RX12 48 30 [12] := fun ci h => by
  simp only [List.mem_cons, List.not_mem_nil, or_false] at h
  subst h; exact ⟨_, _, _, _, lfRX12_48_12⟩
theorem lmRX12_218 : okV RX12 218 RX12 yX12_takes cX12_takes 2 (some .boolean) 1 := ⟨in_I 1417 (by decide +kernel), lnX12_takes, leX12_takes, liRX12, lkX12_takes, ⟨rfl, ldX12_takes⟩, by decide⟩
theorem lfRX12_63_12 : lkF RX12 63 12 35 RX12 TX12 66 "PactYearsModel" := ⟨rfl, by decide, iX12, in_I 1154 (by decide +kernel), Or.inl rfl⟩
theorem lgRX12_63 : lkA RX12 63 35 [12] := fun ci h => by
  simp only [List.mem_cons, List.not_mem_nil, or_false] at h
  subst h; exact ⟨_, _, _, _, lfRX12_63_12⟩
theorem lfRX12_66_12 : lkF RX12 66 12 36 RX12 TX12 66 "PactYearsModel" := ⟨rfl, by decide, iX12, in_I 1155 (by decide +kernel), Or.inl rfl⟩
theorem lgRX12_66 : lkA RX12 66 36 [12] := fun ci h => by
  simp only [List.mem_cons, List.not_mem_nil, or_false] at h
  subst h; exact ⟨_, _, _, _, lfRX12_66_12⟩
theorem lmRX12_224 : okS RX12 224 yX12_reckon cX12_reckon 3 (some .int) 3 := ⟨in_I 1539 (by decide +kernel), ltX12_reckon, liRX12, lkX12_reckon, ldX12_reckon, by decide⟩
theorem lgRX12_221 : lkA RX12 221 23 [12] := fun ci h => by
  simp only [List.mem_cons, List.not_mem_nil, or_false] at h
  subst h; exact ⟨_, _, _, _, lfRX12_221_12⟩
theorem lmRX12_228 : okV RX12 228 RX12 yX12_comesTo cX12_comesTo 8 (some .int) 2 := ⟨in_I 1535 (by decide +kernel), lnX12_comesTo, leX12_comesTo, liRX12, lkX12_comesTo, ⟨rfl, ldX12_comesTo⟩, by decide⟩
theorem lmRX12_232 : okV RX12 232 RX12 yX12_pricesOf cX12_pricesOf 4 (some .int) 1 := ⟨in_I 1520 (by decide +kernel), lnX12_pricesOf, leX12_pricesOf, liRX12, lkX12_pricesOf, ⟨rfl, ldX12_pricesOf⟩, by decide⟩
theorem lfRX12_235_12 : lkF RX12 235 12 10 RX12 TX12 66 "PactYearsModel" := ⟨rfl, by decide, iX12, in_I 1129 (by decide +kernel), Or.inl rfl⟩
theorem lgRX12_235 : lkA RX12 235 10 [12] := fun ci h => by
  simp only [List.mem_cons, List.not_mem_nil, or_false] at h
  subst h; exact ⟨_, _, _, _, lfRX12_235_12⟩
theorem lfRX12_238_12 : lkF RX12 238 12 8 RX12 TX12 66 "PactYearsModel" := ⟨rfl, by decide, iX12, in_I 1127 (by decide +kernel), Or.inl rfl⟩
theorem lgRX12_238 : lkA RX12 238 8 [12] := fun ci h => by
  simp only [List.mem_cons, List.not_mem_nil, or_false] at h
  subst h; exact ⟨_, _, _, _, lfRX12_238_12⟩
theorem lfRX12_241_12 : lkF RX12 241 12 9 RX12 TX12 66 "PactYearsModel" := ⟨rfl, by decide, iX12, in_I 1128 (by decide +kernel), Or.inl rfl⟩
theorem lgRX12_241 : lkA RX12 241 9 [12] := fun ci h => by
  simp only [List.mem_cons, List.not_mem_nil, or_false] at h
  subst h; exact ⟨_, _, _, _, lfRX12_241_12⟩
theorem lmRX12_244 : okS RX12 244 yX12_isFact cX12_isFact 1 (some .boolean) 1 := ⟨in_I 1436 (by decide +kernel), ltX12_isFact, liRX12, lkX12_isFact, ldX12_isFact, by decide⟩
theorem lfRX12_69_12 : lkF RX12 69 12 37 RX12 TX12 66 "PactYearsModel" := ⟨rfl, by decide, iX12, in_I 1156 (by decide +kernel), Or.inl rfl⟩
theorem lgRX12_69 : lkA RX12 69 37 [12] := fun ci h => by
  simp only [List.mem_cons, List.not_mem_nil, or_false] at h
  subst h; exact ⟨_, _, _, _, lfRX12_69_12⟩
theorem lfRX12_247_12 : lkF RX12 247 12 40 RX12 TX12 66 "PactYearsModel" := ⟨rfl, by decide, iX12, in_I 1159 (by decide +kernel), Or.inl rfl⟩
theorem lgRX12_247 : lkA RX12 247 40 [12] := fun ci h => by
  simp only [List.mem_cons, List.not_mem_nil, or_false] at h
  subst h; exact ⟨_, _, _, _, lfRX12_247_12⟩
theorem lpRX12_247 : lkP RX12 247 40 [12] .int := fun ci h => by
  simp only [List.mem_cons, List.not_mem_nil, or_false] at h
  subst h; exact ⟨_, _, _, _, tyX12, lfRX12_247_12, rfl, by decide +kernel, tyX12_ok, nmX12⟩
theorem lfRX12_72_12 : lkF RX12 72 12 38 RX12 TX12 66 "PactYearsModel" := ⟨rfl, by decide, iX12, in_I 1157 (by decide +kernel), Or.inl rfl⟩
theorem lgRX12_72 : lkA RX12 72 38 [12] := fun ci h => by
  simp only [List.mem_cons, List.not_mem_nil, or_false] at h
  subst h; exact ⟨_, _, _, _, lfRX12_72_12⟩
theorem lfRX12_250_12 : lkF RX12 250 12 41 RX12 TX12 66 "PactYearsModel" := ⟨rfl, by decide, iX12, in_I 1160 (by decide +kernel), Or.inl rfl⟩
theorem lgRX12_250 : lkA RX12 250 41 [12] := fun ci h => by
  simp only [List.mem_cons, List.not_mem_nil, or_false] at h
  subst h; exact ⟨_, _, _, _, lfRX12_250_12⟩
theorem lfRX12_75_12 : lkF RX12 75 12 39 RX12 TX12 66 "PactYearsModel" := ⟨rfl, by decide, iX12, in_I 1158 (by decide +kernel), Or.inl rfl⟩
theorem lgRX12_75 : lkA RX12 75 39 [12] := fun ci h => by
  simp only [List.mem_cons, List.not_mem_nil, or_false] at h
  subst h; exact ⟨_, _, _, _, lfRX12_75_12⟩
theorem lpRX12_250 : lkP RX12 250 41 [12] .int := fun ci h => by
  simp only [List.mem_cons, List.not_mem_nil, or_false] at h
  subst h; exact ⟨_, _, _, _, tyX12, lfRX12_250_12, rfl, by decide +kernel, tyX12_ok, nmX12⟩
theorem lmRX12_253 : okV RX12 253 RX12 yX12_lays cX12_lays 2 none 1 := ⟨in_I 1439 (by decide +kernel), lnX12_lays, leX12_lays, liRX12, lkX12_lays, ⟨rfl, ldX12_lays⟩, by decide⟩
theorem lmRX12_256 : okV RX12 256 RX12 yX12_lastSign cX12_lastSign 1 (some .int) 0 := ⟨in_I 1447 (by decide +kernel), lnX12_lastSign, leX12_lastSign, liRX12, lkX12_lastSign, ⟨rfl, ldX12_lastSign⟩, by decide⟩
theorem lmRX12_259 : okV RX12 259 RX12 yX12_laysLast cX12_laysLast 1 none 0 := ⟨in_I 1451 (by decide +kernel), lnX12_laysLast, leX12_laysLast, liRX12, lkX12_laysLast, ⟨rfl, ldX12_laysLast⟩, by decide⟩
theorem lfRX12_265_12 : lkF RX12 265 12 43 RX12 TX12 66 "PactYearsModel" := ⟨rfl, by decide, iX12, in_I 1162 (by decide +kernel), Or.inl rfl⟩
theorem lpRX12_265 : lkP RX12 265 43 [12] .boolean := fun ci h => by
  simp only [List.mem_cons, List.not_mem_nil, or_false] at h
  subst h; exact ⟨_, _, _, _, tyX12, lfRX12_265_12, rfl, by decide +kernel, tyX12_ok, nmX12⟩
theorem lfRX12_262_12 : lkF RX12 262 12 42 RX12 TX12 66 "PactYearsModel" := ⟨rfl, by decide, iX12, in_I 1161 (by decide +kernel), Or.inl rfl⟩
theorem lgRX12_262 : lkA RX12 262 42 [12] := fun ci h => by
  simp only [List.mem_cons, List.not_mem_nil, or_false] at h
  subst h; exact ⟨_, _, _, _, lfRX12_262_12⟩
theorem lpRX12_262 : lkP RX12 262 42 [12] .int := fun ci h => by
  simp only [List.mem_cons, List.not_mem_nil, or_false] at h
  subst h; exact ⟨_, _, _, _, tyX12, lfRX12_262_12, rfl, by decide +kernel, tyX12_ok, nmX12⟩
theorem lmRX12_269 : okS RX12 269 yX12_begins cX12_begins 1 (some .boolean) 1 := ⟨in_I 1433 (by decide +kernel), ltX12_begins, liRX12, lkX12_begins, ldX12_begins, by decide⟩
theorem lmRX12_272 : okV RX12 272 RX12 yX12_endsTruth cX12_endsTruth 1 none 0 := ⟨in_I 1443 (by decide +kernel), lnX12_endsTruth, leX12_endsTruth, liRX12, lkX12_endsTruth, ⟨rfl, ldX12_endsTruth⟩, by decide⟩
theorem lmRX12_275 : okV RX12 275 RX12 yX12_opensOne cX12_opensOne 1 (some .boolean) 0 := ⟨in_I 1455 (by decide +kernel), lnX12_opensOne, leX12_opensOne, liRX12, lkX12_opensOne, ⟨rfl, ldX12_opensOne⟩, by decide⟩
theorem lmRX12_278 : okV RX12 278 RX12 yX12_waitsFor cX12_waitsFor 2 none 1 := ⟨in_I 1459 (by decide +kernel), lnX12_waitsFor, leX12_waitsFor, liRX12, lkX12_waitsFor, ⟨rfl, ldX12_waitsFor⟩, by decide⟩
theorem lmRX12_281 : okV RX12 281 RX12 yX12_laysTo cX12_laysTo 2 none 1 := ⟨in_I 1471 (by decide +kernel), lnX12_laysTo, leX12_laysTo, liRX12, lkX12_laysTo, ⟨rfl, ldX12_laysTo⟩, by decide⟩
theorem lmRX12_284 : okV RX12 284 RX12 yX12_closes cX12_closes 2 (some .boolean) 0 := ⟨in_I 1467 (by decide +kernel), lnX12_closes, leX12_closes, liRX12, lkX12_closes, ⟨rfl, ldX12_closes⟩, by decide⟩
theorem lmRX12_287 : okV RX12 287 RX12 yX12_goesOn cX12_goesOn 1 (some .boolean) 0 := ⟨in_I 1475 (by decide +kernel), lnX12_goesOn, leX12_goesOn, liRX12, lkX12_goesOn, ⟨rfl, ldX12_goesOn⟩, by decide⟩
theorem lgRX12_265 : lkA RX12 265 43 [12] := fun ci h => by
  simp only [List.mem_cons, List.not_mem_nil, or_false] at h
  subst h; exact ⟨_, _, _, _, lfRX12_265_12⟩
theorem lmRX12_293 : okV RX12 293 RX12 yX12_readsSign cX12_readsSign 3 (some .boolean) 0 := ⟨in_I 1463 (by decide +kernel), lnX12_readsSign, leX12_readsSign, liRX12, lkX12_readsSign, ⟨rfl, ldX12_readsSign⟩, by decide⟩
theorem lmRX12_290 : okV RX12 290 RX12 yX12_readsPiece cX12_readsPiece 2 (some .boolean) 0 := ⟨in_I 1429 (by decide +kernel), lnX12_readsPiece, leX12_readsPiece, liRX12, lkX12_readsPiece, ⟨rfl, ldX12_readsPiece⟩, by decide⟩
theorem lfRX12_78_12 : lkF RX12 78 12 44 RX12 TX12 66 "PactYearsModel" := ⟨rfl, by decide, iX12, in_I 1163 (by decide +kernel), Or.inl rfl⟩
theorem lgRX12_78 : lkA RX12 78 44 [12] := fun ci h => by
  simp only [List.mem_cons, List.not_mem_nil, or_false] at h
  subst h; exact ⟨_, _, _, _, lfRX12_78_12⟩
theorem lmRX12_296 : okV RX12 296 RX12 yX12_isTrue cX12_isTrue 8 (some .boolean) 1 := ⟨in_I 1483 (by decide +kernel), lnX12_isTrue, leX12_isTrue, liRX12, lkX12_isTrue, ⟨rfl, ldX12_isTrue⟩, by decide⟩
theorem lmRX12_299 : okV RX12 299 RX12 yX12_readsFormula cX12_readsFormula 3 (some .int) 1 := ⟨in_I 1425 (by decide +kernel), lnX12_readsFormula, leX12_readsFormula, liRX12, lkX12_readsFormula, ⟨rfl, ldX12_readsFormula⟩, by decide⟩
theorem lpRX12_103 : lkP RX12 103 5 [12] .int := fun ci h => by
  simp only [List.mem_cons, List.not_mem_nil, or_false] at h
  subst h; exact ⟨_, _, _, _, tyX12, lfRX12_103_12, rfl, by decide +kernel, tyX12_ok, nmX12⟩
theorem lfRX12_302_12 : lkF RX12 302 12 11 RX12 TX12 66 "PactYearsModel" := ⟨rfl, by decide, iX12, in_I 1130 (by decide +kernel), Or.inl rfl⟩
theorem lgRX12_302 : lkA RX12 302 11 [12] := fun ci h => by
  simp only [List.mem_cons, List.not_mem_nil, or_false] at h
  subst h; exact ⟨_, _, _, _, lfRX12_302_12⟩
theorem lpRX12_302 : lkP RX12 302 11 [12] .int := fun ci h => by
  simp only [List.mem_cons, List.not_mem_nil, or_false] at h
  subst h; exact ⟨_, _, _, _, tyX12, lfRX12_302_12, rfl, by decide +kernel, tyX12_ok, nmX12⟩
theorem lmRX12_305 : okV RX12 305 RX12 yX12_laysRow cX12_laysRow 5 (some .int) 2 := ⟨in_I 1479 (by decide +kernel), lnX12_laysRow, leX12_laysRow, liRX12, lkX12_laysRow, ⟨rfl, ldX12_laysRow⟩, by decide⟩
theorem lpRX12_115 : lkP RX12 115 6 [12] .int := fun ci h => by
  simp only [List.mem_cons, List.not_mem_nil, or_false] at h
  subst h; exact ⟨_, _, _, _, tyX12, lfRX12_115_12, rfl, by decide +kernel, tyX12_ok, nmX12⟩
theorem lmRX12_96 : okV RX12 96 RX12 yX12_laysFits cX12_laysFits 2 none 0 := ⟨in_I 1108 (by decide +kernel), lnX12_laysFits, leX12_laysFits, liRX12, lkX12_laysFits, ⟨rfl, ldX12_laysFits⟩, by decide⟩
theorem lcRX12_309 : Cond.constant RX12 309 (1000000 : Int32) ∈ gd_tbl := in_I 1515 (by decide +kernel)
theorem lmRX12_310 : okV RX12 310 RX12 yX12_holdsIn cX12_holdsIn 3 (some .boolean) 2 := ⟨in_I 1516 (by decide +kernel), lnX12_holdsIn, leX12_holdsIn, liRX12, lkX12_holdsIn, ⟨rfl, ldX12_holdsIn⟩, by decide⟩
theorem lfRX12_313_12 : lkF RX12 313 12 45 RX12 TX12 66 "PactYearsModel" := ⟨rfl, by decide, iX12, in_I 1164 (by decide +kernel), Or.inl rfl⟩
theorem lpRX12_313 : lkP RX12 313 45 [12] .int := fun ci h => by
  simp only [List.mem_cons, List.not_mem_nil, or_false] at h
  subst h; exact ⟨_, _, _, _, tyX12, lfRX12_313_12, rfl, by decide +kernel, tyX12_ok, nmX12⟩
theorem lfRX12_316_12 : lkF RX12 316 12 47 RX12 TX12 66 "PactYearsModel" := ⟨rfl, by decide, iX12, in_I 1166 (by decide +kernel), Or.inl rfl⟩
theorem lpRX12_316 : lkP RX12 316 47 [12] .int := fun ci h => by
  simp only [List.mem_cons, List.not_mem_nil, or_false] at h
  subst h; exact ⟨_, _, _, _, tyX12, lfRX12_316_12, rfl, by decide +kernel, tyX12_ok, nmX12⟩
theorem lfRX12_319_12 : lkF RX12 319 12 12 RX12 TX12 66 "PactYearsModel" := ⟨rfl, by decide, iX12, in_I 1131 (by decide +kernel), Or.inl rfl⟩
theorem lgRX12_319 : lkA RX12 319 12 [12] := fun ci h => by
  simp only [List.mem_cons, List.not_mem_nil, or_false] at h
  subst h; exact ⟨_, _, _, _, lfRX12_319_12⟩
theorem lmRX12_322 : okV RX12 322 RX12 yX12_leadsTo cX12_leadsTo 6 (some .int) 1 := ⟨in_I 1511 (by decide +kernel), lnX12_leadsTo, leX12_leadsTo, liRX12, lkX12_leadsTo, ⟨rfl, ldX12_leadsTo⟩, by decide⟩
theorem lmRX12_325 : okV RX12 325 RX12 yX12_feels cX12_feels 3 none 2 := ⟨in_I 1527 (by decide +kernel), lnX12_feels, leX12_feels, liRX12, lkX12_feels, ⟨rfl, ldX12_feels⟩, by decide⟩
theorem lmRX12_328 : okV RX12 328 RX12 yX12_balks cX12_balks 2 (some .boolean) 0 := ⟨in_I 1531 (by decide +kernel), lnX12_balks, leX12_balks, liRX12, lkX12_balks, ⟨rfl, ldX12_balks⟩, by decide⟩
theorem lmRX12_331 : okV RX12 331 RX12 yX12_byLaw cX12_byLaw 5 (some .int) 2 := ⟨in_I 1542 (by decide +kernel), lnX12_byLaw, leX12_byLaw, liRX12, lkX12_byLaw, ⟨rfl, ldX12_byLaw⟩, by decide⟩
theorem lfRX12_334_12 : lkF RX12 334 12 46 RX12 TX12 66 "PactYearsModel" := ⟨rfl, by decide, iX12, in_I 1165 (by decide +kernel), Or.inl rfl⟩
theorem lpRX12_334 : lkP RX12 334 46 [12] .int := fun ci h => by
  simp only [List.mem_cons, List.not_mem_nil, or_false] at h
  subst h; exact ⟨_, _, _, _, tyX12, lfRX12_334_12, rfl, by decide +kernel, tyX12_ok, nmX12⟩
theorem lgRX12_334 : lkA RX12 334 46 [12] := fun ci h => by
  simp only [List.mem_cons, List.not_mem_nil, or_false] at h
  subst h; exact ⟨_, _, _, _, lfRX12_334_12⟩
theorem lmRX12_337 : okV RX12 337 RX12 yX12_tells cX12_tells 3 (some .int) 1 := ⟨in_I 1507 (by decide +kernel), lnX12_tells, leX12_tells, liRX12, lkX12_tells, ⟨rfl, ldX12_tells⟩, by decide⟩
theorem lgRX12_313 : lkA RX12 313 45 [12] := fun ci h => by
  simp only [List.mem_cons, List.not_mem_nil, or_false] at h
  subst h; exact ⟨_, _, _, _, lfRX12_313_12⟩
theorem lmRX12_340 : okS RX12 340 yX12_min cX12_min 2 (some .int) 2 := ⟨in_I 1546 (by decide +kernel), ltX12_min, liRX12, lkX12_min, ldX12_min, by decide⟩
theorem lpRX12_238 : lkP RX12 238 8 [12] .int := fun ci h => by
  simp only [List.mem_cons, List.not_mem_nil, or_false] at h
  subst h; exact ⟨_, _, _, _, tyX12, lfRX12_238_12, rfl, by decide +kernel, tyX12_ok, nmX12⟩
theorem lgRX12_316 : lkA RX12 316 47 [12] := fun ci h => by
  simp only [List.mem_cons, List.not_mem_nil, or_false] at h
  subst h; exact ⟨_, _, _, _, lfRX12_316_12⟩
theorem lpRX12_241 : lkP RX12 241 9 [12] .int := fun ci h => by
  simp only [List.mem_cons, List.not_mem_nil, or_false] at h
  subst h; exact ⟨_, _, _, _, tyX12, lfRX12_241_12, rfl, by decide +kernel, tyX12_ok, nmX12⟩
theorem lpRX12_235 : lkP RX12 235 10 [12] .int := fun ci h => by
  simp only [List.mem_cons, List.not_mem_nil, or_false] at h
  subst h; exact ⟨_, _, _, _, tyX12, lfRX12_235_12, rfl, by decide +kernel, tyX12_ok, nmX12⟩
theorem lpRX12_319 : lkP RX12 319 12 [12] .int := fun ci h => by
  simp only [List.mem_cons, List.not_mem_nil, or_false] at h
  subst h; exact ⟨_, _, _, _, tyX12, lfRX12_319_12, rfl, by decide +kernel, tyX12_ok, nmX12⟩
theorem lmRX12_343 : okV RX12 343 RX12 yX12_isWish cX12_isWish 2 (some .boolean) 1 := ⟨in_I 1499 (by decide +kernel), lnX12_isWish, leX12_isWish, liRX12, lkX12_isWish, ⟨rfl, ldX12_isWish⟩, by decide⟩
theorem lmRX12_346 : okV RX12 346 RX12 yX12_grants cX12_grants 3 (some .int) 1 := ⟨in_I 1503 (by decide +kernel), lnX12_grants, leX12_grants, liRX12, lkX12_grants, ⟨rfl, ldX12_grants⟩, by decide⟩
theorem lmRX12_349 : okV RX12 349 RX12 yX12_fitMany cX12_fitMany 3 (some .int) 0 := ⟨in_I 1561 (by decide +kernel), lnX12_fitMany, leX12_fitMany, liRX12, lkX12_fitMany, ⟨rfl, ldX12_fitMany⟩, by decide⟩
theorem lmRX12_352 : okV RX12 352 RX12 yX12_onOf cX12_onOf 5 (some .int) 1 := ⟨in_I 1573 (by decide +kernel), lnX12_onOf, leX12_onOf, liRX12, lkX12_onOf, ⟨rfl, ldX12_onOf⟩, by decide⟩
theorem lmRX12_355 : okV RX12 355 RX12 yX12_fitsWith cX12_fitsWith 4 (some .int) 1 := ⟨in_I 1569 (by decide +kernel), lnX12_fitsWith, leX12_fitsWith, liRX12, lkX12_fitsWith, ⟨rfl, ldX12_fitsWith⟩, by decide⟩
theorem lmRX12_358 : okV RX12 358 RX12 yX12_risingOf cX12_risingOf 5 (some .int) 1 := ⟨in_I 1577 (by decide +kernel), lnX12_risingOf, leX12_risingOf, liRX12, lkX12_risingOf, ⟨rfl, ldX12_risingOf⟩, by decide⟩
theorem lmRX12_361 : okV RX12 361 RX12 yX12_canBeBy cX12_canBeBy 4 (some .boolean) 2 := ⟨in_I 1585 (by decide +kernel), lnX12_canBeBy, leX12_canBeBy, liRX12, lkX12_canBeBy, ⟨rfl, ldX12_canBeBy⟩, by decide⟩
theorem lfRX12_364_12 : lkF RX12 364 12 48 RX12 TX12 66 "PactYearsModel" := ⟨rfl, by decide, iX12, in_I 1167 (by decide +kernel), Or.inl rfl⟩
theorem lpRX12_364 : lkP RX12 364 48 [12] .int := fun ci h => by
  simp only [List.mem_cons, List.not_mem_nil, or_false] at h
  subst h; exact ⟨_, _, _, _, tyX12, lfRX12_364_12, rfl, by decide +kernel, tyX12_ok, nmX12⟩
theorem lfRX12_367_12 : lkF RX12 367 12 49 RX12 TX12 66 "PactYearsModel" := ⟨rfl, by decide, iX12, in_I 1168 (by decide +kernel), Or.inl rfl⟩
theorem lpRX12_367 : lkP RX12 367 49 [12] .int := fun ci h => by
  simp only [List.mem_cons, List.not_mem_nil, or_false] at h
  subst h; exact ⟨_, _, _, _, tyX12, lfRX12_367_12, rfl, by decide +kernel, tyX12_ok, nmX12⟩
theorem lfRX12_370_12 : lkF RX12 370 12 50 RX12 TX12 66 "PactYearsModel" := ⟨rfl, by decide, iX12, in_I 1169 (by decide +kernel), Or.inl rfl⟩
theorem lpRX12_370 : lkP RX12 370 50 [12] .int := fun ci h => by
  simp only [List.mem_cons, List.not_mem_nil, or_false] at h
  subst h; exact ⟨_, _, _, _, tyX12, lfRX12_370_12, rfl, by decide +kernel, tyX12_ok, nmX12⟩
theorem lfRX12_373_12 : lkF RX12 373 12 51 RX12 TX12 66 "PactYearsModel" := ⟨rfl, by decide, iX12, in_I 1170 (by decide +kernel), Or.inl rfl⟩
theorem lpRX12_373 : lkP RX12 373 51 [12] .int := fun ci h => by
  simp only [List.mem_cons, List.not_mem_nil, or_false] at h
  subst h; exact ⟨_, _, _, _, tyX12, lfRX12_373_12, rfl, by decide +kernel, tyX12_ok, nmX12⟩
theorem lfRX12_376_12 : lkF RX12 376 12 52 RX12 TX12 66 "PactYearsModel" := ⟨rfl, by decide, iX12, in_I 1171 (by decide +kernel), Or.inl rfl⟩
theorem lpRX12_376 : lkP RX12 376 52 [12] .int := fun ci h => by
  simp only [List.mem_cons, List.not_mem_nil, or_false] at h
  subst h; exact ⟨_, _, _, _, tyX12, lfRX12_376_12, rfl, by decide +kernel, tyX12_ok, nmX12⟩
theorem lfRX12_379_12 : lkF RX12 379 12 53 RX12 TX12 66 "PactYearsModel" := ⟨rfl, by decide, iX12, in_I 1172 (by decide +kernel), Or.inl rfl⟩
theorem lpRX12_379 : lkP RX12 379 53 [12] .int := fun ci h => by
  simp only [List.mem_cons, List.not_mem_nil, or_false] at h
  subst h; exact ⟨_, _, _, _, tyX12, lfRX12_379_12, rfl, by decide +kernel, tyX12_ok, nmX12⟩
theorem lgRX12_364 : lkA RX12 364 48 [12] := fun ci h => by
  simp only [List.mem_cons, List.not_mem_nil, or_false] at h
  subst h; exact ⟨_, _, _, _, lfRX12_364_12⟩
theorem lgRX12_367 : lkA RX12 367 49 [12] := fun ci h => by
  simp only [List.mem_cons, List.not_mem_nil, or_false] at h
  subst h; exact ⟨_, _, _, _, lfRX12_367_12⟩
theorem lgRX12_370 : lkA RX12 370 50 [12] := fun ci h => by
  simp only [List.mem_cons, List.not_mem_nil, or_false] at h
  subst h; exact ⟨_, _, _, _, lfRX12_370_12⟩
theorem lgRX12_373 : lkA RX12 373 51 [12] := fun ci h => by
  simp only [List.mem_cons, List.not_mem_nil, or_false] at h
  subst h; exact ⟨_, _, _, _, lfRX12_373_12⟩
theorem lgRX12_376 : lkA RX12 376 52 [12] := fun ci h => by
  simp only [List.mem_cons, List.not_mem_nil, or_false] at h
  subst h; exact ⟨_, _, _, _, lfRX12_376_12⟩
theorem lgRX12_379 : lkA RX12 379 53 [12] := fun ci h => by
  simp only [List.mem_cons, List.not_mem_nil, or_false] at h
  subst h; exact ⟨_, _, _, _, lfRX12_379_12⟩
theorem lfRX12_87_12 : lkF RX12 87 12 56 RX12 TX12 66 "PactYearsModel" := ⟨rfl, by decide, iX12, in_I 1175 (by decide +kernel), Or.inl rfl⟩
theorem lgRX12_87 : lkA RX12 87 56 [12] := fun ci h => by
  simp only [List.mem_cons, List.not_mem_nil, or_false] at h
  subst h; exact ⟨_, _, _, _, lfRX12_87_12⟩
theorem lfRX12_81_12 : lkF RX12 81 12 54 RX12 TX12 66 "PactYearsModel" := ⟨rfl, by decide, iX12, in_I 1173 (by decide +kernel), Or.inl rfl⟩
theorem lgRX12_81 : lkA RX12 81 54 [12] := fun ci h => by
  simp only [List.mem_cons, List.not_mem_nil, or_false] at h
  subst h; exact ⟨_, _, _, _, lfRX12_81_12⟩
theorem lmRX12_382 : okV RX12 382 RX12 yX12_areWishes cX12_areWishes 4 (some .boolean) 3 := ⟨in_I 1601 (by decide +kernel), lnX12_areWishes, leX12_areWishes, liRX12, lkX12_areWishes, ⟨rfl, ldX12_areWishes⟩, by decide⟩
theorem lmRX12_385 : okV RX12 385 RX12 yX12_laysWho cX12_laysWho 4 (some .int) 1 := ⟨in_I 1605 (by decide +kernel), lnX12_laysWho, leX12_laysWho, liRX12, lkX12_laysWho, ⟨rfl, ldX12_laysWho⟩, by decide⟩
theorem lmRX12_388 : okV RX12 388 RX12 yX12_putsAside cX12_putsAside 1 none 0 := ⟨in_I 1609 (by decide +kernel), lnX12_putsAside, leX12_putsAside, liRX12, lkX12_putsAside, ⟨rfl, ldX12_putsAside⟩, by decide⟩
theorem lfRX12_84_12 : lkF RX12 84 12 55 RX12 TX12 66 "PactYearsModel" := ⟨rfl, by decide, iX12, in_I 1174 (by decide +kernel), Or.inl rfl⟩
theorem lgRX12_84 : lkA RX12 84 55 [12] := fun ci h => by
  simp only [List.mem_cons, List.not_mem_nil, or_false] at h
  subst h; exact ⟨_, _, _, _, lfRX12_84_12⟩
theorem lmRX12_391 : okS RX12 391 yX12_codesFor cX12_codesFor 4 (some .int) 2 := ⟨in_I 1613 (by decide +kernel), ltX12_codesFor, liRX12, lkX12_codesFor, ldX12_codesFor, by decide⟩
theorem lmRX12_394 : okV RX12 394 RX12 yX12_readsRow cX12_readsRow 7 (some .boolean) 3 := ⟨in_I 1616 (by decide +kernel), lnX12_readsRow, leX12_readsRow, liRX12, lkX12_readsRow, ⟨rfl, ldX12_readsRow⟩, by decide⟩
theorem lmRX12_397 : okV RX12 397 RX12 yX12_grantsRow cX12_grantsRow 5 (some .int) 1 := ⟨in_I 1620 (by decide +kernel), lnX12_grantsRow, leX12_grantsRow, liRX12, lkX12_grantsRow, ⟨rfl, ldX12_grantsRow⟩, by decide⟩
theorem lmRX12_400 : okV RX12 400 RX12 yX12_bringsBack cX12_bringsBack 1 none 0 := ⟨in_I 1624 (by decide +kernel), lnX12_bringsBack, leX12_bringsBack, liRX12, lkX12_bringsBack, ⟨rfl, ldX12_bringsBack⟩, by decide⟩
theorem lmRX12_403 : okV RX12 403 RX12 yX12_leadsRow cX12_leadsRow 4 (some .boolean) 2 := ⟨in_I 1632 (by decide +kernel), lnX12_leadsRow, leX12_leadsRow, liRX12, lkX12_leadsRow, ⟨rfl, ldX12_leadsRow⟩, by decide⟩
theorem lmRX12_406 : okV RX12 406 RX12 yX12_areLike cX12_areLike 6 (some .boolean) 3 := ⟨in_I 1648 (by decide +kernel), lnX12_areLike, leX12_areLike, liRX12, lkX12_areLike, ⟨rfl, ldX12_areLike⟩, by decide⟩
theorem lfRX12_90_12 : lkF RX12 90 12 57 RX12 TX12 66 "PactYearsModel" := ⟨rfl, by decide, iX12, in_I 1176 (by decide +kernel), Or.inl rfl⟩
theorem lgRX12_90 : lkA RX12 90 57 [12] := fun ci h => by
  simp only [List.mem_cons, List.not_mem_nil, or_false] at h
  subst h; exact ⟨_, _, _, _, lfRX12_90_12⟩
theorem lmRX12_409 : okV RX12 409 RX12 yX12_lessens cX12_lessens 6 (some .boolean) 2 := ⟨in_I 1660 (by decide +kernel), lnX12_lessens, leX12_lessens, liRX12, lkX12_lessens, ⟨rfl, ldX12_lessens⟩, by decide⟩
theorem lmRX12_412 : okV RX12 412 RX12 yX12_laysSteps cX12_laysSteps 5 none 1 := ⟨in_I 1656 (by decide +kernel), lnX12_laysSteps, leX12_laysSteps, liRX12, lkX12_laysSteps, ⟨rfl, ldX12_laysSteps⟩, by decide⟩
theorem lfRX12_93_12 : lkF RX12 93 12 58 RX12 TX12 66 "PactYearsModel" := ⟨rfl, by decide, iX12, in_I 1177 (by decide +kernel), Or.inl rfl⟩
theorem lgRX12_93 : lkA RX12 93 58 [12] := fun ci h => by
  simp only [List.mem_cons, List.not_mem_nil, or_false] at h
  subst h; exact ⟨_, _, _, _, lfRX12_93_12⟩
theorem lmRX12_415 : okV RX12 415 RX12 yX12_sureBy cX12_sureBy 4 (some .int) 2 := ⟨in_I 1668 (by decide +kernel), lnX12_sureBy, leX12_sureBy, liRX12, lkX12_sureBy, ⟨rfl, ldX12_sureBy⟩, by decide⟩
theorem lcRX12_418 : Cond.constantLong RX12 418 (-1 : Int64) ∈ gd_tbl := in_I 1676 (by decide +kernel)
theorem lcRX12_426 : Cond.constantLong RX12 426 (10000000000 : Int64) ∈ gd_tbl := in_I 1682 (by decide +kernel)
theorem lmRX12_428 : okS RX12 428 yX12_gcd cX12_gcd 10 (some .long) 2 := ⟨in_I 1683 (by decide +kernel), ltX12_gcd, liRX12, lkX12_gcd, ldX12_gcd, by decide⟩
theorem lmRX12_422 : okV RX12 422 RX12 yX12_weightOf cX12_weightOf 5 (some .long) 1 := ⟨in_I 1678 (by decide +kernel), lnX12_weightOf, leX12_weightOf, liRX12, lkX12_weightOf, ⟨rfl, ldX12_weightOf⟩, by decide⟩
theorem lcRX12_420 : Cond.constantLong RX12 420 (-2 : Int64) ∈ gd_tbl := in_I 1677 (by decide +kernel)
theorem lmRX12_432 : okV RX12 432 RX12 yX12_isLeft cX12_isLeft 4 (some .boolean) 3 := ⟨in_I 1694 (by decide +kernel), lnX12_isLeft, leX12_isLeft, liRX12, lkX12_isLeft, ⟨rfl, ldX12_isLeft⟩, by decide⟩
theorem lmRX12_435 : okV RX12 435 RX12 yX12_leftBy cX12_leftBy 5 (some .int) 2 := ⟨in_I 1690 (by decide +kernel), lnX12_leftBy, leX12_leftBy, liRX12, lkX12_leftBy, ⟨rfl, ldX12_leftBy⟩, by decide⟩
theorem lmRX12_438 : okS RX12 438 yX12_max cX12_max 2 (some .int) 2 := ⟨in_I 1702 (by decide +kernel), ltX12_max, liRX12, lkX12_max, ldX12_max, by decide⟩
theorem lmRX12_441 : okV RX12 441 RX12 yX12_nextFact cX12_nextFact 9 (some .int) 2 := ⟨in_I 1698 (by decide +kernel), lnX12_nextFact, leX12_nextFact, liRX12, lkX12_nextFact, ⟨rfl, ldX12_nextFact⟩, by decide⟩
theorem lfRX12_23_12 : lkF RX12 23 12 4 RX12 TX12 66 "PactYearsModel" := ⟨rfl, by decide, iX12, in_I 1123 (by decide +kernel), Or.inl rfl⟩
theorem lgRX12_23 : lkA RX12 23 4 [12] := fun ci h => by
  simp only [List.mem_cons, List.not_mem_nil, or_false] at h
  subst h; exact ⟨_, _, _, _, lfRX12_23_12⟩
theorem lmRX12_444 : okV RX12 444 RX12 yX12_changes cX12_changes 4 none 2 := ⟨in_I 1733 (by decide +kernel), lnX12_changes, leX12_changes, liRX12, lkX12_changes, ⟨rfl, ldX12_changes⟩, by decide⟩
theorem lmRX12_447 : okV RX12 447 RX12 yX12_stateAt cX12_stateAt 2 (some .int) 1 := ⟨in_I 1721 (by decide +kernel), lnX12_stateAt, leX12_stateAt, liRX12, lkX12_stateAt, ⟨rfl, ldX12_stateAt⟩, by decide⟩
theorem lmRX12_450 : okV RX12 450 RX12 yX12_priceOfRow cX12_priceOfRow 5 (some .int) 1 := ⟨in_I 1725 (by decide +kernel), lnX12_priceOfRow, leX12_priceOfRow, liRX12, lkX12_priceOfRow, ⟨rfl, ldX12_priceOfRow⟩, by decide⟩
theorem lmRX12_453 : okV RX12 453 RX12 yX12_goesNext cX12_goesNext 6 (some .boolean) 1 := ⟨in_I 1729 (by decide +kernel), lnX12_goesNext, leX12_goesNext, liRX12, lkX12_goesNext, ⟨rfl, ldX12_goesNext⟩, by decide⟩
theorem lmRX12_456 : okV RX12 456 RX12 yX12_canAllBe cX12_canAllBe 5 (some .boolean) 1 := ⟨in_I 1749 (by decide +kernel), lnX12_canAllBe, leX12_canAllBe, liRX12, lkX12_canAllBe, ⟨rfl, ldX12_canAllBe⟩, by decide⟩
theorem lfRX12_459_12 : lkF RX12 459 12 65 RX12 TX12 66 "PactYearsModel" := ⟨rfl, by decide, iX12, in_I 1184 (by decide +kernel), Or.inl rfl⟩
theorem lpRX12_459 : lkP RX12 459 65 [12] .boolean := fun ci h => by
  simp only [List.mem_cons, List.not_mem_nil, or_false] at h
  subst h; exact ⟨_, _, _, _, tyX12, lfRX12_459_12, rfl, by decide +kernel, tyX12_ok, nmX12⟩
theorem lfRX12_462_12 : lkF RX12 462 12 59 RX12 TX12 66 "PactYearsModel" := ⟨rfl, by decide, iX12, in_I 1178 (by decide +kernel), Or.inl rfl⟩
theorem lpRX12_462 : lkP RX12 462 59 [12] .int := fun ci h => by
  simp only [List.mem_cons, List.not_mem_nil, or_false] at h
  subst h; exact ⟨_, _, _, _, tyX12, lfRX12_462_12, rfl, by decide +kernel, tyX12_ok, nmX12⟩
theorem lfRX12_465_12 : lkF RX12 465 12 60 RX12 TX12 66 "PactYearsModel" := ⟨rfl, by decide, iX12, in_I 1179 (by decide +kernel), Or.inl rfl⟩
theorem lpRX12_465 : lkP RX12 465 60 [12] .int := fun ci h => by
  simp only [List.mem_cons, List.not_mem_nil, or_false] at h
  subst h; exact ⟨_, _, _, _, tyX12, lfRX12_465_12, rfl, by decide +kernel, tyX12_ok, nmX12⟩
theorem lfRX12_468_12 : lkF RX12 468 12 61 RX12 TX12 66 "PactYearsModel" := ⟨rfl, by decide, iX12, in_I 1180 (by decide +kernel), Or.inl rfl⟩
theorem lpRX12_468 : lkP RX12 468 61 [12] .int := fun ci h => by
  simp only [List.mem_cons, List.not_mem_nil, or_false] at h
  subst h; exact ⟨_, _, _, _, tyX12, lfRX12_468_12, rfl, by decide +kernel, tyX12_ok, nmX12⟩
theorem lfRX12_471_12 : lkF RX12 471 12 62 RX12 TX12 66 "PactYearsModel" := ⟨rfl, by decide, iX12, in_I 1181 (by decide +kernel), Or.inl rfl⟩
theorem lpRX12_471 : lkP RX12 471 62 [12] .int := fun ci h => by
  simp only [List.mem_cons, List.not_mem_nil, or_false] at h
  subst h; exact ⟨_, _, _, _, tyX12, lfRX12_471_12, rfl, by decide +kernel, tyX12_ok, nmX12⟩
theorem lfRX12_474_12 : lkF RX12 474 12 63 RX12 TX12 66 "PactYearsModel" := ⟨rfl, by decide, iX12, in_I 1182 (by decide +kernel), Or.inl rfl⟩
theorem lpRX12_474 : lkP RX12 474 63 [12] .int := fun ci h => by
  simp only [List.mem_cons, List.not_mem_nil, or_false] at h
  subst h; exact ⟨_, _, _, _, tyX12, lfRX12_474_12, rfl, by decide +kernel, tyX12_ok, nmX12⟩
theorem lfRX12_477_12 : lkF RX12 477 12 64 RX12 TX12 66 "PactYearsModel" := ⟨rfl, by decide, iX12, in_I 1183 (by decide +kernel), Or.inl rfl⟩
theorem lpRX12_477 : lkP RX12 477 64 [12] .int := fun ci h => by
  simp only [List.mem_cons, List.not_mem_nil, or_false] at h
  subst h; exact ⟨_, _, _, _, tyX12, lfRX12_477_12, rfl, by decide +kernel, tyX12_ok, nmX12⟩
theorem lgRX12_459 : lkA RX12 459 65 [12] := fun ci h => by
  simp only [List.mem_cons, List.not_mem_nil, or_false] at h
  subst h; exact ⟨_, _, _, _, lfRX12_459_12⟩
theorem lgRX12_462 : lkA RX12 462 59 [12] := fun ci h => by
  simp only [List.mem_cons, List.not_mem_nil, or_false] at h
  subst h; exact ⟨_, _, _, _, lfRX12_462_12⟩
theorem lgRX12_465 : lkA RX12 465 60 [12] := fun ci h => by
  simp only [List.mem_cons, List.not_mem_nil, or_false] at h
  subst h; exact ⟨_, _, _, _, lfRX12_465_12⟩
theorem lgRX12_468 : lkA RX12 468 61 [12] := fun ci h => by
  simp only [List.mem_cons, List.not_mem_nil, or_false] at h
  subst h; exact ⟨_, _, _, _, lfRX12_468_12⟩
theorem lgRX12_471 : lkA RX12 471 62 [12] := fun ci h => by
  simp only [List.mem_cons, List.not_mem_nil, or_false] at h
  subst h; exact ⟨_, _, _, _, lfRX12_471_12⟩
theorem lgRX12_474 : lkA RX12 474 63 [12] := fun ci h => by
  simp only [List.mem_cons, List.not_mem_nil, or_false] at h
  subst h; exact ⟨_, _, _, _, lfRX12_474_12⟩
theorem lgRX12_477 : lkA RX12 477 64 [12] := fun ci h => by
  simp only [List.mem_cons, List.not_mem_nil, or_false] at h
  subst h; exact ⟨_, _, _, _, lfRX12_477_12⟩
