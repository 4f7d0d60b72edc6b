theorem dL_law_1395 : decode code 1395 = .ok (.aload_n 3, 1) := by decide +kernel
theorem dL_law_1396 : decode code 1396 = .ok (.invokestatic 180, 3) := by decide +kernel
theorem dL_law_1399 : decode code 1399 = .ok (.istore 5, 2) := by decide +kernel
theorem dL_law_1401 : decode code 1401 = .ok (.aload_n 2, 1) := by decide +kernel
theorem dL_law_1402 : decode code 1402 = .ok (.aload_n 0, 1) := by decide +kernel
theorem dL_law_1403 : decode code 1403 = .ok (.iload 4, 2) := by decide +kernel
theorem dL_law_1405 : decode code 1405 = .ok (.iconst 1, 1) := by decide +kernel
theorem dL_law_1406 : decode code 1406 = .ok (.iadd, 1) := by decide +kernel
theorem dL_law_1407 : decode code 1407 = .ok (.iaload, 1) := by decide +kernel
theorem dL_law_1408 : decode code 1408 = .ok (.invokevirtual 182, 3) := by decide +kernel
theorem dL_law_1411 : decode code 1411 = .ok (.lstore 6, 2) := by decide +kernel
theorem dL_law_1413 : decode code 1413 = .ok (.aload_n 2, 1) := by decide +kernel
theorem dL_law_1414 : decode code 1414 = .ok (.invokevirtual 67, 3) := by decide +kernel
theorem dL_law_1417 : decode code 1417 = .ok (.iload 5, 2) := by decide +kernel
theorem dL_law_1419 : decode code 1419 = .ok (.if_icmp .eq 5, 3) := by decide +kernel
theorem dL_law_1424 : decode code 1424 = .ok (.iload 5, 2) := by decide +kernel
theorem dL_law_1426 : decode code 1426 = .ok (.ifCond .ne 14, 3) := by decide +kernel
theorem dL_law_1429 : decode code 1429 = .ok (.aload_n 3, 1) := by decide +kernel
theorem dL_law_1430 : decode code 1430 = .ok (.iconst 0, 1) := by decide +kernel
theorem dL_law_1431 : decode code 1431 = .ok (.laload, 1) := by decide +kernel
theorem dL_law_1432 : decode code 1432 = .ok (.lload 6, 2) := by decide +kernel
theorem dL_law_1434 : decode code 1434 = .ok (.lcmp, 1) := by decide +kernel
theorem dL_law_1435 : decode code 1435 = .ok (.ifCond .eq 5, 3) := by decide +kernel
theorem dL_law_1440 : decode code 1440 = .ok (.goto 3, 3) := by decide +kernel
theorem dL_law_1443 : decode code 1443 = .ok (.iinc 4 5, 3) := by decide +kernel
theorem dL_law_1446 : decode code 1446 = .ok (.goto (-1423), 3) := by decide +kernel
theorem dL_law_1449 : decode code 1449 = .ok (.iconst 1, 1) := by decide +kernel
theorem dL_law_1450 : decode code 1450 = .ok (.ireturn, 1) := by decide +kernel
