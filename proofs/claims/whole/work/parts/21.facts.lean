/-! FACTS of the shape that the equations use (written by wip/whole/gen/eqs.py). -/
theorem zAa_184 : ∀ j, j < 40 → z_F 184 j = 187 + 5 * j ∧ z_K (187 + 5 * j) = 8 := by decide +kernel
theorem zA_184 {i : Int32} (h : z_in i 40) : z_F 184 i.toNatClampNeg = 187 + 5 * i.toNatClampNeg ∧ z_K (187 + 5 * i.toNatClampNeg) = 8 := zAa_184 _ (Nat.not_le.mp fun q => h (Or.inr q))
theorem zAa_40 : ∀ j, j < 20 → z_F 40 j = 42 + 7 * j ∧ z_K (42 + 7 * j) = 8 := by decide +kernel
theorem zA_40 {i : Int32} (h : z_in i 20) : z_F 40 i.toNatClampNeg = 42 + 7 * i.toNatClampNeg ∧ z_K (42 + 7 * i.toNatClampNeg) = 8 := zAa_40 _ (Nat.not_le.mp fun q => h (Or.inr q))
theorem zAa_41 : ∀ j, j < 20 → z_F 41 j = 47 + 7 * j ∧ z_K (47 + 7 * j) = 4 := by decide +kernel
theorem zA_41 {i : Int32} (h : z_in i 20) : z_F 41 i.toNatClampNeg = 47 + 7 * i.toNatClampNeg ∧ z_K (47 + 7 * i.toNatClampNeg) = 4 := zAa_41 _ (Nat.not_le.mp fun q => h (Or.inr q))
theorem zF_0_0 {S : z_S} (hW : z_W S) : gR S 0 0 = some 1 := (hW.2.2.2.1 0 0 (by decide +kernel)).trans (by decide +kernel)
theorem zF_0_10 {S : z_S} (hW : z_W S) : gR S 0 10 = some 182 := (hW.2.2.2.1 0 10 (by decide +kernel)).trans (by decide +kernel)
theorem zF_0_11 {S : z_S} (hW : z_W S) : gR S 0 11 = some 387 := (hW.2.2.2.1 0 11 (by decide +kernel)).trans (by decide +kernel)
theorem zF_0_12 {S : z_S} (hW : z_W S) : gR S 0 12 = some 393 := (hW.2.2.2.1 0 12 (by decide +kernel)).trans (by decide +kernel)
theorem zF_0_13 {S : z_S} (hW : z_W S) : gR S 0 13 = some 395 := (hW.2.2.2.1 0 13 (by decide +kernel)).trans (by decide +kernel)
theorem zF_0_4 {S : z_S} (hW : z_W S) : gR S 0 4 = some 18 := (hW.2.2.2.1 0 4 (by decide +kernel)).trans (by decide +kernel)
theorem zF_0_5 {S : z_S} (hW : z_W S) : gR S 0 5 = some 22 := (hW.2.2.2.1 0 5 (by decide +kernel)).trans (by decide +kernel)
theorem zF_0_6 {S : z_S} (hW : z_W S) : gR S 0 6 = some 27 := (hW.2.2.2.1 0 6 (by decide +kernel)).trans (by decide +kernel)
theorem zF_0_7 {S : z_S} (hW : z_W S) : gR S 0 7 = some 32 := (hW.2.2.2.1 0 7 (by decide +kernel)).trans (by decide +kernel)
theorem zF_0_8 {S : z_S} (hW : z_W S) : gR S 0 8 = some 37 := (hW.2.2.2.1 0 8 (by decide +kernel)).trans (by decide +kernel)
theorem zF_0_9 {S : z_S} (hW : z_W S) : gR S 0 9 = some 39 := (hW.2.2.2.1 0 9 (by decide +kernel)).trans (by decide +kernel)
theorem zF_18_2 {S : z_S} (hW : z_W S) : gR S 18 2 = some 19 := (hW.2.2.2.1 18 2 (by decide +kernel)).trans (by decide +kernel)
theorem zF_182_1 {S : z_S} (hW : z_W S) : gR S 182 1 = some 183 := (hW.2.2.2.1 182 1 (by decide +kernel)).trans (by decide +kernel)
theorem zF_182_2 {S : z_S} (hW : z_W S) : gR S 182 2 = some 184 := (hW.2.2.2.1 182 2 (by decide +kernel)).trans (by decide +kernel)
theorem zF_182_3 {S : z_S} (hW : z_W S) : gR S 182 3 = some 185 := (hW.2.2.2.1 182 3 (by decide +kernel)).trans (by decide +kernel)
theorem zF_182_5 {S : z_S} (hW : z_W S) : gR S 182 5 = some 186 := (hW.2.2.2.1 182 5 (by decide +kernel)).trans (by decide +kernel)
theorem zF_19_0 {S : z_S} (hW : z_W S) : gR S 19 0 = some 20 := (hW.2.2.2.1 19 0 (by decide +kernel)).trans (by decide +kernel)
theorem zF_22_1 {S : z_S} (hW : z_W S) : gR S 22 1 = some 23 := (hW.2.2.2.1 22 1 (by decide +kernel)).trans (by decide +kernel)
theorem zF_22_2 {S : z_S} (hW : z_W S) : gR S 22 2 = some 25 := (hW.2.2.2.1 22 2 (by decide +kernel)).trans (by decide +kernel)
theorem zF_22_3 {S : z_S} (hW : z_W S) : gR S 22 3 = some 26 := (hW.2.2.2.1 22 3 (by decide +kernel)).trans (by decide +kernel)
theorem zF_23_0 {S : z_S} (hW : z_W S) : gR S 23 0 = some 24 := (hW.2.2.2.1 23 0 (by decide +kernel)).trans (by decide +kernel)
theorem zF_27_5 {S : z_S} (hW : z_W S) : gR S 27 5 = some 28 := (hW.2.2.2.1 27 5 (by decide +kernel)).trans (by decide +kernel)
theorem zF_27_6 {S : z_S} (hW : z_W S) : gR S 27 6 = some 29 := (hW.2.2.2.1 27 6 (by decide +kernel)).trans (by decide +kernel)
theorem zF_27_7 {S : z_S} (hW : z_W S) : gR S 27 7 = some 30 := (hW.2.2.2.1 27 7 (by decide +kernel)).trans (by decide +kernel)
theorem zF_27_8 {S : z_S} (hW : z_W S) : gR S 27 8 = some 31 := (hW.2.2.2.1 27 8 (by decide +kernel)).trans (by decide +kernel)
theorem zF_32_5 {S : z_S} (hW : z_W S) : gR S 32 5 = some 33 := (hW.2.2.2.1 32 5 (by decide +kernel)).trans (by decide +kernel)
theorem zF_387_0 {S : z_S} (hW : z_W S) : gR S 387 0 = some 388 := (hW.2.2.2.1 387 0 (by decide +kernel)).trans (by decide +kernel)
theorem zF_387_1 {S : z_S} (hW : z_W S) : gR S 387 1 = some 389 := (hW.2.2.2.1 387 1 (by decide +kernel)).trans (by decide +kernel)
theorem zF_387_2 {S : z_S} (hW : z_W S) : gR S 387 2 = some 390 := (hW.2.2.2.1 387 2 (by decide +kernel)).trans (by decide +kernel)
theorem zF_387_3 {S : z_S} (hW : z_W S) : gR S 387 3 = some 391 := (hW.2.2.2.1 387 3 (by decide +kernel)).trans (by decide +kernel)
theorem zF_387_4 {S : z_S} (hW : z_W S) : gR S 387 4 = some 392 := (hW.2.2.2.1 387 4 (by decide +kernel)).trans (by decide +kernel)
theorem zF_39_2 {S : z_S} (hW : z_W S) : gR S 39 2 = some 40 := (hW.2.2.2.1 39 2 (by decide +kernel)).trans (by decide +kernel)
theorem zF_39_3 {S : z_S} (hW : z_W S) : gR S 39 3 = some 41 := (hW.2.2.2.1 39 3 (by decide +kernel)).trans (by decide +kernel)
theorem zF_393_1 {S : z_S} (hW : z_W S) : gR S 393 1 = some 394 := (hW.2.2.2.1 393 1 (by decide +kernel)).trans (by decide +kernel)
theorem zF_396_0 {S : z_S} (hW : z_W S) : gR S 396 0 = some 397 := (hW.2.2.2.1 396 0 (by decide +kernel)).trans (by decide +kernel)
theorem zF_396_14 {S : z_S} (hW : z_W S) : gR S 396 14 = some 398 := (hW.2.2.2.1 396 14 (by decide +kernel)).trans (by decide +kernel)
theorem zF_396_15 {S : z_S} (hW : z_W S) : gR S 396 15 = some 399 := (hW.2.2.2.1 396 15 (by decide +kernel)).trans (by decide +kernel)
theorem zF_396_16 {S : z_S} (hW : z_W S) : gR S 396 16 = some 400 := (hW.2.2.2.1 396 16 (by decide +kernel)).trans (by decide +kernel)
theorem zF_396_17 {S : z_S} (hW : z_W S) : gR S 396 17 = some 401 := (hW.2.2.2.1 396 17 (by decide +kernel)).trans (by decide +kernel)
theorem zF_396_18 {S : z_S} (hW : z_W S) : gR S 396 18 = some 402 := (hW.2.2.2.1 396 18 (by decide +kernel)).trans (by decide +kernel)
theorem zF_396_19 {S : z_S} (hW : z_W S) : gR S 396 19 = some 403 := (hW.2.2.2.1 396 19 (by decide +kernel)).trans (by decide +kernel)
theorem zF_396_20 {S : z_S} (hW : z_W S) : gR S 396 20 = some 404 := (hW.2.2.2.1 396 20 (by decide +kernel)).trans (by decide +kernel)
theorem zF_396_21 {S : z_S} (hW : z_W S) : gR S 396 21 = some 405 := (hW.2.2.2.1 396 21 (by decide +kernel)).trans (by decide +kernel)
theorem zF_396_22 {S : z_S} (hW : z_W S) : gR S 396 22 = some 406 := (hW.2.2.2.1 396 22 (by decide +kernel)).trans (by decide +kernel)
theorem zF_396_23 {S : z_S} (hW : z_W S) : gR S 396 23 = some 407 := (hW.2.2.2.1 396 23 (by decide +kernel)).trans (by decide +kernel)
theorem zF_396_24 {S : z_S} (hW : z_W S) : gR S 396 24 = some 408 := (hW.2.2.2.1 396 24 (by decide +kernel)).trans (by decide +kernel)
theorem zF_396_25 {S : z_S} (hW : z_W S) : gR S 396 25 = some 409 := (hW.2.2.2.1 396 25 (by decide +kernel)).trans (by decide +kernel)
theorem zF_396_26 {S : z_S} (hW : z_W S) : gR S 396 26 = some 410 := (hW.2.2.2.1 396 26 (by decide +kernel)).trans (by decide +kernel)
theorem zF_396_27 {S : z_S} (hW : z_W S) : gR S 396 27 = some 411 := (hW.2.2.2.1 396 27 (by decide +kernel)).trans (by decide +kernel)
theorem zF_396_28 {S : z_S} (hW : z_W S) : gR S 396 28 = some 412 := (hW.2.2.2.1 396 28 (by decide +kernel)).trans (by decide +kernel)
theorem zF_396_32 {S : z_S} (hW : z_W S) : gR S 396 32 = some 413 := (hW.2.2.2.1 396 32 (by decide +kernel)).trans (by decide +kernel)
theorem zF_396_33 {S : z_S} (hW : z_W S) : gR S 396 33 = some 414 := (hW.2.2.2.1 396 33 (by decide +kernel)).trans (by decide +kernel)
theorem zF_396_34 {S : z_S} (hW : z_W S) : gR S 396 34 = some 415 := (hW.2.2.2.1 396 34 (by decide +kernel)).trans (by decide +kernel)
theorem zF_396_35 {S : z_S} (hW : z_W S) : gR S 396 35 = some 416 := (hW.2.2.2.1 396 35 (by decide +kernel)).trans (by decide +kernel)
theorem zF_396_36 {S : z_S} (hW : z_W S) : gR S 396 36 = some 417 := (hW.2.2.2.1 396 36 (by decide +kernel)).trans (by decide +kernel)
theorem zF_396_39 {S : z_S} (hW : z_W S) : gR S 396 39 = some 418 := (hW.2.2.2.1 396 39 (by decide +kernel)).trans (by decide +kernel)
theorem zF_396_43 {S : z_S} (hW : z_W S) : gR S 396 43 = some 419 := (hW.2.2.2.1 396 43 (by decide +kernel)).trans (by decide +kernel)
theorem zF_396_44 {S : z_S} (hW : z_W S) : gR S 396 44 = some 420 := (hW.2.2.2.1 396 44 (by decide +kernel)).trans (by decide +kernel)
theorem zF_396_45 {S : z_S} (hW : z_W S) : gR S 396 45 = some 421 := (hW.2.2.2.1 396 45 (by decide +kernel)).trans (by decide +kernel)
theorem zF_396_46 {S : z_S} (hW : z_W S) : gR S 396 46 = some 422 := (hW.2.2.2.1 396 46 (by decide +kernel)).trans (by decide +kernel)
theorem zF_396_47 {S : z_S} (hW : z_W S) : gR S 396 47 = some 423 := (hW.2.2.2.1 396 47 (by decide +kernel)).trans (by decide +kernel)
theorem zF_396_48 {S : z_S} (hW : z_W S) : gR S 396 48 = some 424 := (hW.2.2.2.1 396 48 (by decide +kernel)).trans (by decide +kernel)
theorem zF_396_49 {S : z_S} (hW : z_W S) : gR S 396 49 = some 425 := (hW.2.2.2.1 396 49 (by decide +kernel)).trans (by decide +kernel)
theorem zF_396_50 {S : z_S} (hW : z_W S) : gR S 396 50 = some 426 := (hW.2.2.2.1 396 50 (by decide +kernel)).trans (by decide +kernel)
theorem zF_396_51 {S : z_S} (hW : z_W S) : gR S 396 51 = some 427 := (hW.2.2.2.1 396 51 (by decide +kernel)).trans (by decide +kernel)
theorem zF_396_52 {S : z_S} (hW : z_W S) : gR S 396 52 = some 428 := (hW.2.2.2.1 396 52 (by decide +kernel)).trans (by decide +kernel)
theorem zF_396_57 {S : z_S} (hW : z_W S) : gR S 396 57 = some 429 := (hW.2.2.2.1 396 57 (by decide +kernel)).trans (by decide +kernel)
theorem zF_396_58 {S : z_S} (hW : z_W S) : gR S 396 58 = some 430 := (hW.2.2.2.1 396 58 (by decide +kernel)).trans (by decide +kernel)
theorem zF_396_59 {S : z_S} (hW : z_W S) : gR S 396 59 = some 431 := (hW.2.2.2.1 396 59 (by decide +kernel)).trans (by decide +kernel)
theorem zF_396_60 {S : z_S} (hW : z_W S) : gR S 396 60 = some 432 := (hW.2.2.2.1 396 60 (by decide +kernel)).trans (by decide +kernel)
theorem zF_396_61 {S : z_S} (hW : z_W S) : gR S 396 61 = some 433 := (hW.2.2.2.1 396 61 (by decide +kernel)).trans (by decide +kernel)
theorem zF_396_62 {S : z_S} (hW : z_W S) : gR S 396 62 = some 434 := (hW.2.2.2.1 396 62 (by decide +kernel)).trans (by decide +kernel)
theorem zF_396_64 {S : z_S} (hW : z_W S) : gR S 396 64 = some 435 := (hW.2.2.2.1 396 64 (by decide +kernel)).trans (by decide +kernel)
theorem zF_396_65 {S : z_S} (hW : z_W S) : gR S 396 65 = some 436 := (hW.2.2.2.1 396 65 (by decide +kernel)).trans (by decide +kernel)
theorem zF_396_66 {S : z_S} (hW : z_W S) : gR S 396 66 = some 437 := (hW.2.2.2.1 396 66 (by decide +kernel)).trans (by decide +kernel)
theorem zF_396_67 {S : z_S} (hW : z_W S) : gR S 396 67 = some 438 := (hW.2.2.2.1 396 67 (by decide +kernel)).trans (by decide +kernel)
theorem zF_396_68 {S : z_S} (hW : z_W S) : gR S 396 68 = some 439 := (hW.2.2.2.1 396 68 (by decide +kernel)).trans (by decide +kernel)
theorem zF_396_69 {S : z_S} (hW : z_W S) : gR S 396 69 = some 440 := (hW.2.2.2.1 396 69 (by decide +kernel)).trans (by decide +kernel)
theorem zF_396_70 {S : z_S} (hW : z_W S) : gR S 396 70 = some 441 := (hW.2.2.2.1 396 70 (by decide +kernel)).trans (by decide +kernel)
theorem zK_0 : z_K 0 = 11 := by decide +kernel
theorem zK_1 : z_K 1 = 20 := by decide +kernel
theorem zK_18 : z_K 18 = 1 := by decide +kernel
theorem zK_182 : z_K 182 = 9 := by decide +kernel
theorem zK_183 : z_K 183 = 20 := by decide +kernel
theorem zK_184 : z_K 184 = 23 := by decide +kernel
theorem zK_185 : z_K 185 = 22 := by decide +kernel
theorem zK_186 : z_K 186 = 20 := by decide +kernel
theorem zK_19 : z_K 19 = 10 := by decide +kernel
theorem zK_20 : z_K 20 = 20 := by decide +kernel
theorem zK_22 : z_K 22 = 2 := by decide +kernel
theorem zK_23 : z_K 23 = 7 := by decide +kernel
theorem zK_24 : z_K 24 = 20 := by decide +kernel
theorem zK_25 : z_K 25 = 20 := by decide +kernel
theorem zK_26 : z_K 26 = 20 := by decide +kernel
theorem zK_27 : z_K 27 = 8 := by decide +kernel
theorem zK_28 : z_K 28 = 20 := by decide +kernel
theorem zK_29 : z_K 29 = 20 := by decide +kernel
theorem zK_30 : z_K 30 = 20 := by decide +kernel
theorem zK_31 : z_K 31 = 20 := by decide +kernel
theorem zK_32 : z_K 32 = 8 := by decide +kernel
theorem zK_33 : z_K 33 = 20 := by decide +kernel
theorem zK_37 : z_K 37 = 4 := by decide +kernel
theorem zK_387 : z_K 387 = 0 := by decide +kernel
theorem zK_388 : z_K 388 = 20 := by decide +kernel
theorem zK_389 : z_K 389 = 20 := by decide +kernel
theorem zK_39 : z_K 39 = 5 := by decide +kernel
theorem zK_390 : z_K 390 = 20 := by decide +kernel
theorem zK_391 : z_K 391 = 20 := by decide +kernel
theorem zK_392 : z_K 392 = 20 := by decide +kernel
theorem zK_393 : z_K 393 = 3 := by decide +kernel
theorem zK_394 : z_K 394 = 20 := by decide +kernel
theorem zK_395 : z_K 395 = 20 := by decide +kernel
theorem zK_396 : z_K 396 = 12 := by decide +kernel
theorem zK_397 : z_K 397 = 20 := by decide +kernel
theorem zK_398 : z_K 398 = 20 := by decide +kernel
theorem zK_399 : z_K 399 = 20 := by decide +kernel
theorem zK_40 : z_K 40 = 23 := by decide +kernel
theorem zK_400 : z_K 400 = 20 := by decide +kernel
theorem zK_401 : z_K 401 = 20 := by decide +kernel
theorem zK_402 : z_K 402 = 20 := by decide +kernel
theorem zK_403 : z_K 403 = 20 := by decide +kernel
theorem zK_404 : z_K 404 = 20 := by decide +kernel
theorem zK_405 : z_K 405 = 20 := by decide +kernel
theorem zK_406 : z_K 406 = 20 := by decide +kernel
theorem zK_407 : z_K 407 = 20 := by decide +kernel
theorem zK_408 : z_K 408 = 20 := by decide +kernel
theorem zK_409 : z_K 409 = 20 := by decide +kernel
theorem zK_41 : z_K 41 = 24 := by decide +kernel
theorem zK_410 : z_K 410 = 20 := by decide +kernel
theorem zK_411 : z_K 411 = 20 := by decide +kernel
theorem zK_412 : z_K 412 = 21 := by decide +kernel
theorem zK_413 : z_K 413 = 20 := by decide +kernel
theorem zK_414 : z_K 414 = 20 := by decide +kernel
theorem zK_415 : z_K 415 = 22 := by decide +kernel
theorem zK_416 : z_K 416 = 20 := by decide +kernel
theorem zK_417 : z_K 417 = 20 := by decide +kernel
theorem zK_418 : z_K 418 = 20 := by decide +kernel
theorem zK_419 : z_K 419 = 20 := by decide +kernel
theorem zK_420 : z_K 420 = 20 := by decide +kernel
theorem zK_421 : z_K 421 = 20 := by decide +kernel
theorem zK_422 : z_K 422 = 20 := by decide +kernel
theorem zK_423 : z_K 423 = 20 := by decide +kernel
theorem zK_424 : z_K 424 = 20 := by decide +kernel
theorem zK_425 : z_K 425 = 20 := by decide +kernel
theorem zK_426 : z_K 426 = 20 := by decide +kernel
theorem zK_427 : z_K 427 = 20 := by decide +kernel
theorem zK_428 : z_K 428 = 20 := by decide +kernel
theorem zK_429 : z_K 429 = 21 := by decide +kernel
theorem zK_430 : z_K 430 = 20 := by decide +kernel
theorem zK_431 : z_K 431 = 20 := by decide +kernel
theorem zK_432 : z_K 432 = 20 := by decide +kernel
theorem zK_433 : z_K 433 = 20 := by decide +kernel
theorem zK_434 : z_K 434 = 20 := by decide +kernel
theorem zK_435 : z_K 435 = 20 := by decide +kernel
theorem zK_436 : z_K 436 = 20 := by decide +kernel
theorem zK_437 : z_K 437 = 20 := by decide +kernel
theorem zK_438 : z_K 438 = 20 := by decide +kernel
theorem zK_439 : z_K 439 = 20 := by decide +kernel
theorem zK_440 : z_K 440 = 20 := by decide +kernel
theorem zK_441 : z_K 441 = 20 := by decide +kernel
theorem zL_1 : z_Ln 1 = 1600 := by decide +kernel
theorem zL_183 : z_Ln 183 = 48 := by decide +kernel
theorem zL_184 : z_Ln 184 = 40 := by decide +kernel
theorem zL_185 : z_Ln 185 = 40 := by decide +kernel
theorem zL_186 : z_Ln 186 = 17 := by decide +kernel
theorem zL_20 : z_Ln 20 = 24 := by decide +kernel
theorem zL_24 : z_Ln 24 = 64 := by decide +kernel
theorem zL_25 : z_Ln 25 = 40 := by decide +kernel
theorem zL_26 : z_Ln 26 = 40 := by decide +kernel
theorem zL_28 : z_Ln 28 = 16 := by decide +kernel
theorem zL_29 : z_Ln 29 = 16 := by decide +kernel
theorem zL_30 : z_Ln 30 = 16 := by decide +kernel
theorem zL_31 : z_Ln 31 = 6 := by decide +kernel
theorem zL_33 : z_Ln 33 = 16 := by decide +kernel
theorem zL_388 : z_Ln 388 = 16 := by decide +kernel
theorem zL_389 : z_Ln 389 = 16 := by decide +kernel
theorem zL_390 : z_Ln 390 = 16 := by decide +kernel
theorem zL_391 : z_Ln 391 = 16 := by decide +kernel
theorem zL_392 : z_Ln 392 = 16 := by decide +kernel
theorem zL_394 : z_Ln 394 = 61 := by decide +kernel
theorem zL_395 : z_Ln 395 = 6 := by decide +kernel
theorem zL_397 : z_Ln 397 = 1800 := by decide +kernel
theorem zL_398 : z_Ln 398 = 2 := by decide +kernel
theorem zL_399 : z_Ln 399 = 2 := by decide +kernel
theorem zL_40 : z_Ln 40 = 20 := by decide +kernel
theorem zL_400 : z_Ln 400 = 2 := by decide +kernel
theorem zL_401 : z_Ln 401 = 2 := by decide +kernel
theorem zL_402 : z_Ln 402 = 2 := by decide +kernel
theorem zL_403 : z_Ln 403 = 32 := by decide +kernel
theorem zL_404 : z_Ln 404 = 32 := by decide +kernel
theorem zL_405 : z_Ln 405 = 2 := by decide +kernel
theorem zL_406 : z_Ln 406 = 32 := by decide +kernel
theorem zL_407 : z_Ln 407 = 2 := by decide +kernel
theorem zL_408 : z_Ln 408 = 6 := by decide +kernel
theorem zL_409 : z_Ln 409 = 6 := by decide +kernel
theorem zL_41 : z_Ln 41 = 20 := by decide +kernel
theorem zL_410 : z_Ln 410 = 3200 := by decide +kernel
theorem zL_411 : z_Ln 411 = 3200 := by decide +kernel
theorem zL_412 : z_Ln 412 = 32 := by decide +kernel
theorem zL_413 : z_Ln 413 = 20 := by decide +kernel
theorem zL_414 : z_Ln 414 = 20 := by decide +kernel
theorem zL_415 : z_Ln 415 = 20 := by decide +kernel
theorem zL_416 : z_Ln 416 = 20 := by decide +kernel
theorem zL_417 : z_Ln 417 = 20 := by decide +kernel
theorem zL_418 : z_Ln 418 = 500 := by decide +kernel
theorem zL_419 : z_Ln 419 = 6 := by decide +kernel
theorem zL_420 : z_Ln 420 = 22 := by decide +kernel
theorem zL_421 : z_Ln 421 = 22 := by decide +kernel
theorem zL_422 : z_Ln 422 = 22 := by decide +kernel
theorem zL_423 : z_Ln 423 = 352 := by decide +kernel
theorem zL_424 : z_Ln 424 = 352 := by decide +kernel
theorem zL_425 : z_Ln 425 = 22 := by decide +kernel
theorem zL_426 : z_Ln 426 = 132 := by decide +kernel
theorem zL_427 : z_Ln 427 = 22 := by decide +kernel
theorem zL_428 : z_Ln 428 = 2640 := by decide +kernel
theorem zL_429 : z_Ln 429 = 500 := by decide +kernel
theorem zL_430 : z_Ln 430 = 10 := by decide +kernel
theorem zL_431 : z_Ln 431 = 40 := by decide +kernel
theorem zL_432 : z_Ln 432 = 16 := by decide +kernel
theorem zL_433 : z_Ln 433 = 16 := by decide +kernel
theorem zL_434 : z_Ln 434 = 16 := by decide +kernel
theorem zL_435 : z_Ln 435 = 16 := by decide +kernel
theorem zL_436 : z_Ln 436 = 16 := by decide +kernel
theorem zL_437 : z_Ln 437 = 16 := by decide +kernel
theorem zL_438 : z_Ln 438 = 41 := by decide +kernel
theorem zL_439 : z_Ln 439 = 20336 := by decide +kernel
theorem zL_440 : z_Ln 440 = 17 := by decide +kernel
theorem zL_441 : z_Ln 441 = 70 := by decide +kernel
theorem zM_0_2 {S : z_S} (hW : z_W S) : gR S 0 2 = some (gP S 0 2) ∧ z_K (gP S 0 2) = 6 := by
  obtain ⟨h1, h2⟩ := hW.M (c := 0) (k := 2) (by decide +kernel)
  refine ⟨h1, ?_⟩
  rw [show z_ty (z_K 0) 2 = 10 by decide +kernel] at h2
  omega
theorem zM_0_3 {S : z_S} (hW : z_W S) : gR S 0 3 = some (gP S 0 3) ∧ z_K (gP S 0 3) = 6 := by
  obtain ⟨h1, h2⟩ := hW.M (c := 0) (k := 3) (by decide +kernel)
  refine ⟨h1, ?_⟩
  rw [show z_ty (z_K 0) 3 = 10 by decide +kernel] at h2
  omega
theorem zM_18_3 {S : z_S} (hW : z_W S) : gR S 18 3 = some (gP S 18 3) ∧ z_K (gP S 18 3) = 6 := by
  obtain ⟨h1, h2⟩ := hW.M (c := 18) (k := 3) (by decide +kernel)
  refine ⟨h1, ?_⟩
  rw [show z_ty (z_K 18) 3 = 10 by decide +kernel] at h2
  omega
theorem zM_19_1 {S : z_S} (hW : z_W S) : gR S 19 1 = some (gP S 19 1) ∧ z_K (gP S 19 1) = 20 := by
  obtain ⟨h1, h2⟩ := hW.M (c := 19) (k := 1) (by decide +kernel)
  refine ⟨h1, ?_⟩
  rw [show z_ty (z_K 19) 1 = 24 by decide +kernel] at h2
  omega
theorem zM_22_0 {S : z_S} (hW : z_W S) : gR S 22 0 = some (gP S 22 0) ∧ z_K (gP S 22 0) = 6 := by
  obtain ⟨h1, h2⟩ := hW.M (c := 22) (k := 0) (by decide +kernel)
  refine ⟨h1, ?_⟩
  rw [show z_ty (z_K 22) 0 = 10 by decide +kernel] at h2
  omega
theorem zOa_4_2 : ∀ p, p < 442 → z_K p = 4 → z_isF p 2 = true ∧ z_F p 2 = p + 1 ∧ z_K (p + 1) = 20 ∧ z_Ln (p + 1) = 40 := by decide +kernel
theorem zO_4_2 {S : z_S} (hW : z_W S) {p : Nat} (h : z_K p = 4) : gR S p 2 = some (p + 1) := by
  have h1 := zOa_4_2 p (z_K_lt (by omega)) h
  rw [hW.2.2.2.1 p 2 h1.1, h1.2.1]
theorem zOK_4_2 {p : Nat} (h : z_K p = 4) : z_K (p + 1) = 20 := (zOa_4_2 p (z_K_lt (by omega)) h).2.2.1
theorem zOL_4_2 {p : Nat} (h : z_K p = 4) : z_Ln (p + 1) = 40 := (zOa_4_2 p (z_K_lt (by omega)) h).2.2.2
theorem zOa_6_10 : ∀ p, p < 442 → z_K p = 6 → z_isF p 10 = true ∧ z_F p 10 = p + 2 ∧ z_K (p + 2) = 20 ∧ z_Ln (p + 2) = 16 := by decide +kernel
theorem zO_6_10 {S : z_S} (hW : z_W S) {p : Nat} (h : z_K p = 6) : gR S p 10 = some (p + 2) := by
  have h1 := zOa_6_10 p (z_K_lt (by omega)) h
  rw [hW.2.2.2.1 p 10 h1.1, h1.2.1]
theorem zOK_6_10 {p : Nat} (h : z_K p = 6) : z_K (p + 2) = 20 := (zOa_6_10 p (z_K_lt (by omega)) h).2.2.1
theorem zOL_6_10 {p : Nat} (h : z_K p = 6) : z_Ln (p + 2) = 16 := (zOa_6_10 p (z_K_lt (by omega)) h).2.2.2
theorem zOa_6_11 : ∀ p, p < 442 → z_K p = 6 → z_isF p 11 = true ∧ z_F p 11 = p + 3 ∧ z_K (p + 3) = 20 ∧ z_Ln (p + 3) = 16 := by decide +kernel
theorem zO_6_11 {S : z_S} (hW : z_W S) {p : Nat} (h : z_K p = 6) : gR S p 11 = some (p + 3) := by
  have h1 := zOa_6_11 p (z_K_lt (by omega)) h
  rw [hW.2.2.2.1 p 11 h1.1, h1.2.1]
theorem zOK_6_11 {p : Nat} (h : z_K p = 6) : z_K (p + 3) = 20 := (zOa_6_11 p (z_K_lt (by omega)) h).2.2.1
theorem zOL_6_11 {p : Nat} (h : z_K p = 6) : z_Ln (p + 3) = 16 := (zOa_6_11 p (z_K_lt (by omega)) h).2.2.2
theorem zOa_6_12 : ∀ p, p < 442 → z_K p = 6 → z_isF p 12 = true ∧ z_F p 12 = p + 4 ∧ z_K (p + 4) = 20 ∧ z_Ln (p + 4) = 16 := by decide +kernel
theorem zO_6_12 {S : z_S} (hW : z_W S) {p : Nat} (h : z_K p = 6) : gR S p 12 = some (p + 4) := by
  have h1 := zOa_6_12 p (z_K_lt (by omega)) h
  rw [hW.2.2.2.1 p 12 h1.1, h1.2.1]
theorem zOK_6_12 {p : Nat} (h : z_K p = 6) : z_K (p + 4) = 20 := (zOa_6_12 p (z_K_lt (by omega)) h).2.2.1
theorem zOL_6_12 {p : Nat} (h : z_K p = 6) : z_Ln (p + 4) = 16 := (zOa_6_12 p (z_K_lt (by omega)) h).2.2.2
theorem zOa_6_13 : ∀ p, p < 442 → z_K p = 6 → z_isF p 13 = true ∧ z_F p 13 = p + 5 ∧ z_K (p + 5) = 20 ∧ z_Ln (p + 5) = 1600 := by decide +kernel
theorem zO_6_13 {S : z_S} (hW : z_W S) {p : Nat} (h : z_K p = 6) : gR S p 13 = some (p + 5) := by
  have h1 := zOa_6_13 p (z_K_lt (by omega)) h
  rw [hW.2.2.2.1 p 13 h1.1, h1.2.1]
theorem zOK_6_13 {p : Nat} (h : z_K p = 6) : z_K (p + 5) = 20 := (zOa_6_13 p (z_K_lt (by omega)) h).2.2.1
theorem zOL_6_13 {p : Nat} (h : z_K p = 6) : z_Ln (p + 5) = 1600 := (zOa_6_13 p (z_K_lt (by omega)) h).2.2.2
theorem zOa_6_14 : ∀ p, p < 442 → z_K p = 6 → z_isF p 14 = true ∧ z_F p 14 = p + 6 ∧ z_K (p + 6) = 20 ∧ z_Ln (p + 6) = 3 := by decide +kernel
theorem zO_6_14 {S : z_S} (hW : z_W S) {p : Nat} (h : z_K p = 6) : gR S p 14 = some (p + 6) := by
  have h1 := zOa_6_14 p (z_K_lt (by omega)) h
  rw [hW.2.2.2.1 p 14 h1.1, h1.2.1]
theorem zOK_6_14 {p : Nat} (h : z_K p = 6) : z_K (p + 6) = 20 := (zOa_6_14 p (z_K_lt (by omega)) h).2.2.1
theorem zOL_6_14 {p : Nat} (h : z_K p = 6) : z_Ln (p + 6) = 3 := (zOa_6_14 p (z_K_lt (by omega)) h).2.2.2
theorem zOa_6_15 : ∀ p, p < 442 → z_K p = 6 → z_isF p 15 = true ∧ z_F p 15 = p + 7 ∧ z_K (p + 7) = 20 ∧ z_Ln (p + 7) = 3 := by decide +kernel
theorem zO_6_15 {S : z_S} (hW : z_W S) {p : Nat} (h : z_K p = 6) : gR S p 15 = some (p + 7) := by
  have h1 := zOa_6_15 p (z_K_lt (by omega)) h
  rw [hW.2.2.2.1 p 15 h1.1, h1.2.1]
theorem zOK_6_15 {p : Nat} (h : z_K p = 6) : z_K (p + 7) = 20 := (zOa_6_15 p (z_K_lt (by omega)) h).2.2.1
theorem zOL_6_15 {p : Nat} (h : z_K p = 6) : z_Ln (p + 7) = 3 := (zOa_6_15 p (z_K_lt (by omega)) h).2.2.2
theorem zOa_6_9 : ∀ p, p < 442 → z_K p = 6 → z_isF p 9 = true ∧ z_F p 9 = p + 1 ∧ z_K (p + 1) = 20 ∧ z_Ln (p + 1) = 16 := by decide +kernel
theorem zO_6_9 {S : z_S} (hW : z_W S) {p : Nat} (h : z_K p = 6) : gR S p 9 = some (p + 1) := by
  have h1 := zOa_6_9 p (z_K_lt (by omega)) h
  rw [hW.2.2.2.1 p 9 h1.1, h1.2.1]
theorem zOK_6_9 {p : Nat} (h : z_K p = 6) : z_K (p + 1) = 20 := (zOa_6_9 p (z_K_lt (by omega)) h).2.2.1
theorem zOL_6_9 {p : Nat} (h : z_K p = 6) : z_Ln (p + 1) = 16 := (zOa_6_9 p (z_K_lt (by omega)) h).2.2.2
theorem zOa_8_5 : ∀ p, p < 442 → z_K p = 8 → z_isF p 5 = true ∧ z_F p 5 = p + 1 ∧ z_K (p + 1) = 20 ∧ z_Ln (p + 1) = 16 := by decide +kernel
theorem zO_8_5 {S : z_S} (hW : z_W S) {p : Nat} (h : z_K p = 8) : gR S p 5 = some (p + 1) := by
  have h1 := zOa_8_5 p (z_K_lt (by omega)) h
  rw [hW.2.2.2.1 p 5 h1.1, h1.2.1]
theorem zOK_8_5 {p : Nat} (h : z_K p = 8) : z_K (p + 1) = 20 := (zOa_8_5 p (z_K_lt (by omega)) h).2.2.1
theorem zOL_8_5 {p : Nat} (h : z_K p = 8) : z_Ln (p + 1) = 16 := (zOa_8_5 p (z_K_lt (by omega)) h).2.2.2
theorem zOa_8_6 : ∀ p, p < 442 → z_K p = 8 → z_isF p 6 = true ∧ z_F p 6 = p + 2 ∧ z_K (p + 2) = 20 ∧ z_Ln (p + 2) = 16 := by decide +kernel
theorem zO_8_6 {S : z_S} (hW : z_W S) {p : Nat} (h : z_K p = 8) : gR S p 6 = some (p + 2) := by
  have h1 := zOa_8_6 p (z_K_lt (by omega)) h
  rw [hW.2.2.2.1 p 6 h1.1, h1.2.1]
theorem zOK_8_6 {p : Nat} (h : z_K p = 8) : z_K (p + 2) = 20 := (zOa_8_6 p (z_K_lt (by omega)) h).2.2.1
theorem zOL_8_6 {p : Nat} (h : z_K p = 8) : z_Ln (p + 2) = 16 := (zOa_8_6 p (z_K_lt (by omega)) h).2.2.2
theorem zOa_8_7 : ∀ p, p < 442 → z_K p = 8 → z_isF p 7 = true ∧ z_F p 7 = p + 3 ∧ z_K (p + 3) = 20 ∧ z_Ln (p + 3) = 16 := by decide +kernel
theorem zO_8_7 {S : z_S} (hW : z_W S) {p : Nat} (h : z_K p = 8) : gR S p 7 = some (p + 3) := by
  have h1 := zOa_8_7 p (z_K_lt (by omega)) h
  rw [hW.2.2.2.1 p 7 h1.1, h1.2.1]
theorem zOK_8_7 {p : Nat} (h : z_K p = 8) : z_K (p + 3) = 20 := (zOa_8_7 p (z_K_lt (by omega)) h).2.2.1
theorem zOL_8_7 {p : Nat} (h : z_K p = 8) : z_Ln (p + 3) = 16 := (zOa_8_7 p (z_K_lt (by omega)) h).2.2.2
theorem zOa_8_8 : ∀ p, p < 442 → z_K p = 8 → z_isF p 8 = true ∧ z_F p 8 = p + 4 ∧ z_K (p + 4) = 20 ∧ z_Ln (p + 4) = 6 := by decide +kernel
theorem zO_8_8 {S : z_S} (hW : z_W S) {p : Nat} (h : z_K p = 8) : gR S p 8 = some (p + 4) := by
  have h1 := zOa_8_8 p (z_K_lt (by omega)) h
  rw [hW.2.2.2.1 p 8 h1.1, h1.2.1]
theorem zOK_8_8 {p : Nat} (h : z_K p = 8) : z_K (p + 4) = 20 := (zOa_8_8 p (z_K_lt (by omega)) h).2.2.1
theorem zOL_8_8 {p : Nat} (h : z_K p = 8) : z_Ln (p + 4) = 6 := (zOa_8_8 p (z_K_lt (by omega)) h).2.2.2
theorem zR_0_2 {S : z_S} (hW : z_W S) {a : Nat} (ha : z_K a = 6) : z_W (sR S 0 2 (some a)) := hW.sR (by decide +kernel) (by rw [ha]; decide +kernel)
theorem zR_0_3 {S : z_S} (hW : z_W S) {a : Nat} (ha : z_K a = 6) : z_W (sR S 0 3 (some a)) := hW.sR (by decide +kernel) (by rw [ha]; decide +kernel)
theorem zR_18_3 {S : z_S} (hW : z_W S) {a : Nat} (ha : z_K a = 6) : z_W (sR S 18 3 (some a)) := hW.sR (by decide +kernel) (by rw [ha]; decide +kernel)
theorem zR_19_1 {S : z_S} (hW : z_W S) {a : Nat} (ha : z_K a = 20) : z_W (sR S 19 1 (some a)) := hW.sR (by decide +kernel) (by rw [ha]; decide +kernel)
theorem zR_22_0 {S : z_S} (hW : z_W S) {a : Nat} (ha : z_K a = 6) : z_W (sR S 22 0 (some a)) := hW.sR (by decide +kernel) (by rw [ha]; decide +kernel)
theorem zcb_m10 : (Int8.ofInt (-10)).toInt32 = (-10 : Int32) := by decide
theorem zcb_m11 : (Int8.ofInt (-11)).toInt32 = (-11 : Int32) := by decide
theorem zcb_m12 : (Int8.ofInt (-12)).toInt32 = (-12 : Int32) := by decide
theorem zcb_m13 : (Int8.ofInt (-13)).toInt32 = (-13 : Int32) := by decide
theorem zcb_m14 : (Int8.ofInt (-14)).toInt32 = (-14 : Int32) := by decide
theorem zcb_m15 : (Int8.ofInt (-15)).toInt32 = (-15 : Int32) := by decide
theorem zcb_m16 : (Int8.ofInt (-16)).toInt32 = (-16 : Int32) := by decide
theorem zcb_m17 : (Int8.ofInt (-17)).toInt32 = (-17 : Int32) := by decide
theorem zcb_m18 : (Int8.ofInt (-18)).toInt32 = (-18 : Int32) := by decide
theorem zcb_m19 : (Int8.ofInt (-19)).toInt32 = (-19 : Int32) := by decide
theorem zcb_m2 : (Int8.ofInt (-2)).toInt32 = (-2 : Int32) := by decide
theorem zcb_m3 : (Int8.ofInt (-3)).toInt32 = (-3 : Int32) := by decide
theorem zcb_m4 : (Int8.ofInt (-4)).toInt32 = (-4 : Int32) := by decide
theorem zcb_m5 : (Int8.ofInt (-5)).toInt32 = (-5 : Int32) := by decide
theorem zcb_m6 : (Int8.ofInt (-6)).toInt32 = (-6 : Int32) := by decide
theorem zcb_m7 : (Int8.ofInt (-7)).toInt32 = (-7 : Int32) := by decide
theorem zcb_m8 : (Int8.ofInt (-8)).toInt32 = (-8 : Int32) := by decide
theorem zcb_m9 : (Int8.ofInt (-9)).toInt32 = (-9 : Int32) := by decide
theorem zcb_10 : (Int8.ofInt (10)).toInt32 = (10 : Int32) := by decide
theorem zcb_100 : (Int8.ofInt (100)).toInt32 = (100 : Int32) := by decide
theorem zcb_120 : (Int8.ofInt (120)).toInt32 = (120 : Int32) := by decide
theorem zcb_122 : (Int8.ofInt (122)).toInt32 = (122 : Int32) := by decide
theorem zcb_13 : (Int8.ofInt (13)).toInt32 = (13 : Int32) := by decide
theorem zcb_14 : (Int8.ofInt (14)).toInt32 = (14 : Int32) := by decide
theorem zcb_15 : (Int8.ofInt (15)).toInt32 = (15 : Int32) := by decide
theorem zcb_16 : (Int8.ofInt (16)).toInt32 = (16 : Int32) := by decide
theorem zcb_17 : (Int8.ofInt (17)).toInt32 = (17 : Int32) := by decide
theorem zcb_18 : (Int8.ofInt (18)).toInt32 = (18 : Int32) := by decide
theorem zcb_19 : (Int8.ofInt (19)).toInt32 = (19 : Int32) := by decide
theorem zcb_20 : (Int8.ofInt (20)).toInt32 = (20 : Int32) := by decide
theorem zcb_21 : (Int8.ofInt (21)).toInt32 = (21 : Int32) := by decide
theorem zcb_22 : (Int8.ofInt (22)).toInt32 = (22 : Int32) := by decide
theorem zcb_23 : (Int8.ofInt (23)).toInt32 = (23 : Int32) := by decide
theorem zcb_24 : (Int8.ofInt (24)).toInt32 = (24 : Int32) := by decide
theorem zcb_27 : (Int8.ofInt (27)).toInt32 = (27 : Int32) := by decide
theorem zcb_30 : (Int8.ofInt (30)).toInt32 = (30 : Int32) := by decide
theorem zcb_31 : (Int8.ofInt (31)).toInt32 = (31 : Int32) := by decide
theorem zcb_32 : (Int8.ofInt (32)).toInt32 = (32 : Int32) := by decide
theorem zcb_33 : (Int8.ofInt (33)).toInt32 = (33 : Int32) := by decide
theorem zcb_34 : (Int8.ofInt (34)).toInt32 = (34 : Int32) := by decide
theorem zcb_35 : (Int8.ofInt (35)).toInt32 = (35 : Int32) := by decide
theorem zcb_36 : (Int8.ofInt (36)).toInt32 = (36 : Int32) := by decide
theorem zcb_37 : (Int8.ofInt (37)).toInt32 = (37 : Int32) := by decide
theorem zcb_38 : (Int8.ofInt (38)).toInt32 = (38 : Int32) := by decide
theorem zcb_39 : (Int8.ofInt (39)).toInt32 = (39 : Int32) := by decide
theorem zcb_40 : (Int8.ofInt (40)).toInt32 = (40 : Int32) := by decide
theorem zcb_41 : (Int8.ofInt (41)).toInt32 = (41 : Int32) := by decide
theorem zcb_42 : (Int8.ofInt (42)).toInt32 = (42 : Int32) := by decide
theorem zcb_43 : (Int8.ofInt (43)).toInt32 = (43 : Int32) := by decide
theorem zcb_44 : (Int8.ofInt (44)).toInt32 = (44 : Int32) := by decide
theorem zcb_45 : (Int8.ofInt (45)).toInt32 = (45 : Int32) := by decide
theorem zcb_47 : (Int8.ofInt (47)).toInt32 = (47 : Int32) := by decide
theorem zcb_48 : (Int8.ofInt (48)).toInt32 = (48 : Int32) := by decide
theorem zcb_57 : (Int8.ofInt (57)).toInt32 = (57 : Int32) := by decide
theorem zcb_59 : (Int8.ofInt (59)).toInt32 = (59 : Int32) := by decide
theorem zcb_6 : (Int8.ofInt (6)).toInt32 = (6 : Int32) := by decide
theorem zcb_60 : (Int8.ofInt (60)).toInt32 = (60 : Int32) := by decide
theorem zcb_61 : (Int8.ofInt (61)).toInt32 = (61 : Int32) := by decide
theorem zcb_62 : (Int8.ofInt (62)).toInt32 = (62 : Int32) := by decide
theorem zcb_63 : (Int8.ofInt (63)).toInt32 = (63 : Int32) := by decide
theorem zcb_64 : (Int8.ofInt (64)).toInt32 = (64 : Int32) := by decide
theorem zcb_7 : (Int8.ofInt (7)).toInt32 = (7 : Int32) := by decide
theorem zcb_8 : (Int8.ofInt (8)).toInt32 = (8 : Int32) := by decide
theorem zcb_91 : (Int8.ofInt (91)).toInt32 = (91 : Int32) := by decide
theorem zcb_93 : (Int8.ofInt (93)).toInt32 = (93 : Int32) := by decide
theorem zcb_97 : (Int8.ofInt (97)).toInt32 = (97 : Int32) := by decide
theorem zcb_99 : (Int8.ofInt (99)).toInt32 = (99 : Int32) := by decide
theorem zci_m1 : Int32.ofInt (-1) = (-1 : Int32) := by decide
theorem zci_m10 : Int32.ofInt (-10) = (-10 : Int32) := by decide
theorem zci_m11 : Int32.ofInt (-11) = (-11 : Int32) := by decide
theorem zci_m12 : Int32.ofInt (-12) = (-12 : Int32) := by decide
theorem zci_m13 : Int32.ofInt (-13) = (-13 : Int32) := by decide
theorem zci_m14 : Int32.ofInt (-14) = (-14 : Int32) := by decide
theorem zci_m15 : Int32.ofInt (-15) = (-15 : Int32) := by decide
theorem zci_m16 : Int32.ofInt (-16) = (-16 : Int32) := by decide
theorem zci_m17 : Int32.ofInt (-17) = (-17 : Int32) := by decide
theorem zci_m18 : Int32.ofInt (-18) = (-18 : Int32) := by decide
theorem zci_m2 : Int32.ofInt (-2) = (-2 : Int32) := by decide
theorem zci_m3 : Int32.ofInt (-3) = (-3 : Int32) := by decide
theorem zci_m4 : Int32.ofInt (-4) = (-4 : Int32) := by decide
theorem zci_m5 : Int32.ofInt (-5) = (-5 : Int32) := by decide
theorem zci_m6 : Int32.ofInt (-6) = (-6 : Int32) := by decide
theorem zci_m7 : Int32.ofInt (-7) = (-7 : Int32) := by decide
theorem zci_m8 : Int32.ofInt (-8) = (-8 : Int32) := by decide
theorem zci_m9 : Int32.ofInt (-9) = (-9 : Int32) := by decide
theorem zci_0 : Int32.ofInt (0) = (0 : Int32) := by decide
theorem zci_1 : Int32.ofInt (1) = (1 : Int32) := by decide
theorem zci_10 : Int32.ofInt (10) = (10 : Int32) := by decide
theorem zci_100000000 : Int32.ofInt (100000000) = (100000000 : Int32) := by decide
theorem zci_11 : Int32.ofInt (11) = (11 : Int32) := by decide
theorem zci_12 : Int32.ofInt (12) = (12 : Int32) := by decide
theorem zci_13 : Int32.ofInt (13) = (13 : Int32) := by decide
theorem zci_14 : Int32.ofInt (14) = (14 : Int32) := by decide
theorem zci_1431655765 : Int32.ofInt (1431655765) = (1431655765 : Int32) := by decide
theorem zci_2 : Int32.ofInt (2) = (2 : Int32) := by decide
theorem zci_252645135 : Int32.ofInt (252645135) = (252645135 : Int32) := by decide
theorem zci_3 : Int32.ofInt (3) = (3 : Int32) := by decide
theorem zci_31 : Int32.ofInt (31) = (31 : Int32) := by decide
theorem zci_32 : Int32.ofInt (32) = (32 : Int32) := by decide
theorem zci_33 : Int32.ofInt (33) = (33 : Int32) := by decide
theorem zci_34 : Int32.ofInt (34) = (34 : Int32) := by decide
theorem zci_35 : Int32.ofInt (35) = (35 : Int32) := by decide
theorem zci_36 : Int32.ofInt (36) = (36 : Int32) := by decide
theorem zci_37 : Int32.ofInt (37) = (37 : Int32) := by decide
theorem zci_38 : Int32.ofInt (38) = (38 : Int32) := by decide
theorem zci_39 : Int32.ofInt (39) = (39 : Int32) := by decide
theorem zci_4 : Int32.ofInt (4) = (4 : Int32) := by decide
theorem zci_40 : Int32.ofInt (40) = (40 : Int32) := by decide
theorem zci_41 : Int32.ofInt (41) = (41 : Int32) := by decide
theorem zci_5 : Int32.ofInt (5) = (5 : Int32) := by decide
theorem zci_6 : Int32.ofInt (6) = (6 : Int32) := by decide
theorem zci_7 : Int32.ofInt (7) = (7 : Int32) := by decide
theorem zci_8 : Int32.ofInt (8) = (8 : Int32) := by decide
theorem zci_858993459 : Int32.ofInt (858993459) = (858993459 : Int32) := by decide
theorem zci_9 : Int32.ofInt (9) = (9 : Int32) := by decide
theorem zci_999999 : Int32.ofInt (999999) = (999999 : Int32) := by decide
theorem zcl_m1000000 : Int64.ofInt (-1000000) = (-1000000 : Int64) := by decide
theorem zcl_1000000 : Int64.ofInt (1000000) = (1000000 : Int64) := by decide
theorem zcl_1103515245 : Int64.ofInt (1103515245) = (1103515245 : Int64) := by decide
theorem zcl_119182682645875 : Int64.ofInt (119182682645875) = (119182682645875 : Int64) := by decide
theorem zcl_119225681667442 : Int64.ofInt (119225681667442) = (119225681667442 : Int64) := by decide
theorem zcl_121398985520243 : Int64.ofInt (121398985520243) = (121398985520243 : Int64) := by decide
theorem zcl_12345 : Int64.ofInt (12345) = (12345 : Int64) := by decide
theorem zcl_133493580129395 : Int64.ofInt (133493580129395) = (133493580129395 : Int64) := by decide
theorem zcl_1919905645 : Int64.ofInt (1919905645) = (1919905645 : Int64) := by decide
theorem zcl_1936225652 : Int64.ofInt (1936225652) = (1936225652 : Int64) := by decide
theorem zcl_1937007984 : Int64.ofInt (1937007984) = (1937007984 : Int64) := by decide
theorem zcl_2147483647 : Int64.ofInt (2147483647) = (2147483647 : Int64) := by decide
theorem zcl_2147483648 : Int64.ofInt (2147483648) = (2147483648 : Int64) := by decide
theorem zcl_255 : Int64.ofInt (255) = (255 : Int64) := by decide
theorem zcl_26982 : Int64.ofInt (26982) = (26982 : Int64) := by decide
theorem zcl_26990 : Int64.ofInt (26990) = (26990 : Int64) := by decide
theorem zcl_28530 : Int64.ofInt (28530) = (28530 : Int64) := by decide
theorem zcl_422608528232 : Int64.ofInt (422608528232) = (422608528232 : Int64) := by decide
theorem zcl_435627783289 : Int64.ofInt (435627783289) = (435627783289 : Int64) := by decide
theorem zcl_439855772532 : Int64.ofInt (439855772532) = (439855772532 : Int64) := by decide
theorem zcl_461414294379 : Int64.ofInt (461414294379) = (461414294379 : Int64) := by decide
theorem zcl_474214787188 : Int64.ofInt (474214787188) = (474214787188 : Int64) := by decide
theorem zcl_491328009331 : Int64.ofInt (491328009331) = (491328009331 : Int64) := by decide
theorem zcl_491495845235 : Int64.ofInt (491495845235) = (491495845235 : Int64) := by decide
theorem zcl_495874044019 : Int64.ofInt (495874044019) = (495874044019 : Int64) := by decide
theorem zcl_6384748 : Int64.ofInt (6384748) = (6384748 : Int64) := by decide
theorem zcl_6385252 : Int64.ofInt (6385252) = (6385252 : Int64) := by decide
theorem zcl_64 : Int64.ofInt (64) = (64 : Int64) := by decide
theorem zcl_6840691 : Int64.ofInt (6840691) = (6840691 : Int64) := by decide
theorem zcl_7168376 : Int64.ofInt (7168376) = (7168376 : Int64) := by decide
theorem zcl_7170414 : Int64.ofInt (7170414) = (7170414 : Int64) := by decide
theorem zcl_7237492 : Int64.ofInt (7237492) = (7237492 : Int64) := by decide
theorem zcl_99 : Int64.ofInt (99) = (99 : Int64) := by decide
theorem zcs_1600 : (Int16.ofInt (1600)).toInt32 = (1600 : Int32) := by decide
theorem zcs_227 : (Int16.ofInt (227)).toInt32 = (227 : Int32) := by decide
theorem zcs_251 : (Int16.ofInt (251)).toInt32 = (251 : Int32) := by decide
theorem zcs_254 : (Int16.ofInt (254)).toInt32 = (254 : Int32) := by decide
theorem zcs_255 : (Int16.ofInt (255)).toInt32 = (255 : Int32) := by decide
theorem zcs_999 : (Int16.ofInt (999)).toInt32 = (999 : Int32) := by decide
