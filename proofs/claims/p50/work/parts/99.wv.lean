/-! ===== segments of the text's methods on the small machine ===== -/
theorem m_376_0 {O : mO} {K : mK} {G : mG} {d : mD} {c s : Nat} {x0 x1 : Int}
  (h : (0 ≤ x0 ∧ mroomN 376 [] 12) ∧ mInR 1 ∧ ((1 : Int) = (0 : Int) → mRun O 376 (25, [(3, x0), (0, x1)], [], c, s, G, d) K) ∧ (¬ (1 : Int) = (0 : Int) → (0 ≤ x1 ∧ x1 ≤ 100000 ∧ 0 ≤ G.2.2 ∧ c + 1 ≤ mmc 376 ∧ s + x1.toNat ≤ mms 376 ∧ matyp .byte ≠ 199) ∧ mRun O 376 (14, [(3, x0), (0, x1)], [(3, G.2.2), (3, x0)], c + 1, s + x1.toNat, (mkind G.1 G.2.2 (matyp .byte), mkind G.2.1 G.2.2 x1, mnxt G.2.2), (mfill d G.2.2 0)) K)) :
  mRun O 376 (0, [(3, x0), (0, x1)], [], c, s, G, d) K := mC_run [0,14] 7 _ h
theorem m_376_14 {O : mO} {K : mK} {G : mG} {d : mD} {c s : Nat} {x0 x1 y0 y1 : Int}
  (h : (G.1 y0 = 14 ∧ mfit 4 (3, y1)) ∧ (G.1 x0 = 14 ∧ mfit 2 (0, 0)) ∧ mretk 376 0 ∧ K (.inl none) G (mset (mset d y0 0 y1) x0 1 0)) :
  mRun O 376 (14, [(3, x0), (0, x1)], [(3, y1), (3, y0)], c, s, G, d) K := mC_run [0,14] 6 _ h
theorem m_377_0 {O : mO} {K : mK} {G : mG} {d : mD} {c s : Nat} {x0 x1 : Int}
  (h : (0 ≤ x0 ∧ mroomN 377 [] 12) ∧ ((0 ≤ x1 ∧ x1 < tnn) ∧ mroomS 377 []) ∧ (mInR (tsl x1) ∧ mInR 2147483631) ∧ ((2147483631 : Int) ≤ tsl x1 → mRun O 377 (24, [(3, x0), (5, x1), (0, tsl x1), mu, mu], [(0, 2147483647)], c, s, G, d) K) ∧ (tsl x1 < (2147483631 : Int) → mRun O 377 (24, [(3, x0), (5, x1), (0, tsl x1), mu, mu], [(0, (tsl x1) + 16)], c, s, G, d) K)) :
  mRun O 377 (0, [(3, x0), (5, x1), mu, mu, mu], [], c, s, G, d) K := mC_run [0,24,46,61] 12 _ h
theorem m_377_24 {O : mO} {K : mK} {G : mG} {d : mD} {c s : Nat} {x0 x1 x2 y0 : Int}
  (h : ((0 ≤ x1 ∧ x1 < tnn) ∧ mroomS 377 []) ∧ (G.1 x0 = 14 ∧ mfit 2 (0, 0)) ∧ mInR 0 ∧ (¬ (0 : Int) = (0 : Int) → mRun O 377 (49, [(3, x0), (5, x1), (0, x2), (0, y0), (0, 0)], [(3, x0)], c, s, G, (mset d x0 1 0)) K) ∧ ((0 : Int) = (0 : Int) → (0 ≤ y0 ∧ y0 ≤ 100000 ∧ 0 ≤ G.2.2 ∧ c + 1 ≤ mmc 377 ∧ s + y0.toNat ≤ mms 377 ∧ matyp .byte ≠ 199) ∧ mRun O 377 (46, [(3, x0), (5, x1), (0, x2), (0, y0), (0, 0)], [(3, G.2.2), (3, x0)], c + 1, s + y0.toNat, (mkind G.1 G.2.2 (matyp .byte), mkind G.2.1 G.2.2 y0, mnxt G.2.2), (mfill (mset d x0 1 0) G.2.2 0)) K)) :
  mRun O 377 (24, [(3, x0), (5, x1), (0, x2), mu, mu], [(0, y0)], c, s, G, d) K := mC_run [0,24,46,61] 12 _ h
theorem m_377_46 {O : mO} {K : mK} {G : mG} {d : mD} {c s : Nat} {x0 x1 x2 x3 x4 y0 y1 : Int}
  (h : (G.1 y0 = 14 ∧ mfit 4 (3, y1)) ∧ (mbud 377 398 [(3, x0), (5, x1)] [] c s ∧ mrecv 398 [(3, x0), (5, x1)] G.1) ∧ mCall O 398 [(3, x0), (5, x1)] G (mset d y0 0 y1) (mback 377 58 [(3, x0), (5, x1), (0, x2), (0, x3), (0, x4)] [] (c + mmc 398) (s + mms 398) (fun st => mRun O 377 st K) K)) :
  mRun O 377 (46, [(3, x0), (5, x1), (0, x2), (0, x3), (0, x4)], [(3, y1), (3, y0)], c, s, G, d) K := mC_run [0,24,46,61] 5 _ h
theorem m_377_61 {O : mO} {K : mK} {G : mG} {d : mD} {c s : Nat} {x0 x1 x2 x3 x4 y0 : Int}
  (h : mretk 377 0 ∧ K (.inl none) G d) :
  mRun O 377 (61, [(3, x0), (5, x1), (0, x2), (0, x3), (0, x4)], [(3, y0)], c, s, G, d) K := mC_run [0,24,46,61] 2 _ h
theorem m_378_0 {O : mO} {K : mK} {G : mG} {d : mD} {c s : Nat} {x0 x1 : Int}
  (h : G.1 x0 = 14 ∧ 100 ≤ G.1 (d x0 0) ∧ G.1 x0 = 14 ∧ mInR (x1 - (mishr (G.2.1 (d x0 0)) (d x0 1))) ∧ (x1 - (mishr (G.2.1 (d x0 0)) (d x0 1)) ≤ (0 : Int) → mRun O 378 (38, [(3, x0), (0, x1), (0, mishr (G.2.1 (d x0 0)) (d x0 1))], [], c, s, G, d) K) ∧ ((0 : Int) < x1 - (mishr (G.2.1 (d x0 0)) (d x0 1)) → G.1 x0 = 14 ∧ (mbud 378 379 [(3, x0), (0, x1)] [(3, d x0 0), (3, x0)] c s ∧ mrecv 379 [(3, x0), (0, x1)] G.1) ∧ mCall O 379 [(3, x0), (0, x1)] G d (mback 378 24 [(3, x0), (0, x1), (0, mishr (G.2.1 (d x0 0)) (d x0 1))] [(3, d x0 0), (3, x0)] (c + mmc 379) (s + mms 379) (fun st => mRun O 378 st K) K))) :
  mRun O 378 (0, [(3, x0), (0, x1), mu], [], c, s, G, d) K := mC_run [0,27,35,38] 17 _ h
theorem m_378_27 {O : mO} {K : mK} {G : mG} {d : mD} {c s : Nat} {x0 x1 x2 y0 y1 y2 : Int}
  (h : G.1 x0 = 14 ∧ (mbud 378 406 [(3, y1), (0, mishl y2 (d x0 1))] [(3, y0)] c s ∧ mrecv 406 [(3, y1), (0, mishl y2 (d x0 1))] G.1) ∧ mCall O 406 [(3, y1), (0, mishl y2 (d x0 1))] G d (mback 378 32 [(3, x0), (0, x1), (0, x2)] [(3, y0)] (c + mmc 406) (s + mms 406) (fun st => mRun O 378 st K) K)) :
  mRun O 378 (27, [(3, x0), (0, x1), (0, x2)], [(0, y2), (3, y1), (3, y0)], c, s, G, d) K := mC_run [0,27,35,38] 4 _ h
theorem m_378_35 {O : mO} {K : mK} {G : mG} {d : mD} {c s : Nat} {x0 x1 x2 y0 y1 : Int}
  (h : (G.1 y0 = 14 ∧ mfit 4 (3, y1)) ∧ mRun O 378 (38, [(3, x0), (0, x1), (0, x2)], [], c, s, G, (mset d y0 0 y1)) K) :
  mRun O 378 (35, [(3, x0), (0, x1), (0, x2)], [(3, y1), (3, y0)], c, s, G, d) K := mC_run [0,27,35,38] 1 _ h
theorem m_378_38 {O : mO} {K : mK} {G : mG} {d : mD} {c s : Nat} {x0 x1 x2 : Int}
  (h : mretk 378 0 ∧ K (.inl none) G d) :
  mRun O 378 (38, [(3, x0), (0, x1), (0, x2)], [], c, s, G, d) K := mC_run [0,27,35,38] 1 _ h
theorem m_379_0 {O : mO} {K : mK} {G : mG} {d : mD} {c s : Nat} {x0 x1 : Int}
  (h : G.1 x0 = 14 ∧ 100 ≤ G.1 (d x0 0) ∧ G.1 x0 = 14 ∧ G.1 x0 = 14 ∧ (mbud 379 410 [(0, G.2.1 (d x0 0)), (0, (mishl x1 (d x0 1)) - (G.2.1 (d x0 0))), (0, (G.2.1 (d x0 0)) + (mishl 2 (d x0 1)))] [] c s ∧ mrecv 410 [(0, G.2.1 (d x0 0)), (0, (mishl x1 (d x0 1)) - (G.2.1 (d x0 0))), (0, (G.2.1 (d x0 0)) + (mishl 2 (d x0 1)))] G.1) ∧ mCall O 410 [(0, G.2.1 (d x0 0)), (0, (mishl x1 (d x0 1)) - (G.2.1 (d x0 0))), (0, (G.2.1 (d x0 0)) + (mishl 2 (d x0 1)))] G d (mback 379 29 [(3, x0), (0, x1), (0, G.2.1 (d x0 0)), (0, mishl x1 (d x0 1)), (0, (mishl x1 (d x0 1)) - (G.2.1 (d x0 0))), mu] [] (c + mmc 410) (s + mms 410) (fun st => mRun O 379 st K) K)) :
  mRun O 379 (0, [(3, x0), (0, x1), mu, mu, mu, mu], [], c, s, G, d) K := mC_run [0,32] 22 _ h
theorem m_379_32 {O : mO} {K : mK} {G : mG} {d : mD} {c s : Nat} {x0 x1 x2 x3 x4 y0 : Int}
  (h : (mInR y0 ∧ mInR 2147483647) ∧ (¬ y0 = (2147483647 : Int) → G.1 x0 = 14 ∧ mret1 379 (mishr y0 (d x0 1)) ∧ K (.inl (some (0, mishr y0 (d x0 1)))) G d) ∧ (y0 = (2147483647 : Int) → mRun O 379 (41, [(3, x0), (0, x1), (0, x2), (0, x3), (0, x4), (0, y0)], [], c, s, G, d) K)) :
  mRun O 379 (32, [(3, x0), (0, x1), (0, x2), (0, x3), (0, x4), mu], [(0, y0)], c, s, G, d) K := mC_run [0,32] 9 _ h
theorem m_380_0 {O : mO} {K : mK} {G : mG} {d : mD} {c s : Nat} {x0 x1 : Int}
  (h : ((0 ≤ x1 ∧ x1 < tnn) ∧ mroomS 380 []) ∧ G.1 x0 = 14 ∧ (mbud 380 378 [(3, x0), (0, (d x0 3) + (tsl x1))] [] c s ∧ mrecv 378 [(3, x0), (0, (d x0 3) + (tsl x1))] G.1) ∧ mCall O 378 [(3, x0), (0, (d x0 3) + (tsl x1))] G d (mback 380 21 [(3, x0), (5, x1), (0, tsl x1)] [] (c + mmc 378) (s + mms 378) (fun st => mRun O 380 st K) K)) :
  mRun O 380 (0, [(3, x0), (5, x1), mu], [], c, s, G, d) K := mC_run [0,24,33] 11 _ h
theorem m_380_24 {O : mO} {K : mK} {G : mG} {d : mD} {c s : Nat} {x0 x1 x2 : Int}
  (h : G.1 x0 = 14 ∧ (mbud 380 386 [(3, x0), (0, d x0 3), (5, x1)] [] c s ∧ mrecv 386 [(3, x0), (0, d x0 3), (5, x1)] G.1) ∧ mCall O 386 [(3, x0), (0, d x0 3), (5, x1)] G d (mback 380 30 [(3, x0), (5, x1), (0, x2)] [] (c + mmc 386) (s + mms 386) (fun st => mRun O 380 st K) K)) :
  mRun O 380 (24, [(3, x0), (5, x1), (0, x2)], [], c, s, G, d) K := mC_run [0,24,33] 5 _ h
theorem m_380_33 {O : mO} {K : mK} {G : mG} {d : mD} {c s : Nat} {x0 x1 x2 : Int}
  (h : G.1 x0 = 14 ∧ (G.1 x0 = 14 ∧ mfit 0 (0, (d x0 3) + x2)) ∧ mretk 380 5 ∧ K (.inl (some (3, x0))) G (mset d x0 3 ((d x0 3) + x2))) :
  mRun O 380 (33, [(3, x0), (5, x1), (0, x2)], [], c, s, G, d) K := mC_run [0,24,33] 8 _ h
theorem m_381_0 {O : mO} {K : mK} {G : mG} {d : mD} {c s : Nat} {x0 x1 : Int}
  (h : G.1 x0 = 14 ∧ (mbud 381 378 [(3, x0), (0, (d x0 3) + 1)] [] c s ∧ mrecv 378 [(3, x0), (0, (d x0 3) + 1)] G.1) ∧ mCall O 378 [(3, x0), (0, (d x0 3) + 1)] G d (mback 381 7 [(3, x0), (0, x1)] [] (c + mmc 378) (s + mms 378) (fun st => mRun O 381 st K) K)) :
  mRun O 381 (0, [(3, x0), (0, x1)], [], c, s, G, d) K := mC_run [0,10,14,21] 6 _ h
theorem m_381_10 {O : mO} {K : mK} {G : mG} {d : mD} {c s : Nat} {x0 x1 : Int}
  (h : (mbud 381 384 [(3, x0)] [] c s ∧ mrecv 384 [(3, x0)] G.1) ∧ mCall O 384 [(3, x0)] G d (mback 381 11 [(3, x0), (0, x1)] [] (c + mmc 384) (s + mms 384) (fun st => mRun O 381 st K) K)) :
  mRun O 381 (10, [(3, x0), (0, x1)], [], c, s, G, d) K := mC_run [0,10,14,21] 2 _ h
theorem m_381_14 {O : mO} {K : mK} {G : mG} {d : mD} {c s : Nat} {x0 x1 y0 : Int}
  (h : mInR y0 ∧ (y0 = (0 : Int) → mRun O 381 (45, [(3, x0), (0, x1)], [], c, s, G, d) K) ∧ (¬ y0 = (0 : Int) → (mbud 381 405 [(0, x1)] [] c s ∧ mrecv 405 [(0, x1)] G.1) ∧ mCall O 405 [(0, x1)] G d (mback 381 18 [(3, x0), (0, x1)] [] (c + mmc 405) (s + mms 405) (fun st => mRun O 381 st K) K))) :
  mRun O 381 (14, [(3, x0), (0, x1)], [(0, y0)], c, s, G, d) K := mC_run [0,10,14,21] 3 _ h
theorem m_381_21 {O : mO} {K : mK} {G : mG} {d : mD} {c s : Nat} {x0 x1 y0 : Int}
  (h : mInR y0 ∧ (y0 = (0 : Int) → mRun O 381 (45, [(3, x0), (0, x1)], [], c, s, G, d) K) ∧ (¬ y0 = (0 : Int) → G.1 x0 = 14 ∧ G.1 x0 = 14 ∧ (G.1 x0 = 14 ∧ mfit 0 (0, (d x0 3) + 1)) ∧ (((G.1 (d x0 0) = 102 ∧ -128 ≤ mi2b x1 ∧ mi2b x1 ≤ 127) ∨ (G.1 (d x0 0) = 103 ∧ (mi2b x1 = 0 ∨ mi2b x1 = 1))) ∧ 0 ≤ d x0 3 ∧ d x0 3 < G.2.1 (d x0 0)) ∧ mretk 381 5 ∧ K (.inl (some (3, x0))) G (mset (mset d x0 3 ((d x0 3) + 1)) (d x0 0) (d x0 3) (mi2b x1)))) :
  mRun O 381 (21, [(3, x0), (0, x1)], [(0, y0)], c, s, G, d) K := mC_run [0,10,14,21] 16 _ h
theorem m_382_0 {O : mO} {K : mK} {G : mG} {d : mD} {c s : Nat} {x0 x1 : Int}
  (h : G.1 x0 = 14 ∧ (mbud 382 388 [(0, x1)] [(0, d x0 3)] c s ∧ mrecv 388 [(0, x1)] G.1) ∧ mCall O 388 [(0, x1)] G d (mback 382 7 [(3, x0), (0, x1), (0, d x0 3), mu] [(0, d x0 3)] (c + mmc 388) (s + mms 388) (fun st => mRun O 382 st K) K)) :
  mRun O 382 (0, [(3, x0), (0, x1), mu, mu], [], c, s, G, d) K := mC_run [0,10,17,21,33] 6 _ h
theorem m_382_10 {O : mO} {K : mK} {G : mG} {d : mD} {c s : Nat} {x0 x1 x2 y0 y1 : Int}
  (h : (mbud 382 378 [(3, x0), (0, y0 + y1)] [] c s ∧ mrecv 378 [(3, x0), (0, y0 + y1)] G.1) ∧ mCall O 378 [(3, x0), (0, y0 + y1)] G d (mback 382 14 [(3, x0), (0, x1), (0, x2), (0, y0 + y1)] [] (c + mmc 378) (s + mms 378) (fun st => mRun O 382 st K) K)) :
  mRun O 382 (10, [(3, x0), (0, x1), (0, x2), mu], [(0, y1), (0, y0)], c, s, G, d) K := mC_run [0,10,17,21,33] 5 _ h
theorem m_382_17 {O : mO} {K : mK} {G : mG} {d : mD} {c s : Nat} {x0 x1 x2 x3 : Int}
  (h : (mbud 382 384 [(3, x0)] [] c s ∧ mrecv 384 [(3, x0)] G.1) ∧ mCall O 384 [(3, x0)] G d (mback 382 18 [(3, x0), (0, x1), (0, x2), (0, x3)] [] (c + mmc 384) (s + mms 384) (fun st => mRun O 382 st K) K)) :
  mRun O 382 (17, [(3, x0), (0, x1), (0, x2), (0, x3)], [], c, s, G, d) K := mC_run [0,10,17,21,33] 2 _ h
theorem m_382_21 {O : mO} {K : mK} {G : mG} {d : mD} {c s : Nat} {x0 x1 x2 x3 y0 : Int}
  (h : mInR y0 ∧ (y0 = (0 : Int) → mRun O 382 (37, [(3, x0), (0, x1), (0, x2), (0, x3)], [], c, s, G, d) K) ∧ (¬ y0 = (0 : Int) → G.1 x0 = 14 ∧ (mbud 382 387 [(0, x1), (0, x3), (3, d x0 0)] [] c s ∧ mrecv 387 [(0, x1), (0, x3), (3, d x0 0)] G.1) ∧ mCall O 387 [(0, x1), (0, x3), (3, d x0 0)] G d (mback 382 30 [(3, x0), (0, x1), (0, x2), (0, x3)] [] (c + mmc 387) (s + mms 387) (fun st => mRun O 382 st K) K))) :
  mRun O 382 (21, [(3, x0), (0, x1), (0, x2), (0, x3)], [(0, y0)], c, s, G, d) K := mC_run [0,10,17,21,33] 6 _ h
theorem m_382_33 {O : mO} {K : mK} {G : mG} {d : mD} {c s : Nat} {x0 x1 x2 x3 y0 : Int}
  (h : (G.1 x0 = 14 ∧ mfit 0 (0, x3)) ∧ mretk 382 5 ∧ K (.inl (some (3, x0))) G (mset d x0 3 x3)) :
  mRun O 382 (33, [(3, x0), (0, x1), (0, x2), (0, x3)], [(0, y0)], c, s, G, d) K := mC_run [0,10,17,21,33] 7 _ h
theorem m_383_0 {O : mO} {K : mK} {G : mG} {d : mD} {c s : Nat} {x0 : Int}
  (h : G.1 x0 = 14 ∧ mretk 383 5 ∧ K (.inl (some (3, d x0 0))) G d) :
  mRun O 383 (0, [(3, x0)], [], c, s, G, d) K := mC_run [0] 3 _ h
theorem m_384_0 {O : mO} {K : mK} {G : mG} {d : mD} {c s : Nat} {x0 : Int}
  (h : mInR 1 ∧ ((1 : Int) = (0 : Int) → mRun O 384 (17, [(3, x0)], [], c, s, G, d) K) ∧ (¬ (1 : Int) = (0 : Int) → G.1 x0 = 14 ∧ mInR (d x0 1) ∧ (¬ d x0 1 = (0 : Int) → mRun O 384 (17, [(3, x0)], [], c, s, G, d) K) ∧ (d x0 1 = (0 : Int) → mRun O 384 (18, [(3, x0)], [(0, 1)], c, s, G, d) K))) :
  mRun O 384 (0, [(3, x0)], [], c, s, G, d) K := mC_run [0,17,18] 7 _ h
theorem m_384_17 {O : mO} {K : mK} {G : mG} {d : mD} {c s : Nat} {x0 : Int}
  (h : mRun O 384 (18, [(3, x0)], [(0, 0)], c, s, G, d) K) :
  mRun O 384 (17, [(3, x0)], [], c, s, G, d) K := mC_run [0,17,18] 1 _ h
theorem m_384_18 {O : mO} {K : mK} {G : mG} {d : mD} {c s : Nat} {x0 y0 : Int}
  (h : mret1 384 y0 ∧ K (.inl (some (0, y0))) G d) :
  mRun O 384 (18, [(3, x0)], [(0, y0)], c, s, G, d) K := mC_run [0,17,18] 1 _ h
theorem m_385_0 {O : mO} {K : mK} {G : mG} {d : mD} {c s : Nat} {x0 x1 : Int}
  (h : mInR 1 ∧ ((1 : Int) = (0 : Int) → mRun O 385 (21, [(3, x0), (5, x1)], [], c, s, G, d) K) ∧ (¬ (1 : Int) = (0 : Int) → G.1 x0 = 14 ∧ ((0 ≤ x1 ∧ x1 < tnn) ∧ mroomS 385 [(0, d x0 1)]) ∧ (mInR (d x0 1) ∧ mInR 0) ∧ (d x0 1 = (0 : Int) → mRun O 385 (21, [(3, x0), (5, x1)], [], c, s, G, d) K) ∧ (¬ d x0 1 = (0 : Int) → mRun O 385 (17, [(3, x0), (5, x1)], [], c, s, G, d) K))) :
  mRun O 385 (0, [(3, x0), (5, x1)], [], c, s, G, d) K := mC_run [0,21] 7 _ h
theorem m_385_21 {O : mO} {K : mK} {G : mG} {d : mD} {c s : Nat} {x0 x1 : Int}
  (h : mretk 385 0 ∧ K (.inl none) G d) :
  mRun O 385 (21, [(3, x0), (5, x1)], [], c, s, G, d) K := mC_run [0,21] 1 _ h
theorem m_386_0 {O : mO} {K : mK} {G : mG} {d : mD} {c s : Nat} {x0 x1 x2 : Int}
  (h : (mbud 386 385 [(3, x0), (5, x2)] [] c s ∧ mrecv 385 [(3, x0), (5, x2)] G.1) ∧ mCall O 385 [(3, x0), (5, x2)] G d (mback 386 2 [(3, x0), (0, x1), (5, x2)] [] (c + mmc 385) (s + mms 385) (fun st => mRun O 386 st K) K)) :
  mRun O 386 (0, [(3, x0), (0, x1), (5, x2)], [], c, s, G, d) K := mC_run [0,5] 3 _ h
theorem m_386_5 {O : mO} {K : mK} {G : mG} {d : mD} {c s : Nat} {x0 x1 x2 : Int}
  (h : G.1 x0 = 14 ∧ G.1 x0 = 14 ∧ ((0 ≤ x2 ∧ x2 < tnn) ∧ d x0 1 = 0 ∧ G.1 (d x0 0) = 102 ∧ 0 ≤ x1 ∧ x1 + tsl x2 ≤ G.2.1 (d x0 0) ∧ mroomB 386 []) ∧ mretk 386 0 ∧ K (.inl none) G (mlet d (d x0 0) x1 x2 (tsl x2) (tsc x2))) :
  mRun O 386 (5, [(3, x0), (0, x1), (5, x2)], [], c, s, G, d) K := mC_run [0,5] 8 _ h
theorem m_387_0 {O : mO} {K : mK} {G : mG} {d : mD} {c s : Nat} {x0 x1 x2 : Int}
  (h : mInR x0 ∧ ((0 : Int) ≤ x0 → mRun O 387 (12, [(0, x0), (0, x1), (3, x2), mu, mu, (0, x1), mu], [(0, 0)], c, s, G, d) K) ∧ (x0 < (0 : Int) → mRun O 387 (12, [(0, x0), (0, x1), (3, x2), mu, mu, (0, x1), mu], [(0, 1)], c, s, G, d) K)) :
  mRun O 387 (0, [(0, x0), (0, x1), (3, x2), mu, mu, mu, mu], [], c, s, G, d) K := mC_run [0,12,22,104,118] 6 _ h
theorem m_387_12 {O : mO} {K : mK} {G : mG} {d : mD} {c s : Nat} {x0 x1 x2 x5 y0 : Int}
  (h : mInR y0 ∧ (¬ y0 = (0 : Int) → mRun O 387 (22, [(0, x0), (0, x1), (3, x2), mu, mu, (0, x5), (0, y0)], [], c, s, G, d) K) ∧ (y0 = (0 : Int) → mRun O 387 (22, [(0, -x0), (0, x1), (3, x2), mu, mu, (0, x5), (0, y0)], [], c, s, G, d) K)) :
  mRun O 387 (12, [(0, x0), (0, x1), (3, x2), mu, mu, (0, x5), mu], [(0, y0)], c, s, G, d) K := mC_run [0,12,22,104,118] 6 _ h
theorem m_387_22 {O : mO} {K : mK} {G : mG} {d : mD} {c s : Nat} {x0 x1 x2 x5 x6 : Int} {w3 w4 : mV}
  (h : (mInR x0 ∧ mInR ((-100))) ∧ (((-100) : Int) < x0 → (((3 : Int) = 3 ∨ (3 : Int) = 4) ∧ 0 ≤ -x0 ∧ -x0 < O.1 3) ∧ (((G.1 x2 = 102 ∧ -128 ≤ O.2 3 (-x0) ∧ O.2 3 (-x0) ≤ 127) ∨ (G.1 x2 = 103 ∧ (O.2 3 (-x0) = 0 ∨ O.2 3 (-x0) = 1))) ∧ 0 ≤ x5 + ((-1)) ∧ x5 + ((-1)) < G.2.1 x2) ∧ (mInR x0 ∧ mInR ((-9))) ∧ (((-9) : Int) ≤ x0 → mRun O 387 (104, [(0, x0), (0, x1), (3, x2), w3, w4, (0, x5 + ((-1))), (0, x6)], [], c, s, G, (mset d x2 (x5 + ((-1))) (O.2 3 (-x0)))) K) ∧ (x0 < ((-9) : Int) → (((4 : Int) = 3 ∨ (4 : Int) = 4) ∧ 0 ≤ -x0 ∧ -x0 < O.1 4) ∧ (((G.1 x2 = 102 ∧ -128 ≤ O.2 4 (-x0) ∧ O.2 4 (-x0) ≤ 127) ∨ (G.1 x2 = 103 ∧ (O.2 4 (-x0) = 0 ∨ O.2 4 (-x0) = 1))) ∧ 0 ≤ (x5 + ((-1))) + ((-1)) ∧ (x5 + ((-1))) + ((-1)) < G.2.1 x2) ∧ mRun O 387 (104, [(0, x0), (0, x1), (3, x2), w3, w4, (0, (x5 + ((-1))) + ((-1))), (0, x6)], [], c, s, G, (mset (mset d x2 (x5 + ((-1))) (O.2 3 (-x0))) x2 ((x5 + ((-1))) + ((-1))) (O.2 4 (-x0)))) K)) ∧ (x0 ≤ ((-100) : Int) → (0 ≤ x0 ∧ x0 ≤ 2147483647 ∧ 0 < (100 : Int) ∧ (100 : Int) ≤ 2147483647) ∧ (((3 : Int) = 3 ∨ (3 : Int) = 4) ∧ 0 ≤ ((x0 / 100) * 100) - x0 ∧ ((x0 / 100) * 100) - x0 < O.1 3) ∧ (((G.1 x2 = 102 ∧ -128 ≤ O.2 3 (((x0 / 100) * 100) - x0) ∧ O.2 3 (((x0 / 100) * 100) - x0) ≤ 127) ∨ (G.1 x2 = 103 ∧ (O.2 3 (((x0 / 100) * 100) - x0) = 0 ∨ O.2 3 (((x0 / 100) * 100) - x0) = 1))) ∧ 0 ≤ x5 + ((-1)) ∧ x5 + ((-1)) < G.2.1 x2) ∧ (((4 : Int) = 3 ∨ (4 : Int) = 4) ∧ 0 ≤ ((x0 / 100) * 100) - x0 ∧ ((x0 / 100) * 100) - x0 < O.1 4) ∧ (((G.1 x2 = 102 ∧ -128 ≤ O.2 4 (((x0 / 100) * 100) - x0) ∧ O.2 4 (((x0 / 100) * 100) - x0) ≤ 127) ∨ (G.1 x2 = 103 ∧ (O.2 4 (((x0 / 100) * 100) - x0) = 0 ∨ O.2 4 (((x0 / 100) * 100) - x0) = 1))) ∧ 0 ≤ (x5 + ((-1))) + ((-1)) ∧ (x5 + ((-1))) + ((-1)) < G.2.1 x2) ∧ mRun O 387 (22, [(0, x0 / 100), (0, x1), (3, x2), (0, x0 / 100), (0, ((x0 / 100) * 100) - x0), (0, (x5 + ((-1))) + ((-1))), (0, x6)], [], c, s, G, (mset (mset d x2 (x5 + ((-1))) (O.2 3 (((x0 / 100) * 100) - x0))) x2 ((x5 + ((-1))) + ((-1))) (O.2 4 (((x0 / 100) * 100) - x0)))) K)) :
  mRun O 387 (22, [(0, x0), (0, x1), (3, x2), w3, w4, (0, x5), (0, x6)], [], c, s, G, d) K := mC_run [0,12,22,104,118] 30 _ h
theorem m_387_104 {O : mO} {K : mK} {G : mG} {d : mD} {c s : Nat} {x0 x1 x2 x5 x6 : Int} {w3 w4 : mV}
  (h : mInR x6 ∧ (x6 = (0 : Int) → mRun O 387 (118, [(0, x0), (0, x1), (3, x2), w3, w4, (0, x5), (0, x6)], [], c, s, G, d) K) ∧ (¬ x6 = (0 : Int) → (((G.1 x2 = 102 ∧ -128 ≤ 45 ∧ 45 ≤ 127) ∨ (G.1 x2 = 103 ∧ (45 = 0 ∨ 45 = 1))) ∧ 0 ≤ x5 + ((-1)) ∧ x5 + ((-1)) < G.2.1 x2) ∧ mRun O 387 (118, [(0, x0), (0, x1), (3, x2), w3, w4, (0, x5 + ((-1))), (0, x6)], [], c, s, G, (mset d x2 (x5 + ((-1))) 45)) K)) :
  mRun O 387 (104, [(0, x0), (0, x1), (3, x2), w3, w4, (0, x5), (0, x6)], [], c, s, G, d) K := mC_run [0,12,22,104,118] 7 _ h
theorem m_387_118 {O : mO} {K : mK} {G : mG} {d : mD} {c s : Nat} {x0 x1 x2 x5 x6 : Int} {w3 w4 : mV}
  (h : mret1 387 x5 ∧ K (.inl (some (0, x5))) G d) :
  mRun O 387 (118, [(0, x0), (0, x1), (3, x2), w3, w4, (0, x5), (0, x6)], [], c, s, G, d) K := mC_run [0,12,22,104,118] 2 _ h
theorem m_388_0 {O : mO} {K : mK} {G : mG} {d : mD} {c s : Nat} {x0 : Int}
  (h : mInR x0 ∧ (x0 < (0 : Int) → mRun O 388 (11, [(0, x0), (0, 1), mu, mu], [], c, s, G, d) K) ∧ ((0 : Int) ≤ x0 → mRun O 388 (11, [(0, -x0), (0, 0), mu, mu], [], c, s, G, d) K)) :
  mRun O 388 (0, [(0, x0), mu, mu, mu], [], c, s, G, d) K := mC_run [0,11,16] 9 _ h
theorem m_388_11 {O : mO} {K : mK} {G : mG} {d : mD} {c s : Nat} {x0 x1 : Int}
  (h : mRun O 388 (16, [(0, x0), (0, x1), (0, (-10)), (0, 1)], [], c, s, G, d) K) :
  mRun O 388 (11, [(0, x0), (0, x1), mu, mu], [], c, s, G, d) K := mC_run [0,11,16] 4 _ h
theorem m_388_16 {O : mO} {K : mK} {G : mG} {d : mD} {c s : Nat} {x0 x1 x2 x3 : Int}
  (h : (mInR x3 ∧ mInR 10) ∧ ((10 : Int) ≤ x3 → mret1 388 (10 + x1) ∧ K (.inl (some (0, 10 + x1))) G d) ∧ (x3 < (10 : Int) → (mInR x0 ∧ mInR x2) ∧ (x0 ≤ x2 → mRun O 388 (16, [(0, x0), (0, x1), (0, 10 * x2), (0, x3 + 1)], [], c, s, G, d) K) ∧ (x2 < x0 → mret1 388 (x3 + x1) ∧ K (.inl (some (0, x3 + x1))) G d))) :
  mRun O 388 (16, [(0, x0), (0, x1), (0, x2), (0, x3)], [], c, s, G, d) K := mC_run [0,11,16] 12 _ h
theorem m_389_0 {O : mO} {K : mK} {G : mG} {d : mD} {c s : Nat} {x0 x1 : Int}
  (h : (mbud 389 392 [(3, x0), (3, x1), (3, (-1))] [] c s ∧ mrecv 392 [(3, x0), (3, x1), (3, (-1))] G.1) ∧ mCall O 392 [(3, x0), (3, x1), (3, (-1))] G d (mback 389 3 [(3, x0), (3, x1)] [] (c + mmc 392) (s + mms 392) (fun st => mRun O 389 st K) K)) :
  mRun O 389 (0, [(3, x0), (3, x1)], [], c, s, G, d) K := mC_run [0,6] 4 _ h
theorem m_389_6 {O : mO} {K : mK} {G : mG} {d : mD} {c s : Nat} {x0 x1 : Int}
  (h : mretk 389 0 ∧ K (.inl none) G d) :
  mRun O 389 (6, [(3, x0), (3, x1)], [], c, s, G, d) K := mC_run [0,6] 1 _ h
theorem m_390_0 {O : mO} {K : mK} {G : mG} {d : mD} {c s : Nat} {x0 : Int}
  (h : G.1 x0 = 15 ∧ 100 ≤ G.1 (d x0 0) ∧ (mbud 390 393 [(3, x0)] [(0, G.2.1 (d x0 0))] c s ∧ mrecv 393 [(3, x0)] G.1) ∧ mCall O 393 [(3, x0)] G d (mback 390 6 [(3, x0)] [(0, G.2.1 (d x0 0))] (c + mmc 393) (s + mms 393) (fun st => mRun O 390 st K) K)) :
  mRun O 390 (0, [(3, x0)], [], c, s, G, d) K := mC_run [0,9] 5 _ h
theorem m_390_9 {O : mO} {K : mK} {G : mG} {d : mD} {c s : Nat} {x0 y0 y1 : Int}
  (h : mret1 390 (mishr y0 y1) ∧ K (.inl (some (0, mishr y0 y1))) G d) :
  mRun O 390 (9, [(3, x0)], [(0, y1), (0, y0)], c, s, G, d) K := mC_run [0,9] 2 _ h
theorem m_391_0 {O : mO} {K : mK} {G : mG} {d : mD} {c s : Nat} {x0 x1 : Int}
  (h : (mbud 391 394 [(3, x0)] [] c s ∧ mrecv 394 [(3, x0)] G.1) ∧ mCall O 394 [(3, x0)] G d (mback 391 1 [(3, x0), (0, x1)] [] (c + mmc 394) (s + mms 394) (fun st => mRun O 391 st K) K)) :
  mRun O 391 (0, [(3, x0), (0, x1)], [], c, s, G, d) K := mC_run [0,4,15] 2 _ h
theorem m_391_4 {O : mO} {K : mK} {G : mG} {d : mD} {c s : Nat} {x0 x1 y0 : Int}
  (h : mInR y0 ∧ (y0 = (0 : Int) → mRun O 391 (16, [(3, x0), (0, x1)], [], c, s, G, d) K) ∧ (¬ y0 = (0 : Int) → G.1 x0 = 15 ∧ (mbud 391 404 [(3, d x0 0), (0, x1)] [] c s ∧ mrecv 404 [(3, d x0 0), (0, x1)] G.1) ∧ mCall O 404 [(3, d x0 0), (0, x1)] G d (mback 391 12 [(3, x0), (0, x1)] [] (c + mmc 404) (s + mms 404) (fun st => mRun O 391 st K) K))) :
  mRun O 391 (4, [(3, x0), (0, x1)], [(0, y0)], c, s, G, d) K := mC_run [0,4,15] 5 _ h
theorem m_391_15 {O : mO} {K : mK} {G : mG} {d : mD} {c s : Nat} {x0 x1 y0 : Int}
  (h : mret1 391 y0 ∧ K (.inl (some (0, y0))) G d) :
  mRun O 391 (15, [(3, x0), (0, x1)], [(0, y0)], c, s, G, d) K := mC_run [0,4,15] 1 _ h
theorem m_392_0 {O : mO} {K : mK} {G : mG} {d : mD} {c s : Nat} {x0 x1 x2 : Int}
  (h : (0 ≤ x0 ∧ mroomN 392 [] 12) ∧ (mbud 392 383 [(3, x1)] [] c s ∧ mrecv 383 [(3, x1)] G.1) ∧ mCall O 383 [(3, x1)] G d (mback 392 5 [(3, x0), (3, x1), (3, x2), mu, mu] [] (c + mmc 383) (s + mms 383) (fun st => mRun O 392 st K) K)) :
  mRun O 392 (0, [(3, x0), (3, x1), (3, x2), mu, mu], [], c, s, G, d) K := mC_run [0,8,13,19,35] 4 _ h
theorem m_392_8 {O : mO} {K : mK} {G : mG} {d : mD} {c s : Nat} {x0 x1 x2 y0 : Int}
  (h : 0 ≤ y0 ∧ (mbud 392 402 [(3, x1)] [] c s ∧ mrecv 402 [(3, x1)] G.1) ∧ mCall O 402 [(3, x1)] G d (mback 392 10 [(3, x0), (3, x1), (3, x2), (3, y0), mu] [] (c + mmc 402) (s + mms 402) (fun st => mRun O 392 st K) K)) :
  mRun O 392 (8, [(3, x0), (3, x1), (3, x2), mu, mu], [(3, y0)], c, s, G, d) K := mC_run [0,8,13,19,35] 3 _ h
theorem m_392_13 {O : mO} {K : mK} {G : mG} {d : mD} {c s : Nat} {x0 x1 x2 x3 y0 : Int}
  (h : (mbud 392 384 [(3, x1)] [] c s ∧ mrecv 384 [(3, x1)] G.1) ∧ mCall O 384 [(3, x1)] G d (mback 392 16 [(3, x0), (3, x1), (3, x2), (3, x3), (0, y0)] [] (c + mmc 384) (s + mms 384) (fun st => mRun O 392 st K) K)) :
  mRun O 392 (13, [(3, x0), (3, x1), (3, x2), (3, x3), mu], [(0, y0)], c, s, G, d) K := mC_run [0,8,13,19,35] 3 _ h
theorem m_392_19 {O : mO} {K : mK} {G : mG} {d : mD} {c s : Nat} {x0 x1 x2 x3 x4 y0 : Int}
  (h : mInR y0 ∧ (y0 = (0 : Int) → mRun O 392 (41, [(3, x0), (3, x1), (3, x2), (3, x3), (0, x4)], [], c, s, G, d) K) ∧ (¬ y0 = (0 : Int) → (G.1 x0 = 15 ∧ mfit 2 (0, 0)) ∧ (mbud 392 407 [(3, x3), (0, 0), (0, x4)] [(3, x0)] c s ∧ mrecv 407 [(3, x3), (0, 0), (0, x4)] G.1) ∧ mCall O 407 [(3, x3), (0, 0), (0, x4)] G (mset d x0 1 0) (mback 392 32 [(3, x0), (3, x1), (3, x2), (3, x3), (0, x4)] [(3, x0)] (c + mmc 407) (s + mms 407) (fun st => mRun O 392 st K) K))) :
  mRun O 392 (19, [(3, x0), (3, x1), (3, x2), (3, x3), (0, x4)], [(0, y0)], c, s, G, d) K := mC_run [0,8,13,19,35] 9 _ h
theorem m_392_35 {O : mO} {K : mK} {G : mG} {d : mD} {c s : Nat} {x0 x1 x2 x3 x4 y0 y1 : Int}
  (h : (G.1 y0 = 15 ∧ mfit 4 (3, y1)) ∧ mretk 392 0 ∧ K (.inl none) G (mset d y0 0 y1)) :
  mRun O 392 (35, [(3, x0), (3, x1), (3, x2), (3, x3), (0, x4)], [(3, y1), (3, y0)], c, s, G, d) K := mC_run [0,8,13,19,35] 3 _ h
theorem m_393_0 {O : mO} {K : mK} {G : mG} {d : mD} {c s : Nat} {x0 : Int}
  (h : mInR 1 ∧ ((1 : Int) = (0 : Int) → mRun O 393 (14, [(3, x0)], [(0, 1)], c, s, G, d) K) ∧ (¬ (1 : Int) = (0 : Int) → G.1 x0 = 15 ∧ mRun O 393 (14, [(3, x0)], [(0, d x0 1)], c, s, G, d) K)) :
  mRun O 393 (0, [(3, x0)], [], c, s, G, d) K := mC_run [0,14] 5 _ h
theorem m_393_14 {O : mO} {K : mK} {G : mG} {d : mD} {c s : Nat} {x0 y0 : Int}
  (h : mret1 393 y0 ∧ K (.inl (some (0, y0))) G d) :
  mRun O 393 (14, [(3, x0)], [(0, y0)], c, s, G, d) K := mC_run [0,14] 1 _ h
theorem m_394_0 {O : mO} {K : mK} {G : mG} {d : mD} {c s : Nat} {x0 : Int}
  (h : mInR 1 ∧ ((1 : Int) = (0 : Int) → mRun O 394 (17, [(3, x0)], [], c, s, G, d) K) ∧ (¬ (1 : Int) = (0 : Int) → G.1 x0 = 15 ∧ mInR (d x0 1) ∧ (¬ d x0 1 = (0 : Int) → mRun O 394 (17, [(3, x0)], [], c, s, G, d) K) ∧ (d x0 1 = (0 : Int) → mRun O 394 (18, [(3, x0)], [(0, 1)], c, s, G, d) K))) :
  mRun O 394 (0, [(3, x0)], [], c, s, G, d) K := mC_run [0,17,18] 7 _ h
theorem m_394_17 {O : mO} {K : mK} {G : mG} {d : mD} {c s : Nat} {x0 : Int}
  (h : mRun O 394 (18, [(3, x0)], [(0, 0)], c, s, G, d) K) :
  mRun O 394 (17, [(3, x0)], [], c, s, G, d) K := mC_run [0,17,18] 1 _ h
theorem m_394_18 {O : mO} {K : mK} {G : mG} {d : mD} {c s : Nat} {x0 y0 : Int}
  (h : mret1 394 y0 ∧ K (.inl (some (0, y0))) G d) :
  mRun O 394 (18, [(3, x0)], [(0, y0)], c, s, G, d) K := mC_run [0,17,18] 1 _ h
theorem m_395_0 {O : mO} {K : mK} {G : mG} {d : mD} {c s : Nat} {x0 : Int}
  (h : (mbud 395 376 [(3, x0), (0, 16)] [] c s ∧ mrecv 376 [(3, x0), (0, 16)] G.1) ∧ mCall O 376 [(3, x0), (0, 16)] G d (mback 395 3 [(3, x0)] [] (c + mmc 376) (s + mms 376) (fun st => mRun O 395 st K) K)) :
  mRun O 395 (0, [(3, x0)], [], c, s, G, d) K := mC_run [0,6] 3 _ h
theorem m_395_6 {O : mO} {K : mK} {G : mG} {d : mD} {c s : Nat} {x0 : Int}
  (h : mretk 395 0 ∧ K (.inl none) G d) :
  mRun O 395 (6, [(3, x0)], [], c, s, G, d) K := mC_run [0,6] 1 _ h
theorem m_396_0 {O : mO} {K : mK} {G : mG} {d : mD} {c s : Nat} {x0 x1 : Int}
  (h : (mbud 396 377 [(3, x0), (5, x1)] [] c s ∧ mrecv 377 [(3, x0), (5, x1)] G.1) ∧ mCall O 377 [(3, x0), (5, x1)] G d (mback 396 2 [(3, x0), (5, x1)] [] (c + mmc 377) (s + mms 377) (fun st => mRun O 396 st K) K)) :
  mRun O 396 (0, [(3, x0), (5, x1)], [], c, s, G, d) K := mC_run [0,5] 3 _ h
theorem m_396_5 {O : mO} {K : mK} {G : mG} {d : mD} {c s : Nat} {x0 x1 : Int}
  (h : mretk 396 0 ∧ K (.inl none) G d) :
  mRun O 396 (5, [(3, x0), (5, x1)], [], c, s, G, d) K := mC_run [0,5] 1 _ h
theorem m_397_0 {O : mO} {K : mK} {G : mG} {d : mD} {c s : Nat} {x0 x1 : Int}
  (h : (mbud 397 380 [(3, x0), (5, x1)] [] c s ∧ mrecv 380 [(3, x0), (5, x1)] G.1) ∧ mCall O 380 [(3, x0), (5, x1)] G d (mback 397 2 [(3, x0), (5, x1)] [] (c + mmc 380) (s + mms 380) (fun st => mRun O 397 st K) K)) :
  mRun O 397 (0, [(3, x0), (5, x1)], [], c, s, G, d) K := mC_run [0,5] 3 _ h
theorem m_397_5 {O : mO} {K : mK} {G : mG} {d : mD} {c s : Nat} {x0 x1 y0 : Int}
  (h : mretk 397 5 ∧ K (.inl (some (3, x0))) G d) :
  mRun O 397 (5, [(3, x0), (5, x1)], [(3, y0)], c, s, G, d) K := mC_run [0,5] 3 _ h
theorem m_398_0 {O : mO} {K : mK} {G : mG} {d : mD} {c s : Nat} {x0 x1 : Int}
  (h : (mbud 398 397 [(3, x0), (5, x1)] [] c s ∧ mrecv 397 [(3, x0), (5, x1)] G.1) ∧ mCall O 397 [(3, x0), (5, x1)] G d (mback 398 2 [(3, x0), (5, x1)] [] (c + mmc 397) (s + mms 397) (fun st => mRun O 398 st K) K)) :
  mRun O 398 (0, [(3, x0), (5, x1)], [], c, s, G, d) K := mC_run [0,5] 3 _ h
theorem m_398_5 {O : mO} {K : mK} {G : mG} {d : mD} {c s : Nat} {x0 x1 y0 : Int}
  (h : mretk 398 5 ∧ K (.inl (some (3, y0))) G d) :
  mRun O 398 (5, [(3, x0), (5, x1)], [(3, y0)], c, s, G, d) K := mC_run [0,5] 1 _ h
theorem m_399_0 {O : mO} {K : mK} {G : mG} {d : mD} {c s : Nat} {x0 x1 : Int}
  (h : (mbud 399 381 [(3, x0), (0, x1)] [] c s ∧ mrecv 381 [(3, x0), (0, x1)] G.1) ∧ mCall O 381 [(3, x0), (0, x1)] G d (mback 399 2 [(3, x0), (0, x1)] [] (c + mmc 381) (s + mms 381) (fun st => mRun O 399 st K) K)) :
  mRun O 399 (0, [(3, x0), (0, x1)], [], c, s, G, d) K := mC_run [0,5] 3 _ h
theorem m_399_5 {O : mO} {K : mK} {G : mG} {d : mD} {c s : Nat} {x0 x1 y0 : Int}
  (h : mretk 399 5 ∧ K (.inl (some (3, x0))) G d) :
  mRun O 399 (5, [(3, x0), (0, x1)], [(3, y0)], c, s, G, d) K := mC_run [0,5] 3 _ h
theorem m_400_0 {O : mO} {K : mK} {G : mG} {d : mD} {c s : Nat} {x0 x1 : Int}
  (h : (mbud 400 382 [(3, x0), (0, x1)] [] c s ∧ mrecv 382 [(3, x0), (0, x1)] G.1) ∧ mCall O 382 [(3, x0), (0, x1)] G d (mback 400 2 [(3, x0), (0, x1)] [] (c + mmc 382) (s + mms 382) (fun st => mRun O 400 st K) K)) :
  mRun O 400 (0, [(3, x0), (0, x1)], [], c, s, G, d) K := mC_run [0,5] 3 _ h
theorem m_400_5 {O : mO} {K : mK} {G : mG} {d : mD} {c s : Nat} {x0 x1 y0 : Int}
  (h : mretk 400 5 ∧ K (.inl (some (3, x0))) G d) :
  mRun O 400 (5, [(3, x0), (0, x1)], [(3, y0)], c, s, G, d) K := mC_run [0,5] 3 _ h
theorem m_401_0 {O : mO} {K : mK} {G : mG} {d : mD} {c s : Nat} {x0 : Int}
  (h : (0 ≤ G.2.2 ∧ c + 1 ≤ mmc 401 ∧ s + mnf 15 ≤ mms 401) ∧ mRun O 401 (3, [(3, x0)], [(3, G.2.2)], c + 1, s + mnf 15, (mkind G.1 G.2.2 (15 : Int), mkind G.2.1 G.2.2 0, mnxt G.2.2), (fun b j => if b = G.2.2 then (if mfty (64 * 15 + j.toNat) = 4 then -1 else 0) else d b j)) K) :
  mRun O 401 (0, [(3, x0)], [], c, s, G, d) K := mC_run [0,3,8] 1 _ h
theorem m_401_3 {O : mO} {K : mK} {G : mG} {d : mD} {c s : Nat} {x0 y0 : Int}
  (h : (mbud 401 389 [(3, y0), (3, x0)] [(3, y0)] c s ∧ mrecv 389 [(3, y0), (3, x0)] G.1) ∧ mCall O 389 [(3, y0), (3, x0)] G d (mback 401 5 [(3, x0)] [(3, y0)] (c + mmc 389) (s + mms 389) (fun st => mRun O 401 st K) K)) :
  mRun O 401 (3, [(3, x0)], [(3, y0)], c, s, G, d) K := mC_run [0,3,8] 3 _ h
theorem m_401_8 {O : mO} {K : mK} {G : mG} {d : mD} {c s : Nat} {x0 y0 : Int}
  (h : mretk 401 5 ∧ K (.inl (some (3, y0))) G d) :
  mRun O 401 (8, [(3, x0)], [(3, y0)], c, s, G, d) K := mC_run [0,3,8] 1 _ h
theorem m_402_0 {O : mO} {K : mK} {G : mG} {d : mD} {c s : Nat} {x0 : Int}
  (h : (mbud 402 403 [(3, x0)] [] c s ∧ mrecv 403 [(3, x0)] G.1) ∧ mCall O 403 [(3, x0)] G d (mback 402 1 [(3, x0)] [] (c + mmc 403) (s + mms 403) (fun st => mRun O 402 st K) K)) :
  mRun O 402 (0, [(3, x0)], [], c, s, G, d) K := mC_run [0,4] 2 _ h
theorem m_402_4 {O : mO} {K : mK} {G : mG} {d : mD} {c s : Nat} {x0 y0 : Int}
  (h : mret1 402 y0 ∧ K (.inl (some (0, y0))) G d) :
  mRun O 402 (4, [(3, x0)], [(0, y0)], c, s, G, d) K := mC_run [0,4] 1 _ h
theorem m_403_0 {O : mO} {K : mK} {G : mG} {d : mD} {c s : Nat} {x0 : Int}
  (h : G.1 x0 = 14 ∧ mret1 403 (d x0 3) ∧ K (.inl (some (0, d x0 3))) G d) :
  mRun O 403 (0, [(3, x0)], [], c, s, G, d) K := mC_run [0] 3 _ h
theorem m_404_0 {O : mO} {K : mK} {G : mG} {d : mD} {c s : Nat} {x0 x1 : Int}
  (h : 100 ≤ G.1 x0 ∧ (0 ≤ x1 ∧ x1 < G.2.1 x0 ∧ G.2.1 x0 ≤ 2147483647 ∧ mroomS 404 []) ∧ ((G.1 x0 = 102 ∨ G.1 x0 = 103) ∧ 0 ≤ x1 ∧ x1 < G.2.1 x0) ∧ mret1 404 (mi2c (miand (d x0 x1) 255)) ∧ K (.inl (some (0, mi2c (miand (d x0 x1) 255)))) G d) :
  mRun O 404 (0, [(3, x0), (0, x1)], [], c, s, G, d) K := mC_run [0] 11 _ h
theorem m_405_0 {O : mO} {K : mK} {G : mG} {d : mD} {c s : Nat} {x0 : Int}
  (h : (mInR x0 ∧ mInR 255) ∧ ((255 : Int) < x0 → mRun O 405 (12, [(0, x0)], [(0, 0)], c, s, G, d) K) ∧ (x0 ≤ (255 : Int) → mRun O 405 (12, [(0, x0)], [(0, 1)], c, s, G, d) K)) :
  mRun O 405 (0, [(0, x0)], [], c, s, G, d) K := mC_run [0,12] 5 _ h
theorem m_405_12 {O : mO} {K : mK} {G : mG} {d : mD} {c s : Nat} {x0 y0 : Int}
  (h : mret1 405 y0 ∧ K (.inl (some (0, y0))) G d) :
  mRun O 405 (12, [(0, x0)], [(0, y0)], c, s, G, d) K := mC_run [0,12] 1 _ h
theorem m_406_0 {O : mO} {K : mK} {G : mG} {d : mD} {c s : Nat} {x0 x1 : Int}
  (h : 100 ≤ G.1 x0 ∧ (mInR x1 ∧ mInR (G.2.1 x0)) ∧ (¬ x1 = G.2.1 x0 → (0 ≤ x1 ∧ x1 ≤ 100000 ∧ 0 ≤ G.2.2 ∧ c + 1 ≤ mmc 406 ∧ s + x1.toNat ≤ mms 406 ∧ matyp .byte ≠ 199) ∧ mRun O 406 (17, [(3, x0), (0, x1), mu], [(3, G.2.2)], c + 1, s + x1.toNat, (mkind G.1 G.2.2 (matyp .byte), mkind G.2.1 G.2.2 x1, mnxt G.2.2), (mfill d G.2.2 0)) K) ∧ (x1 = G.2.1 x0 → mRun O 406 (6, [(3, x0), (0, x1), mu], [], c, s, G, d) K)) :
  mRun O 406 (0, [(3, x0), (0, x1), mu], [], c, s, G, d) K := mC_run [0,17] 6 _ h
theorem m_406_17 {O : mO} {K : mK} {G : mG} {d : mD} {c s : Nat} {x0 x1 y0 : Int}
  (h : 0 ≤ y0 ∧ 100 ≤ G.1 x0 ∧ (mInR (G.2.1 x0) ∧ mInR x1 ∧ mroomN 406 [(0, 0), (3, y0), (0, 0), (3, x0)] 13) ∧ ((G.1 x0 = 100 ∨ G.1 x0 = 101 ∨ G.1 x0 = 102 ∨ G.1 x0 = 103) ∧ G.1 y0 = G.1 x0 ∧ 0 ≤ (0 : Int) ∧ 0 ≤ (0 : Int) ∧ 0 ≤ mmin (G.2.1 x0) x1 ∧ mmin (G.2.1 x0) x1 ≤ 100000 ∧ (0 : Int) ≤ 100000 ∧ (0 : Int) ≤ 100000 ∧ 0 + (mmin (G.2.1 x0) x1) ≤ G.2.1 x0 ∧ 0 + (mmin (G.2.1 x0) x1) ≤ G.2.1 y0 ∧ mroomN 406 [] 18 ∧ mcpk (G.1 x0) (d x0) 0 (mmin (G.2.1 x0) x1)) ∧ mretk 406 5 ∧ K (.inl (some (3, y0))) G (mcopy d x0 0 y0 0 (mmin (G.2.1 x0) x1))) :
  mRun O 406 (17, [(3, x0), (0, x1), mu], [(3, y0)], c, s, G, d) K := mC_run [0,17] 12 _ h
theorem m_407_0 {O : mO} {K : mK} {G : mG} {d : mD} {c s : Nat} {x0 x1 x2 : Int}
  (h : mInR x1 ∧ (¬ x1 = (0 : Int) → mRun O 407 (10, [(3, x0), (0, x1), (0, x2)], [], c, s, G, d) K) ∧ (x1 = (0 : Int) → 100 ≤ G.1 x0 ∧ (mInR x2 ∧ mInR (G.2.1 x0)) ∧ (x2 = G.2.1 x0 → (G.1 x0 = 102 ∧ 0 ≤ G.2.2 ∧ c + 1 ≤ mmc 407 ∧ s + (G.2.1 x0).toNat ≤ mms 407 ∧ mroomN 407 [] 18 ∧ mcpk 102 (d x0) 0 (G.2.1 x0)) ∧ mRun O 407 (21, [(3, x0), (0, x1), (0, x2)], [(3, G.2.2)], c + 1, s + (G.2.1 x0).toNat, (mkind G.1 G.2.2 102, mkind G.2.1 G.2.2 (G.2.1 x0), mnxt G.2.2), (fun b j => if b = G.2.2 then d x0 j else d b j)) K) ∧ (¬ x2 = G.2.1 x0 → mRun O 407 (10, [(3, x0), (0, x1), (0, x2)], [], c, s, G, d) K))) :
  mRun O 407 (0, [(3, x0), (0, x1), (0, x2)], [], c, s, G, d) K := mC_run [0,10,16,21] 8 _ h
theorem m_407_10 {O : mO} {K : mK} {G : mG} {d : mD} {c s : Nat} {x0 x1 x2 : Int}
  (h : (mbud 407 408 [(3, x0), (0, x1), (0, x2)] [] c s ∧ mrecv 408 [(3, x0), (0, x1), (0, x2)] G.1) ∧ mCall O 408 [(3, x0), (0, x1), (0, x2)] G d (mback 407 13 [(3, x0), (0, x1), (0, x2)] [] (c + mmc 408) (s + mms 408) (fun st => mRun O 407 st K) K)) :
  mRun O 407 (10, [(3, x0), (0, x1), (0, x2)], [], c, s, G, d) K := mC_run [0,10,16,21] 4 _ h
theorem m_407_16 {O : mO} {K : mK} {G : mG} {d : mD} {c s : Nat} {x0 x1 x2 y0 : Int}
  (h : mretk 407 5 ∧ K (.inl (some (3, y0))) G d) :
  mRun O 407 (16, [(3, x0), (0, x1), (0, x2)], [(3, y0)], c, s, G, d) K := mC_run [0,10,16,21] 1 _ h
theorem m_407_21 {O : mO} {K : mK} {G : mG} {d : mD} {c s : Nat} {x0 x1 x2 y0 : Int}
  (h : G.1 y0 = 102 ∧ mretk 407 5 ∧ K (.inl (some (3, y0))) G d) :
  mRun O 407 (21, [(3, x0), (0, x1), (0, x2)], [(3, y0)], c, s, G, d) K := mC_run [0,10,16,21] 2 _ h
theorem m_408_0 {O : mO} {K : mK} {G : mG} {d : mD} {c s : Nat} {x0 x1 x2 : Int}
  (h : (mbud 408 409 [(0, x1), (0, x2)] [] c s ∧ mrecv 409 [(0, x1), (0, x2)] G.1) ∧ mCall O 409 [(0, x1), (0, x2)] G d (mback 408 2 [(3, x0), (0, x1), (0, x2), mu, mu] [] (c + mmc 409) (s + mms 409) (fun st => mRun O 408 st K) K)) :
  mRun O 408 (0, [(3, x0), (0, x1), (0, x2), mu, mu], [], c, s, G, d) K := mC_run [0,5,12] 3 _ h
theorem m_408_5 {O : mO} {K : mK} {G : mG} {d : mD} {c s : Nat} {x0 x1 x2 : Int}
  (h : (0 ≤ x2 - x1 ∧ x2 - x1 ≤ 100000 ∧ 0 ≤ G.2.2 ∧ c + 1 ≤ mmc 408 ∧ s + (x2 - x1).toNat ≤ mms 408 ∧ matyp .byte ≠ 199) ∧ mRun O 408 (12, [(3, x0), (0, x1), (0, x2), (0, x2 - x1), mu], [(3, G.2.2)], c + 1, s + (x2 - x1).toNat, (mkind G.1 G.2.2 (matyp .byte), mkind G.2.1 G.2.2 (x2 - x1), mnxt G.2.2), (mfill d G.2.2 0)) K) :
  mRun O 408 (5, [(3, x0), (0, x1), (0, x2), mu, mu], [], c, s, G, d) K := mC_run [0,5,12] 6 _ h
theorem m_408_12 {O : mO} {K : mK} {G : mG} {d : mD} {c s : Nat} {x0 x1 x2 x3 y0 : Int}
  (h : 0 ≤ y0 ∧ 100 ≤ G.1 x0 ∧ (mInR ((G.2.1 x0) - x1) ∧ mInR x3 ∧ mroomN 408 [(0, 0), (3, y0), (0, x1), (3, x0)] 13) ∧ ((G.1 x0 = 100 ∨ G.1 x0 = 101 ∨ G.1 x0 = 102 ∨ G.1 x0 = 103) ∧ G.1 y0 = G.1 x0 ∧ 0 ≤ x1 ∧ 0 ≤ (0 : Int) ∧ 0 ≤ mmin ((G.2.1 x0) - x1) x3 ∧ mmin ((G.2.1 x0) - x1) x3 ≤ 100000 ∧ x1 ≤ 100000 ∧ (0 : Int) ≤ 100000 ∧ x1 + (mmin ((G.2.1 x0) - x1) x3) ≤ G.2.1 x0 ∧ 0 + (mmin ((G.2.1 x0) - x1) x3) ≤ G.2.1 y0 ∧ mroomN 408 [] 18 ∧ mcpk (G.1 x0) (d x0) x1 (mmin ((G.2.1 x0) - x1) x3)) ∧ mretk 408 5 ∧ K (.inl (some (3, y0))) G (mcopy d x0 x1 y0 0 (mmin ((G.2.1 x0) - x1) x3))) :
  mRun O 408 (12, [(3, x0), (0, x1), (0, x2), (0, x3), mu], [(3, y0)], c, s, G, d) K := mC_run [0,5,12] 14 _ h
theorem m_409_0 {O : mO} {K : mK} {G : mG} {d : mD} {c s : Nat} {x0 x1 : Int}
  (h : (mInR x1 ∧ mInR x0) ∧ (x0 ≤ x1 → mretk 409 0 ∧ K (.inl none) G d) ∧ (x1 < x0 → mRun O 409 (5, [(0, x0), (0, x1)], [], c, s, G, d) K)) :
  mRun O 409 (0, [(0, x0), (0, x1)], [], c, s, G, d) K := mC_run [0] 4 _ h
theorem m_410_0 {O : mO} {K : mK} {G : mG} {d : mD} {c s : Nat} {x0 x1 x2 : Int}
  (h : (mInR x1 ∧ mInR x2 ∧ mroomN 410 [(0, x0)] 13) ∧ (mInR 0 ∧ mInR (x0 + (mmax x1 x2))) ∧ (x0 + (mmax x1 x2) ≤ (0 : Int) → mRun O 410 (21, [(0, x0), (0, x1), (0, x2), (0, x0 + (mmax x1 x2))], [], c, s, G, d) K) ∧ ((0 : Int) < x0 + (mmax x1 x2) → (mInR (x0 + (mmax x1 x2)) ∧ mInR 2147483639) ∧ ((2147483639 : Int) < x0 + (mmax x1 x2) → mRun O 410 (21, [(0, x0), (0, x1), (0, x2), (0, x0 + (mmax x1 x2))], [], c, s, G, d) K) ∧ (x0 + (mmax x1 x2) ≤ (2147483639 : Int) → mret1 410 (x0 + (mmax x1 x2)) ∧ K (.inl (some (0, x0 + (mmax x1 x2)))) G d))) :
  mRun O 410 (0, [(0, x0), (0, x1), (0, x2), mu], [], c, s, G, d) K := mC_run [0] 14 _ h
theorem m_367_0 {O : mO} {K : mK} {G : mG} {d : mD} {c s : Nat} {x0 x1 : Int}
  (h : mRun O 367 (4, [(3, x0), (0, x1), (0, 0), (0, x1)], [], c, s, G, d) K) :
  mRun O 367 (0, [(3, x0), (0, x1), mu, mu], [], c, s, G, d) K := mC_run [0,4,20,28,37] 4 _ h
theorem m_367_4 {O : mO} {K : mK} {G : mG} {d : mD} {c s : Nat} {x0 x1 x2 x3 : Int}
  (h : (mInR x3 ∧ mInR (x1 + 4)) ∧ (x1 + 4 ≤ x3 → mret1 367 x2 ∧ K (.inl (some (0, x2))) G d) ∧ (x3 < x1 + 4 → (mbud 367 390 [(3, x0)] [(0, x3), (0, mishl x2 8)] c s ∧ mrecv 390 [(3, x0)] G.1) ∧ mCall O 390 [(3, x0)] G d (mback 367 17 [(3, x0), (0, x1), (0, x2), (0, x3)] [(0, x3), (0, mishl x2 8)] (c + mmc 390) (s + mms 390) (fun st => mRun O 367 st K) K))) :
  mRun O 367 (4, [(3, x0), (0, x1), (0, x2), (0, x3)], [], c, s, G, d) K := mC_run [0,4,20,28,37] 11 _ h
theorem m_367_20 {O : mO} {K : mK} {G : mG} {d : mD} {c s : Nat} {x0 x1 x2 x3 y0 y1 y2 : Int}
  (h : (mInR y1 ∧ mInR y2) ∧ (y2 ≤ y1 → mRun O 367 (37, [(3, x0), (0, x1), (0, x2), (0, x3)], [(0, 32), (0, y0)], c, s, G, d) K) ∧ (y1 < y2 → (mbud 367 391 [(3, x0), (0, x3)] [(0, y0)] c s ∧ mrecv 391 [(3, x0), (0, x3)] G.1) ∧ mCall O 391 [(3, x0), (0, x3)] G d (mback 367 25 [(3, x0), (0, x1), (0, x2), (0, x3)] [(0, y0)] (c + mmc 391) (s + mms 391) (fun st => mRun O 367 st K) K))) :
  mRun O 367 (20, [(3, x0), (0, x1), (0, x2), (0, x3)], [(0, y2), (0, y1), (0, y0)], c, s, G, d) K := mC_run [0,4,20,28,37] 4 _ h
theorem m_367_28 {O : mO} {K : mK} {G : mG} {d : mD} {c s : Nat} {x0 x1 x2 x3 y0 y1 : Int}
  (h : mRun O 367 (37, [(3, x0), (0, x1), (0, x2), (0, x3)], [(0, miand y1 255), (0, y0)], c, s, G, d) K) :
  mRun O 367 (28, [(3, x0), (0, x1), (0, x2), (0, x3)], [(0, y1), (0, y0)], c, s, G, d) K := mC_run [0,4,20,28,37] 3 _ h
theorem m_367_37 {O : mO} {K : mK} {G : mG} {d : mD} {c s : Nat} {x0 x1 x2 x3 y0 y1 : Int}
  (h : mRun O 367 (4, [(3, x0), (0, x1), (0, mior y0 y1), (0, x3 + 1)], [], c, s, G, d) K) :
  mRun O 367 (37, [(3, x0), (0, x1), (0, x2), (0, x3)], [(0, y1), (0, y0)], c, s, G, d) K := mC_run [0,4,20,28,37] 4 _ h
theorem m_368_0 {O : mO} {K : mK} {G : mG} {d : mD} {c s : Nat} {x0 x1 : Int}
  (h : mRun O 368 (2, [(3, x0), (3, x1), (0, 0), mu], [], c, s, G, d) K) :
  mRun O 368 (0, [(3, x0), (3, x1), mu, mu], [], c, s, G, d) K := mC_run [0,2,7,16,23,31,39,47,50,62,65] 2 _ h
theorem m_368_2 {O : mO} {K : mK} {G : mG} {d : mD} {c s : Nat} {x0 x1 x2 : Int} {w3 : mV}
  (h : (mbud 368 390 [(3, x1)] [(0, x2)] c s ∧ mrecv 390 [(3, x1)] G.1) ∧ mCall O 390 [(3, x1)] G d (mback 368 4 [(3, x0), (3, x1), (0, x2), w3] [(0, x2)] (c + mmc 390) (s + mms 390) (fun st => mRun O 368 st K) K)) :
  mRun O 368 (2, [(3, x0), (3, x1), (0, x2), w3], [], c, s, G, d) K := mC_run [0,2,7,16,23,31,39,47,50,62,65] 3 _ h
theorem m_368_7 {O : mO} {K : mK} {G : mG} {d : mD} {c s : Nat} {x0 x1 x2 y0 y1 : Int} {w3 : mV}
  (h : (mInR y0 ∧ mInR y1) ∧ (y1 ≤ y0 → (mbud 368 390 [(3, x1)] [(3, x0)] c s ∧ mrecv 390 [(3, x1)] G.1) ∧ mCall O 390 [(3, x1)] G d (mback 368 59 [(3, x0), (3, x1), (0, x2), w3] [(3, x0)] (c + mmc 390) (s + mms 390) (fun st => mRun O 368 st K) K)) ∧ (y0 < y1 → (mbud 368 367 [(3, x1), (0, x2)] [(3, x0)] c s ∧ mrecv 367 [(3, x1), (0, x2)] G.1) ∧ mCall O 367 [(3, x1), (0, x2)] G d (mback 368 13 [(3, x0), (3, x1), (0, x2), w3] [(3, x0)] (c + mmc 367) (s + mms 367) (fun st => mRun O 368 st K) K))) :
  mRun O 368 (7, [(3, x0), (3, x1), (0, x2), w3], [(0, y1), (0, y0)], c, s, G, d) K := mC_run [0,2,7,16,23,31,39,47,50,62,65] 5 _ h
theorem m_368_16 {O : mO} {K : mK} {G : mG} {d : mD} {c s : Nat} {x0 x1 x2 y0 y1 : Int} {w3 : mV}
  (h : (mbud 368 367 [(3, x1), (0, x2 + 4)] [(0, y1), (3, y0)] c s ∧ mrecv 367 [(3, x1), (0, x2 + 4)] G.1) ∧ mCall O 367 [(3, x1), (0, x2 + 4)] G d (mback 368 20 [(3, x0), (3, x1), (0, x2), w3] [(0, y1), (3, y0)] (c + mmc 367) (s + mms 367) (fun st => mRun O 368 st K) K)) :
  mRun O 368 (16, [(3, x0), (3, x1), (0, x2), w3], [(0, y1), (3, y0)], c, s, G, d) K := mC_run [0,2,7,16,23,31,39,47,50,62,65] 5 _ h
theorem m_368_23 {O : mO} {K : mK} {G : mG} {d : mD} {c s : Nat} {x0 x1 x2 y0 y1 y2 : Int} {w3 : mV}
  (h : (mbud 368 367 [(3, x1), (0, x2 + 8)] [(0, y2), (0, y1), (3, y0)] c s ∧ mrecv 367 [(3, x1), (0, x2 + 8)] G.1) ∧ mCall O 367 [(3, x1), (0, x2 + 8)] G d (mback 368 28 [(3, x0), (3, x1), (0, x2), w3] [(0, y2), (0, y1), (3, y0)] (c + mmc 367) (s + mms 367) (fun st => mRun O 368 st K) K)) :
  mRun O 368 (23, [(3, x0), (3, x1), (0, x2), w3], [(0, y2), (0, y1), (3, y0)], c, s, G, d) K := mC_run [0,2,7,16,23,31,39,47,50,62,65] 5 _ h
theorem m_368_31 {O : mO} {K : mK} {G : mG} {d : mD} {c s : Nat} {x0 x1 x2 y0 y1 y2 y3 : Int} {w3 : mV}
  (h : (mbud 368 367 [(3, x1), (0, x2 + 12)] [(0, y3), (0, y2), (0, y1), (3, y0)] c s ∧ mrecv 367 [(3, x1), (0, x2 + 12)] G.1) ∧ mCall O 367 [(3, x1), (0, x2 + 12)] G d (mback 368 36 [(3, x0), (3, x1), (0, x2), w3] [(0, y3), (0, y2), (0, y1), (3, y0)] (c + mmc 367) (s + mms 367) (fun st => mRun O 368 st K) K)) :
  mRun O 368 (31, [(3, x0), (3, x1), (0, x2), w3], [(0, y3), (0, y2), (0, y1), (3, y0)], c, s, G, d) K := mC_run [0,2,7,16,23,31,39,47,50,62,65] 5 _ h
theorem m_368_39 {O : mO} {K : mK} {G : mG} {d : mD} {c s : Nat} {x0 x1 x2 y0 y1 y2 y3 y4 : Int} {w3 : mV}
  (h : (mbud 368 367 [(3, x1), (0, x2 + 16)] [(0, y4), (0, y3), (0, y2), (0, y1), (3, y0)] c s ∧ mrecv 367 [(3, x1), (0, x2 + 16)] G.1) ∧ mCall O 367 [(3, x1), (0, x2 + 16)] G d (mback 368 44 [(3, x0), (3, x1), (0, x2), w3] [(0, y4), (0, y3), (0, y2), (0, y1), (3, y0)] (c + mmc 367) (s + mms 367) (fun st => mRun O 368 st K) K)) :
  mRun O 368 (39, [(3, x0), (3, x1), (0, x2), w3], [(0, y4), (0, y3), (0, y2), (0, y1), (3, y0)], c, s, G, d) K := mC_run [0,2,7,16,23,31,39,47,50,62,65] 5 _ h
theorem m_368_47 {O : mO} {K : mK} {G : mG} {d : mD} {c s : Nat} {x0 x1 x2 y0 y1 y2 y3 y4 y5 : Int} {w3 : mV}
  (h : (mbud 368 118 [(3, y0), (0, y1), (0, y2), (0, y3), (0, y4), (0, y5)] [] c s ∧ mrecv 118 [(3, y0), (0, y1), (0, y2), (0, y3), (0, y4), (0, y5)] G.1) ∧ mCall O 118 [(3, y0), (0, y1), (0, y2), (0, y3), (0, y4), (0, y5)] G d (mback 368 47 [(3, x0), (3, x1), (0, x2), w3] [] (c + mmc 118) (s + mms 118) (fun st => mRun O 368 st K) K)) :
  mRun O 368 (47, [(3, x0), (3, x1), (0, x2), w3], [(0, y5), (0, y4), (0, y3), (0, y2), (0, y1), (3, y0)], c, s, G, d) K := mC_run [0,2,7,16,23,31,39,47,50,62,65] 1 _ h
theorem m_368_50 {O : mO} {K : mK} {G : mG} {d : mD} {c s : Nat} {x0 x1 x2 y0 : Int} {w3 : mV}
  (h : mRun O 368 (2, [(3, x0), (3, x1), (0, x2 + 20), (0, y0)], [], c, s, G, d) K) :
  mRun O 368 (50, [(3, x0), (3, x1), (0, x2), w3], [(0, y0)], c, s, G, d) K := mC_run [0,2,7,16,23,31,39,47,50,62,65] 3 _ h
theorem m_368_62 {O : mO} {K : mK} {G : mG} {d : mD} {c s : Nat} {x0 x1 x2 y0 y1 : Int} {w3 : mV}
  (h : (mbud 368 119 [(3, y0), (0, y1)] [] c s ∧ mrecv 119 [(3, y0), (0, y1)] G.1) ∧ mCall O 119 [(3, y0), (0, y1)] G d (mback 368 62 [(3, x0), (3, x1), (0, x2), w3] [] (c + mmc 119) (s + mms 119) (fun st => mRun O 368 st K) K)) :
  mRun O 368 (62, [(3, x0), (3, x1), (0, x2), w3], [(0, y1), (3, y0)], c, s, G, d) K := mC_run [0,2,7,16,23,31,39,47,50,62,65] 1 _ h
theorem m_368_65 {O : mO} {K : mK} {G : mG} {d : mD} {c s : Nat} {x0 x1 x2 y0 : Int} {w3 : mV}
  (h : mretk 368 0 ∧ K (.inl none) G d) :
  mRun O 368 (65, [(3, x0), (3, x1), (0, x2), w3], [(0, y0)], c, s, G, d) K := mC_run [0,2,7,16,23,31,39,47,50,62,65] 2 _ h
theorem m_373_0 {O : mO} {K : mK} {G : mG} {d : mD} {c s : Nat} {x0 x1 x2 : Int}
  (h : (G.1 x2 = 100 ∧ 0 ≤ 0 ∧ 0 < G.2.1 x2) ∧ (mInR (d x2 0) ∧ mInR 10) ∧ (¬ d x2 0 = (10 : Int) → mRun O 373 (38, [(3, x0), (3, x1), (3, x2)], [], c, s, G, d) K) ∧ (d x2 0 = (10 : Int) → (0 ≤ G.2.2 ∧ c + 1 ≤ mmc 373 ∧ s + mnf 14 ≤ mms 373) ∧ mRun O 373 (12, [(3, x0), (3, x1), (3, x2)], [(3, G.2.2), (3, x0)], c + 1, s + mnf 14, (mkind G.1 G.2.2 (14 : Int), mkind G.2.1 G.2.2 0, mnxt G.2.2), (fun b j => if b = G.2.2 then (if mfty (64 * 14 + j.toNat) = 4 then -1 else 0) else d b j)) K)) :
  mRun O 373 (0, [(3, x0), (3, x1), (3, x2)], [], c, s, G, d) K := mC_run [0,12,16,21,32,35,38] 7 _ h
theorem m_373_12 {O : mO} {K : mK} {G : mG} {d : mD} {c s : Nat} {x0 x1 x2 y0 y1 : Int}
  (h : (mbud 373 395 [(3, y1)] [(3, y1), (3, y0)] c s ∧ mrecv 395 [(3, y1)] G.1) ∧ mCall O 395 [(3, y1)] G d (mback 373 13 [(3, x0), (3, x1), (3, x2)] [(3, y1), (3, y0)] (c + mmc 395) (s + mms 395) (fun st => mRun O 373 st K) K)) :
  mRun O 373 (12, [(3, x0), (3, x1), (3, x2)], [(3, y1), (3, y0)], c, s, G, d) K := mC_run [0,12,16,21,32,35,38] 2 _ h
theorem m_373_16 {O : mO} {K : mK} {G : mG} {d : mD} {c s : Nat} {x0 x1 x2 y0 y1 : Int}
  (h : (mbud 373 397 [(3, y1), (5, 15)] [(3, y0)] c s ∧ mrecv 397 [(3, y1), (5, 15)] G.1) ∧ mCall O 397 [(3, y1), (5, 15)] G d (mback 373 18 [(3, x0), (3, x1), (3, x2)] [(3, y0)] (c + mmc 397) (s + mms 397) (fun st => mRun O 373 st K) K)) :
  mRun O 373 (16, [(3, x0), (3, x1), (3, x2)], [(3, y1), (3, y0)], c, s, G, d) K := mC_run [0,12,16,21,32,35,38] 2 _ h
theorem m_373_21 {O : mO} {K : mK} {G : mG} {d : mD} {c s : Nat} {x0 x1 x2 y0 y1 : Int}
  (h : G.1 x1 = 13 ∧ (mbud 373 399 [(3, y1), (0, mi2c (97 + (d x1 3)))] [(3, y0)] c s ∧ mrecv 399 [(3, y1), (0, mi2c (97 + (d x1 3)))] G.1) ∧ mCall O 399 [(3, y1), (0, mi2c (97 + (d x1 3)))] G d (mback 373 29 [(3, x0), (3, x1), (3, x2)] [(3, y0)] (c + mmc 399) (s + mms 399) (fun st => mRun O 373 st K) K)) :
  mRun O 373 (21, [(3, x0), (3, x1), (3, x2)], [(3, y1), (3, y0)], c, s, G, d) K := mC_run [0,12,16,21,32,35,38] 6 _ h
theorem m_373_32 {O : mO} {K : mK} {G : mG} {d : mD} {c s : Nat} {x0 x1 x2 y0 y1 : Int}
  (h : (mbud 373 401 [(3, y1)] [(3, y0)] c s ∧ mrecv 401 [(3, y1)] G.1) ∧ mCall O 401 [(3, y1)] G d (mback 373 32 [(3, x0), (3, x1), (3, x2)] [(3, y0)] (c + mmc 401) (s + mms 401) (fun st => mRun O 373 st K) K)) :
  mRun O 373 (32, [(3, x0), (3, x1), (3, x2)], [(3, y1), (3, y0)], c, s, G, d) K := mC_run [0,12,16,21,32,35,38] 1 _ h
theorem m_373_35 {O : mO} {K : mK} {G : mG} {d : mD} {c s : Nat} {x0 x1 x2 y0 y1 : Int}
  (h : (mbud 373 368 [(3, y0), (3, y1)] [] c s ∧ mrecv 368 [(3, y0), (3, y1)] G.1) ∧ mCall O 368 [(3, y0), (3, y1)] G d (mback 373 35 [(3, x0), (3, x1), (3, x2)] [] (c + mmc 368) (s + mms 368) (fun st => mRun O 373 st K) K)) :
  mRun O 373 (35, [(3, x0), (3, x1), (3, x2)], [(3, y1), (3, y0)], c, s, G, d) K := mC_run [0,12,16,21,32,35,38] 1 _ h
theorem m_373_38 {O : mO} {K : mK} {G : mG} {d : mD} {c s : Nat} {x0 x1 x2 : Int}
  (h : mretk 373 0 ∧ K (.inl none) G d) :
  mRun O 373 (38, [(3, x0), (3, x1), (3, x2)], [], c, s, G, d) K := mC_run [0,12,16,21,32,35,38] 1 _ h
