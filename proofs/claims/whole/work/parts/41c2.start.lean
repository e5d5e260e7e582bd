def zLitE (ca : Nat → ClassId) (a0 : Nat) (e0 : Nat → Nat) (a1 : Nat) (e1 : Nat → Nat) (a2 a3 : Nat) (x : va_E) : va_W := [(a0, .inr (9, [.ref (e0 0), .ref (e0 8), .ref (e0 16), .int 0, .ref (e0 24), .ref (e0 90), .ref (e0 94), .ref (e0 99), .ref (e0 104), .ref (e0 107), .ref (e0 109), .ref (e0 111), .ref (e0 115), .int (-1), .int 0, .int 0])), (e0 0, .inr (6, [.ref (e0 1), .ref (e0 5), .int 0])), (e0 1, .inr (1, [.int 0, .int 0, .int 0, .int 1, .int 0, .ref (e0 2), .ref (e0 3), .ref (e0 4)])), (e0 2, .inl (ca 0, 16, .inl (fun _ => 0))), (e0 3, .inl (ca 0, 16, .inl (fun _ => 0))), (e0 4, .inl (ca 0, 8, .inl (fun _ => 0))), (e0 5, .inr (2, [.int 0, .int 0, .ref (e0 6), .ref (e0 7)])), (e0 6, .inl (ca 0, 41, .inl (fun _ => 0))), (e0 7, .inl (ca 0, 40, .inl (fun _ => 0))), (e0 8, .inr (6, [.ref (e0 9), .ref (e0 13), .int 0])), (e0 9, .inr (1, [.int 0, .int 0, .int 0, .int 1, .int 0, .ref (e0 10), .ref (e0 11), .ref (e0 12)])), (e0 10, .inl (ca 0, 16, .inl (fun _ => 0))), (e0 11, .inl (ca 0, 16, .inl (fun _ => 0))), (e0 12, .inl (ca 0, 8, .inl (fun _ => 0))), (e0 13, .inr (2, [.int 0, .int 0, .ref (e0 14), .ref (e0 15)])), (e0 14, .inl (ca 0, 41, .inl (fun _ => 0))), (e0 15, .inl (ca 0, 40, .inl (fun _ => 0))), (e0 16, .inr (6, [.ref (e0 17), .ref (e0 21), .int 0])), (e0 17, .inr (1, [.int 0, .int 0, .int 0, .int 1, .int 0, .ref (e0 18), .ref (e0 19), .ref (e0 20)])), (e0 18, .inl (ca 0, 16, .inl (fun _ => 0))), (e0 19, .inl (ca 0, 16, .inl (fun _ => 0))), (e0 20, .inl (ca 0, 8, .inl (fun _ => 0))), (e0 21, .inr (2, [.int 0, .int 0, .ref (e0 22), .ref (e0 23)])), (e0 22, .inl (ca 0, 41, .inl (fun _ => 0))), (e0 23, .inl (ca 0, 40, .inl (fun _ => 0))), (e0 24, .inr (0, [.ref (e0 25), .int 0, .int 0])), (e0 25, x), (e0 26, .inr (6, [.ref (e0 27), .ref (e0 31), .int 0])), (e0 27, .inr (1, [.int 0, .int 0, .int 0, .int 1, .int 0, .ref (e0 28), .ref (e0 29), .ref (e0 30)])), (e0 28, .inl (ca 0, 16, .inl (fun _ => 0))), (e0 29, .inl (ca 0, 16, .inl (fun _ => 0))), (e0 30, .inl (ca 0, 8, .inl (fun _ => 0))), (e0 31, .inr (2, [.int 0, .int 0, .ref (e0 32), .ref (e0 33)])), (e0 32, .inl (ca 0, 41, .inl (fun _ => 0))), (e0 33, .inl (ca 0, 40, .inl (fun _ => 0))), (e0 34, .inr (6, [.ref (e0 35), .ref (e0 39), .int 0])), (e0 35, .inr (1, [.int 0, .int 0, .int 0, .int 1, .int 0, .ref (e0 36), .ref (e0 37), .ref (e0 38)])), (e0 36, .inl (ca 0, 16, .inl (fun _ => 0))), (e0 37, .inl (ca 0, 16, .inl (fun _ => 0))), (e0 38, .inl (ca 0, 8, .inl (fun _ => 0))), (e0 39, .inr (2, [.int 0, .int 0, .ref (e0 40), .ref (e0 41)])), (e0 40, .inl (ca 0, 41, .inl (fun _ => 0))), (e0 41, .inl (ca 0, 40, .inl (fun _ => 0))), (e0 42, .inr (6, [.ref (e0 43), .ref (e0 47), .int 0])), (e0 43, .inr (1, [.int 0, .int 0, .int 0, .int 1, .int 0, .ref (e0 44), .ref (e0 45), .ref (e0 46)])), (e0 44, .inl (ca 0, 16, .inl (fun _ => 0))), (e0 45, .inl (ca 0, 16, .inl (fun _ => 0))), (e0 46, .inl (ca 0, 8, .inl (fun _ => 0))), (e0 47, .inr (2, [.int 0, .int 0, .ref (e0 48), .ref (e0 49)])), (e0 48, .inl (ca 0, 41, .inl (fun _ => 0))), (e0 49, .inl (ca 0, 40, .inl (fun _ => 0))), (e0 50, .inr (6, [.ref (e0 51), .ref (e0 55), .int 0])), (e0 51, .inr (1, [.int 0, .int 0, .int 0, .int 1, .int 0, .ref (e0 52), .ref (e0 53), .ref (e0 54)])), (e0 52, .inl (ca 0, 16, .inl (fun _ => 0))), (e0 53, .inl (ca 0, 16, .inl (fun _ => 0))), (e0 54, .inl (ca 0, 8, .inl (fun _ => 0))), (e0 55, .inr (2, [.int 0, .int 0, .ref (e0 56), .ref (e0 57)])), (e0 56, .inl (ca 0, 41, .inl (fun _ => 0))), (e0 57, .inl (ca 0, 40, .inl (fun _ => 0))), (e0 58, .inr (6, [.ref (e0 59), .ref (e0 63), .int 0])), (e0 59, .inr (1, [.int 0, .int 0, .int 0, .int 1, .int 0, .ref (e0 60), .ref (e0 61), .ref (e0 62)])), (e0 60, .inl (ca 0, 16, .inl (fun _ => 0))), (e0 61, .inl (ca 0, 16, .inl (fun _ => 0))), (e0 62, .inl (ca 0, 8, .inl (fun _ => 0))), (e0 63, .inr (2, [.int 0, .int 0, .ref (e0 64), .ref (e0 65)])), (e0 64, .inl (ca 0, 41, .inl (fun _ => 0))), (e0 65, .inl (ca 0, 40, .inl (fun _ => 0))), (e0 66, .inr (6, [.ref (e0 67), .ref (e0 71), .int 0])), (e0 67, .inr (1, [.int 0, .int 0, .int 0, .int 1, .int 0, .ref (e0 68), .ref (e0 69), .ref (e0 70)])), (e0 68, .inl (ca 0, 16, .inl (fun _ => 0))), (e0 69, .inl (ca 0, 16, .inl (fun _ => 0))), (e0 70, .inl (ca 0, 8, .inl (fun _ => 0))), (e0 71, .inr (2, [.int 0, .int 0, .ref (e0 72), .ref (e0 73)])), (e0 72, .inl (ca 0, 41, .inl (fun _ => 0))), (e0 73, .inl (ca 0, 40, .inl (fun _ => 0))), (e0 74, .inr (6, [.ref (e0 75), .ref (e0 79), .int 0])), (e0 75, .inr (1, [.int 0, .int 0, .int 0, .int 1, .int 0, .ref (e0 76), .ref (e0 77), .ref (e0 78)])), (e0 76, .inl (ca 0, 16, .inl (fun _ => 0))), (e0 77, .inl (ca 0, 16, .inl (fun _ => 0))), (e0 78, .inl (ca 0, 8, .inl (fun _ => 0))), (e0 79, .inr (2, [.int 0, .int 0, .ref (e0 80), .ref (e0 81)])), (e0 80, .inl (ca 0, 41, .inl (fun _ => 0))), (e0 81, .inl (ca 0, 40, .inl (fun _ => 0))), (e0 82, .inr (6, [.ref (e0 83), .ref (e0 87), .int 0])), (e0 83, .inr (1, [.int 0, .int 0, .int 0, .int 1, .int 0, .ref (e0 84), .ref (e0 85), .ref (e0 86)])), (e0 84, .inl (ca 0, 16, .inl (fun _ => 0))), (e0 85, .inl (ca 0, 16, .inl (fun _ => 0))), (e0 86, .inl (ca 0, 8, .inl (fun _ => 0))), (e0 87, .inr (2, [.int 0, .int 0, .ref (e0 88), .ref (e0 89)])), (e0 88, .inl (ca 0, 41, .inl (fun _ => 0))), (e0 89, .inl (ca 0, 40, .inl (fun _ => 0))), (e0 90, .inr (1, [.int 0, .int 0, .int 0, .int 1, .int 0, .ref (e0 91), .ref (e0 92), .ref (e0 93)])), (e0 91, .inl (ca 0, 16, .inl (fun _ => 0))), (e0 92, .inl (ca 0, 16, .inl (fun _ => 0))), (e0 93, .inl (ca 0, 8, .inl (fun _ => 0))), (e0 94, .inr (7, [.int 0, .int (-1), .ref (e0 95), .ref (e0 96), .ref (e0 97), .ref (e0 98)])), (e0 95, .inl (ca 0, 336, .inl (fun _ => 0))), (e0 96, .inl (ca 0, 336, .inl (fun _ => 0))), (e0 97, .inl (ca 0, 1296, .inl (fun _ => 0))), (e0 98, .inl (ca 0, 1296, .inl (fun _ => 0))), (e0 99, .inr (7, [.int 0, .int (-1), .ref (e0 100), .ref (e0 101), .ref (e0 102), .ref (e0 103)])), (e0 100, .inl (ca 0, 336, .inl (fun _ => 0))), (e0 101, .inl (ca 0, 336, .inl (fun _ => 0))), (e0 102, .inl (ca 0, 1296, .inl (fun _ => 0))), (e0 103, .inl (ca 0, 1296, .inl (fun _ => 0))), (e0 104, .inr (5, [.int (-1), .ref (e0 105), .ref (e0 106)])), (e0 105, .inl (ca 0, 336, .inl (fun _ => 0))), (e0 106, .inl (ca 0, 1296, .inl (fun _ => 0))), (e0 107, .inr (8, [.int 0, .ref (e0 108)])), (e0 108, .inl (ca 1, 160, .inl (fun _ => 0))), (e0 109, .inr (8, [.int 0, .ref (e0 110)])), (e0 110, .inl (ca 1, 160, .inl (fun _ => 0))), (e0 111, .inr (3, [.int 0, .ref (e0 112), .ref (e0 113), .ref (e0 114), .int 0])), (e0 112, .inl (ca 0, 30, .inl (fun _ => 0))), (e0 113, .inl (ca 0, 30, .inl (fun _ => 0))), (e0 114, .inl (ca 0, 30, .inl (fun _ => 0))), (e0 115, .inr (4, [.int 0, .int 0, .int 0, .int 0])), (a1, .inr (10, [.ref (e1 0), .ref (e1 1), .ref (e1 2), .int 0, .ref (e1 3), .int 0, .ref (e1 4), .int 0, .ref (e1 5), .int 0, .int 0, .int 0, .ref (e1 6), .int (-1), .int 0, .int 0, .int 0, .int 0, .ref (e1 7), .ref (e1 8), .ref (e1 9), .ref (e1 10), .int 0, .ref (e1 11), .ref (e1 12), .int 0])), (e1 0, .inl (ca 0, 119, .inl (upd (fun _ => 0) 2 1))), (e1 1, .inl (ca 0, 119, .inl (fun _ => 0))), (e1 2, .inl (ca 0, 952, .inl (fun _ => 0))), (e1 3, .inl (ca 0, 119, .inl (fun _ => 0))), (e1 4, .inl (ca 1, 200, .inl (fun _ => 0))), (e1 5, .inl (ca 1, 60, .inl (fun _ => 0))), (e1 6, .inl (ca 0, 2, .inl (fun _ => 0))), (e1 7, .inl (ca 0, 8, .inl (fun _ => 0))), (e1 8, .inl (ca 0, 1296, .inl (fun _ => 0))), (e1 9, .inl (ca 0, 1296, .inl (fun _ => 0))), (e1 10, .inl (ca 0, 1296, .inl (fun _ => 0))), (e1 11, .inl (ca 0, 24, .inl (fun _ => 0))), (e1 12, .inl (ca 0, 24, .inl (fun _ => 0))), (a2, .inl (ca 2, 1, .inr (.inl (fun _ => 0)))), (a3, .inl (ca 3, 1, .inr (.inr (.inr (.inl (fun _ => 0))))))]
theorem zAd_0 (a0 : Nat) (e0 : Nat → Nat) (a1 : Nat) (e1 : Nat → Nat) (a2 a3 : Nat) : zAd a0 e0 a1 e1 a2 a3 0 = a0 := rfl
theorem zAd_1 (a0 : Nat) (e0 : Nat → Nat) (a1 : Nat) (e1 : Nat → Nat) (a2 a3 : Nat) : zAd a0 e0 a1 e1 a2 a3 1 = e0 0 := rfl
theorem zAd_2 (a0 : Nat) (e0 : Nat → Nat) (a1 : Nat) (e1 : Nat → Nat) (a2 a3 : Nat) : zAd a0 e0 a1 e1 a2 a3 2 = e0 1 := rfl
theorem zAd_3 (a0 : Nat) (e0 : Nat → Nat) (a1 : Nat) (e1 : Nat → Nat) (a2 a3 : Nat) : zAd a0 e0 a1 e1 a2 a3 3 = e0 2 := rfl
theorem zAd_4 (a0 : Nat) (e0 : Nat → Nat) (a1 : Nat) (e1 : Nat → Nat) (a2 a3 : Nat) : zAd a0 e0 a1 e1 a2 a3 4 = e0 3 := rfl
theorem zAd_5 (a0 : Nat) (e0 : Nat → Nat) (a1 : Nat) (e1 : Nat → Nat) (a2 a3 : Nat) : zAd a0 e0 a1 e1 a2 a3 5 = e0 4 := rfl
theorem zAd_6 (a0 : Nat) (e0 : Nat → Nat) (a1 : Nat) (e1 : Nat → Nat) (a2 a3 : Nat) : zAd a0 e0 a1 e1 a2 a3 6 = e0 5 := rfl
theorem zAd_7 (a0 : Nat) (e0 : Nat → Nat) (a1 : Nat) (e1 : Nat → Nat) (a2 a3 : Nat) : zAd a0 e0 a1 e1 a2 a3 7 = e0 6 := rfl
theorem zAd_8 (a0 : Nat) (e0 : Nat → Nat) (a1 : Nat) (e1 : Nat → Nat) (a2 a3 : Nat) : zAd a0 e0 a1 e1 a2 a3 8 = e0 7 := rfl
theorem zAd_9 (a0 : Nat) (e0 : Nat → Nat) (a1 : Nat) (e1 : Nat → Nat) (a2 a3 : Nat) : zAd a0 e0 a1 e1 a2 a3 9 = e0 8 := rfl
theorem zAd_10 (a0 : Nat) (e0 : Nat → Nat) (a1 : Nat) (e1 : Nat → Nat) (a2 a3 : Nat) : zAd a0 e0 a1 e1 a2 a3 10 = e0 9 := rfl
theorem zAd_11 (a0 : Nat) (e0 : Nat → Nat) (a1 : Nat) (e1 : Nat → Nat) (a2 a3 : Nat) : zAd a0 e0 a1 e1 a2 a3 11 = e0 10 := rfl
theorem zAd_12 (a0 : Nat) (e0 : Nat → Nat) (a1 : Nat) (e1 : Nat → Nat) (a2 a3 : Nat) : zAd a0 e0 a1 e1 a2 a3 12 = e0 11 := rfl
theorem zAd_13 (a0 : Nat) (e0 : Nat → Nat) (a1 : Nat) (e1 : Nat → Nat) (a2 a3 : Nat) : zAd a0 e0 a1 e1 a2 a3 13 = e0 12 := rfl
theorem zAd_14 (a0 : Nat) (e0 : Nat → Nat) (a1 : Nat) (e1 : Nat → Nat) (a2 a3 : Nat) : zAd a0 e0 a1 e1 a2 a3 14 = e0 13 := rfl
theorem zAd_15 (a0 : Nat) (e0 : Nat → Nat) (a1 : Nat) (e1 : Nat → Nat) (a2 a3 : Nat) : zAd a0 e0 a1 e1 a2 a3 15 = e0 14 := rfl
theorem zAd_16 (a0 : Nat) (e0 : Nat → Nat) (a1 : Nat) (e1 : Nat → Nat) (a2 a3 : Nat) : zAd a0 e0 a1 e1 a2 a3 16 = e0 15 := rfl
theorem zAd_17 (a0 : Nat) (e0 : Nat → Nat) (a1 : Nat) (e1 : Nat → Nat) (a2 a3 : Nat) : zAd a0 e0 a1 e1 a2 a3 17 = e0 16 := rfl
theorem zAd_18 (a0 : Nat) (e0 : Nat → Nat) (a1 : Nat) (e1 : Nat → Nat) (a2 a3 : Nat) : zAd a0 e0 a1 e1 a2 a3 18 = e0 17 := rfl
theorem zAd_19 (a0 : Nat) (e0 : Nat → Nat) (a1 : Nat) (e1 : Nat → Nat) (a2 a3 : Nat) : zAd a0 e0 a1 e1 a2 a3 19 = e0 18 := rfl
theorem zAd_20 (a0 : Nat) (e0 : Nat → Nat) (a1 : Nat) (e1 : Nat → Nat) (a2 a3 : Nat) : zAd a0 e0 a1 e1 a2 a3 20 = e0 19 := rfl
theorem zAd_21 (a0 : Nat) (e0 : Nat → Nat) (a1 : Nat) (e1 : Nat → Nat) (a2 a3 : Nat) : zAd a0 e0 a1 e1 a2 a3 21 = e0 20 := rfl
theorem zAd_22 (a0 : Nat) (e0 : Nat → Nat) (a1 : Nat) (e1 : Nat → Nat) (a2 a3 : Nat) : zAd a0 e0 a1 e1 a2 a3 22 = e0 21 := rfl
theorem zAd_23 (a0 : Nat) (e0 : Nat → Nat) (a1 : Nat) (e1 : Nat → Nat) (a2 a3 : Nat) : zAd a0 e0 a1 e1 a2 a3 23 = e0 22 := rfl
theorem zAd_24 (a0 : Nat) (e0 : Nat → Nat) (a1 : Nat) (e1 : Nat → Nat) (a2 a3 : Nat) : zAd a0 e0 a1 e1 a2 a3 24 = e0 23 := rfl
theorem zAd_25 (a0 : Nat) (e0 : Nat → Nat) (a1 : Nat) (e1 : Nat → Nat) (a2 a3 : Nat) : zAd a0 e0 a1 e1 a2 a3 25 = e0 24 := rfl
theorem zAd_26 (a0 : Nat) (e0 : Nat → Nat) (a1 : Nat) (e1 : Nat → Nat) (a2 a3 : Nat) : zAd a0 e0 a1 e1 a2 a3 26 = e0 25 := rfl
theorem zAd_27 (a0 : Nat) (e0 : Nat → Nat) (a1 : Nat) (e1 : Nat → Nat) (a2 a3 : Nat) : zAd a0 e0 a1 e1 a2 a3 27 = e0 26 := rfl
theorem zAd_28 (a0 : Nat) (e0 : Nat → Nat) (a1 : Nat) (e1 : Nat → Nat) (a2 a3 : Nat) : zAd a0 e0 a1 e1 a2 a3 28 = e0 27 := rfl
theorem zAd_29 (a0 : Nat) (e0 : Nat → Nat) (a1 : Nat) (e1 : Nat → Nat) (a2 a3 : Nat) : zAd a0 e0 a1 e1 a2 a3 29 = e0 28 := rfl
theorem zAd_30 (a0 : Nat) (e0 : Nat → Nat) (a1 : Nat) (e1 : Nat → Nat) (a2 a3 : Nat) : zAd a0 e0 a1 e1 a2 a3 30 = e0 29 := rfl
theorem zAd_31 (a0 : Nat) (e0 : Nat → Nat) (a1 : Nat) (e1 : Nat → Nat) (a2 a3 : Nat) : zAd a0 e0 a1 e1 a2 a3 31 = e0 30 := rfl
theorem zAd_32 (a0 : Nat) (e0 : Nat → Nat) (a1 : Nat) (e1 : Nat → Nat) (a2 a3 : Nat) : zAd a0 e0 a1 e1 a2 a3 32 = e0 31 := rfl
theorem zAd_33 (a0 : Nat) (e0 : Nat → Nat) (a1 : Nat) (e1 : Nat → Nat) (a2 a3 : Nat) : zAd a0 e0 a1 e1 a2 a3 33 = e0 32 := rfl
theorem zAd_34 (a0 : Nat) (e0 : Nat → Nat) (a1 : Nat) (e1 : Nat → Nat) (a2 a3 : Nat) : zAd a0 e0 a1 e1 a2 a3 34 = e0 33 := rfl
theorem zAd_35 (a0 : Nat) (e0 : Nat → Nat) (a1 : Nat) (e1 : Nat → Nat) (a2 a3 : Nat) : zAd a0 e0 a1 e1 a2 a3 35 = e0 34 := rfl
theorem zAd_36 (a0 : Nat) (e0 : Nat → Nat) (a1 : Nat) (e1 : Nat → Nat) (a2 a3 : Nat) : zAd a0 e0 a1 e1 a2 a3 36 = e0 35 := rfl
theorem zAd_37 (a0 : Nat) (e0 : Nat → Nat) (a1 : Nat) (e1 : Nat → Nat) (a2 a3 : Nat) : zAd a0 e0 a1 e1 a2 a3 37 = e0 36 := rfl
theorem zAd_38 (a0 : Nat) (e0 : Nat → Nat) (a1 : Nat) (e1 : Nat → Nat) (a2 a3 : Nat) : zAd a0 e0 a1 e1 a2 a3 38 = e0 37 := rfl
theorem zAd_39 (a0 : Nat) (e0 : Nat → Nat) (a1 : Nat) (e1 : Nat → Nat) (a2 a3 : Nat) : zAd a0 e0 a1 e1 a2 a3 39 = e0 38 := rfl
theorem zAd_40 (a0 : Nat) (e0 : Nat → Nat) (a1 : Nat) (e1 : Nat → Nat) (a2 a3 : Nat) : zAd a0 e0 a1 e1 a2 a3 40 = e0 39 := rfl
theorem zAd_41 (a0 : Nat) (e0 : Nat → Nat) (a1 : Nat) (e1 : Nat → Nat) (a2 a3 : Nat) : zAd a0 e0 a1 e1 a2 a3 41 = e0 40 := rfl
theorem zAd_42 (a0 : Nat) (e0 : Nat → Nat) (a1 : Nat) (e1 : Nat → Nat) (a2 a3 : Nat) : zAd a0 e0 a1 e1 a2 a3 42 = e0 41 := rfl
theorem zAd_43 (a0 : Nat) (e0 : Nat → Nat) (a1 : Nat) (e1 : Nat → Nat) (a2 a3 : Nat) : zAd a0 e0 a1 e1 a2 a3 43 = e0 42 := rfl
theorem zAd_44 (a0 : Nat) (e0 : Nat → Nat) (a1 : Nat) (e1 : Nat → Nat) (a2 a3 : Nat) : zAd a0 e0 a1 e1 a2 a3 44 = e0 43 := rfl
theorem zAd_45 (a0 : Nat) (e0 : Nat → Nat) (a1 : Nat) (e1 : Nat → Nat) (a2 a3 : Nat) : zAd a0 e0 a1 e1 a2 a3 45 = e0 44 := rfl
theorem zAd_46 (a0 : Nat) (e0 : Nat → Nat) (a1 : Nat) (e1 : Nat → Nat) (a2 a3 : Nat) : zAd a0 e0 a1 e1 a2 a3 46 = e0 45 := rfl
theorem zAd_47 (a0 : Nat) (e0 : Nat → Nat) (a1 : Nat) (e1 : Nat → Nat) (a2 a3 : Nat) : zAd a0 e0 a1 e1 a2 a3 47 = e0 46 := rfl
theorem zAd_48 (a0 : Nat) (e0 : Nat → Nat) (a1 : Nat) (e1 : Nat → Nat) (a2 a3 : Nat) : zAd a0 e0 a1 e1 a2 a3 48 = e0 47 := rfl
theorem zAd_49 (a0 : Nat) (e0 : Nat → Nat) (a1 : Nat) (e1 : Nat → Nat) (a2 a3 : Nat) : zAd a0 e0 a1 e1 a2 a3 49 = e0 48 := rfl
theorem zAd_50 (a0 : Nat) (e0 : Nat → Nat) (a1 : Nat) (e1 : Nat → Nat) (a2 a3 : Nat) : zAd a0 e0 a1 e1 a2 a3 50 = e0 49 := rfl
theorem zAd_51 (a0 : Nat) (e0 : Nat → Nat) (a1 : Nat) (e1 : Nat → Nat) (a2 a3 : Nat) : zAd a0 e0 a1 e1 a2 a3 51 = e0 50 := rfl
theorem zAd_52 (a0 : Nat) (e0 : Nat → Nat) (a1 : Nat) (e1 : Nat → Nat) (a2 a3 : Nat) : zAd a0 e0 a1 e1 a2 a3 52 = e0 51 := rfl
theorem zAd_53 (a0 : Nat) (e0 : Nat → Nat) (a1 : Nat) (e1 : Nat → Nat) (a2 a3 : Nat) : zAd a0 e0 a1 e1 a2 a3 53 = e0 52 := rfl
theorem zAd_54 (a0 : Nat) (e0 : Nat → Nat) (a1 : Nat) (e1 : Nat → Nat) (a2 a3 : Nat) : zAd a0 e0 a1 e1 a2 a3 54 = e0 53 := rfl
theorem zAd_55 (a0 : Nat) (e0 : Nat → Nat) (a1 : Nat) (e1 : Nat → Nat) (a2 a3 : Nat) : zAd a0 e0 a1 e1 a2 a3 55 = e0 54 := rfl
theorem zAd_56 (a0 : Nat) (e0 : Nat → Nat) (a1 : Nat) (e1 : Nat → Nat) (a2 a3 : Nat) : zAd a0 e0 a1 e1 a2 a3 56 = e0 55 := rfl
theorem zAd_57 (a0 : Nat) (e0 : Nat → Nat) (a1 : Nat) (e1 : Nat → Nat) (a2 a3 : Nat) : zAd a0 e0 a1 e1 a2 a3 57 = e0 56 := rfl
theorem zAd_58 (a0 : Nat) (e0 : Nat → Nat) (a1 : Nat) (e1 : Nat → Nat) (a2 a3 : Nat) : zAd a0 e0 a1 e1 a2 a3 58 = e0 57 := rfl
theorem zAd_59 (a0 : Nat) (e0 : Nat → Nat) (a1 : Nat) (e1 : Nat → Nat) (a2 a3 : Nat) : zAd a0 e0 a1 e1 a2 a3 59 = e0 58 := rfl
theorem zAd_60 (a0 : Nat) (e0 : Nat → Nat) (a1 : Nat) (e1 : Nat → Nat) (a2 a3 : Nat) : zAd a0 e0 a1 e1 a2 a3 60 = e0 59 := rfl
theorem zAd_61 (a0 : Nat) (e0 : Nat → Nat) (a1 : Nat) (e1 : Nat → Nat) (a2 a3 : Nat) : zAd a0 e0 a1 e1 a2 a3 61 = e0 60 := rfl
theorem zAd_62 (a0 : Nat) (e0 : Nat → Nat) (a1 : Nat) (e1 : Nat → Nat) (a2 a3 : Nat) : zAd a0 e0 a1 e1 a2 a3 62 = e0 61 := rfl
theorem zAd_63 (a0 : Nat) (e0 : Nat → Nat) (a1 : Nat) (e1 : Nat → Nat) (a2 a3 : Nat) : zAd a0 e0 a1 e1 a2 a3 63 = e0 62 := rfl
theorem zAd_64 (a0 : Nat) (e0 : Nat → Nat) (a1 : Nat) (e1 : Nat → Nat) (a2 a3 : Nat) : zAd a0 e0 a1 e1 a2 a3 64 = e0 63 := rfl
theorem zAd_65 (a0 : Nat) (e0 : Nat → Nat) (a1 : Nat) (e1 : Nat → Nat) (a2 a3 : Nat) : zAd a0 e0 a1 e1 a2 a3 65 = e0 64 := rfl
theorem zAd_66 (a0 : Nat) (e0 : Nat → Nat) (a1 : Nat) (e1 : Nat → Nat) (a2 a3 : Nat) : zAd a0 e0 a1 e1 a2 a3 66 = e0 65 := rfl
theorem zAd_67 (a0 : Nat) (e0 : Nat → Nat) (a1 : Nat) (e1 : Nat → Nat) (a2 a3 : Nat) : zAd a0 e0 a1 e1 a2 a3 67 = e0 66 := rfl
theorem zAd_68 (a0 : Nat) (e0 : Nat → Nat) (a1 : Nat) (e1 : Nat → Nat) (a2 a3 : Nat) : zAd a0 e0 a1 e1 a2 a3 68 = e0 67 := rfl
theorem zAd_69 (a0 : Nat) (e0 : Nat → Nat) (a1 : Nat) (e1 : Nat → Nat) (a2 a3 : Nat) : zAd a0 e0 a1 e1 a2 a3 69 = e0 68 := rfl
theorem zAd_70 (a0 : Nat) (e0 : Nat → Nat) (a1 : Nat) (e1 : Nat → Nat) (a2 a3 : Nat) : zAd a0 e0 a1 e1 a2 a3 70 = e0 69 := rfl
theorem zAd_71 (a0 : Nat) (e0 : Nat → Nat) (a1 : Nat) (e1 : Nat → Nat) (a2 a3 : Nat) : zAd a0 e0 a1 e1 a2 a3 71 = e0 70 := rfl
theorem zAd_72 (a0 : Nat) (e0 : Nat → Nat) (a1 : Nat) (e1 : Nat → Nat) (a2 a3 : Nat) : zAd a0 e0 a1 e1 a2 a3 72 = e0 71 := rfl
theorem zAd_73 (a0 : Nat) (e0 : Nat → Nat) (a1 : Nat) (e1 : Nat → Nat) (a2 a3 : Nat) : zAd a0 e0 a1 e1 a2 a3 73 = e0 72 := rfl
theorem zAd_74 (a0 : Nat) (e0 : Nat → Nat) (a1 : Nat) (e1 : Nat → Nat) (a2 a3 : Nat) : zAd a0 e0 a1 e1 a2 a3 74 = e0 73 := rfl
theorem zAd_75 (a0 : Nat) (e0 : Nat → Nat) (a1 : Nat) (e1 : Nat → Nat) (a2 a3 : Nat) : zAd a0 e0 a1 e1 a2 a3 75 = e0 74 := rfl
theorem zAd_76 (a0 : Nat) (e0 : Nat → Nat) (a1 : Nat) (e1 : Nat → Nat) (a2 a3 : Nat) : zAd a0 e0 a1 e1 a2 a3 76 = e0 75 := rfl
theorem zAd_77 (a0 : Nat) (e0 : Nat → Nat) (a1 : Nat) (e1 : Nat → Nat) (a2 a3 : Nat) : zAd a0 e0 a1 e1 a2 a3 77 = e0 76 := rfl
theorem zAd_78 (a0 : Nat) (e0 : Nat → Nat) (a1 : Nat) (e1 : Nat → Nat) (a2 a3 : Nat) : zAd a0 e0 a1 e1 a2 a3 78 = e0 77 := rfl
theorem zAd_79 (a0 : Nat) (e0 : Nat → Nat) (a1 : Nat) (e1 : Nat → Nat) (a2 a3 : Nat) : zAd a0 e0 a1 e1 a2 a3 79 = e0 78 := rfl
theorem zAd_80 (a0 : Nat) (e0 : Nat → Nat) (a1 : Nat) (e1 : Nat → Nat) (a2 a3 : Nat) : zAd a0 e0 a1 e1 a2 a3 80 = e0 79 := rfl
theorem zAd_81 (a0 : Nat) (e0 : Nat → Nat) (a1 : Nat) (e1 : Nat → Nat) (a2 a3 : Nat) : zAd a0 e0 a1 e1 a2 a3 81 = e0 80 := rfl
theorem zAd_82 (a0 : Nat) (e0 : Nat → Nat) (a1 : Nat) (e1 : Nat → Nat) (a2 a3 : Nat) : zAd a0 e0 a1 e1 a2 a3 82 = e0 81 := rfl
theorem zAd_83 (a0 : Nat) (e0 : Nat → Nat) (a1 : Nat) (e1 : Nat → Nat) (a2 a3 : Nat) : zAd a0 e0 a1 e1 a2 a3 83 = e0 82 := rfl
theorem zAd_84 (a0 : Nat) (e0 : Nat → Nat) (a1 : Nat) (e1 : Nat → Nat) (a2 a3 : Nat) : zAd a0 e0 a1 e1 a2 a3 84 = e0 83 := rfl
theorem zAd_85 (a0 : Nat) (e0 : Nat → Nat) (a1 : Nat) (e1 : Nat → Nat) (a2 a3 : Nat) : zAd a0 e0 a1 e1 a2 a3 85 = e0 84 := rfl
theorem zAd_86 (a0 : Nat) (e0 : Nat → Nat) (a1 : Nat) (e1 : Nat → Nat) (a2 a3 : Nat) : zAd a0 e0 a1 e1 a2 a3 86 = e0 85 := rfl
theorem zAd_87 (a0 : Nat) (e0 : Nat → Nat) (a1 : Nat) (e1 : Nat → Nat) (a2 a3 : Nat) : zAd a0 e0 a1 e1 a2 a3 87 = e0 86 := rfl
theorem zAd_88 (a0 : Nat) (e0 : Nat → Nat) (a1 : Nat) (e1 : Nat → Nat) (a2 a3 : Nat) : zAd a0 e0 a1 e1 a2 a3 88 = e0 87 := rfl
theorem zAd_89 (a0 : Nat) (e0 : Nat → Nat) (a1 : Nat) (e1 : Nat → Nat) (a2 a3 : Nat) : zAd a0 e0 a1 e1 a2 a3 89 = e0 88 := rfl
theorem zAd_90 (a0 : Nat) (e0 : Nat → Nat) (a1 : Nat) (e1 : Nat → Nat) (a2 a3 : Nat) : zAd a0 e0 a1 e1 a2 a3 90 = e0 89 := rfl
theorem zAd_91 (a0 : Nat) (e0 : Nat → Nat) (a1 : Nat) (e1 : Nat → Nat) (a2 a3 : Nat) : zAd a0 e0 a1 e1 a2 a3 91 = e0 90 := rfl
theorem zAd_92 (a0 : Nat) (e0 : Nat → Nat) (a1 : Nat) (e1 : Nat → Nat) (a2 a3 : Nat) : zAd a0 e0 a1 e1 a2 a3 92 = e0 91 := rfl
theorem zAd_93 (a0 : Nat) (e0 : Nat → Nat) (a1 : Nat) (e1 : Nat → Nat) (a2 a3 : Nat) : zAd a0 e0 a1 e1 a2 a3 93 = e0 92 := rfl
theorem zAd_94 (a0 : Nat) (e0 : Nat → Nat) (a1 : Nat) (e1 : Nat → Nat) (a2 a3 : Nat) : zAd a0 e0 a1 e1 a2 a3 94 = e0 93 := rfl
theorem zAd_95 (a0 : Nat) (e0 : Nat → Nat) (a1 : Nat) (e1 : Nat → Nat) (a2 a3 : Nat) : zAd a0 e0 a1 e1 a2 a3 95 = e0 94 := rfl
theorem zAd_96 (a0 : Nat) (e0 : Nat → Nat) (a1 : Nat) (e1 : Nat → Nat) (a2 a3 : Nat) : zAd a0 e0 a1 e1 a2 a3 96 = e0 95 := rfl
theorem zAd_97 (a0 : Nat) (e0 : Nat → Nat) (a1 : Nat) (e1 : Nat → Nat) (a2 a3 : Nat) : zAd a0 e0 a1 e1 a2 a3 97 = e0 96 := rfl
theorem zAd_98 (a0 : Nat) (e0 : Nat → Nat) (a1 : Nat) (e1 : Nat → Nat) (a2 a3 : Nat) : zAd a0 e0 a1 e1 a2 a3 98 = e0 97 := rfl
theorem zAd_99 (a0 : Nat) (e0 : Nat → Nat) (a1 : Nat) (e1 : Nat → Nat) (a2 a3 : Nat) : zAd a0 e0 a1 e1 a2 a3 99 = e0 98 := rfl
theorem zAd_100 (a0 : Nat) (e0 : Nat → Nat) (a1 : Nat) (e1 : Nat → Nat) (a2 a3 : Nat) : zAd a0 e0 a1 e1 a2 a3 100 = e0 99 := rfl
theorem zAd_101 (a0 : Nat) (e0 : Nat → Nat) (a1 : Nat) (e1 : Nat → Nat) (a2 a3 : Nat) : zAd a0 e0 a1 e1 a2 a3 101 = e0 100 := rfl
theorem zAd_102 (a0 : Nat) (e0 : Nat → Nat) (a1 : Nat) (e1 : Nat → Nat) (a2 a3 : Nat) : zAd a0 e0 a1 e1 a2 a3 102 = e0 101 := rfl
theorem zAd_103 (a0 : Nat) (e0 : Nat → Nat) (a1 : Nat) (e1 : Nat → Nat) (a2 a3 : Nat) : zAd a0 e0 a1 e1 a2 a3 103 = e0 102 := rfl
theorem zAd_104 (a0 : Nat) (e0 : Nat → Nat) (a1 : Nat) (e1 : Nat → Nat) (a2 a3 : Nat) : zAd a0 e0 a1 e1 a2 a3 104 = e0 103 := rfl
theorem zAd_105 (a0 : Nat) (e0 : Nat → Nat) (a1 : Nat) (e1 : Nat → Nat) (a2 a3 : Nat) : zAd a0 e0 a1 e1 a2 a3 105 = e0 104 := rfl
theorem zAd_106 (a0 : Nat) (e0 : Nat → Nat) (a1 : Nat) (e1 : Nat → Nat) (a2 a3 : Nat) : zAd a0 e0 a1 e1 a2 a3 106 = e0 105 := rfl
theorem zAd_107 (a0 : Nat) (e0 : Nat → Nat) (a1 : Nat) (e1 : Nat → Nat) (a2 a3 : Nat) : zAd a0 e0 a1 e1 a2 a3 107 = e0 106 := rfl
theorem zAd_108 (a0 : Nat) (e0 : Nat → Nat) (a1 : Nat) (e1 : Nat → Nat) (a2 a3 : Nat) : zAd a0 e0 a1 e1 a2 a3 108 = e0 107 := rfl
theorem zAd_109 (a0 : Nat) (e0 : Nat → Nat) (a1 : Nat) (e1 : Nat → Nat) (a2 a3 : Nat) : zAd a0 e0 a1 e1 a2 a3 109 = e0 108 := rfl
theorem zAd_110 (a0 : Nat) (e0 : Nat → Nat) (a1 : Nat) (e1 : Nat → Nat) (a2 a3 : Nat) : zAd a0 e0 a1 e1 a2 a3 110 = e0 109 := rfl
theorem zAd_111 (a0 : Nat) (e0 : Nat → Nat) (a1 : Nat) (e1 : Nat → Nat) (a2 a3 : Nat) : zAd a0 e0 a1 e1 a2 a3 111 = e0 110 := rfl
theorem zAd_112 (a0 : Nat) (e0 : Nat → Nat) (a1 : Nat) (e1 : Nat → Nat) (a2 a3 : Nat) : zAd a0 e0 a1 e1 a2 a3 112 = e0 111 := rfl
theorem zAd_113 (a0 : Nat) (e0 : Nat → Nat) (a1 : Nat) (e1 : Nat → Nat) (a2 a3 : Nat) : zAd a0 e0 a1 e1 a2 a3 113 = e0 112 := rfl
theorem zAd_114 (a0 : Nat) (e0 : Nat → Nat) (a1 : Nat) (e1 : Nat → Nat) (a2 a3 : Nat) : zAd a0 e0 a1 e1 a2 a3 114 = e0 113 := rfl
theorem zAd_115 (a0 : Nat) (e0 : Nat → Nat) (a1 : Nat) (e1 : Nat → Nat) (a2 a3 : Nat) : zAd a0 e0 a1 e1 a2 a3 115 = e0 114 := rfl
theorem zAd_116 (a0 : Nat) (e0 : Nat → Nat) (a1 : Nat) (e1 : Nat → Nat) (a2 a3 : Nat) : zAd a0 e0 a1 e1 a2 a3 116 = e0 115 := rfl
theorem zAd_117 (a0 : Nat) (e0 : Nat → Nat) (a1 : Nat) (e1 : Nat → Nat) (a2 a3 : Nat) : zAd a0 e0 a1 e1 a2 a3 117 = a1 := rfl
theorem zAd_118 (a0 : Nat) (e0 : Nat → Nat) (a1 : Nat) (e1 : Nat → Nat) (a2 a3 : Nat) : zAd a0 e0 a1 e1 a2 a3 118 = e1 0 := rfl
theorem zAd_119 (a0 : Nat) (e0 : Nat → Nat) (a1 : Nat) (e1 : Nat → Nat) (a2 a3 : Nat) : zAd a0 e0 a1 e1 a2 a3 119 = e1 1 := rfl
theorem zAd_120 (a0 : Nat) (e0 : Nat → Nat) (a1 : Nat) (e1 : Nat → Nat) (a2 a3 : Nat) : zAd a0 e0 a1 e1 a2 a3 120 = e1 2 := rfl
theorem zAd_121 (a0 : Nat) (e0 : Nat → Nat) (a1 : Nat) (e1 : Nat → Nat) (a2 a3 : Nat) : zAd a0 e0 a1 e1 a2 a3 121 = e1 3 := rfl
theorem zAd_122 (a0 : Nat) (e0 : Nat → Nat) (a1 : Nat) (e1 : Nat → Nat) (a2 a3 : Nat) : zAd a0 e0 a1 e1 a2 a3 122 = e1 4 := rfl
theorem zAd_123 (a0 : Nat) (e0 : Nat → Nat) (a1 : Nat) (e1 : Nat → Nat) (a2 a3 : Nat) : zAd a0 e0 a1 e1 a2 a3 123 = e1 5 := rfl
theorem zAd_124 (a0 : Nat) (e0 : Nat → Nat) (a1 : Nat) (e1 : Nat → Nat) (a2 a3 : Nat) : zAd a0 e0 a1 e1 a2 a3 124 = e1 6 := rfl
theorem zAd_125 (a0 : Nat) (e0 : Nat → Nat) (a1 : Nat) (e1 : Nat → Nat) (a2 a3 : Nat) : zAd a0 e0 a1 e1 a2 a3 125 = e1 7 := rfl
theorem zAd_126 (a0 : Nat) (e0 : Nat → Nat) (a1 : Nat) (e1 : Nat → Nat) (a2 a3 : Nat) : zAd a0 e0 a1 e1 a2 a3 126 = e1 8 := rfl
theorem zAd_127 (a0 : Nat) (e0 : Nat → Nat) (a1 : Nat) (e1 : Nat → Nat) (a2 a3 : Nat) : zAd a0 e0 a1 e1 a2 a3 127 = e1 9 := rfl
theorem zAd_128 (a0 : Nat) (e0 : Nat → Nat) (a1 : Nat) (e1 : Nat → Nat) (a2 a3 : Nat) : zAd a0 e0 a1 e1 a2 a3 128 = e1 10 := rfl
theorem zAd_129 (a0 : Nat) (e0 : Nat → Nat) (a1 : Nat) (e1 : Nat → Nat) (a2 a3 : Nat) : zAd a0 e0 a1 e1 a2 a3 129 = e1 11 := rfl
theorem zAd_130 (a0 : Nat) (e0 : Nat → Nat) (a1 : Nat) (e1 : Nat → Nat) (a2 a3 : Nat) : zAd a0 e0 a1 e1 a2 a3 130 = e1 12 := rfl
theorem zAd_131 (a0 : Nat) (e0 : Nat → Nat) (a1 : Nat) (e1 : Nat → Nat) (a2 a3 : Nat) : zAd a0 e0 a1 e1 a2 a3 131 = a2 := rfl
theorem zAd_132 (a0 : Nat) (e0 : Nat → Nat) (a1 : Nat) (e1 : Nat → Nat) (a2 a3 : Nat) : zAd a0 e0 a1 e1 a2 a3 132 = a3 := rfl
def zUp (ca : Nat → ClassId) (a0 : Nat) (e0 : Nat → Nat) (a1 : Nat) (e1 : Nat → Nat) (a2 a3 : Nat) : va_E := .inl (ca 4, 8, .inr (.inr (.inr (.inr (va_up (va_up (va_up (va_up (va_up (va_up (va_up (va_up (fun _ => none) 0 (some (e0 26))) 1 (some (e0 34))) 2 (some (e0 42))) 3 (some (e0 50))) 4 (some (e0 58))) 5 (some (e0 66))) 6 (some (e0 74))) 7 (some (e0 82)))))))
set_option maxRecDepth 100000 in
set_option maxHeartbeats 1000000 in
theorem zLit_B (ca : Nat → ClassId) (a0 : Nat) (e0 : Nat → Nat) (a1 : Nat) (e1 : Nat → Nat) (a2 a3 : Nat) : zLit ca a0 e0 a1 e1 a2 a3 = zLitE ca a0 e0 a1 e1 a2 a3 (zSt8 ca (zAd a0 e0 a1 e1 a2 a3)) := by
  unfold zLit zLitE
  simp only [zAd_0, zAd_1, zAd_2, zAd_3, zAd_4, zAd_5, zAd_6, zAd_7, zAd_8, zAd_9, zAd_10, zAd_11, zAd_12, zAd_13, zAd_14, zAd_15, zAd_16, zAd_17, zAd_18, zAd_19, zAd_20, zAd_21, zAd_22, zAd_23, zAd_24, zAd_25, zAd_26, zAd_27, zAd_28, zAd_29, zAd_30, zAd_31, zAd_32, zAd_33, zAd_34, zAd_35, zAd_36, zAd_37, zAd_38, zAd_39, zAd_40, zAd_41, zAd_42, zAd_43, zAd_44, zAd_45, zAd_46, zAd_47, zAd_48, zAd_49, zAd_50, zAd_51, zAd_52, zAd_53, zAd_54, zAd_55, zAd_56, zAd_57, zAd_58, zAd_59, zAd_60, zAd_61, zAd_62, zAd_63, zAd_64, zAd_65, zAd_66, zAd_67, zAd_68, zAd_69, zAd_70, zAd_71, zAd_72, zAd_73, zAd_74, zAd_75, zAd_76, zAd_77, zAd_78, zAd_79, zAd_80, zAd_81, zAd_82, zAd_83, zAd_84, zAd_85, zAd_86, zAd_87, zAd_88, zAd_89, zAd_90, zAd_91, zAd_92, zAd_93, zAd_94, zAd_95, zAd_96, zAd_97, zAd_98, zAd_99, zAd_100, zAd_101, zAd_102, zAd_103, zAd_104, zAd_105, zAd_106, zAd_107, zAd_108, zAd_109, zAd_110, zAd_111, zAd_112, zAd_113, zAd_114, zAd_115, zAd_116, zAd_117, zAd_118, zAd_119, zAd_120, zAd_121, zAd_122, zAd_123, zAd_124, zAd_125, zAd_126, zAd_127, zAd_128, zAd_129, zAd_130, zAd_131, zAd_132]
set_option maxRecDepth 100000 in
set_option maxHeartbeats 1000000 in
theorem zLit_C (ca : Nat → ClassId) (a0 : Nat) (e0 : Nat → Nat) (a1 : Nat) (e1 : Nat → Nat) (a2 a3 : Nat) (x y : va_E) : (zLitE ca a0 e0 a1 e1 a2 a3 x).set 26 (e0 25, y) = zLitE ca a0 e0 a1 e1 a2 a3 y := by
  unfold zLitE
  rfl
set_option maxRecDepth 100000 in
set_option maxHeartbeats 1000000 in
theorem zLit_A (g : GE) (a0 : Nat) (e0 : Nat → Nat) (a1 : Nat) (e1 : Nat → Nat) (a2 a3 : Nat) : (([] ++ ZF9 g a0 e0) ++ ZF10 g a1 e1 ++ [(a2, .inl (g.2.1 2, 1, .inr (.inl (fun _ => 0))))]) ++ [(a3, .inl (g.2.1 3, 1, .inr (.inr (.inr (.inl (fun _ => 0))))))] = zLitE g.2.1 a0 e0 a1 e1 a2 a3 (zUp g.2.1 a0 e0 a1 e1 a2 a3) := by
  simp only [ZF9, ZF10, ZF0, ZF1, ZF2, ZF3, ZF4, ZF5, ZF6, ZF7, ZF8, List.nil_append, List.cons_append, Nat.reduceAdd]
  unfold zLitE zUp
  rfl
