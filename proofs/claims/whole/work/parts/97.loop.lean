/-! the beginning of the law, its loop -/
abbrev fq_0 (q : Nat → Nat) : Nat → Nat → Nat := fun r k => if r = 8 then q (63 + k) else q (84 + 10 * r + k)
def w0_C (g : Nat → ClassId) (o : Nat) (q : Nat → Nat) (out : Nat) : va_W := (out, .inl (g 2, 1, .inr (.inl (fun _ => 0)))) :: (o, .inr (9, [.ref (q 0), .ref (q 2), .ref (q 4), .ref (q 40), .ref (q 45), .ref (q 46), .ref (q 73), .ref (q 62), .ref (q 63), .int 0, .int (-1)])) :: ((q 0), .inr (3, [.ref (q 1), .int 0, .int 0])) :: ((q 1), .inl (g 1, 65536, .inl (fun _ => 0))) :: ((q 2), .inr (3, [.ref (q 3), .int 0, .int 0])) :: ((q 3), .inl (g 1, 32768, .inl (fun _ => 0))) :: ((q 4), .inr (0, [.ref (q 5), .ref (q 6), .ref (q 7), .int 0])) :: ((q 5), .inl (g 0, 16, .inl (fun _ => 0))) :: ((q 6), .inl (g 2, 16, .inr (.inl (fun _ => 0)))) :: ((q 7), .inl (g 4, 16, .inr (.inr (.inr (.inr (fun j => some (q (8 + 2 * j)))))))) :: ((q 8), .inr (3, [.ref (q 9), .int 0, .int 0])) :: ((q 9), .inl (g 1, 200, .inl (fun _ => 0))) :: ((q 10), .inr (3, [.ref (q 11), .int 0, .int 0])) :: ((q 11), .inl (g 1, 200, .inl (fun _ => 0))) :: ((q 12), .inr (3, [.ref (q 13), .int 0, .int 0])) :: ((q 13), .inl (g 1, 200, .inl (fun _ => 0))) :: ((q 14), .inr (3, [.ref (q 15), .int 0, .int 0])) :: ((q 15), .inl (g 1, 200, .inl (fun _ => 0))) :: ((q 16), .inr (3, [.ref (q 17), .int 0, .int 0])) :: ((q 17), .inl (g 1, 200, .inl (fun _ => 0))) :: ((q 18), .inr (3, [.ref (q 19), .int 0, .int 0])) :: ((q 19), .inl (g 1, 200, .inl (fun _ => 0))) :: ((q 20), .inr (3, [.ref (q 21), .int 0, .int 0])) :: ((q 21), .inl (g 1, 200, .inl (fun _ => 0))) :: ((q 22), .inr (3, [.ref (q 23), .int 0, .int 0])) :: ((q 23), .inl (g 1, 200, .inl (fun _ => 0))) :: ((q 24), .inr (3, [.ref (q 25), .int 0, .int 0])) :: ((q 25), .inl (g 1, 200, .inl (fun _ => 0))) :: ((q 26), .inr (3, [.ref (q 27), .int 0, .int 0])) :: ((q 27), .inl (g 1, 200, .inl (fun _ => 0))) :: ((q 28), .inr (3, [.ref (q 29), .int 0, .int 0])) :: ((q 29), .inl (g 1, 200, .inl (fun _ => 0))) :: ((q 30), .inr (3, [.ref (q 31), .int 0, .int 0])) :: ((q 31), .inl (g 1, 200, .inl (fun _ => 0))) :: ((q 32), .inr (3, [.ref (q 33), .int 0, .int 0])) :: ((q 33), .inl (g 1, 200, .inl (fun _ => 0))) :: ((q 34), .inr (3, [.ref (q 35), .int 0, .int 0])) :: ((q 35), .inl (g 1, 200, .inl (fun _ => 0))) :: ((q 36), .inr (3, [.ref (q 37), .int 0, .int 0])) :: ((q 37), .inl (g 1, 200, .inl (fun _ => 0))) :: ((q 38), .inr (3, [.ref (q 39), .int 0, .int 0])) :: ((q 39), .inl (g 1, 200, .inl (fun _ => 0))) :: ((q 40), .inr (7, [.ref (q 41), .ref (q 43), .ref (q 0), .int 0, .int 0, .int 2, .int 0, .long 0, .int 0, .int 0, .int 0, .int 0, .int 0, .int 1])) :: ((q 41), .inr (1, [.ref (q 42), .int 0])) :: ((q 42), .inl (g 0, 96, .inl (fun _ => 0))) :: ((q 43), .inr (1, [.ref (q 44), .int 0])) :: ((q 44), .inl (g 0, 96, .inl (fun _ => 0))) :: ((q 45), .inr (2, [.ref (g (11 + 0)), .int 0, .int 0, .int 0, .long 0, .int 0])) :: ((q 46), .inr (8, [.ref (q 47), .ref (q 52), .ref (q 54), .ref (q 56), .ref (q 58), .ref (q 60), .int 0])) :: ((q 47), .inr (4, [.ref (q 48), .ref (q 50), .ref (q 51), .int 0, .int 1])) :: ((q 48), .inr (1, [.ref (q 49), .int 0])) :: ((q 49), .inl (g 0, 96, .inl (fun _ => 0))) :: ((q 50), .inl (g 0, 88, .inl (fun _ => 0))) :: ((q 51), .inl (g 1, 792, .inl (fun _ => 0))) :: ((q 52), .inr (1, [.ref (q 53), .int 0])) :: ((q 53), .inl (g 0, 96, .inl (fun _ => 0))) :: ((q 54), .inr (1, [.ref (q 55), .int 0])) :: ((q 55), .inl (g 0, 96, .inl (fun _ => 0))) :: ((q 56), .inr (1, [.ref (q 57), .int 0])) :: ((q 57), .inl (g 0, 96, .inl (fun _ => 0))) :: ((q 58), .inr (1, [.ref (q 59), .int 0])) :: ((q 59), .inl (g 0, 96, .inl (fun _ => 0))) :: ((q 60), .inr (1, [.ref (q 61), .int 0])) :: ((q 61), .inl (g 0, 96, .inl (fun _ => 0))) :: ((q 62), .inl (g 5, 8, .inr (.inr (.inr (.inr (frf (fq_0 q))))))) :: ((q 63), .inr (5, [.ref (q 64), .ref (q 66), .ref (q 67), .ref (q 68), .ref (q 69), .ref (q 70), .ref (q 71), .ref (q 72), .int 0, .int 0, .int 0])) :: ((q 64), .inr (3, [.ref (q 65), .int 0, .int 0])) :: ((q 65), .inl (g 1, 1000, .inl (fun _ => 0))) :: ((q 66), .inl (g 0, 500, .inl (fun _ => 0))) :: ((q 67), .inl (g 0, 500, .inl (fun _ => 0))) :: ((q 68), .inl (g 0, 500, .inl (fun _ => 0))) :: ((q 69), .inl (g 0, 500, .inl (fun _ => 0))) :: ((q 70), .inl (g 0, 500, .inl (fun _ => 0))) :: ((q 71), .inl (g 0, 500, .inl (fun _ => 0))) :: ((q 72), .inl (g 0, 500, .inl (fun _ => 0))) :: ((q 73), .inr (6, [.ref (q 2), .ref (q 4), .ref (q 46), .ref (q 74), .ref (q 79), .ref (q 80), .ref (q 82), .int 0, .int 0, .int 0, .int (-1), .int (-1), .int 0, .int 115])) :: ((q 74), .inr (4, [.ref (q 75), .ref (q 77), .ref (q 78), .int 0, .int 1])) :: ((q 75), .inr (1, [.ref (q 76), .int 0])) :: ((q 76), .inl (g 0, 96, .inl (fun _ => 0))) :: ((q 77), .inl (g 0, 88, .inl (fun _ => 0))) :: ((q 78), .inl (g 1, 792, .inl (fun _ => 0))) :: ((q 79), .inr (2, [.ref (g (11 + 0)), .int 0, .int 0, .int 0, .long 0, .int 0])) :: ((q 80), .inr (3, [.ref (q 81), .int 0, .int 0])) :: ((q 81), .inl (g 1, 4, .inl (fun _ => 0))) :: ((q 82), .inr (3, [.ref (q 83), .int 0, .int 0])) :: ((q 83), .inl (g 1, 10600, .inl (fun _ => 0))) :: ((q 84), .inr (5, [.ref (q 85), .ref (q 87), .ref (q 88), .ref (q 89), .ref (q 90), .ref (q 91), .ref (q 92), .ref (q 93), .int 0, .int 0, .int 0])) :: ((q 85), .inr (3, [.ref (q 86), .int 0, .int 0])) :: ((q 86), .inl (g 1, 1000, .inl (fun _ => 0))) :: ((q 87), .inl (g 0, 500, .inl (fun _ => 0))) :: ((q 88), .inl (g 0, 500, .inl (fun _ => 0))) :: ((q 89), .inl (g 0, 500, .inl (fun _ => 0))) :: ((q 90), .inl (g 0, 500, .inl (fun _ => 0))) :: ((q 91), .inl (g 0, 500, .inl (fun _ => 0))) :: ((q 92), .inl (g 0, 500, .inl (fun _ => 0))) :: ((q 93), .inl (g 0, 500, .inl (fun _ => 0))) :: ((q 94), .inr (5, [.ref (q 95), .ref (q 97), .ref (q 98), .ref (q 99), .ref (q 100), .ref (q 101), .ref (q 102), .ref (q 103), .int 0, .int 0, .int 0])) :: ((q 95), .inr (3, [.ref (q 96), .int 0, .int 0])) :: ((q 96), .inl (g 1, 1000, .inl (fun _ => 0))) :: ((q 97), .inl (g 0, 500, .inl (fun _ => 0))) :: ((q 98), .inl (g 0, 500, .inl (fun _ => 0))) :: ((q 99), .inl (g 0, 500, .inl (fun _ => 0))) :: ((q 100), .inl (g 0, 500, .inl (fun _ => 0))) :: ((q 101), .inl (g 0, 500, .inl (fun _ => 0))) :: ((q 102), .inl (g 0, 500, .inl (fun _ => 0))) :: ((q 103), .inl (g 0, 500, .inl (fun _ => 0))) :: ((q 104), .inr (5, [.ref (q 105), .ref (q 107), .ref (q 108), .ref (q 109), .ref (q 110), .ref (q 111), .ref (q 112), .ref (q 113), .int 0, .int 0, .int 0])) :: ((q 105), .inr (3, [.ref (q 106), .int 0, .int 0])) :: ((q 106), .inl (g 1, 1000, .inl (fun _ => 0))) :: ((q 107), .inl (g 0, 500, .inl (fun _ => 0))) :: ((q 108), .inl (g 0, 500, .inl (fun _ => 0))) :: ((q 109), .inl (g 0, 500, .inl (fun _ => 0))) :: ((q 110), .inl (g 0, 500, .inl (fun _ => 0))) :: ((q 111), .inl (g 0, 500, .inl (fun _ => 0))) :: ((q 112), .inl (g 0, 500, .inl (fun _ => 0))) :: ((q 113), .inl (g 0, 500, .inl (fun _ => 0))) :: ((q 114), .inr (5, [.ref (q 115), .ref (q 117), .ref (q 118), .ref (q 119), .ref (q 120), .ref (q 121), .ref (q 122), .ref (q 123), .int 0, .int 0, .int 0])) :: ((q 115), .inr (3, [.ref (q 116), .int 0, .int 0])) :: ((q 116), .inl (g 1, 1000, .inl (fun _ => 0))) :: ((q 117), .inl (g 0, 500, .inl (fun _ => 0))) :: ((q 118), .inl (g 0, 500, .inl (fun _ => 0))) :: ((q 119), .inl (g 0, 500, .inl (fun _ => 0))) :: ((q 120), .inl (g 0, 500, .inl (fun _ => 0))) :: ((q 121), .inl (g 0, 500, .inl (fun _ => 0))) :: ((q 122), .inl (g 0, 500, .inl (fun _ => 0))) :: ((q 123), .inl (g 0, 500, .inl (fun _ => 0))) :: ((q 124), .inr (5, [.ref (q 125), .ref (q 127), .ref (q 128), .ref (q 129), .ref (q 130), .ref (q 131), .ref (q 132), .ref (q 133), .int 0, .int 0, .int 0])) :: ((q 125), .inr (3, [.ref (q 126), .int 0, .int 0])) :: ((q 126), .inl (g 1, 1000, .inl (fun _ => 0))) :: ((q 127), .inl (g 0, 500, .inl (fun _ => 0))) :: ((q 128), .inl (g 0, 500, .inl (fun _ => 0))) :: ((q 129), .inl (g 0, 500, .inl (fun _ => 0))) :: ((q 130), .inl (g 0, 500, .inl (fun _ => 0))) :: ((q 131), .inl (g 0, 500, .inl (fun _ => 0))) :: ((q 132), .inl (g 0, 500, .inl (fun _ => 0))) :: ((q 133), .inl (g 0, 500, .inl (fun _ => 0))) :: ((q 134), .inr (5, [.ref (q 135), .ref (q 137), .ref (q 138), .ref (q 139), .ref (q 140), .ref (q 141), .ref (q 142), .ref (q 143), .int 0, .int 0, .int 0])) :: ((q 135), .inr (3, [.ref (q 136), .int 0, .int 0])) :: ((q 136), .inl (g 1, 1000, .inl (fun _ => 0))) :: ((q 137), .inl (g 0, 500, .inl (fun _ => 0))) :: ((q 138), .inl (g 0, 500, .inl (fun _ => 0))) :: ((q 139), .inl (g 0, 500, .inl (fun _ => 0))) :: ((q 140), .inl (g 0, 500, .inl (fun _ => 0))) :: ((q 141), .inl (g 0, 500, .inl (fun _ => 0))) :: ((q 142), .inl (g 0, 500, .inl (fun _ => 0))) :: ((q 143), .inl (g 0, 500, .inl (fun _ => 0))) :: ((q 144), .inr (5, [.ref (q 145), .ref (q 147), .ref (q 148), .ref (q 149), .ref (q 150), .ref (q 151), .ref (q 152), .ref (q 153), .int 0, .int 0, .int 0])) :: ((q 145), .inr (3, [.ref (q 146), .int 0, .int 0])) :: ((q 146), .inl (g 1, 1000, .inl (fun _ => 0))) :: ((q 147), .inl (g 0, 500, .inl (fun _ => 0))) :: ((q 148), .inl (g 0, 500, .inl (fun _ => 0))) :: ((q 149), .inl (g 0, 500, .inl (fun _ => 0))) :: ((q 150), .inl (g 0, 500, .inl (fun _ => 0))) :: ((q 151), .inl (g 0, 500, .inl (fun _ => 0))) :: ((q 152), .inl (g 0, 500, .inl (fun _ => 0))) :: ((q 153), .inl (g 0, 500, .inl (fun _ => 0))) :: ((q 154), .inr (5, [.ref (q 155), .ref (q 157), .ref (q 158), .ref (q 159), .ref (q 160), .ref (q 161), .ref (q 162), .ref (q 163), .int 0, .int 0, .int 0])) :: ((q 155), .inr (3, [.ref (q 156), .int 0, .int 0])) :: ((q 156), .inl (g 1, 1000, .inl (fun _ => 0))) :: ((q 157), .inl (g 0, 500, .inl (fun _ => 0))) :: ((q 158), .inl (g 0, 500, .inl (fun _ => 0))) :: ((q 159), .inl (g 0, 500, .inl (fun _ => 0))) :: ((q 160), .inl (g 0, 500, .inl (fun _ => 0))) :: ((q 161), .inl (g 0, 500, .inl (fun _ => 0))) :: ((q 162), .inl (g 0, 500, .inl (fun _ => 0))) :: ((q 163), .inl (g 0, 500, .inl (fun _ => 0))) :: []
def w0_M (g : Nat → ClassId) (om : Nat) (u : Nat → Nat) : va_W := (om, .inr (11, [.ref (u 0), .ref (u 1), .int 0, .int 0, .int 0, .int (-1), .int 0, .int 0, .ref (u 2), .int 0, .ref (u 3), .ref (u 5), .ref (u 7), .ref (u 9), .ref (u 11), .ref (u 13), .int 0, .ref (u 14), .ref (u 15), .int 0, .long 0, .int 0, .int 0, .ref (u 16), .int 0, .int 0, .ref (u 17), .int 0, .int 0, .int 0, .ref (u 19), .ref (u 20), .ref (u 21), .ref (u 38), .int 0, .ref (u 39), .ref (u 48), .ref (u 49), .null, .int 0, .int 0, .int 0, .int 0, .int 0, .ref (u 50), .int 0, .int 0, .int 0, .int 0, .int 0])) :: ((u 0), .inl (g 1, 65536, .inl (fun _ => 0))) :: ((u 1), .inl (g 1, 32768, .inl (fun _ => 0))) :: ((u 2), .inl (g 2, 160, .inr (.inl (fun _ => 0)))) :: ((u 3), .inr (10, [.ref (u 4), .int 0, .int 0])) :: ((u 4), .inl (g 1, 1300, .inl (fun _ => 0))) :: ((u 5), .inr (10, [.ref (u 6), .int 0, .int 0])) :: ((u 6), .inl (g 1, 1300, .inl (fun _ => 0))) :: ((u 7), .inr (10, [.ref (u 8), .int 0, .int 0])) :: ((u 8), .inl (g 1, 1300, .inl (fun _ => 0))) :: ((u 9), .inr (10, [.ref (u 10), .int 0, .int 0])) :: ((u 10), .inl (g 1, 1300, .inl (fun _ => 0))) :: ((u 11), .inr (10, [.ref (u 12), .int 0, .int 0])) :: ((u 12), .inl (g 1, 1300, .inl (fun _ => 0))) :: ((u 13), .inl (g 1, 4096, .inl (fun _ => 0))) :: ((u 14), .inl (g 1, 72, .inl (fun _ => 0))) :: ((u 15), .inl (g 1, 65536, .inl (fun _ => 0))) :: ((u 16), .inl (g 1, 12000, .inl (fun _ => 0))) :: ((u 17), .inr (10, [.ref (u 18), .int 0, .int 0])) :: ((u 18), .inl (g 1, 1300, .inl (fun _ => 0))) :: ((u 19), .inl (g 0, 16, .inl (fun _ => 0))) :: ((u 20), .inl (g 2, 16, .inr (.inl (fun _ => 0)))) :: ((u 21), .inl (g 6, 16, .inr (.inr (.inr (.inr (fun j => some (u (22 + j)))))))) :: ((u 22), .inl (g 1, 200, .inl (fun _ => 0))) :: ((u 23), .inl (g 1, 200, .inl (fun _ => 0))) :: ((u 24), .inl (g 1, 200, .inl (fun _ => 0))) :: ((u 25), .inl (g 1, 200, .inl (fun _ => 0))) :: ((u 26), .inl (g 1, 200, .inl (fun _ => 0))) :: ((u 27), .inl (g 1, 200, .inl (fun _ => 0))) :: ((u 28), .inl (g 1, 200, .inl (fun _ => 0))) :: ((u 29), .inl (g 1, 200, .inl (fun _ => 0))) :: ((u 30), .inl (g 1, 200, .inl (fun _ => 0))) :: ((u 31), .inl (g 1, 200, .inl (fun _ => 0))) :: ((u 32), .inl (g 1, 200, .inl (fun _ => 0))) :: ((u 33), .inl (g 1, 200, .inl (fun _ => 0))) :: ((u 34), .inl (g 1, 200, .inl (fun _ => 0))) :: ((u 35), .inl (g 1, 200, .inl (fun _ => 0))) :: ((u 36), .inl (g 1, 200, .inl (fun _ => 0))) :: ((u 37), .inl (g 1, 200, .inl (fun _ => 0))) :: ((u 38), .inl (g 0, 16, .inl (fun _ => 0))) :: ((u 39), .inl (g 6, 8, .inr (.inr (.inr (.inr (fun j => some (u (40 + j)))))))) :: ((u 40), .inl (g 1, 1000, .inl (fun _ => 0))) :: ((u 41), .inl (g 1, 1000, .inl (fun _ => 0))) :: ((u 42), .inl (g 1, 1000, .inl (fun _ => 0))) :: ((u 43), .inl (g 1, 1000, .inl (fun _ => 0))) :: ((u 44), .inl (g 1, 1000, .inl (fun _ => 0))) :: ((u 45), .inl (g 1, 1000, .inl (fun _ => 0))) :: ((u 46), .inl (g 1, 1000, .inl (fun _ => 0))) :: ((u 47), .inl (g 1, 1000, .inl (fun _ => 0))) :: ((u 48), .inl (g 0, 8, .inl (fun _ => 0))) :: ((u 49), .inl (g 3, 8, .inl (fun _ => 0))) :: ((u 50), .inl (g 0, 7, .inl (fun _ => 0))) :: []
set_option maxHeartbeats 4000000 in
set_option maxRecDepth 100000 in
theorem w0_pC (g : Nat → ClassId) (o : Nat) (q : Nat → Nat) (out : Nat) : (wCL g o q (fq_0 q) out (fun _ => 0) NV0).Perm (w0_C g o q out) := gx_pmn (n := 166) [0, 1, 2, 3, 4, 5, 6, 7, 8, 9, 44, 45, 46, 47, 48, 49, 50, 51, 52, 53, 54, 55, 56, 57, 58, 59, 60, 61, 62, 63, 64, 65, 66, 67, 68, 69, 70, 71, 72, 73, 74, 75, 10, 11, 12, 13, 14, 15, 16, 17, 18, 19, 20, 21, 22, 23, 24, 25, 26, 27, 28, 29, 30, 31, 32, 156, 157, 158, 159, 160, 161, 162, 163, 164, 165, 33, 34, 35, 36, 37, 38, 39, 40, 41, 42, 43, 76, 77, 78, 79, 80, 81, 82, 83, 84, 85, 86, 87, 88, 89, 90, 91, 92, 93, 94, 95, 96, 97, 98, 99, 100, 101, 102, 103, 104, 105, 106, 107, 108, 109, 110, 111, 112, 113, 114, 115, 116, 117, 118, 119, 120, 121, 122, 123, 124, 125, 126, 127, 128, 129, 130, 131, 132, 133, 134, 135, 136, 137, 138, 139, 140, 141, 142, 143, 144, 145, 146, 147, 148, 149, 150, 151, 152, 153, 154, 155] (by decide +kernel) rfl rfl
set_option maxHeartbeats 4000000 in
set_option maxRecDepth 100000 in
theorem w0_pM (g : Nat → ClassId) (om : Nat) (u : Nat → Nat) : (wMD g om u (u 13) MV0).Perm (w0_M g om u) := gx_pmn (n := 52) [0, 1, 2, 3, 4, 5, 6, 7, 8, 9, 10, 11, 12, 13, 14, 15, 16, 17, 18, 19, 20, 21, 22, 28, 29, 30, 31, 32, 33, 34, 35, 36, 37, 38, 39, 40, 41, 42, 43, 23, 24, 44, 45, 46, 47, 48, 49, 50, 51, 25, 26, 27] (by decide +kernel) rfl rfl
theorem INV0 : INV NV0 MV0 := by
  refine INV_mk [] [] [] ⟨BY_nil _ _, Nat.zero_le _, rfl, fun i x hx => by simp at hx, fun x hx => by simp at hx⟩ ⟨BY_nil _ _, Nat.zero_le _, rfl, fun j x hx => by simp at hx⟩ ⟨⟨rfl, rfl, Nat.zero_le _, fun i a h => by simp at h, fun i a h => by simp at h, fun i a h => by simp at h, fun i _ => ⟨[], BY_nil _ _⟩⟩, fun a h => by simp at h⟩ ⟨fun f _ => ⟨⟨[], BY_nil _ _⟩, Or.inl ⟨rfl, rfl⟩⟩, ⟨[], BY_nil _ _⟩, rfl⟩ rfl ⟨0, rfl, by omega⟩ ⟨0, rfl, by omega⟩ ⟨by decide, by decide⟩
section LWL
variable {p : Program} {l : Launch} {e : Env} {s : State} {m : MethodId} {below : List Frame} {meth : Method} {c : Code} {H : Heap} {locs : List Loc} {cells slots : Nat} {Q : State → Prop} {D : va_G} {g : Nat → ClassId} {b L : Nat} {xs : Nat → Int32} {o : Nat} {om : Nat} {out : Nat} {i : Int32} {ls : Array Slot}
set_option maxRecDepth 100000 in
theorem lo_next (S : CallFix p m c code 8 s #[Value.ref b] gtbl "NumberTextLaw") (hl : lv_has ls 8 [(0, .ref b), (1, .ref o), (2, .ref om), (3, .ref out), (4, .int i)]) (K : ∀ ls1 : Array Slot, lv_has ls1 8 [(0, .ref b), (1, .ref o), (2, .ref om), (3, .ref out), (4, .int (i + 6))] → W p l e room_1 s m #[Value.ref b] below meth c H locs cells slots Q (F0 m 23 ls1 [])) : W p l e room_1 s m #[Value.ref b] below meth c H locs cells slots Q (F0 m 933 ls []) := by
  refine lv_iinc (v := i + 6) (lv' := [(4, .int (i + 6)), (0, .ref b), (1, .ref o), (2, .ref om), (3, .ref out)]) S.1 S.2.1 dl_933 hl (k := 4) rfl rfl (by decide) rfl (fun ls hl => ?_)
  refine lv_goto (tgt := 23) S.1 S.2.1 dl_936 (by decide) ?_
  exact K ls (lv_sub hl [1, 2, 3, 4, 0] rfl)
set_option maxHeartbeats 4000000 in
set_option maxRecDepth 100000 in
theorem lo_head (S : CallFix p m c code 8 s #[Value.ref b] gtbl "NumberTextLaw") (hX : va_X b L xs s s.heap) (hbl : b < s.heap.size) (hS : va_S (gx_A0 s) s.heap H locs) (hl : lv_has ls 8 [(0, .ref b), (1, .ref o), (2, .ref om), (3, .ref out), (4, .int i)]) (hv : ¬ Int32.ofNat L - 6 < i → vp_in i L) (K0 : Int32.ofNat L - 6 < i → W p l e room_1 s m #[Value.ref b] below meth c H locs cells slots Q (F0 m 939 ls [])) (K : ¬ Int32.ofNat L - 6 < i → W p l e room_1 s m #[Value.ref b] below meth c H locs cells slots Q (F0 m 112 ls []) ∧ W p l e room_1 s m #[Value.ref b] below meth c H locs cells slots Q (F0 m 216 ls []) ∧ W p l e room_1 s m #[Value.ref b] below meth c H locs cells slots Q (F0 m 272 ls []) ∧ W p l e room_1 s m #[Value.ref b] below meth c H locs cells slots Q (F0 m 329 ls []) ∧ W p l e room_1 s m #[Value.ref b] below meth c H locs cells slots Q (F0 m 354 ls []) ∧ W p l e room_1 s m #[Value.ref b] below meth c H locs cells slots Q (F0 m 397 ls []) ∧ W p l e room_1 s m #[Value.ref b] below meth c H locs cells slots Q (F0 m 441 ls []) ∧ W p l e room_1 s m #[Value.ref b] below meth c H locs cells slots Q (F0 m 553 ls []) ∧ W p l e room_1 s m #[Value.ref b] below meth c H locs cells slots Q (F0 m 653 ls []) ∧ W p l e room_1 s m #[Value.ref b] below meth c H locs cells slots Q (F0 m 697 ls []) ∧ W p l e room_1 s m #[Value.ref b] below meth c H locs cells slots Q (F0 m 710 ls []) ∧ W p l e room_1 s m #[Value.ref b] below meth c H locs cells slots Q (F0 m 766 ls []) ∧ W p l e room_1 s m #[Value.ref b] below meth c H locs cells slots Q (F0 m 822 ls []) ∧ W p l e room_1 s m #[Value.ref b] below meth c H locs cells slots Q (F0 m 877 ls []) ∧ W p l e room_1 s m #[Value.ref b] below meth c H locs cells slots Q (F0 m 933 ls [])) : W p l e room_1 s m #[Value.ref b] below meth c H locs cells slots Q (F0 m 23 ls []) := by
  have hbA : ¬ gx_A0 s b := Nat.not_le.mpr hbl
  refine lv_iload S.1 S.2.1 dl_23 (lv_at hl 4 rfl) ?_
  refine lv_aload_n S.1 S.2.1 dl_25 rfl (lv_at hl 0 rfl) ?_
  refine va_slen S.1 S.2.1 hX hbl hbA hS dl_26 ?_
  refine lv_bipush (v := 6) S.1 S.2.1 dl_27 (by decide) ?_
  refine lv_isub S.1 S.2.1 dl_29 ?_
  refine lv_icmp_gt (tgt := 939) S.1 S.2.1 dl_30 (by decide) (fun h => K0 h) (fun h => ?_)
  refine lv_aload_n S.1 S.2.1 dl_33 rfl (lv_at hl 0 rfl) ?_
  refine lv_iload S.1 S.2.1 dl_34 (lv_at hl 4 rfl) ?_
  refine va_sld S.1 S.2.1 hX hbl hbA hS (hv h) dl_36 ?_
  refine lv_bipush (v := 15) S.1 S.2.1 dl_37 (by decide) ?_
  refine lv_iand S.1 S.2.1 dl_39 ?_
  obtain ⟨k0, k1, k2, k3, k4, k5, k6, k7, k8, k9, k10, k11, k12, k13, kd⟩ := K h
  generalize xs i.toNatClampNeg &&& (15 : Int32) = x at *
  have ne : ∀ j : Int32, ¬ x = j → x.toInt ≠ j.toInt := fun j hj e => hj (Int32.toInt_inj.mp e)
  by_cases h0 : x = 0
  · rw [h0]
    exact lv_tableIn (off := 72) (tgt := 112) S.1 S.2.1 dl_40 (by decide) (by decide) (by decide) (by decide) k0
  by_cases h1 : x = 1
  · rw [h1]
    exact lv_tableIn (off := 176) (tgt := 216) S.1 S.2.1 dl_40 (by decide) (by decide) (by decide) (by decide) k1
  by_cases h2 : x = 2
  · rw [h2]
    exact lv_tableIn (off := 232) (tgt := 272) S.1 S.2.1 dl_40 (by decide) (by decide) (by decide) (by decide) k2
  by_cases h3 : x = 3
  · rw [h3]
    exact lv_tableIn (off := 289) (tgt := 329) S.1 S.2.1 dl_40 (by decide) (by decide) (by decide) (by decide) k3
  by_cases h4 : x = 4
  · rw [h4]
    exact lv_tableIn (off := 314) (tgt := 354) S.1 S.2.1 dl_40 (by decide) (by decide) (by decide) (by decide) k4
  by_cases h5 : x = 5
  · rw [h5]
    exact lv_tableIn (off := 357) (tgt := 397) S.1 S.2.1 dl_40 (by decide) (by decide) (by decide) (by decide) k5
  by_cases h6 : x = 6
  · rw [h6]
    exact lv_tableIn (off := 401) (tgt := 441) S.1 S.2.1 dl_40 (by decide) (by decide) (by decide) (by decide) k6
  by_cases h7 : x = 7
  · rw [h7]
    exact lv_tableIn (off := 513) (tgt := 553) S.1 S.2.1 dl_40 (by decide) (by decide) (by decide) (by decide) k7
  by_cases h8 : x = 8
  · rw [h8]
    exact lv_tableIn (off := 613) (tgt := 653) S.1 S.2.1 dl_40 (by decide) (by decide) (by decide) (by decide) k8
  by_cases h9 : x = 9
  · rw [h9]
    exact lv_tableIn (off := 657) (tgt := 697) S.1 S.2.1 dl_40 (by decide) (by decide) (by decide) (by decide) k9
  by_cases h10 : x = 10
  · rw [h10]
    exact lv_tableIn (off := 670) (tgt := 710) S.1 S.2.1 dl_40 (by decide) (by decide) (by decide) (by decide) k10
  by_cases h11 : x = 11
  · rw [h11]
    exact lv_tableIn (off := 726) (tgt := 766) S.1 S.2.1 dl_40 (by decide) (by decide) (by decide) (by decide) k11
  by_cases h12 : x = 12
  · rw [h12]
    exact lv_tableIn (off := 782) (tgt := 822) S.1 S.2.1 dl_40 (by decide) (by decide) (by decide) (by decide) k12
  by_cases h13 : x = 13
  · rw [h13]
    exact lv_tableIn (off := 837) (tgt := 877) S.1 S.2.1 dl_40 (by decide) (by decide) (by decide) (by decide) k13
  refine lv_tableOut (tgt := 933) S.1 S.2.1 dl_40 ?_ (by decide) kd
  have n0_ : x.toInt ≠ 0 := by have := ne 0 h0; rwa [show (0 : Int32).toInt = 0 from by decide] at this
  have n1_ : x.toInt ≠ 1 := by have := ne 1 h1; rwa [show (1 : Int32).toInt = 1 from by decide] at this
  have n2_ : x.toInt ≠ 2 := by have := ne 2 h2; rwa [show (2 : Int32).toInt = 2 from by decide] at this
  have n3_ : x.toInt ≠ 3 := by have := ne 3 h3; rwa [show (3 : Int32).toInt = 3 from by decide] at this
  have n4_ : x.toInt ≠ 4 := by have := ne 4 h4; rwa [show (4 : Int32).toInt = 4 from by decide] at this
  have n5_ : x.toInt ≠ 5 := by have := ne 5 h5; rwa [show (5 : Int32).toInt = 5 from by decide] at this
  have n6_ : x.toInt ≠ 6 := by have := ne 6 h6; rwa [show (6 : Int32).toInt = 6 from by decide] at this
  have n7_ : x.toInt ≠ 7 := by have := ne 7 h7; rwa [show (7 : Int32).toInt = 7 from by decide] at this
  have n8_ : x.toInt ≠ 8 := by have := ne 8 h8; rwa [show (8 : Int32).toInt = 8 from by decide] at this
  have n9_ : x.toInt ≠ 9 := by have := ne 9 h9; rwa [show (9 : Int32).toInt = 9 from by decide] at this
  have n10_ : x.toInt ≠ 10 := by have := ne 10 h10; rwa [show (10 : Int32).toInt = 10 from by decide] at this
  have n11_ : x.toInt ≠ 11 := by have := ne 11 h11; rwa [show (11 : Int32).toInt = 11 from by decide] at this
  have n12_ : x.toInt ≠ 12 := by have := ne 12 h12; rwa [show (12 : Int32).toInt = 12 from by decide] at this
  have n13_ : x.toInt ≠ 13 := by have := ne 13 h13; rwa [show (13 : Int32).toInt = 13 from by decide] at this
  omega
theorem lw_ini {t L : Nat} (hL : L ≤ 3072) (h : 6 * t + 6 ≤ L) (j : Nat) (hj : j ≤ 5) : vp_in (iI ((6 * t : Nat) : Int) + iI (j : Int)) L := by
  rw [iI_add]
  refine gx_okv ?_
  rw [iI_ok (by omega) (by omega) (by omega)]
  omega
set_option maxHeartbeats 4000000 in
set_option maxRecDepth 100000 in
theorem lo_loop (S : CallFix p m c code 8 s #[Value.ref b] gtbl "NumberTextLaw") (E : gx_E s D g s (gx_A0 s)) (hH : gx_H l s) (hX : va_X b L xs s s.heap) (hbl : b < s.heap.size) (hL : L ≤ 3072) {q u : Nat → Nat} (K0 : ∀ (H : Heap) (locs : List Loc) (cells slots : Nat) (ls : Array Slot), va_S (gx_A0 s) s.heap H locs → cells ≤ 601024 → slots ≤ 7293034 → W p l e room_1 s m #[Value.ref b] below meth c H locs cells slots Q (F0 m 939 ls [])) : ∀ (n t : Nat) (fq : Nat → Nat → Nat) (oc : Nat → Int64) (v : NV) (qb : Nat) (w : MV) (H : Heap) (locs : List Loc) (cells slots : Nat) (ls : Array Slot), t + n = 513 → L ≤ 6 * t + 6 * n → INV v w → cells ≤ 218 + t + m60 w → slots ≤ 354896 + 6 * t + 2 * m60 w → va_S (gx_A0 s) s.heap H locs → va_P D vwC (wCL g o q fq out oc v ++ wMD g om u qb w) H → va_D (gx_A0 s) (wCL g o q fq out oc v ++ wMD g om u qb w) → lv_has ls 8 [(0, .ref b), (1, .ref o), (2, .ref om), (3, .ref out), (4, .int (iI ((6 * t : Nat) : Int)))] → W p l e room_1 s m #[Value.ref b] below meth c H locs cells slots Q (F0 m 23 ls [])
  | 0, t, fq, oc, v, qb, w, H, locs, cells, slots, ls, ht, hn, I, hc, hs, hS, hP, hD, hl => by
    have hb2 : 0 < m60 w ∧ m60 w ≤ 140000 := by
      obtain ⟨E_, R_, A_, -, -, -, -, -, -, -, hb2⟩ := I
      exact hb2
    have hlt : Int32.ofNat L - 6 < iI ((6 * t : Nat) : Int) := by
      rw [iI_ofNat, show (6 : Int32) = iI 6 from rfl, iI_sub, iI_lt (by omega) (by omega) (by omega) (by omega)]
      omega
    exact lo_head S hX hbl hS hl (fun h => absurd hlt h) (fun _ => K0 H locs cells slots ls hS (by omega) (by omega)) (fun h => absurd hlt h)
  | n + 1, t, fq, oc, v, qb, w, H, locs, cells, slots, ls, ht, hn, I, hc, hs, hS, hP, hD, hl => by
    have hb2 : 0 < m60 w ∧ m60 w ≤ 140000 := by
      obtain ⟨E_, R_, A_, -, -, -, -, -, -, -, hb2⟩ := I
      exact hb2
    have rc : room_1.cells = 601024 := rfl
    have rs : room_1.slots = 7293034 := rfl
    have hpl : iI ((6 * t : Nat) : Int) + 6 = iI ((6 * (t + 1) : Nat) : Int) := by
      rw [show (6 : Int32) = iI 6 from rfl, iI_add]; congr 1
    have next : ∀ (fq : Nat → Nat → Nat) (oc : Nat → Int64) (v : NV) (qb : Nat) (w : MV) (H : Heap) (locs : List Loc) (cells slots : Nat) (ls : Array Slot), INV v w → cells ≤ 218 + (t + 1) + m60 w → slots ≤ 354896 + 6 * (t + 1) + 2 * m60 w → va_S (gx_A0 s) s.heap H locs → va_P D vwC (wCL g o q fq out oc v ++ wMD g om u qb w) H → va_D (gx_A0 s) (wCL g o q fq out oc v ++ wMD g om u qb w) → lv_has ls 8 [(0, .ref b), (1, .ref o), (2, .ref om), (3, .ref out), (4, .int (iI ((6 * t : Nat) : Int)))] → W p l e room_1 s m #[Value.ref b] below meth c H locs cells slots Q (F0 m 933 ls []) := by
      intro fq oc v qb w H locs cells slots ls I hc hs hS hP hD hl
      refine lo_next S hl (fun ls1 hl1 => ?_)
      rw [hpl] at hl1
      exact lo_loop S E hH hX hbl hL K0 n (t + 1) fq oc v qb w H locs cells slots ls1 (by omega) (by omega) I hc hs hS hP hD hl1
    have key : ¬ Int32.ofNat L - 6 < iI ((6 * t : Nat) : Int) → 6 * t + 6 ≤ L := by
      intro h
      rw [iI_ofNat, show (6 : Int32) = iI 6 from rfl, iI_sub, iI_lt (by omega) (by omega) (by omega) (by omega)] at h
      omega
    refine lo_head S hX hbl hS hl (fun h => ?_) (fun _ => K0 H locs cells slots ls hS (by omega) (by omega)) (fun h => ?_)
    · have := lw_ini hL (key h) 0 (by omega)
      rw [iI_add] at this
      simpa using this
    have hin : lw_in (iI ((6 * t : Nat) : Int)) L := ⟨lw_ini hL (key h) 1 (by omega), lw_ini hL (key h) 2 (by omega), lw_ini hL (key h) 3 (by omega), lw_ini hL (key h) 4 (by omega), lw_ini hL (key h) 5 (by omega)⟩
    refine ⟨?_, ?_, ?_, ?_, ?_, ?_, ?_, ?_, ?_, ?_, ?_, ?_, ?_, ?_, ?_⟩
    · obtain ⟨X, fr, lo, k, kc, bm, fq', oc', v', qx, w', hC, hr, hM, hk, ha, hI, hb, hb3⟩ := st_0 hH D g o q fq out oc om u qb I (xs (iI ((6 * t : Nat) : Int) + (1 : Int32)).toNatClampNeg) (xs (iI ((6 * t : Nat) : Int) + (2 : Int32)).toNatClampNeg) (xs (iI ((6 * t : Nat) : Int) + (3 : Int32)).toNatClampNeg) (xs (iI ((6 * t : Nat) : Int) + (4 : Int32)).toNatClampNeg) (xs (iI ((6 * t : Nat) : Int) + (5 : Int32)).toNatClampNeg)
      exact lo_0 S E hX hbl hin hS hP hD hl hC hr hM (fun t => by
        have hT := th_ok l s D g om u (qx t) (w' t)
        rw [hk t] at hT
        exact hT) rfl ha ⟨by omega, by omega⟩ (fun t H1 locs1 ls1 hS hP hD hl => next fq' oc' v' (qx t) (w' t) H1 locs1 _ _ ls1 (hI t) (by rw [hb t]; omega) (by rw [hb t]; omega) hS hP hD hl)
    · obtain ⟨X, fr, lo, k, kc, bm, fq', oc', v', qx, w', hC, hr, hM, hk, ha, hI, hb, hb3⟩ := st_1 hH D g o q fq out oc om u qb I (xs (iI ((6 * t : Nat) : Int) + (1 : Int32)).toNatClampNeg)
      exact lo_1 S E hX hbl hin hS hP hD hl hC hr hM (fun t => by
        have hT := th_ok l s D g om u (qx t) (w' t)
        rw [hk t] at hT
        exact hT) rfl ha ⟨by omega, by omega⟩ (fun t H1 locs1 ls1 hS hP hD hl => next fq' oc' v' (qx t) (w' t) H1 locs1 _ _ ls1 (hI t) (by rw [hb t]; omega) (by rw [hb t]; omega) hS hP hD hl)
    · obtain ⟨X, k, kc, bm, v', qx, w', hC, hM, hk, hI, hb, hb3⟩ := st_2 hH D g o q fq out oc om u qb I (lw_lng (xs (iI ((6 * t : Nat) : Int) + (1 : Int32)).toNatClampNeg) (xs (iI ((6 * t : Nat) : Int) + (2 : Int32)).toNatClampNeg))
      exact lo_2 S E hX hbl hin hS hP hD hl hC hM hk ⟨by omega, by omega⟩ (fun t H1 locs1 ls1 hS hP hD hl => next fq oc v' (qx t) (w' t) H1 locs1 _ _ ls1 (hI t) (by rw [hb t]; omega) (by rw [hb t]; omega) hS hP hD hl)
    · obtain ⟨X, k, kc, bm, v', qx, w', hC, hM, hk, hI, hb, hb3⟩ := st_3 hH D g o q fq out oc om u qb I (xs (iI ((6 * t : Nat) : Int) + (1 : Int32)).toNatClampNeg)
      exact lo_3 S E hX hbl hin hS hP hD hl hC hM hk ⟨by omega, by omega⟩ (fun t H1 locs1 ls1 hS hP hD hl => next fq oc v' (qx t) (w' t) H1 locs1 _ _ ls1 (hI t) (by rw [hb t]; omega) (by rw [hb t]; omega) hS hP hD hl)
    · obtain ⟨fr, lo, kc, bm, fq', oc', v', w', hC, hr, hM, hk, ha, hI, hb⟩ := st_4 hH D g o q fq out oc om u qb I 
      have hT := th_ok l s D g om u qb w'
      rw [hk] at hT
      exact lo_4 S E hX hbl hin hS hP hD hl hC hr hM hT rfl ha ⟨by omega, by omega⟩ (fun H1 locs1 ls1 hS hP hD hl => next fq' oc' v' qb w' H1 locs1 _ _ ls1 hI (by rw [hb]; omega) (by rw [hb]; omega) hS hP hD hl)
    · obtain ⟨X, fr, lo, k, kc, bm, fq', oc', v', qx, w', hC, hr, hM, hk, ha, hI, hb, hb3⟩ := st_5 hH D g o q fq out oc om u qb I 
      exact lo_5 S E hX hbl hin hS hP hD hl hC hr hM (fun t => by
        have hT := th_ok l s D g om u (qx t) (w' t)
        rw [hk t] at hT
        exact hT) rfl ha ⟨by omega, by omega⟩ (fun t H1 locs1 ls1 hS hP hD hl => next fq' oc' v' (qx t) (w' t) H1 locs1 _ _ ls1 (hI t) (by rw [hb t]; omega) (by rw [hb t]; omega) hS hP hD hl)
    · obtain ⟨X, fr, lo, k, kc, bm, fq', oc', v', qx, w', hC, hr, hM, hk, ha, hI, hb, hb3⟩ := st_6 hH D g o q fq out oc om u qb I (xs (iI ((6 * t : Nat) : Int) + (1 : Int32)).toNatClampNeg) (xs (iI ((6 * t : Nat) : Int) + (2 : Int32)).toNatClampNeg) (lw_lng (xs (iI ((6 * t : Nat) : Int) + (3 : Int32)).toNatClampNeg) (xs (iI ((6 * t : Nat) : Int) + (4 : Int32)).toNatClampNeg))
      exact lo_6 S E hX hbl hin hS hP hD hl hC hr hM (fun t => by
        have hT := th_ok l s D g om u (qx t) (w' t)
        rw [hk t] at hT
        exact hT) rfl ha ⟨by omega, by omega⟩ (fun t H1 locs1 ls1 hS hP hD hl => next fq' oc' v' (qx t) (w' t) H1 locs1 _ _ ls1 (hI t) (by rw [hb t]; omega) (by rw [hb t]; omega) hS hP hD hl)
    · obtain ⟨X, fr, lo, k, kc, bm, fq', oc', v', qx, w', hC, hr, hM, hk, ha, hI, hb, hb3⟩ := st_7 hH D g o q fq out oc om u qb I (xs (iI ((6 * t : Nat) : Int) + (1 : Int32)).toNatClampNeg) (lw_lng (xs (iI ((6 * t : Nat) : Int) + (2 : Int32)).toNatClampNeg) (xs (iI ((6 * t : Nat) : Int) + (3 : Int32)).toNatClampNeg))
      exact lo_7 S E hX hbl hin hS hP hD hl hC hr hM (fun t => by
        have hT := th_ok l s D g om u (qx t) (w' t)
        rw [hk t] at hT
        exact hT) rfl ha ⟨by omega, by omega⟩ (fun t H1 locs1 ls1 hS hP hD hl => next fq' oc' v' (qx t) (w' t) H1 locs1 _ _ ls1 (hI t) (by rw [hb t]; omega) (by rw [hb t]; omega) hS hP hD hl)
    · obtain ⟨X, fr, lo, k, kc, bm, fq', oc', v', qx, w', hC, hr, hM, hk, ha, hI, hb, hb3⟩ := st_8 hH D g o q fq out oc om u qb I 
      exact lo_8 S E hX hbl hin hS hP hD hl hC hr hM (fun t => by
        have hT := th_ok l s D g om u (qx t) (w' t)
        rw [hk t] at hT
        exact hT) rfl ha ⟨by omega, by omega⟩ (fun t H1 locs1 ls1 hS hP hD hl => next fq' oc' v' (qx t) (w' t) H1 locs1 _ _ ls1 (hI t) (by rw [hb t]; omega) (by rw [hb t]; omega) hS hP hD hl)
    · obtain ⟨X, k, kc, bm, v', qx, w', hC, hM, hk, hI, hb, hb3⟩ := st_9 hH D g o q fq out oc om u qb I 
      exact lo_9 S E hX hbl hin hS hP hD hl hC hM hk ⟨by omega, by omega⟩ (fun t H1 locs1 ls1 hS hP hD hl => next fq oc v' (qx t) (w' t) H1 locs1 _ _ ls1 (hI t) (by rw [hb t]; omega) (by rw [hb t]; omega) hS hP hD hl)
    · obtain ⟨X, fr, lo, k, kc, bm, fq', oc', v', qx, w', hC, hr, hM, hk, ha, hI, hb, hb3⟩ := st_10 hH D g o q fq out oc om u qb I (xs (iI ((6 * t : Nat) : Int) + (1 : Int32)).toNatClampNeg)
      exact lo_10 S E hX hbl hin hS hP hD hl hC hr hM (fun t => by
        have hT := th_ok l s D g om u (qx t) (w' t)
        rw [hk t] at hT
        exact hT) rfl ha ⟨by omega, by omega⟩ (fun t H1 locs1 ls1 hS hP hD hl => next fq' oc' v' (qx t) (w' t) H1 locs1 _ _ ls1 (hI t) (by rw [hb t]; omega) (by rw [hb t]; omega) hS hP hD hl)
    · obtain ⟨X, fr, lo, k, kc, bm, fq', oc', v', qx, w', hC, hr, hM, hk, ha, hI, hb, hb3⟩ := st_11 hH D g o q fq out oc om u qb I (xs (iI ((6 * t : Nat) : Int) + (1 : Int32)).toNatClampNeg)
      exact lo_11 S E hX hbl hin hS hP hD hl hC hr hM (fun t => by
        have hT := th_ok l s D g om u (qx t) (w' t)
        rw [hk t] at hT
        exact hT) rfl ha ⟨by omega, by omega⟩ (fun t H1 locs1 ls1 hS hP hD hl => next fq' oc' v' (qx t) (w' t) H1 locs1 _ _ ls1 (hI t) (by rw [hb t]; omega) (by rw [hb t]; omega) hS hP hD hl)
    · obtain ⟨fr, lo, kc, bm, fq', oc', v', w', hC, hr, hM, hk, ha, hI, hb⟩ := st_12 hH D g o q fq out oc om u qb I (xs (iI ((6 * t : Nat) : Int) + (1 : Int32)).toNatClampNeg)
      have hT := th_ok l s D g om u qb w'
      rw [hk] at hT
      exact lo_12 S E hX hbl hin hS hP hD hl hC hr hM hT rfl ha ⟨by omega, by omega⟩ (fun H1 locs1 ls1 hS hP hD hl => next fq' oc' v' qb w' H1 locs1 _ _ ls1 hI (by rw [hb]; omega) (by rw [hb]; omega) hS hP hD hl)
    · obtain ⟨X, fr, lo, k, kc, bm, fq', oc', v', qx, w', hC, hr, hM, hk, ha, hI, hb, hb3⟩ := st_13 hH D g o q fq out oc om u qb I (xs (iI ((6 * t : Nat) : Int) + (1 : Int32)).toNatClampNeg)
      exact lo_13 S E hX hbl hin hS hP hD hl hC hr hM (fun t => by
        have hT := th_ok l s D g om u (qx t) (w' t)
        rw [hk t] at hT
        exact hT) rfl ha ⟨by omega, by omega⟩ (fun t H1 locs1 ls1 hS hP hD hl => next fq' oc' v' (qx t) (w' t) H1 locs1 _ _ ls1 (hI t) (by rw [hb t]; omega) (by rw [hb t]; omega) hS hP hD hl)
    · exact next fq oc v qb w H locs cells slots ls I (by omega) (by omega) hS hP hD hl
end LWL
set_option maxHeartbeats 4000000 in
set_option maxRecDepth 100000 in
theorem lo_start {p : Program} {l : Launch} {e : Env} {s : State} {m : MethodId} {below : List Frame} {meth : Method} {c : Code} {Q : State → Prop} {D : va_G} {g : Nat → ClassId} {b L : Nat} {xs : Nat → Int32} {ls : Array Slot} (S : CallFix p m c code 8 s #[Value.ref b] gtbl "NumberTextLaw") (E : gx_E s D g s (gx_A0 s)) (hAO : va_AO "NumberText$Bytes" s ∧ va_AO "NumberText$Format" s ∧ gx_AA s) (hH : gx_H l s) (hX : va_X b L xs s s.heap) (hbl : b < s.heap.size) (hL : L ≤ 3072) (hl : lv_has ls 8 [(0, .ref b)]) (K0 : ∀ (H : Heap) (locs : List Loc) (cells slots : Nat) (ls : Array Slot), va_S (gx_A0 s) s.heap H locs → cells ≤ 601024 → slots ≤ 7293034 → W p l e room_1 s m #[Value.ref b] below meth c H locs cells slots Q (F0 m 939 ls [])) : W p l e room_1 s m #[Value.ref b] below meth c s.heap [] 0 0 Q (F0 m 0 ls []) := by
  have hS : va_S (gx_A0 s) s.heap s.heap [] := va_S.rf
  have hP : va_P D vwC [] s.heap := fun k q h => by simp at h
  have hD : va_D (gx_A0 s) [] := ⟨fun i j p q h => by simp at h, fun k q h => by simp at h⟩
  refine gx_nw (ci := 9) (fs := [.null, .null, .null, .null, .null, .null, .null, .null, .null, .int 0, .int 0]) S E hS hP hD i_Nt k_Nt wd_32 wd_33 wd_1 rfl (by decide +kernel) rfl dl_0 (fun o H hS hP hD => ?_)
  refine lv_dup S.1 S.2.1 dl_3 rfl ?_
  refine gx_Ci (As := []) S E hS hP hD (kc_I_Nt l s D g o hAO.1 hAO.2.1) cal_I_Nt rfl wd_35 wd_34 rfl rfl hl.1 rfl dl_4 (fun q H locs hS hP hD => ?_)
  refine lv_astore_n (lv' := [(1, .ref o), (0, .ref b)]) S.1 S.2.1 dl_7 rfl hl (by decide) rfl (fun ls hl => ?_)
  refine gx_nw (ci := 11) (fs := [.null, .null, .int 0, .int 0, .int 0, .int 0, .int 0, .int 0, .null, .int 0, .null, .null, .null, .null, .null, .null, .int 0, .null, .null, .int 0, .long 0, .int 0, .int 0, .null, .int 0, .int 0, .null, .int 0, .int 0, .int 0, .null, .null, .null, .null, .int 0, .null, .null, .null, .null, .int 0, .int 0, .int 0, .int 0, .int 0, .null, .int 0, .int 0, .int 0, .int 0, .int 0]) S E hS hP hD i_Md k_Md wd_1282 wd_1283 wd_13 rfl (by decide +kernel) rfl dl_8 (fun om H hS hP hD => ?_)
  refine lv_dup S.1 S.2.1 dl_11 rfl ?_
  refine gx_Ci (As := []) S E hS hP hD (kc_I_Md l s D g om hAO.2.2 hAO.2.2) cal_I_Md rfl wd_1285 wd_1284 rfl rfl hl.1 rfl dl_12 (fun u H locs hS hP hD => ?_)
  refine lv_astore_n (lv' := [(2, .ref om), (1, .ref o), (0, .ref b)]) S.1 S.2.1 dl_15 rfl hl (by decide) rfl (fun ls hl => ?_)
  refine lv_iconst (v := 1) S.1 S.2.1 dl_16 (by decide) ?_
  refine gx_nwa 2 (atype := .long) (N := 1) (a0 := (1, .inr (.inl (fun _ => 0)))) (ty := .long) S E hS hP hD wd_93 rfl rfl rfl (fun _ h => h) (fun _ => rfl) (by decide) (by decide) rfl rfl dl_17 (fun out H hS hP hD => ?_)
  refine lv_astore_n (lv' := [(3, .ref out), (2, .ref om), (1, .ref o), (0, .ref b)]) S.1 S.2.1 dl_19 rfl hl (by decide) rfl (fun ls hl => ?_)
  refine lv_iconst (v := 0) S.1 S.2.1 dl_20 (by decide) ?_
  refine lv_istore (lv' := [(4, .int 0), (3, .ref out), (2, .ref om), (1, .ref o), (0, .ref b)]) S.1 S.2.1 dl_21 hl (by decide) rfl (fun ls hl => ?_)
  obtain ⟨hP, hD⟩ := gx_refs (f' := frf (fq_0 q)) 63 hP hD rfl (fun j hj => by
    show some (q (84 + 10 * j)) = if j < 8 then some (if j = 8 then q (63 + 0) else q (84 + 10 * j + 0)) else none
    rw [if_pos hj, if_neg (show ¬ j = 8 by omega)]
    rfl) rfl
  obtain ⟨hP, hD⟩ := gx_refs (f' := fun j => some (u (22 + j))) 187 hP hD rfl (fun j hj => by rw [Nat.add_comm]) rfl
  obtain ⟨hP, hD⟩ := gx_refs (f' := fun j => some (u (40 + j))) 205 hP hD rfl (fun j hj => by rw [Nat.add_comm]) rfl
  have hp : ((w0_C g o q out).tail ++ (w0_M g om u) ++ ([(out, .inl (g 2, 1, .inr (.inl (fun _ => 0))))] : va_W)).Perm (wCL g o q (fq_0 q) out (fun _ => 0) NV0 ++ wMD g om u (u 13) MV0) := by
    refine List.Perm.trans ?_ ((w0_pC g o q out).symm.append (w0_pM g om u).symm)
    refine List.perm_append_comm.trans ?_
    exact List.Perm.refl _
  have hP := gx_pP hp hP
  have hD := gx_pD hp hD
  exact lo_loop (q := q) (u := u) S E hH hX hbl hL K0 513 0 (fq_0 q) (fun _ => 0) NV0 (u 13) MV0 H locs _ _ ls rfl (by omega) INV0 (by show _ ≤ 218 + 0 + 4096; omega) (by show _ ≤ 354896 + 6 * 0 + 2 * 4096; omega) hS hP hD (lv_sub hl [4, 3, 2, 1, 0] rfl)
