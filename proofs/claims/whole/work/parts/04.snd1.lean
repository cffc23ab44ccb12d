def mxWn : List String := ["PERSON", "GOAL", "AT", "STONE", "OF", "TO", "WORN_WORD", "BY", "PORCH", "LIMIT", "TIRE", "EARN", "HURT", "IF", "OR", "AND", "NOT", "THERE", "LIGHT", "WHO", "LOAD", "BACK", "PLACE", "SLOPE", "TIRED", "HOUR"]
def mxCnl : List String := ["StoneBacks$Book", "StoneBacks$Choices", "StoneBacks$Law", "StoneBacks$LawText", "StoneBacks$People", "StoneBacks$Scales", "StoneBacks$Stones", "StoneBacks$Tape", "StoneBacks$Valley", "StoneBacks", "StoneBacksModel", "StoneBacks$ValleyText", "StoneBacksLaw", "java/lang/String", "java/lang/StringLatin1", "jdk/internal/util/Preconditions", "java/lang/Integer"]
def mxCn (c : Nat) : String := mxCnl.getD c ""
def mxOwl_0 : List (Nat) := [0, 0, 0, 0, 0, 0, 1, 1, 1, 1, 1, 1, 1, 1, 1, 1, 1, 1, 1, 2]
def mxOwl_1 : List (Nat) := [2, 2, 2, 2, 2, 2, 2, 2, 2, 3, 3, 3, 3, 3, 3, 3, 3, 3, 3, 3]
def mxOwl_2 : List (Nat) := [3, 3, 4, 4, 4, 4, 4, 4, 4, 4, 4, 4, 4, 5, 5, 5, 5, 5, 5, 5]
def mxOwl_3 : List (Nat) := [5, 5, 5, 5, 5, 6, 6, 6, 6, 6, 6, 6, 6, 6, 6, 6, 6, 6, 6, 6]
def mxOwl_4 : List (Nat) := [6, 6, 6, 6, 7, 7, 7, 7, 7, 7, 7, 7, 7, 7, 7, 7, 7, 7, 7, 7]
def mxOwl_5 : List (Nat) := [7, 7, 8, 8, 8, 8, 8, 8, 8, 8, 8, 8, 8, 8, 8, 8, 8, 8, 8, 8]
def mxOwl_6 : List (Nat) := [8, 8, 11, 11, 11, 11, 11, 11, 11, 11, 11, 9, 9, 9, 9, 9, 9, 9, 9, 9]
def mxOwl_7 : List (Nat) := [9, 9, 9, 9, 9, 9, 9, 9, 9, 9, 9, 9, 9, 9, 9, 9, 9, 9, 9, 9]
def mxOwl_8 : List (Nat) := [9, 9, 9, 9, 9, 9, 9, 9, 9, 9, 9, 9, 9, 9, 9, 9, 9, 9, 9, 9]
def mxOwl_9 : List (Nat) := [9, 9, 9, 9, 9, 9, 9, 9, 9, 10, 10, 10, 10, 10, 10, 10, 10, 10, 10, 10]
def mxOwl_10 : List (Nat) := [10, 10, 10, 10, 10, 10, 10, 10, 10, 10, 10, 10, 10, 10, 10, 10, 10, 10, 10, 10]
def mxOwl_11 : List (Nat) := [10, 10, 10, 10, 10, 10, 10, 10, 10, 10, 10, 10, 10, 10, 10, 10, 10, 10, 10, 10]
def mxOwl_12 : List (Nat) := [10, 10, 10, 10, 10, 10, 10, 10, 10, 10, 10, 10, 10, 10, 10, 10, 10, 10, 10, 10]
def mxOwl_13 : List (Nat) := [10, 10, 10, 10, 10, 10, 10, 10, 10, 10, 10, 10, 10, 10, 10, 10, 10, 10, 10, 10]
def mxOwl_14 : List (Nat) := [10, 10, 10, 10, 10, 10, 10, 10, 10, 10, 10, 10, 10, 10, 10, 10, 10, 10, 10, 10]
def mxOwl_15 : List (Nat) := [10, 10, 10, 10, 10, 16, 16, 13, 13, 13, 13, 13, 14, 15, 12, 12, 12, 12, 12, 12]
def mxOwl_16 : List (Nat) := [12, 12, 12, 12, 12, 12, 12, 12, 12, 12, 12, 12, 12, 12, 12, 12, 12, 12, 12, 12]
def mxOwl_17 : List (Nat) := [12, 12, 12, 12, 12, 12, 12]
def mxOwl : List (List (Nat)) := [mxOwl_0, mxOwl_1, mxOwl_2, mxOwl_3, mxOwl_4, mxOwl_5, mxOwl_6, mxOwl_7, mxOwl_8, mxOwl_9, mxOwl_10, mxOwl_11, mxOwl_12, mxOwl_13, mxOwl_14, mxOwl_15, mxOwl_16, mxOwl_17]
def mxOw (y : Nat) : Nat := (mxOwl.getD (y / 20) []).getD (y % 20) (0)
def mx_wf (k : Nat) : String × String × String := if k = 2 then ("StoneBacks$Word", "text", "Ljava/lang/String;") else if k = 3 then ("StoneBacks$Word", "part", "I") else if k = 4 then ("java/lang/String", "value", "[B") else ("java/lang/String", "coder", "B")
def mxFLt_0 : List (Nat × Nat × Nat × Nat) := [(0, 9, 0, 0), (0, 15, 0, 1), (1, 9, 1, 0), (1, 15, 1, 1), (1, 18, 1, 2), (1, 22, 1, 3), (1, 25, 1, 4), (1, 28, 1, 5), (1, 31, 1, 6), (1, 34, 1, 7), (1, 37, 1, 8), (1, 40, 1, 9), (1, 43, 1, 10), (1, 46, 8, 1), (1, 61, 8, 5), (1, 64, 8, 0), (1, 68, 4, 2), (1, 87, 4, 1), (1, 90, 4, 0), (1, 93, 4, 3), (1, 96, 6, 0), (1, 97, 6, 3), (2, 9, 2, 0), (2, 15, 2, 1), (2, 19, 2, 2), (2, 22, 2, 3), (2, 26, 2, 4), (2, 29, 2, 5), (2, 34, 2, 6), (2, 37, 2, 7), (2, 40, 2, 8), (2, 49, 8, 1), (2, 61, 8, 0), (2, 65, 4, 2), (2, 91, 4, 3), (2, 94, 8, 3), (2, 97, 4, 5), (2, 100, 8, 6), (2, 103, 4, 4), (3, 11, 3, 0)]
def mxFLt_1 : List (Nat × Nat × Nat × Nat) := [(3, 15, 3, 1), (3, 19, 3, 2), (3, 22, 3, 3), (4, 9, 4, 0), (4, 15, 4, 1), (4, 19, 4, 2), (4, 22, 4, 3), (4, 25, 4, 4), (4, 28, 4, 5), (4, 31, 4, 6), (5, 11, 5, 0), (5, 15, 5, 1), (5, 19, 5, 2), (5, 22, 7, 1), (5, 35, 8, 0), (5, 53, 8, 1), (5, 57, 6, 0), (5, 62, 6, 4), (5, 79, 6, 3), (5, 87, 4, 0), (6, 9, 6, 0), (6, 15, 6, 1), (6, 19, 6, 2), (6, 22, 6, 3), (6, 25, 6, 4), (6, 28, 6, 5), (7, 11, 7, 0), (7, 15, 7, 1), (7, 19, 7, 2), (7, 22, 7, 3), (7, 25, 7, 4), (7, 29, 7, 5), (7, 32, 7, 6), (7, 37, 7, 7), (8, 12, 8, 0), (8, 21, 8, 1), (8, 28, 8, 2), (8, 32, 8, 3), (8, 36, 8, 4), (8, 40, 8, 5)]
def mxFLt_2 : List (Nat × Nat × Nat × Nat) := [(8, 43, 8, 6), (8, 46, 8, 7), (8, 49, 8, 8), (8, 68, 6, 3), (8, 79, 4, 5), (8, 86, 4, 2), (8, 89, 4, 0), (8, 95, 6, 4), (8, 98, 4, 3), (8, 101, 6, 5), (8, 110, 6, 2), (8, 128, 4, 4), (9, 10, 9, 0), (9, 19, 9, 1), (9, 26, 9, 2), (9, 33, 9, 3), (9, 40, 9, 4), (9, 44, 9, 5), (9, 50, 9, 6), (9, 54, 9, 7), (9, 57, 9, 8), (9, 60, 9, 9), (9, 63, 9, 10), (9, 67, 9, 11), (9, 71, 9, 12), (9, 75, 9, 13), (9, 78, 9, 14), (9, 89, 7, 1), (9, 116, 8, 8), (9, 130, 2, 1), (9, 140, 8, 0), (9, 144, 4, 1), (9, 150, 4, 2), (9, 153, 4, 3), (9, 156, 4, 4), (9, 159, 4, 5), (9, 166, 8, 1), (9, 205, 6, 1), (9, 208, 6, 2), (9, 211, 6, 3)]
def mxFLt_3 : List (Nat × Nat × Nat × Nat) := [(9, 214, 6, 4), (9, 228, 8, 3), (9, 242, 4, 0), (9, 245, 6, 0), (9, 246, 2, 0), (9, 249, 8, 6), (9, 252, 8, 5), (9, 264, 4, 6), (9, 267, 8, 2), (9, 271, 0, 0), (9, 312, 6, 5), (9, 331, 8, 7), (10, 7, 10, 1), (10, 13, 10, 2), (10, 16, 10, 4), (10, 19, 10, 5), (10, 22, 10, 7), (10, 25, 10, 12), (10, 29, 10, 14), (10, 32, 10, 20), (10, 35, 10, 21), (10, 38, 10, 22), (10, 41, 10, 0), (10, 69, 10, 8), (10, 72, 10, 9), (10, 75, 10, 11), (10, 78, 10, 10), (10, 162, 10, 13), (10, 188, 10, 6), (10, 203, 10, 15), (10, 209, 10, 16), (10, 242, 10, 17), (10, 245, 10, 18), (10, 248, 10, 19), (10, 356, 10, 3), (11, 35, 8, 0), (11, 41, 4, 0), (11, 53, 8, 1), (11, 132, 8, 3), (11, 136, 8, 4)]
def mxFLt_4 : List (Nat × Nat × Nat × Nat) := [(11, 139, 8, 5), (11, 142, 8, 6)]
def mxFLt : List (Nat × Nat × Nat × Nat) := mxFLt_0 ++ (mxFLt_1 ++ (mxFLt_2 ++ (mxFLt_3 ++ (mxFLt_4))))
def mxFWt : List (Nat × Nat × Nat) := [(7, 56, 2), (7, 84, 3), (13, 9, 4), (13, 15, 5)]
def mxANt : List (Nat × Nat × Nat) := [(7, 35, 0), (9, 37, 1)]
def mxCLt : List (Nat × Nat × Nat) := [(8, 9, 4), (8, 18, 6), (8, 25, 0), (9, 7, 7), (9, 16, 3), (9, 23, 1), (9, 30, 5), (9, 37, 8), (9, 47, 2), (12, 8, 9), (12, 124, 10)]
def mxTHt : List (Nat × Nat × Nat) := [(109, 113, 0), (119, 123, 1), (191, 195, 3), (281, 285, 4), (454, 458, 2)]
def mxTSt : List (Nat) := [111, 121, 193, 196, 223, 240, 276, 283, 301, 303, 308, 310, 318, 320, 325, 377, 382, 402, 416, 443, 456, 459, 461]
def mxCOt : List (Nat × Nat × Int32) := [(8, 155, 1103515245), (10, 254, 1103515245), (10, 313, 2000000000), (16, 264, 65536), (16, 265, 1431655765), (16, 266, 858993459), (16, 267, 252645135)]
def mxLDt : List (Nat × Nat × Nat) := [(10, 111, 72), (10, 117, 34), (10, 118, 32), (10, 124, 38), (10, 125, 40), (10, 131, 42), (10, 132, 44), (10, 141, 30), (10, 146, 36), (10, 151, 76), (10, 153, 46), (10, 155, 48), (10, 160, 80), (10, 191, 68), (10, 193, 70), (10, 194, 74), (10, 196, 78), (10, 201, 64), (10, 207, 66), (10, 215, 62), (10, 227, 60), (10, 232, 58), (10, 234, 50), (10, 236, 52), (10, 238, 54), (10, 240, 56)]
def mxGSt : List (Nat × Nat × Nat) := [(3, 56, 16), (3, 69, 13), (3, 72, 14), (3, 75, 15), (3, 93, 18), (3, 104, 17), (3, 107, 19), (3, 116, 20), (3, 122, 21), (7, 53, 2), (11, 25, 3), (11, 50, 6), (11, 65, 26), (11, 74, 11), (11, 80, 12), (11, 86, 28), (11, 96, 24), (11, 99, 5), (11, 102, 4), (11, 109, 7), (11, 116, 8), (11, 119, 9), (11, 122, 10), (13, 1053, 29)]
def mxGCt : List (Nat × Nat × Nat) := [(13, 38, 0)]
def mxMLt_0 : List (Nat × Nat × Nat) := [(0, 25, 3), (1, 52, 71), (1, 58, 76), (1, 79, 306), (1, 84, 73), (1, 103, 10), (1, 113, 11), (1, 117, 305), (1, 120, 77), (1, 123, 15), (1, 126, 17), (1, 130, 18), (2, 55, 77), (2, 70, 25), (2, 74, 26), (2, 78, 27), (2, 106, 28), (3, 25, 21), (3, 30, 93), (3, 36, 31), (3, 40, 98), (3, 44, 32), (3, 48, 100), (3, 52, 22), (3, 62, 96), (3, 66, 33), (3, 78, 34), (3, 82, 35), (3, 85, 39), (3, 89, 41), (3, 96, 40), (3, 100, 37), (3, 110, 95), (3, 113, 97), (3, 119, 23), (3, 125, 36), (3, 128, 101), (3, 132, 38), (4, 40, 51), (4, 50, 46)]
def mxMLt_1 : List (Nat × Nat × Nat) := [(5, 27, 87), (5, 31, 55), (5, 41, 44), (5, 47, 57), (5, 50, 58), (5, 65, 59), (5, 69, 60), (5, 73, 77), (5, 76, 70), (5, 82, 306), (5, 88, 64), (6, 37, 67), (6, 41, 68), (6, 45, 70), (6, 49, 73), (6, 52, 76), (6, 55, 75), (6, 64, 74), (7, 41, 89), (7, 45, 90), (7, 49, 91), (7, 60, 307), (7, 65, 92), (7, 69, 87), (7, 73, 308), (7, 77, 97), (7, 81, 99), (8, 52, 43), (8, 56, 66), (8, 59, 1), (8, 71, 2), (8, 75, 49), (8, 82, 77), (8, 92, 106), (8, 104, 108), (8, 107, 105), (8, 113, 111), (8, 117, 112), (8, 121, 50), (8, 125, 114)]
def mxMLt_2 : List (Nat × Nat × Nat) := [(8, 133, 24), (8, 137, 46), (8, 141, 115), (8, 151, 113), (8, 156, 81), (8, 159, 116), (8, 162, 119), (9, 81, 85), (9, 85, 86), (9, 92, 88), (9, 95, 103), (9, 99, 122), (9, 105, 137), (9, 124, 183), (9, 127, 30), (9, 133, 94), (9, 137, 184), (9, 162, 49), (9, 170, 77), (9, 176, 71), (9, 179, 78), (9, 182, 79), (9, 185, 72), (9, 188, 106), (9, 198, 24), (9, 202, 185), (9, 217, 70), (9, 220, 108), (9, 225, 186), (9, 231, 105), (9, 234, 48), (9, 237, 74), (9, 255, 52), (9, 258, 75), (9, 261, 80), (9, 278, 67), (9, 286, 182), (9, 289, 47), (9, 293, 68), (9, 297, 104)]
def mxMLt_3 : List (Nat × Nat × Nat) := [(9, 305, 69), (9, 315, 109), (9, 322, 51), (9, 327, 110), (9, 334, 116), (9, 338, 117), (9, 341, 7), (9, 345, 9), (9, 349, 12), (9, 352, 13), (9, 355, 14), (9, 359, 118), (9, 362, 83), (9, 365, 120), (9, 368, 121), (9, 371, 8), (9, 374, 76), (9, 379, 82), (9, 384, 16), (9, 387, 168), (9, 390, 62), (9, 393, 61), (9, 396, 63), (9, 399, 54), (9, 404, 56), (9, 407, 107), (9, 410, 187), (9, 413, 175), (9, 418, 188), (9, 421, 176), (9, 424, 306), (9, 437, 5), (9, 440, 4), (9, 445, 3), (9, 448, 20), (9, 451, 44), (10, 44, 191), (10, 48, 198), (10, 52, 194), (10, 56, 203)]
def mxMLt_4 : List (Nat × Nat × Nat) := [(10, 60, 204), (10, 63, 205), (10, 66, 196), (10, 81, 209), (10, 84, 210), (10, 87, 307), (10, 93, 308), (10, 97, 214), (10, 100, 213), (10, 104, 212), (10, 108, 215), (10, 113, 216), (10, 120, 197), (10, 127, 218), (10, 134, 220), (10, 138, 199), (10, 143, 217), (10, 148, 219), (10, 157, 222), (10, 165, 234), (10, 168, 221), (10, 171, 211), (10, 175, 225), (10, 178, 223), (10, 181, 224), (10, 185, 226), (10, 198, 228), (10, 212, 229), (10, 217, 230), (10, 221, 231), (10, 224, 233), (10, 229, 232), (10, 251, 193), (10, 255, 237), (10, 258, 192), (10, 261, 206), (10, 264, 239), (10, 267, 240), (10, 270, 238), (10, 273, 242)]
def mxMLt_5 : List (Nat × Nat × Nat) := [(10, 276, 200), (10, 279, 243), (10, 282, 201), (10, 285, 202), (10, 288, 247), (10, 291, 248), (10, 294, 250), (10, 297, 252), (10, 300, 251), (10, 303, 241), (10, 307, 262), (10, 310, 195), (10, 314, 267), (10, 317, 269), (10, 320, 271), (10, 324, 268), (10, 327, 276), (10, 331, 277), (10, 335, 279), (10, 338, 280), (10, 341, 283), (10, 344, 289), (10, 347, 292), (10, 350, 293), (10, 353, 296), (10, 359, 303), (11, 9, 93), (11, 17, 123), (11, 21, 98), (11, 31, 95), (11, 47, 124), (11, 57, 67), (11, 62, 125), (11, 68, 96), (11, 71, 127), (11, 77, 128), (11, 83, 129), (11, 89, 130), (11, 92, 100), (11, 105, 45)]
def mxMLt_6 : List (Nat × Nat × Nat) := [(11, 112, 126), (11, 125, 68), (11, 128, 99), (12, 7, 134), (12, 17, 135), (12, 20, 138), (12, 28, 139), (12, 31, 140), (12, 34, 141), (12, 37, 143), (12, 43, 144), (12, 47, 145), (12, 50, 146), (12, 53, 147), (12, 56, 148), (12, 59, 149), (12, 62, 150), (12, 65, 151), (12, 68, 153), (12, 71, 154), (12, 74, 155), (12, 78, 156), (12, 81, 157), (12, 84, 163), (12, 88, 169), (12, 91, 164), (12, 95, 165), (12, 98, 166), (12, 102, 167), (12, 105, 171), (12, 108, 172), (12, 111, 173), (12, 114, 174), (12, 117, 177), (12, 120, 178), (12, 123, 131), (12, 126, 189), (12, 127, 132), (12, 131, 207), (12, 132, 133)]
def mxMLt_7 : List (Nat × Nat × Nat) := [(12, 135, 208), (12, 136, 314), (12, 141, 227), (12, 142, 190), (12, 145, 315), (12, 147, 235), (12, 148, 136), (12, 151, 236), (12, 152, 316), (12, 155, 244), (12, 156, 317), (12, 158, 245), (12, 159, 318), (12, 161, 246), (12, 162, 319), (12, 164, 249), (12, 165, 320), (12, 168, 253), (12, 169, 321), (12, 172, 254), (12, 173, 322), (12, 175, 255), (12, 176, 323), (12, 178, 256), (12, 179, 324), (12, 181, 257), (12, 182, 325), (12, 184, 258), (12, 185, 326), (12, 187, 259), (12, 188, 327), (12, 190, 260), (12, 191, 328), (12, 193, 261), (12, 194, 329), (12, 196, 263), (12, 197, 330), (12, 199, 264), (12, 200, 331), (12, 202, 265)]
def mxMLt_8 : List (Nat × Nat × Nat) := [(12, 203, 332), (12, 205, 266), (12, 206, 333), (12, 208, 270), (12, 209, 158), (12, 212, 272), (12, 213, 334), (12, 216, 273), (12, 217, 335), (12, 219, 274), (12, 220, 336), (12, 222, 275), (12, 223, 337), (12, 225, 278), (12, 226, 338), (12, 229, 281), (12, 230, 339), (12, 232, 282), (12, 233, 159), (12, 236, 284), (12, 237, 170), (12, 240, 285), (12, 241, 160), (12, 244, 286), (12, 245, 161), (12, 248, 287), (12, 249, 162), (12, 252, 288), (12, 253, 340), (12, 255, 290), (12, 256, 341), (12, 258, 291), (12, 259, 342), (12, 261, 294), (12, 262, 343), (12, 264, 295), (12, 265, 344), (12, 267, 297), (12, 268, 345), (12, 270, 298)]
def mxMLt_9 : List (Nat × Nat × Nat) := [(12, 271, 152), (12, 274, 299), (12, 275, 179), (12, 279, 300), (12, 280, 180), (12, 283, 301), (12, 284, 181), (12, 287, 302), (12, 288, 142), (12, 291, 304), (13, 335, 309), (13, 492, 310), (13, 495, 312), (13, 1059, 313), (14, 9, 311)]
def mxMLt : List (Nat × Nat × Nat) := mxMLt_0 ++ (mxMLt_1 ++ (mxMLt_2 ++ (mxMLt_3 ++ (mxMLt_4 ++ (mxMLt_5 ++ (mxMLt_6 ++ (mxMLt_7 ++ (mxMLt_8 ++ (mxMLt_9)))))))))
def mxVt_0 : List (Nat) := [1, 2, 3, 4, 5, 9, 10, 11, 12, 13, 14, 15, 20, 21, 22, 23, 24, 26, 27, 30, 31, 33, 34, 35, 37, 38, 39, 40, 41, 43, 44, 45, 46, 47, 48, 49, 50, 51, 52, 54]
def mxVt_1 : List (Nat) := [55, 56, 58, 61, 62, 63, 64, 66, 67, 68, 69, 70, 71, 72, 73, 74, 75, 76, 77, 78, 79, 80, 81, 82, 83, 85, 86, 87, 88, 90, 91, 92, 93, 94, 95, 96, 97, 98, 99, 100]
def mxVt_2 : List (Nat) := [101, 103, 104, 105, 106, 107, 108, 109, 110, 111, 112, 113, 114, 115, 116, 117, 118, 119, 120, 121, 132, 133, 134, 135, 136, 137, 138, 139, 140, 141, 142, 143, 144, 145, 146, 147, 148, 149, 150, 151]
def mxVt_3 : List (Nat) := [152, 153, 154, 155, 156, 157, 158, 159, 160, 161, 162, 163, 164, 165, 166, 167, 168, 169, 170, 171, 172, 173, 174, 175, 176, 177, 178, 179, 180, 181, 182, 183, 184, 185, 186, 187, 188, 190, 196, 197]
def mxVt_4 : List (Nat) := [198, 199, 200, 201, 203, 204, 205, 206, 207, 208, 209, 210, 211, 212, 213, 214, 215, 216, 217, 218, 219, 220, 221, 222, 223, 224, 225, 226, 227, 228, 229, 230, 231, 232, 233, 234, 235, 236, 237, 238]
def mxVt_5 : List (Nat) := [239, 240, 241, 242, 243, 244, 245, 246, 247, 248, 249, 250, 251, 252, 253, 254, 255, 256, 257, 258, 259, 260, 261, 262, 263, 264, 265, 266, 267, 268, 270, 271, 272, 273, 274, 275, 277, 278, 279, 280]
def mxVt_6 : List (Nat) := [281, 282, 283, 284, 285, 286, 287, 288, 289, 290, 291, 292, 293, 294, 295, 296, 297, 298, 299, 300, 301, 302, 303, 304, 307, 308, 309, 310]
def mxVt : List (Nat) := mxVt_0 ++ (mxVt_1 ++ (mxVt_2 ++ (mxVt_3 ++ (mxVt_4 ++ (mxVt_5 ++ (mxVt_6))))))
def mxSt_0 : List (Nat) := [7, 8, 16, 17, 18, 25, 28, 32, 36, 57, 59, 60, 89, 122, 123, 124, 125, 126, 127, 128, 129, 130, 191, 192, 193, 194, 195, 202, 269, 276, 305, 306, 311, 312, 313, 314, 315, 316, 317, 318]
def mxSt_1 : List (Nat) := [319, 320, 321, 322, 323, 324, 325, 326, 327, 328, 329, 330, 331, 332, 333, 334, 335, 336, 337, 338, 339, 340, 341, 342, 343, 344, 345]
def mxSt : List (Nat) := mxSt_0 ++ (mxSt_1)
def mxACt : List (Nat × Nat × Nat) := [(0, 19, 0), (1, 107, 0), (2, 43, 0), (4, 34, 0), (6, 31, 0), (8, 62, 0)]
def mxMMt : List (Nat × Nat × Nat) := [(1, 73, 15), (1, 100, 16), (2, 82, 15), (2, 88, 16), (4, 44, 15), (5, 92, 16), (6, 58, 15), (8, 145, 15), (9, 429, 15), (9, 434, 16)]
def mxOIt : List (Nat × Nat × Nat) := [(0, 3, 0), (1, 3, 0), (2, 3, 0), (3, 3, 0), (4, 3, 0), (5, 3, 0), (6, 3, 0), (7, 3, 0), (8, 3, 0), (9, 1, 0), (10, 1, 0)]
def mxIt : List (Nat) := [0, 6, 19, 29, 42, 53, 65, 84, 102, 131, 189]
def mxMNt : List (Nat × Nat × Nat) := [(8, 11, 42), (8, 20, 65), (8, 27, 0), (9, 9, 84), (9, 18, 29), (9, 25, 6), (9, 32, 53), (9, 39, 102), (9, 49, 19)]
/-! SOUNDNESS, 1: what the code tables must be, checked by program -/
def mx_tf (ci : Nat) : u_T := ((vwCl[ci]?).map (fun q => q.2.1)).getD (fun _ => ("", "", "", false))
def mx_cn (ci : Nat) : String := ((vwCl[ci]?).map (fun q => q.1)).getD ""
def mx_sf (c : Nat) : String × String × String := if c = 2 then ("StoneBacks$Tape", "WORDS", "[LStoneBacks$Word;") else if c = 29 then ("jdk/internal/util/Preconditions", "SIOOBE_FORMATTER", "Ljava/util/function/BiFunction;") else ("StoneBacks$Word", mxWn.getD (c - 3) "", "LStoneBacks$Word;")
def mx_pcs (L : List mxE) (t : Nat) : Int := match L[t]? with
  | some e => (e.1 : Int)
  | none => -1
/-- the length of an instruction that goes on behind itself -/
def mx_ln (ins : Instr) : Option Nat := match ins with
  | .iload _ => some 2
  | .aload _ => some 2
  | .istore _ => some 2
  | .astore _ => some 2
  | .bipush _ => some 2
  | .ldc _ => some 2
  | .newarray _ => some 2
  | .iinc _ _ => some 3
  | .sipush _ => some 3
  | .ldc_w _ => some 3
  | .ifCond _ _ => some 3
  | .if_icmp _ _ => some 3
  | .if_acmp _ _ => some 3
  | .ifnull _ => some 3
  | .getfield _ => some 3
  | .putfield _ => some 3
  | .getstatic _ => some 3
  | .new _ => some 3
  | .anewarray _ => some 3
  | .invokevirtual _ => some 3
  | .invokestatic _ => some 3
  | .invokespecial _ => some 3
  | .goto _ => none
  | .tableswitch _ _ _ _ => none
  | .lookupswitch _ _ => none
  | .ireturn => none
  | .areturn => none
  | .return_ => none
  | .athrow => none
  | _ => some 1
/-- the entries of a throw: of the class, of the text (wide?), of the constructor -/
def mx_tx (L : List mxE) (i : Nat) : Option (Nat × Nat × Bool × Nat) := match L[i]?, L[i + 1]?, L[i + 2]?, L[i + 3]?, L[i + 4]? with
  | some (_, .new ik, _), some (_, .dup, _), some (_, .ldc is, _), some (_, .invokespecial ic, _), some (_, .athrow, 1, _) => some (ik, is, false, ic)
  | some (_, .new ik, _), some (_, .dup, _), some (_, .ldc_w is, _), some (_, .invokespecial ic, _), some (_, .athrow, 1, _) => some (ik, is, true, ic)
  | _, _, _, _, _ => none
/-- its instructions follow each other -/
def mx_txk (L : List mxE) (i : Nat) (wd : Bool) : Bool := decide (mx_pcs L (i + 1) = mx_pcs L i + 3) && decide (mx_pcs L (i + 2) = mx_pcs L i + 4) && decide (mx_pcs L (i + 3) = mx_pcs L i + (if wd then 7 else 6)) && decide (mx_pcs L (i + 4) = mx_pcs L i + (if wd then 10 else 9))
def mx_swk (L : List mxE) (pc : Nat) (r : List Nat) (dflt : Int) (offs : List Int) : Bool := match r with
  | [] => false
  | d :: ts => decide (mx_pcs L d = (pc : Int) + dflt) && decide (ts.map (mx_pcs L) = offs.map (fun o => (pc : Int) + o))
def mx_ok2 (y : Nat) (L : List mxE) (i : Nat) (pc : Nat) (ins : Instr) (len : Nat) (r : List Nat) (v : Int32) : Bool := match ins with
  | .iconst n => decide (Int32.ofInt n = v)
  | .bipush n => decide ((Int8.ofInt n).toInt32 = v)
  | .sipush n => decide ((Int16.ofInt n).toInt32 = v)
  | .iinc k n => decide (Int32.ofInt n = v) && decide (k < mxL y)
  | .istore k => decide (k < mxL y)
  | .istore_n k => decide (k.val < mxL y)
  | .astore k => decide (k < mxL y)
  | .astore_n k => decide (k.val < mxL y)
  | .lconst n => decide (r = [n.val])
  | .goto off => decide (len = 3) && decide (mx_pcs L (r.headD 0) = (pc : Int) + off)
  | .ifCond _ off => decide (mx_pcs L (r.headD 0) = (pc : Int) + off)
  | .if_icmp _ off => decide (mx_pcs L (r.headD 0) = (pc : Int) + off)
  | .if_acmp _ off => decide (mx_pcs L (r.headD 0) = (pc : Int) + off)
  | .ifnull off => decide (mx_pcs L (r.headD 0) = (pc : Int) + off)
  | .tableswitch dflt lo hi offs => decide (v.toInt = lo) && decide (hi = lo + (offs.size : Int) - 1) && mx_swk L pc r dflt offs.toList
  | .lookupswitch dflt ps => decide (ps.toList.map (fun q => q.1) = (List.range ps.size).map (fun (k : Nat) => v.toInt + (k : Int))) && mx_swk L pc r dflt (ps.toList.map (fun q => q.2)) && decide (v.toInt = 0) && decide (ps.size < 100)
  | .ireturn => decide (len = 1) && decide (mxR y = some .int ∨ mxR y = some .boolean ∨ mxR y = some .char ∨ mxR y = some .byte)
  | .areturn => decide (len = 1) && decide (mxR y = some (.object "StoneBacks$Word"))
  | .return_ => decide (len = 1) && decide (mxR y = none)
  | .getfield ix => (match r with
    | [0, ci, k] => decide (ci < 11 ∧ k < mxNf ci) && mxFi ci k && decide ((mxOw y, ix, ci, k) ∈ mxFLt)
    | [1, ci, k] => decide (ci < 11 ∧ k < mxNf ci) && !mxFi ci k && decide ((mxOw y, ix, ci, k) ∈ mxFLt)
    | [21, ci, k] => decide (ci < 11 ∧ k < mxNf ci) && !mxFi ci k && decide ((mxOw y, ix, ci, k) ∈ mxFLt)
    | [7, ci, k, off] => decide (ci < 11 ∧ k < mxNf ci) && !mxFi ci k && decide ((ci, k, off) ∈ mxFin) && decide ((mxOw y, ix, ci, k) ∈ mxFLt)
    | [w] => decide ((mxOw y, ix, w) ∈ mxFWt)
    | _ => false)
  | .putfield ix => (match r with
    | [0, ci, k] => decide (ci < 11 ∧ k < mxNf ci) && mxFi ci k && decide ((mx_tf ci k).2.2.1 = "I") && !(mx_tf ci k).2.2.2 && decide ((mxOw y, ix, ci, k) ∈ mxFLt)
    | [6, ci, k] => decide (ci < 11 ∧ k < mxNf ci) && mxFi ci k && decide ((mx_tf ci k).2.2.1 = "Z") && !(mx_tf ci k).2.2.2 && decide ((mxOw y, ix, ci, k) ∈ mxFLt)
    | [1, ci, k] => decide (ci < 11 ∧ k < mxNf ci) && !mxFi ci k && !(mx_tf ci k).2.2.2 && decide ((mxOw y, ix, ci, k) ∈ mxFLt)
    | [20, ci, k] => decide (ci < 11 ∧ k < mxNf ci) && mxFi ci k && decide ((mx_tf ci k).2.2.1 = "I") && decide ((mx_tf ci k).1 = (mxN y).cls ∧ (mxN y).name = "<init>") && decide ((mxOw y, ix, ci, k) ∈ mxFLt)
    | [26, ci, k] => decide (ci < 11 ∧ k < mxNf ci) && mxFi ci k && decide ((mx_tf ci k).2.2.1 = "Z") && decide ((mx_tf ci k).1 = (mxN y).cls ∧ (mxN y).name = "<init>") && decide ((mxOw y, ix, ci, k) ∈ mxFLt)
    | [21, ci, k] => decide (ci < 11 ∧ k < mxNf ci) && !mxFi ci k && decide ((mx_tf ci k).1 = (mxN y).cls ∧ (mxN y).name = "<init>") && decide ((mxOw y, ix, ci, k) ∈ mxFLt)
    | _ => false)
  | .newarray t => (match r with
    | [50] => decide (t = .int)
    | [51] => decide (t = .byte)
    | [52] => decide (t = .long)
    | _ => false)
  | .anewarray ix => decide ((r = [53] ∧ (mxOw y, ix, 0) ∈ mxANt) ∨ (r = [54] ∧ (mxOw y, ix, 1) ∈ mxANt))
  | .new ix => (match r with
    | [0, ci] => decide (ci < 11) && decide ((mxOw y, ix, ci) ∈ mxCLt)
    | [9, k] => decide (k < 5) && (match mx_tx L i with
      | some (ik, is, wd, ic) => decide (ik = ix) && decide (mxOw y = 9) && decide ((ik, ic, k) ∈ mxTHt) && decide (is ∈ mxTSt) && decide (mxHh y = []) && mx_txk L i wd
      | none => false)
    | _ => false)
  | .ldc ix => (match r with
    | [0] => decide ((mxOw y, ix, v) ∈ mxCOt)
    | [1, c] => decide ((mxOw y, ix, c) ∈ mxLDt)
    | _ => true)
  | .ldc_w ix => (match r with
    | [0] => decide ((mxOw y, ix, v) ∈ mxCOt)
    | [1, _] => false
    | _ => true)
  | .getstatic ix => (match r with
    | [0, c] => decide ((mxOw y, ix, c) ∈ mxGSt)
    | [1] => decide ((mxOw y, ix, 0) ∈ mxGCt) && decide (v = 1)
    | _ => true)
  | .invokevirtual ix => (match r with
    | [13, y'] => decide (y' < 347 ∧ mxRc y' < 12 ∧ 0 < mxRc y') && decide ((mxOw y, ix, y') ∈ mxMLt) && decide (y' ∈ mxVt)
    | [14, y'] => decide (y' < 347 ∧ mxRc y' = 70) && decide ((mxOw y, ix, y') ∈ mxMLt) && decide (y' ∈ mxVt)
    | _ => false)
  | .invokestatic ix => (match r with
    | [13, y'] => decide (y' < 347 ∧ mxRc y' = 0) && decide ((mxOw y, ix, y') ∈ mxMLt) && decide (y' ∈ mxSt)
    | [11] => decide ((mxOw y, ix, 0) ∈ mxACt)
    | [15] => decide ((mxOw y, ix, 15) ∈ mxMMt)
    | [16] => decide ((mxOw y, ix, 16) ∈ mxMMt)
    | _ => true)
  | .invokespecial ix => (match r with
    | [] => decide ((mxOw y, ix, 0) ∈ mxOIt)
    | [13, y'] => decide (y' < 347 ∧ y' ∈ mxIt) && (if mxOw y = 12 then decide ((mxOw y, ix, y') ∈ mxMLt) else decide ((mxOw y, ix, y') ∈ mxMNt))
    | _ => true)
  | _ => true
noncomputable def mx_ok1 (y : Nat) (L : List mxE) (i : Nat) : Bool := match L[i]? with
  | none => true
  | some (pc, ins, len, r, v) => decide (decode (mxB y) pc = .ok (ins, len)) && (match mx_ln ins with
    | none => true
    | some n => decide (len = n) && decide (mx_pcs L (i + 1) = (pc : Int) + n)) && mx_ok2 y L i pc ins len r v
/-- what the tables say of a method itself -/
noncomputable def mx_ok0 (y : Nat) : Bool := plainName (mxN y).cls && decide ((parseMethodDescriptor (mxN y).desc).map (fun q => q.parameters.length) = some (if mxRc y = 0 then mxA y else mxA y - 1)) && decide (mxRc y = 0 ∨ 0 < mxA y) && decide (mxA y ≤ mxL y) && decide (mxL y ≤ 40)
  && decide ((mxN y).cls ≠ "java/lang/invoke/MethodHandle" ∧ (mxN y).cls ≠ "java/lang/invoke/VarHandle") && decide (mx_pcs (mxC y) 0 = 0)
  && decide (mxRc y = 0 ∨ mxRc y = 70 ∨ (mxN y).cls = mx_cn (mxRc y - 1)) && decide (mxRc y ≠ 70 ∨ (mxN y).cls = "java/lang/String") && decide ((mxN y).name ≠ "<init>" ∨ mxR y = none) && decide ((mxN y).cls = mxCn (mxOw y))
noncomputable def mx_ok (y : Nat) : Bool := mx_ok0 y && (List.range (mxC y).length).all (mx_ok1 y (mxC y))
/-- the words of a throw of the k-th exception: the constructor's entry and code, then those of its superclasses -/
def mxXi (k : Nat) : Nat := if k = 3 then 13 else 7
def mxXb (k : Nat) : ByteArray := if k = 3 then ⟨#[0x2a, 0x2b, 0xb7, 0x00, 0x0d, 0xb1]⟩ else Bundle.six
def mx_rte : String := "java/lang/RuntimeException"
def mx_atm (own : String) (ic : Nat) (X : String) (k : Nat) : List Cond :=
  Bundle.throwableAtoms ++ Bundle.throwableSAtoms ++ (Bundle.passSAtoms X mx_rte (mxXi k) (mxXb k) ++ Bundle.chainSAtoms mx_rte ["java/lang/Exception"]) ++
  [.methodLink own ic (Bundle.initS X), .instantiable X 6, .castable X X, .selects X Bundle.tFill0 Bundle.tFill0, .selects X Bundle.tFill Bundle.tFill,
   .lays X Bundle.tN "cause" "Ljava/lang/Throwable;", .lays X Bundle.tN "stackTrace" Bundle.steD, .lays X Bundle.tN "suppressedExceptions" Bundle.listD, .lays X Bundle.tN "detailMessage" "Ljava/lang/String;",
   .isRef (.static Bundle.tN "UNASSIGNED_STACK" Bundle.steD), .isRef (.static Bundle.tN "SUPPRESSED_SENTINEL" Bundle.listD),
   .fieldLink Bundle.tN 198 Bundle.tN "backtrace" "Ljava/lang/Object;", .lays Bundle.tN Bundle.tN "backtrace" "Ljava/lang/Object;", .lays X Bundle.tN "backtrace" "Ljava/lang/Object;"]
/-- a word that may be carried along -/
def mx_wk (w : Cond) : Bool := match w with
  | .methodLinkNest _ _ _ _ => true
  | .castable _ _ => true
  | .declares _ => true
  | w => goodWord w
def mxAll : List Cond := lw_tbl.filter mx_wk
theorem mx_inl {ws : List Cond} (ps : List Nat) (h1 : ws.map some = ps.map (fun i => lw_tbl[i]?)) (h2 : ws.all mx_wk = true) : ∀ w ∈ ws, w ∈ mxAll := by
  intro w hw
  refine List.mem_filter.mpr ⟨?_, List.all_eq_true.mp h2 w hw⟩
  have : some w ∈ ps.map (fun i => lw_tbl[i]?) := by rw [← h1]; exact List.mem_map.mpr ⟨w, hw, rfl⟩
  obtain ⟨i, -, hi⟩ := List.mem_map.mp this
  exact List.mem_of_getElem? hi
theorem mx_inm {α : Type} {l : List α} {f : α → Cond} (h : ∀ w ∈ l.map f, w ∈ mxAll) : ∀ q ∈ l, f q ∈ mxAll := fun q hq => h _ (List.mem_map.mpr ⟨q, hq, rfl⟩)
theorem mx_ina {α : Type} {l1 l2 : List α} {P : α → Prop} (h1 : ∀ q ∈ l1, P q) (h2 : ∀ q ∈ l2, P q) : ∀ q ∈ l1 ++ l2, P q := fun q hq => (List.mem_append.mp hq).elim (h1 q) (h2 q)
