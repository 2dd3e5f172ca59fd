/-! THE SHAPE OF THE HEAP: all cells that the two constructors (and the law) make, in the order in which they are made; only ints change afterwards -/
def zSH : List (Nat × Nat × Nat × List Nat) := [(1, 9, 17, [1, 3, 13, 23, 27, 31, 34, 37, 43, 49, 0, 50, 52, 87, 96, 0, 0]), (1, 8, 6, [2, 0, 0, 0, 0, 0]), (2, 1, 600, []), (1, 0, 16, [0, 0, 0, 0, 0, 0, 0, 4, 5, 6, 7, 8, 9, 10, 11, 12]), (2, 0, 6, []), (2, 0, 16, []), (2, 0, 16, []), (2, 0, 12, []), (2, 0, 12, []), (2, 0, 12, []), (2, 0, 12, []), (2, 0, 12, []), (2, 0, 12, []), (1, 0, 16, [0, 0, 0, 0, 0, 0, 0, 14, 15, 16, 17, 18, 19, 20, 21, 22]), (2, 0, 6, []), (2, 0, 16, []), (2, 0, 16, []), (2, 0, 12, []), (2, 0, 12, []), (2, 0, 12, []), (2, 0, 12, []), (2, 0, 12, []), (2, 0, 12, []), (1, 5, 4, [24, 25, 26, 0]), (2, 0, 150, []), (2, 0, 150, []), (2, 0, 7, []), (1, 5, 4, [28, 29, 30, 0]), (2, 0, 150, []), (2, 0, 150, []), (2, 0, 7, []), (1, 1, 3, [0, 32, 33]), (2, 0, 12, []), (2, 0, 12, []), (1, 1, 3, [0, 35, 36]), (2, 0, 12, []), (2, 0, 12, []), (1, 7, 13, [0, 0, 0, 0, 0, 0, 0, 0, 38, 39, 40, 41, 42]), (2, 0, 13, []), (2, 0, 16, []), (2, 0, 16, []), (2, 0, 16, []), (2, 0, 16, []), (1, 7, 13, [0, 0, 0, 0, 0, 0, 0, 0, 44, 45, 46, 47, 48]), (2, 0, 13, []), (2, 0, 16, []), (2, 0, 16, []), (2, 0, 16, []), (2, 0, 16, []), (2, 4, 3, [98, 104, 110]), (1, 2, 3, [3, 23, 51]), (2, 0, 16, []), (1, 4, 13, [3, 50, 37, 53, 59, 60, 61, 62, 0, 0, 0, 0, 0]), (1, 7, 13, [0, 0, 0, 0, 0, 0, 0, 0, 54, 55, 56, 57, 58]), (2, 0, 13, []), (2, 0, 16, []), (2, 0, 16, []), (2, 0, 16, []), (2, 0, 16, []), (2, 4, 4, [63, 69, 75, 81]), (2, 0, 289, []), (2, 0, 13, []), (2, 0, 3, []), (1, 7, 13, [0, 0, 0, 0, 0, 0, 0, 0, 64, 65, 66, 67, 68]), (2, 0, 13, []), (2, 0, 16, []), (2, 0, 16, []), (2, 0, 16, []), (2, 0, 16, []), (1, 7, 13, [0, 0, 0, 0, 0, 0, 0, 0, 70, 71, 72, 73, 74]), (2, 0, 13, []), (2, 0, 16, []), (2, 0, 16, []), (2, 0, 16, []), (2, 0, 16, []), (1, 7, 13, [0, 0, 0, 0, 0, 0, 0, 0, 76, 77, 78, 79, 80]), (2, 0, 13, []), (2, 0, 16, []), (2, 0, 16, []), (2, 0, 16, []), (2, 0, 16, []), (1, 7, 13, [0, 0, 0, 0, 0, 0, 0, 0, 82, 83, 84, 85, 86]), (2, 0, 13, []), (2, 0, 16, []), (2, 0, 16, []), (2, 0, 16, []), (2, 0, 16, []), (1, 6, 8, [3, 31, 50, 88, 94, 95, 0, 0]), (1, 7, 13, [0, 0, 0, 0, 0, 0, 0, 0, 89, 90, 91, 92, 93]), (2, 0, 13, []), (2, 0, 16, []), (2, 0, 16, []), (2, 0, 16, []), (2, 0, 16, []), (2, 0, 61, []), (2, 0, 6, []), (1, 3, 3, [3, 37, 97]), (2, 0, 3, []), (1, 7, 13, [0, 0, 0, 0, 0, 0, 0, 0, 99, 100, 101, 102, 103]), (2, 0, 13, []), (2, 0, 16, []), (2, 0, 16, []), (2, 0, 16, []), (2, 0, 16, []), (1, 7, 13, [0, 0, 0, 0, 0, 0, 0, 0, 105, 106, 107, 108, 109]), (2, 0, 13, []), (2, 0, 16, []), (2, 0, 16, []), (2, 0, 16, []), (2, 0, 16, []), (1, 7, 13, [0, 0, 0, 0, 0, 0, 0, 0, 111, 112, 113, 114, 115]), (2, 0, 13, []), (2, 0, 16, []), (2, 0, 16, []), (2, 0, 16, []), (2, 0, 16, []), (1, 10, 60, [0, 0, 0, 0, 0, 0, 0, 0, 0, 117, 118, 119, 120, 121, 122, 123, 124, 125, 126, 127, 144, 161, 174, 187, 200, 0, 0, 0, 213, 374, 535, 548, 561, 565, 566, 567, 568, 569, 570, 571, 0, 0, 0, 572, 0, 0, 0, 0, 0, 576, 0, 577, 0, 0, 582, 600, 601, 0, 0, 602]), (2, 0, 600, []), (2, 0, 2, []), (2, 0, 6, []), (2, 0, 6, []), (2, 0, 6, []), (2, 0, 6, []), (2, 0, 16, []), (2, 0, 16, []), (2, 0, 12, []), (2, 0, 12, []), (2, 3, 16, [128, 129, 130, 131, 132, 133, 134, 135, 136, 137, 138, 139, 140, 141, 142, 143]), (2, 0, 6, []), (2, 0, 6, []), (2, 0, 6, []), (2, 0, 6, []), (2, 0, 6, []), (2, 0, 6, []), (2, 0, 6, []), (2, 0, 6, []), (2, 0, 6, []), (2, 0, 6, []), (2, 0, 6, []), (2, 0, 6, []), (2, 0, 6, []), (2, 0, 6, []), (2, 0, 6, []), (2, 0, 6, []), (2, 3, 16, [145, 146, 147, 148, 149, 150, 151, 152, 153, 154, 155, 156, 157, 158, 159, 160]), (2, 0, 6, []), (2, 0, 6, []), (2, 0, 6, []), (2, 0, 6, []), (2, 0, 6, []), (2, 0, 6, []), (2, 0, 6, []), (2, 0, 6, []), (2, 0, 6, []), (2, 0, 6, []), (2, 0, 6, []), (2, 0, 6, []), (2, 0, 6, []), (2, 0, 6, []), (2, 0, 6, []), (2, 0, 6, []), (2, 3, 12, [162, 163, 164, 165, 166, 167, 168, 169, 170, 171, 172, 173]), (2, 0, 2, []), (2, 0, 2, []), (2, 0, 2, []), (2, 0, 2, []), (2, 0, 2, []), (2, 0, 2, []), (2, 0, 2, []), (2, 0, 2, []), (2, 0, 2, []), (2, 0, 2, []), (2, 0, 2, []), (2, 0, 2, []), (2, 3, 12, [175, 176, 177, 178, 179, 180, 181, 182, 183, 184, 185, 186]), (2, 0, 2, []), (2, 0, 2, []), (2, 0, 2, []), (2, 0, 2, []), (2, 0, 2, []), (2, 0, 2, []), (2, 0, 2, []), (2, 0, 2, []), (2, 0, 2, []), (2, 0, 2, []), (2, 0, 2, []), (2, 0, 2, []), (2, 3, 12, [188, 189, 190, 191, 192, 193, 194, 195, 196, 197, 198, 199]), (2, 0, 3, []), (2, 0, 3, []), (2, 0, 3, []), (2, 0, 3, []), (2, 0, 3, []), (2, 0, 3, []), (2, 0, 3, []), (2, 0, 3, []), (2, 0, 3, []), (2, 0, 3, []), (2, 0, 3, []), (2, 0, 3, []), (2, 3, 12, [201, 202, 203, 204, 205, 206, 207, 208, 209, 210, 211, 212]), (2, 0, 3, []), (2, 0, 3, []), (2, 0, 3, []), (2, 0, 3, []), (2, 0, 3, []), (2, 0, 3, []), (2, 0, 3, []), (2, 0, 3, []), (2, 0, 3, []), (2, 0, 3, []), (2, 0, 3, []), (2, 0, 3, []), (2, 3, 160, [214, 215, 216, 217, 218, 219, 220, 221, 222, 223, 224, 225, 226, 227, 228, 229, 230, 231, 232, 233, 234, 235, 236, 237, 238, 239, 240, 241, 242, 243, 244, 245, 246, 247, 248, 249, 250, 251, 252, 253, 254, 255, 256, 257, 258, 259, 260, 261, 262, 263, 264, 265, 266, 267, 268, 269, 270, 271, 272, 273, 274, 275, 276, 277, 278, 279, 280, 281, 282, 283, 284, 285, 286, 287, 288, 289, 290, 291, 292, 293, 294, 295, 296, 297, 298, 299, 300, 301, 302, 303, 304, 305, 306, 307, 308, 309, 310, 311, 312, 313, 314, 315, 316, 317, 318, 319, 320, 321, 322, 323, 324, 325, 326, 327, 328, 329, 330, 331, 332, 333, 334, 335, 336, 337, 338, 339, 340, 341, 342, 343, 344, 345, 346, 347, 348, 349, 350, 351, 352, 353, 354, 355, 356, 357, 358, 359, 360, 361, 362, 363, 364, 365, 366, 367, 368, 369, 370, 371, 372, 373]), (2, 0, 2, []), (2, 0, 2, []), (2, 0, 2, []), (2, 0, 2, []), (2, 0, 2, []), (2, 0, 2, []), (2, 0, 2, []), (2, 0, 2, []), (2, 0, 2, []), (2, 0, 2, []), (2, 0, 2, []), (2, 0, 2, []), (2, 0, 2, []), (2, 0, 2, []), (2, 0, 2, []), (2, 0, 2, []), (2, 0, 2, []), (2, 0, 2, []), (2, 0, 2, []), (2, 0, 2, []), (2, 0, 2, []), (2, 0, 2, []), (2, 0, 2, []), (2, 0, 2, []), (2, 0, 2, []), (2, 0, 2, []), (2, 0, 2, []), (2, 0, 2, []), (2, 0, 2, []), (2, 0, 2, []), (2, 0, 2, []), (2, 0, 2, []), (2, 0, 2, []), (2, 0, 2, []), (2, 0, 2, []), (2, 0, 2, []), (2, 0, 2, []), (2, 0, 2, []), (2, 0, 2, []), (2, 0, 2, []), (2, 0, 2, []), (2, 0, 2, []), (2, 0, 2, []), (2, 0, 2, []), (2, 0, 2, []), (2, 0, 2, []), (2, 0, 2, []), (2, 0, 2, []), (2, 0, 2, []), (2, 0, 2, []), (2, 0, 2, []), (2, 0, 2, []), (2, 0, 2, []), (2, 0, 2, []), (2, 0, 2, []), (2, 0, 2, []), (2, 0, 2, []), (2, 0, 2, []), (2, 0, 2, []), (2, 0, 2, []), (2, 0, 2, []), (2, 0, 2, []), (2, 0, 2, []), (2, 0, 2, []), (2, 0, 2, []), (2, 0, 2, []), (2, 0, 2, []), (2, 0, 2, []), (2, 0, 2, []), (2, 0, 2, []), (2, 0, 2, []), (2, 0, 2, []), (2, 0, 2, []), (2, 0, 2, []), (2, 0, 2, []), (2, 0, 2, []), (2, 0, 2, []), (2, 0, 2, []), (2, 0, 2, []), (2, 0, 2, []), (2, 0, 2, []), (2, 0, 2, []), (2, 0, 2, []), (2, 0, 2, []), (2, 0, 2, []), (2, 0, 2, []), (2, 0, 2, []), (2, 0, 2, []), (2, 0, 2, []), (2, 0, 2, []), (2, 0, 2, []), (2, 0, 2, []), (2, 0, 2, []), (2, 0, 2, []), (2, 0, 2, []), (2, 0, 2, []), (2, 0, 2, []), (2, 0, 2, []), (2, 0, 2, []), (2, 0, 2, []), (2, 0, 2, []), (2, 0, 2, []), (2, 0, 2, []), (2, 0, 2, []), (2, 0, 2, []), (2, 0, 2, []), (2, 0, 2, []), (2, 0, 2, []), (2, 0, 2, []), (2, 0, 2, []), (2, 0, 2, []), (2, 0, 2, []), (2, 0, 2, []), (2, 0, 2, []), (2, 0, 2, []), (2, 0, 2, []), (2, 0, 2, []), (2, 0, 2, []), (2, 0, 2, []), (2, 0, 2, []), (2, 0, 2, []), (2, 0, 2, []), (2, 0, 2, []), (2, 0, 2, []), (2, 0, 2, []), (2, 0, 2, []), (2, 0, 2, []), (2, 0, 2, []), (2, 0, 2, []), (2, 0, 2, []), (2, 0, 2, []), (2, 0, 2, []), (2, 0, 2, []), (2, 0, 2, []), (2, 0, 2, []), (2, 0, 2, []), (2, 0, 2, []), (2, 0, 2, []), (2, 0, 2, []), (2, 0, 2, []), (2, 0, 2, []), (2, 0, 2, []), (2, 0, 2, []), (2, 0, 2, []), (2, 0, 2, []), (2, 0, 2, []), (2, 0, 2, []), (2, 0, 2, []), (2, 0, 2, []), (2, 0, 2, []), (2, 0, 2, []), (2, 0, 2, []), (2, 0, 2, []), (2, 0, 2, []), (2, 0, 2, []), (2, 0, 2, []), (2, 0, 2, []), (2, 0, 2, []), (2, 0, 2, []), (2, 0, 2, []), (2, 3, 160, [375, 376, 377, 378, 379, 380, 381, 382, 383, 384, 385, 386, 387, 388, 389, 390, 391, 392, 393, 394, 395, 396, 397, 398, 399, 400, 401, 402, 403, 404, 405, 406, 407, 408, 409, 410, 411, 412, 413, 414, 415, 416, 417, 418, 419, 420, 421, 422, 423, 424, 425, 426, 427, 428, 429, 430, 431, 432, 433, 434, 435, 436, 437, 438, 439, 440, 441, 442, 443, 444, 445, 446, 447, 448, 449, 450, 451, 452, 453, 454, 455, 456, 457, 458, 459, 460, 461, 462, 463, 464, 465, 466, 467, 468, 469, 470, 471, 472, 473, 474, 475, 476, 477, 478, 479, 480, 481, 482, 483, 484, 485, 486, 487, 488, 489, 490, 491, 492, 493, 494, 495, 496, 497, 498, 499, 500, 501, 502, 503, 504, 505, 506, 507, 508, 509, 510, 511, 512, 513, 514, 515, 516, 517, 518, 519, 520, 521, 522, 523, 524, 525, 526, 527, 528, 529, 530, 531, 532, 533, 534]), (2, 0, 2, []), (2, 0, 2, []), (2, 0, 2, []), (2, 0, 2, []), (2, 0, 2, []), (2, 0, 2, []), (2, 0, 2, []), (2, 0, 2, []), (2, 0, 2, []), (2, 0, 2, []), (2, 0, 2, []), (2, 0, 2, []), (2, 0, 2, []), (2, 0, 2, []), (2, 0, 2, []), (2, 0, 2, []), (2, 0, 2, []), (2, 0, 2, []), (2, 0, 2, []), (2, 0, 2, []), (2, 0, 2, []), (2, 0, 2, []), (2, 0, 2, []), (2, 0, 2, []), (2, 0, 2, []), (2, 0, 2, []), (2, 0, 2, []), (2, 0, 2, []), (2, 0, 2, []), (2, 0, 2, []), (2, 0, 2, []), (2, 0, 2, []), (2, 0, 2, []), (2, 0, 2, []), (2, 0, 2, []), (2, 0, 2, []), (2, 0, 2, []), (2, 0, 2, []), (2, 0, 2, []), (2, 0, 2, []), (2, 0, 2, []), (2, 0, 2, []), (2, 0, 2, []), (2, 0, 2, []), (2, 0, 2, []), (2, 0, 2, []), (2, 0, 2, []), (2, 0, 2, []), (2, 0, 2, []), (2, 0, 2, []), (2, 0, 2, []), (2, 0, 2, []), (2, 0, 2, []), (2, 0, 2, []), (2, 0, 2, []), (2, 0, 2, []), (2, 0, 2, []), (2, 0, 2, []), (2, 0, 2, []), (2, 0, 2, []), (2, 0, 2, []), (2, 0, 2, []), (2, 0, 2, []), (2, 0, 2, []), (2, 0, 2, []), (2, 0, 2, []), (2, 0, 2, []), (2, 0, 2, []), (2, 0, 2, []), (2, 0, 2, []), (2, 0, 2, []), (2, 0, 2, []), (2, 0, 2, []), (2, 0, 2, []), (2, 0, 2, []), (2, 0, 2, []), (2, 0, 2, []), (2, 0, 2, []), (2, 0, 2, []), (2, 0, 2, []), (2, 0, 2, []), (2, 0, 2, []), (2, 0, 2, []), (2, 0, 2, []), (2, 0, 2, []), (2, 0, 2, []), (2, 0, 2, []), (2, 0, 2, []), (2, 0, 2, []), (2, 0, 2, []), (2, 0, 2, []), (2, 0, 2, []), (2, 0, 2, []), (2, 0, 2, []), (2, 0, 2, []), (2, 0, 2, []), (2, 0, 2, []), (2, 0, 2, []), (2, 0, 2, []), (2, 0, 2, []), (2, 0, 2, []), (2, 0, 2, []), (2, 0, 2, []), (2, 0, 2, []), (2, 0, 2, []), (2, 0, 2, []), (2, 0, 2, []), (2, 0, 2, []), (2, 0, 2, []), (2, 0, 2, []), (2, 0, 2, []), (2, 0, 2, []), (2, 0, 2, []), (2, 0, 2, []), (2, 0, 2, []), (2, 0, 2, []), (2, 0, 2, []), (2, 0, 2, []), (2, 0, 2, []), (2, 0, 2, []), (2, 0, 2, []), (2, 0, 2, []), (2, 0, 2, []), (2, 0, 2, []), (2, 0, 2, []), (2, 0, 2, []), (2, 0, 2, []), (2, 0, 2, []), (2, 0, 2, []), (2, 0, 2, []), (2, 0, 2, []), (2, 0, 2, []), (2, 0, 2, []), (2, 0, 2, []), (2, 0, 2, []), (2, 0, 2, []), (2, 0, 2, []), (2, 0, 2, []), (2, 0, 2, []), (2, 0, 2, []), (2, 0, 2, []), (2, 0, 2, []), (2, 0, 2, []), (2, 0, 2, []), (2, 0, 2, []), (2, 0, 2, []), (2, 0, 2, []), (2, 0, 2, []), (2, 0, 2, []), (2, 0, 2, []), (2, 0, 2, []), (2, 0, 2, []), (2, 0, 2, []), (2, 0, 2, []), (2, 0, 2, []), (2, 0, 2, []), (2, 0, 2, []), (2, 0, 2, []), (2, 0, 2, []), (2, 0, 2, []), (2, 3, 12, [536, 537, 538, 539, 540, 541, 542, 543, 544, 545, 546, 547]), (2, 0, 2, []), (2, 0, 2, []), (2, 0, 2, []), (2, 0, 2, []), (2, 0, 2, []), (2, 0, 2, []), (2, 0, 2, []), (2, 0, 2, []), (2, 0, 2, []), (2, 0, 2, []), (2, 0, 2, []), (2, 0, 2, []), (2, 3, 12, [549, 550, 551, 552, 553, 554, 555, 556, 557, 558, 559, 560]), (2, 0, 2, []), (2, 0, 2, []), (2, 0, 2, []), (2, 0, 2, []), (2, 0, 2, []), (2, 0, 2, []), (2, 0, 2, []), (2, 0, 2, []), (2, 0, 2, []), (2, 0, 2, []), (2, 0, 2, []), (2, 0, 2, []), (2, 3, 3, [562, 563, 564]), (2, 0, 305, []), (2, 0, 305, []), (2, 0, 305, []), (2, 0, 160, []), (2, 0, 7, []), (2, 0, 305, []), (2, 0, 305, []), (2, 0, 305, []), (2, 0, 305, []), (2, 0, 305, []), (2, 3, 3, [573, 574, 575]), (2, 0, 3, []), (2, 0, 3, []), (2, 0, 3, []), (2, 0, 13, []), (2, 3, 4, [578, 579, 580, 581]), (2, 0, 305, []), (2, 0, 305, []), (2, 0, 305, []), (2, 0, 305, []), (2, 3, 17, [583, 584, 585, 586, 587, 588, 589, 590, 591, 592, 593, 594, 595, 596, 597, 598, 599]), (2, 0, 17, []), (2, 0, 17, []), (2, 0, 17, []), (2, 0, 17, []), (2, 0, 17, []), (2, 0, 17, []), (2, 0, 17, []), (2, 0, 17, []), (2, 0, 17, []), (2, 0, 17, []), (2, 0, 17, []), (2, 0, 17, []), (2, 0, 17, []), (2, 0, 17, []), (2, 0, 17, []), (2, 0, 17, []), (2, 0, 17, []), (2, 0, 6, []), (2, 0, 6, []), (2, 0, 3, []), (2, 2, 1, [])]
def zFR : List (List Bool) := [[false, false, false, false, false, false, false, true, true, true, true, true, true, true, true, true], [false, true, true], [true, true, true], [true, true, true], [true, true, true, true, true, true, true, true, false, false, false, false, false], [true, true, true, false], [true, true, true, true, true, true, false, false], [false, false, false, false, false, false, false, false, true, true, true, true, true], [true, false, false, false, false, false], [true, true, true, true, true, true, true, true, true, true, false, true, true, true, true, false, false], [false, false, false, false, false, false, false, false, false, true, true, true, true, true, true, true, true, true, true, true, true, true, true, true, true, false, false, false, true, true, true, true, true, true, true, true, true, true, true, true, false, false, false, true, false, false, false, false, false, true, false, true, false, false, true, true, true, false, false, true]]
abbrev zV : Type := Nat → Nat → Int32
abbrev zG : Type := va_G × (Nat → ClassId) × Nat
/-- how many cells are told of: 603 until the law has made its array, then 604 -/
def zN (G : zG) : Nat := G.2.1 300
def zsh (i : Nat) : Nat × Nat × Nat × List Nat := zSH.getD i (0, 0, 0, [])
def zlen (i : Nat) : Nat := (zsh i).2.2.1
def zrf (i k : Nat) : Nat := (zsh i).2.2.2.getD k 0
def zfr (c k : Nat) : Bool := (zFR.getD c []).getD k false
/-- cell i is of kind k (1 an object, 2 an array) and class c -/
def zty (G : zG) (i k c : Nat) : Prop := (i < zN G ∧ 603 ≤ zN G ∧ zN G ≤ 604) ∧ (zsh i).1 = k ∧ (zsh i).2.1 = c
def znf (c : Nat) : Nat := (zFR.getD c []).length

def zup (v : zV) (i k : Nat) (x : Int32) : zV := fun a j => if a = i then (if j = k then x else v a j) else v a j
def zcp (v : zV) (i j sp dp n : Nat) : zV := fun a => if a = j then va_cpy (v i) (v j) sp dp n else v a
def zA (G : zG) : Nat → Prop := fun q => G.2.2 ≤ q
def zTy (G : zG) : List (ClassId × FieldType) := [(G.2.1 0, .int), (G.2.1 1, .byte), (G.2.1 2, .long), (G.2.1 3, .array .int), (G.2.1 4, .object RX7)]
abbrev zr (G : zG) (i : Nat) : Value := .ref (G.2.2 + i)
def zFs (G : zG) (f : Nat → Int32) (i c : Nat) : List Value := (List.range (znf c)).map (fun k => if zfr c k then zr G (zrf i k) else .int (f k))
def zAr (G : zG) (f : Nat → Int32) (i c : Nat) : va_E := match c with
  | 0 => .inl (G.2.1 0, zlen i, .inl f)
  | 1 => .inl (G.2.1 1, zlen i, .inl f)
  | 2 => .inl (G.2.1 2, zlen i, .inr (.inl (fun k => (f k).toInt64)))
  | c => .inl (G.2.1 c, zlen i, .inr (.inr (.inr (.inr (fun k => some (G.2.2 + zrf i k))))))
def zE (G : zG) (f : Nat → Int32) (i : Nat) : va_E := if (zsh i).1 = 1 then .inr ((zsh i).2.1, zFs G f i (zsh i).2.1) else zAr G f i (zsh i).2.1
def zW (G : zG) (v : zV) : va_W := (List.range (zN G)).map (fun i => (G.2.2 + i, zE G (v i) i))
theorem zW_at (G : zG) (v : zV) {i : Nat} (h : i < zN G) : (zW G v)[i]? = some (G.2.2 + i, zE G (v i) i) := by
  unfold zW
  rw [List.getElem?_map, List.getElem?_range h]
  rfl
theorem zW_o {G : zG} {v : zV} {i c : Nat} (h : zty G i 1 c) : (zW G v)[i]? = some (G.2.2 + i, .inr (c, zFs G (v i) i c)) := by
  rw [zW_at G v h.1.1]
  unfold zE
  rw [if_pos h.2.1, h.2.2]
theorem zW_a {G : zG} {v : zV} {i c : Nat} (h : zty G i 2 c) : (zW G v)[i]? = some (G.2.2 + i, zAr G (v i) i c) := by
  rw [zW_at G v h.1.1]
  unfold zE
  rw [if_neg (by rw [h.2.1]; decide), h.2.2]
theorem zW_len (G : zG) (v : zV) : (zW G v).length = zN G := by simp [zW]
theorem zW_D (G : zG) (v : zV) : va_D (zA G) (zW G v) := by
  have key : ∀ (k : Nat) (q : Nat × va_E), (zW G v)[k]? = some q → q.1 = G.2.2 + k := by
    intro k q hk
    have hl := (List.getElem?_eq_some_iff.mp hk).1
    rw [zW_len] at hl
    rw [zW_at G v hl] at hk
    cases hk
    rfl
  refine ⟨fun i j p q hi hj e => ?_, fun k q hk => ?_⟩
  · have h1 := key i p hi
    have h2 := key j q hj
    omega
  · show G.2.2 ≤ q.1
    rw [key k q hk]
    omega
theorem zW_set (G : zG) (v v' : zV) (i : Nat) (h : i < zN G) (hv : ∀ a, a ≠ i → v' a = v a) {e : va_E} (he : e = zE G (v' i) i) : (zW G v).set i (G.2.2 + i, e) = zW G v' := by
  apply List.ext_getElem?
  intro k
  by_cases hk : k = i
  · subst hk
    rw [List.getElem?_set_self (by rw [zW_len]; exact h), zW_at G v' h, he]
  · rw [List.getElem?_set_ne (Ne.symm hk)]
    by_cases hl : k < zN G
    · rw [zW_at G v hl, zW_at G v' hl, hv k hk]
    · rw [List.getElem?_eq_none (by rw [zW_len]; omega), List.getElem?_eq_none (by rw [zW_len]; omega)]
theorem zFs_at (G : zG) (f : Nat → Int32) (i c k : Nat) (h : k < znf c) : (zFs G f i c)[k]? = some (if zfr c k then zr G (zrf i k) else .int (f k)) := by
  unfold zFs
  rw [List.getElem?_map, List.getElem?_range h]
  rfl
theorem zFs_len (G : zG) (f : Nat → Int32) (i c : Nat) : (zFs G f i c).length = znf c := by simp [zFs]
theorem zFs_set (G : zG) (f : Nat → Int32) (i c k : Nat) (x : Int32) (hk : k < znf c) (hr : zfr c k = false) : (zFs G f i c).set k (.int x) = zFs G (fun j => if j = k then x else f j) i c := by
  apply List.ext_getElem?
  intro j
  by_cases hj : j = k
  · subst hj
    rw [List.getElem?_set_self (by rw [zFs_len]; exact hk), zFs_at G _ i c j hk, hr]
    simp
  · rw [List.getElem?_set_ne (Ne.symm hj)]
    by_cases hl : j < znf c
    · rw [zFs_at G _ i c j hl, zFs_at G _ i c j hl, if_neg hj]
    · rw [List.getElem?_eq_none (by rw [zFs_len]; omega), List.getElem?_eq_none (by rw [zFs_len]; omega)]
theorem zE_o {G : zG} {f : Nat → Int32} {i c : Nat} (h : zty G i 1 c) : zE G f i = .inr (c, zFs G f i c) := by
  unfold zE
  rw [if_pos h.2.1, h.2.2]
theorem zE_a {G : zG} {f : Nat → Int32} {i c : Nat} (h : zty G i 2 c) : zE G f i = zAr G f i c := by
  unfold zE
  rw [if_neg (by rw [h.2.1]; decide), h.2.2]
theorem zup_ne (v : zV) (i k : Nat) (x : Int32) : ∀ a, a ≠ i → zup v i k x a = v a := by
  intro a h
  funext j
  simp [zup, h]
theorem zup_at (v : zV) (i k : Nat) (x : Int32) : zup v i k x i = fun j => if j = k then x else v i j := by
  funext j
  simp [zup]
theorem zcp_ne (v : zV) (i j sp dp n : Nat) : ∀ a, a ≠ j → zcp v i j sp dp n a = v a := by
  intro a h
  simp [zcp, h]
theorem zcp_at (v : zV) (i j sp dp n : Nat) : zcp v i j sp dp n j = va_cpy (v i) (v j) sp dp n := by
  simp [zcp]
/-- the static types: what the fields and the arrays of references hold -/
def zchk (c k a b : Nat) : Bool := zSH.all (fun d => !(d.1 == 1 && d.2.1 == c) || (decide (d.2.2.2.getD k 0 < 603) && (zsh (d.2.2.2.getD k 0)).1 == a && (zsh (d.2.2.2.getD k 0)).2.1 == b))
def zchkA (c a b : Nat) : Bool := zSH.all (fun d => !(d.1 == 2 && d.2.1 == c) || (d.2.2.2.length == d.2.2.1 && d.2.2.2.all (fun t => decide (t < 603) && (zsh t).1 == a && (zsh t).2.1 == b)))
theorem zSH_len : zSH.length = 604 := by decide +kernel
theorem zsh_mem {i : Nat} (h : i < 604) : zsh i ∈ zSH := by
  have hl : i < zSH.length := by rw [zSH_len]; exact h
  unfold zsh
  rw [List.getD_eq_getElem?_getD, List.getElem?_eq_getElem hl]
  exact List.getElem_mem hl
theorem zt_f {G : zG} {c k a b : Nat} (hc : zchk c k a b = true) {i : Nat} (h : zty G i 1 c) : zty G (zrf i k) a b := by
  have h1 := List.all_eq_true.mp hc _ (zsh_mem (Nat.lt_of_lt_of_le h.1.1 h.1.2.2))
  rw [h.2.1, h.2.2] at h1
  simp only [beq_self_eq_true, Bool.and_self, Bool.not_true, Bool.false_or, Bool.and_eq_true, decide_eq_true_eq, beq_iff_eq] at h1
  exact ⟨⟨Nat.lt_of_lt_of_le h1.1.1 h.1.2.1, h.1.2⟩, h1.1.2, h1.2⟩
theorem zt_a {G : zG} {c a b : Nat} (hc : zchkA c a b = true) {i j : Nat} (h : zty G i 2 c) (hj : j < zlen i) : zty G (zrf i j) a b := by
  have h1 := List.all_eq_true.mp hc _ (zsh_mem (Nat.lt_of_lt_of_le h.1.1 h.1.2.2))
  rw [h.2.1, h.2.2] at h1
  simp only [beq_self_eq_true, Bool.and_self, Bool.not_true, Bool.false_or, Bool.and_eq_true, beq_iff_eq] at h1
  obtain ⟨hl, h2⟩ := h1
  have hj2 : j < (zsh i).2.2.2.length := by rw [hl]; exact hj
  have h3 := List.all_eq_true.mp h2 _ (List.getElem_mem hj2)
  have he : zrf i j = (zsh i).2.2.2[j] := by
    unfold zrf
    rw [List.getD_eq_getElem?_getD, List.getElem?_eq_getElem hj2]
    rfl
  rw [← he] at h3
  simp only [Bool.and_eq_true, decide_eq_true_eq, beq_iff_eq] at h3
  exact ⟨⟨Nat.lt_of_lt_of_le h3.1.1 h.1.2.1, h.1.2⟩, h3.1.2, h3.2⟩

/-! THE JUDGEMENT: the machine, with the frame at pc, the locals ls, the stack st and the ints v, comes to Q -/
abbrev zCx : Type := Program × Launch × Env × Room × State × MethodId × Array Value × List Frame × Method × Code
def zWx (x : zCx) (H : Heap) (locs : List Loc) (cs sl : Nat) (Q : State → Prop) (g : JFrame) : Prop := W x.1 x.2.1 x.2.2.1 x.2.2.2.1 x.2.2.2.2.1 x.2.2.2.2.2.1 x.2.2.2.2.2.2.1 x.2.2.2.2.2.2.2.1 x.2.2.2.2.2.2.2.2.1 x.2.2.2.2.2.2.2.2.2 H locs cs sl Q g
def zJ (x : zCx) (G : zG) (nL : Nat) (Q : State → Prop) (cs sl : Nat) (pc : Nat) (ls : List (Nat × Value)) (st : List Value) (v : zV) : Prop :=
  ∀ (H : Heap) (locs : List Loc) (la : Array Slot), va_P G.1 vwCl (zW G v) H → va_S (zA G) x.2.2.2.2.1.heap H locs → lv_has la nL ls → W x.1 x.2.1 x.2.2.1 x.2.2.2.1 x.2.2.2.2.1 x.2.2.2.2.2.1 x.2.2.2.2.2.2.1 x.2.2.2.2.2.2.2.1 x.2.2.2.2.2.2.2.2.1 x.2.2.2.2.2.2.2.2.2 H locs cs sl Q (F0 x.2.2.2.2.2.1 pc la st)
/-- the words that every method may have -/
def zTbl : List Cond := lw_tbl.filter goodWord
theorem zTbl_of {w : Cond} (h : w ∈ lw_tbl) (hg : goodWord w = true) : w ∈ zTbl := List.mem_filter.mpr ⟨h, hg⟩
/-- the literals: class and entry -/
def zSK : List (String × Nat) := [("ContraryChairs$Academy", 116), ("ContraryChairs$Academy", 122), ("ContraryChairs$Academy", 124), ("ContraryChairs$Academy", 126), ("ContraryChairs$Academy", 127), ("ContraryChairs$Academy", 129), ("ContraryChairs$Law", 76), ("ContraryChairs$Law", 85), ("ContraryChairs$Law", 99), ("ContraryChairs$Law", 101), ("ContraryChairs$Law", 103), ("ContraryChairs$Law", 105), ("ContraryChairs$Law", 107), ("ContraryChairs$Law", 108), ("ContraryChairs$Law", 110), ("ContraryChairs$Book", 53)]
/-- the old part of the state: as at the law's start; the literals' addresses stand at 100 and on -/
def zOld (G : zG) (U : State) : Prop := ∃ (s0 : State) (a0 : Array Value), (∀ w ∈ lw_tbl, w.before a0 s0 = true) ∧ (Jvm.Cond.and given_1 narrow_1).before a0 s0 = true ∧ s0.heap.size = G.2.2 ∧ s0.WarmedH U.vm ∧ (∀ q : Nat, q < G.2.2 → U.heap[q]? = s0.heap[q]?) ∧ ∀ k : Nat, k < 16 → (Term.string (zSK.getD k ("", 0)).1 (zSK.getD k ("", 0)).2).eval a0 s0 none [] s0 = some (.ref (G.2.1 (100 + k))) ∧ (Term.field (Term.string (zSK.getD k ("", 0)).1 (zSK.getD k ("", 0)).2) "java/lang/String" "value" "[B").eval a0 s0 none [] s0 = some (.ref (G.2.1 (200 + k)))
def zSt (G : zG) (v : zV) (U : State) : Prop := va_P G.1 vwCl (zW G v) U.heap ∧ va_K G.1 vwCl (zTy G) U ∧ zOld G U
def zF (x : zCx) (G : zG) (cc : ByteArray) (nL : Nat) (own : String) (fr lo : Nat) : Prop :=
  x.1.tables.exec = Jvm.exec ∧ x.2.2.2.2.2.2.2.2.2.code = cc ∧ x.2.2.2.2.2.2.2.2.2.maxLocals = nL ∧ x.2.2.2.2.1.vm.findClass own = some x.2.2.2.2.2.1.cls ∧ (∀ w ∈ zTbl, w.before x.2.2.2.2.2.2.1 x.2.2.2.2.1 = true) ∧ va_K G.1 vwCl (zTy G) x.2.2.2.2.1 ∧ fr ≤ x.2.2.2.1.frames ∧ lo ≤ x.2.2.2.1.locals ∧ zOld G x.2.2.2.2.1
section ZR
variable {x : zCx} {G : zG} {cc : ByteArray} {nL : Nat} {own : String} {fr lo : Nat} {Q : State → Prop} {cs sl pc : Nat} {ls : List (Nat × Value)} {st : List Value} {v : zV}
theorem z_iconst (F : zF x G cc nL own fr lo) {n : Int} {y : Int32} (hd : decode cc pc = .ok (.iconst n, 1)) (hv : Int32.ofInt n = y) (k : zJ x G nL Q cs sl (pc + 1) ls (.int y :: st) v) : zJ x G nL Q cs sl pc ls st v :=
  fun H locs la hP hS hl => lv_iconst F.1 F.2.1 hd hv (k H locs la hP hS hl)
theorem z_bipush (F : zF x G cc nL own fr lo) {n : Int} {y : Int32} (hd : decode cc pc = .ok (.bipush n, 2)) (hv : (Int8.ofInt n).toInt32 = y) (k : zJ x G nL Q cs sl (pc + 2) ls (.int y :: st) v) : zJ x G nL Q cs sl pc ls st v :=
  fun H locs la hP hS hl => lv_bipush F.1 F.2.1 hd hv (k H locs la hP hS hl)
theorem z_sipush (F : zF x G cc nL own fr lo) {n : Int} {y : Int32} (hd : decode cc pc = .ok (.sipush n, 3)) (hv : (Int16.ofInt n).toInt32 = y) (k : zJ x G nL Q cs sl (pc + 3) ls (.int y :: st) v) : zJ x G nL Q cs sl pc ls st v :=
  fun H locs la hP hS hl => lv_sipush F.1 F.2.1 hd hv (k H locs la hP hS hl)
theorem z_lconst (F : zF x G cc nL own fr lo) {n : Fin 2} {y : Int64} (hd : decode cc pc = .ok (.lconst n, 1)) (hv : Int64.ofNat (n : Nat) = y) (k : zJ x G nL Q cs sl (pc + 1) ls (.long y :: st) v) : zJ x G nL Q cs sl pc ls st v :=
  fun H locs la hP hS hl => lv_lconst F.1 F.2.1 hd hv (k H locs la hP hS hl)
theorem z_iload_n (F : zF x G cc nL own fr lo) {n : Fin 4} {i : Nat} {y : Int32} (hd : decode cc pc = .ok (.iload_n n, 1)) (hi : (n : Nat) = i) (j : Nat) (hj : ls[j]? = some (i, .int y)) (k : zJ x G nL Q cs sl (pc + 1) ls (.int y :: st) v) : zJ x G nL Q cs sl pc ls st v :=
  fun H locs la hP hS hl => lv_iload_n F.1 F.2.1 hd hi (lv_at hl j hj) (k H locs la hP hS hl)
theorem z_iload (F : zF x G cc nL own fr lo) {i : Nat} {y : Int32} (hd : decode cc pc = .ok (.iload i, 2)) (j : Nat) (hj : ls[j]? = some (i, .int y)) (k : zJ x G nL Q cs sl (pc + 2) ls (.int y :: st) v) : zJ x G nL Q cs sl pc ls st v :=
  fun H locs la hP hS hl => lv_iload F.1 F.2.1 hd (lv_at hl j hj) (k H locs la hP hS hl)
theorem z_lload_n (F : zF x G cc nL own fr lo) {n : Fin 4} {i : Nat} {y : Int64} (hd : decode cc pc = .ok (.lload_n n, 1)) (hi : (n : Nat) = i) (j : Nat) (hj : ls[j]? = some (i, .long y)) (k : zJ x G nL Q cs sl (pc + 1) ls (.long y :: st) v) : zJ x G nL Q cs sl pc ls st v :=
  fun H locs la hP hS hl => lv_lload_n F.1 F.2.1 hd hi (lv_at hl j hj) (k H locs la hP hS hl)
theorem z_lload (F : zF x G cc nL own fr lo) {i : Nat} {y : Int64} (hd : decode cc pc = .ok (.lload i, 2)) (j : Nat) (hj : ls[j]? = some (i, .long y)) (k : zJ x G nL Q cs sl (pc + 2) ls (.long y :: st) v) : zJ x G nL Q cs sl pc ls st v :=
  fun H locs la hP hS hl => lv_lload F.1 F.2.1 hd (lv_at hl j hj) (k H locs la hP hS hl)
theorem z_aload_n (F : zF x G cc nL own fr lo) {n : Fin 4} {i : Nat} {y : Nat} (hd : decode cc pc = .ok (.aload_n n, 1)) (hi : (n : Nat) = i) (j : Nat) (hj : ls[j]? = some (i, .ref y)) (k : zJ x G nL Q cs sl (pc + 1) ls (.ref y :: st) v) : zJ x G nL Q cs sl pc ls st v :=
  fun H locs la hP hS hl => lv_aload_n F.1 F.2.1 hd hi (lv_at hl j hj) (k H locs la hP hS hl)
theorem z_aload (F : zF x G cc nL own fr lo) {i : Nat} {y : Nat} (hd : decode cc pc = .ok (.aload i, 2)) (j : Nat) (hj : ls[j]? = some (i, .ref y)) (k : zJ x G nL Q cs sl (pc + 2) ls (.ref y :: st) v) : zJ x G nL Q cs sl pc ls st v :=
  fun H locs la hP hS hl => lv_aload F.1 F.2.1 hd (lv_at hl j hj) (k H locs la hP hS hl)
theorem z_istore_n (F : zF x G cc nL own fr lo) {n : Fin 4} {i : Nat} {y : Int32} (lv' : List (Nat × Value)) (hd : decode cc pc = .ok (.istore_n n, 1)) (hi : (n : Nat) = i) (hn : i < nL) (hl' : (i, Value.int y) :: ls.filter (fun q => (!(q.1 == i) && !(q.1 + 1 == i && q.2.category == 2))) = lv') (k : zJ x G nL Q cs sl (pc + 1) lv' st v) : zJ x G nL Q cs sl pc ls (.int y :: st) v :=
  fun H locs la hP hS hl => lv_istore_n F.1 F.2.1 hd hi hl hn hl' (fun la' h' => k H locs la' hP hS h')
theorem z_istore (F : zF x G cc nL own fr lo) {n : Fin 4} {i : Nat} {y : Int32} (lv' : List (Nat × Value)) (hd : decode cc pc = .ok (.istore i, 2)) (hn : i < nL) (hl' : (i, Value.int y) :: ls.filter (fun q => (!(q.1 == i) && !(q.1 + 1 == i && q.2.category == 2))) = lv') (k : zJ x G nL Q cs sl (pc + 2) lv' st v) : zJ x G nL Q cs sl pc ls (.int y :: st) v :=
  fun H locs la hP hS hl => lv_istore F.1 F.2.1 hd hl hn hl' (fun la' h' => k H locs la' hP hS h')
theorem z_astore_n (F : zF x G cc nL own fr lo) {n : Fin 4} {i : Nat} {y : Nat} (lv' : List (Nat × Value)) (hd : decode cc pc = .ok (.astore_n n, 1)) (hi : (n : Nat) = i) (hn : i < nL) (hl' : (i, Value.ref y) :: ls.filter (fun q => (!(q.1 == i) && !(q.1 + 1 == i && q.2.category == 2))) = lv') (k : zJ x G nL Q cs sl (pc + 1) lv' st v) : zJ x G nL Q cs sl pc ls (.ref y :: st) v :=
  fun H locs la hP hS hl => lv_astore_n F.1 F.2.1 hd hi hl hn hl' (fun la' h' => k H locs la' hP hS h')
theorem z_astore (F : zF x G cc nL own fr lo) {n : Fin 4} {i : Nat} {y : Nat} (lv' : List (Nat × Value)) (hd : decode cc pc = .ok (.astore i, 2)) (hn : i < nL) (hl' : (i, Value.ref y) :: ls.filter (fun q => (!(q.1 == i) && !(q.1 + 1 == i && q.2.category == 2))) = lv') (k : zJ x G nL Q cs sl (pc + 2) lv' st v) : zJ x G nL Q cs sl pc ls (.ref y :: st) v :=
  fun H locs la hP hS hl => lv_astore F.1 F.2.1 hd hl hn hl' (fun la' h' => k H locs la' hP hS h')
theorem z_lstore_n (F : zF x G cc nL own fr lo) {n : Fin 4} {i : Nat} {y : Int64} (lv' : List (Nat × Value)) (hd : decode cc pc = .ok (.lstore_n n, 1)) (hi : (n : Nat) = i) (hn : i + 1 < nL) (hl' : (i, Value.long y) :: ls.filter (fun q => (!(q.1 == i) && (!(q.1 == i + 1) && !(q.1 + 1 == i && q.2.category == 2)))) = lv') (k : zJ x G nL Q cs sl (pc + 1) lv' st v) : zJ x G nL Q cs sl pc ls (.long y :: st) v :=
  fun H locs la hP hS hl => lv_lstore_n F.1 F.2.1 hd hi hl hn hl' (fun la' h' => k H locs la' hP hS h')
theorem z_lstore (F : zF x G cc nL own fr lo) {n : Fin 4} {i : Nat} {y : Int64} (lv' : List (Nat × Value)) (hd : decode cc pc = .ok (.lstore i, 2)) (hn : i + 1 < nL) (hl' : (i, Value.long y) :: ls.filter (fun q => (!(q.1 == i) && (!(q.1 == i + 1) && !(q.1 + 1 == i && q.2.category == 2)))) = lv') (k : zJ x G nL Q cs sl (pc + 2) lv' st v) : zJ x G nL Q cs sl pc ls (.long y :: st) v :=
  fun H locs la hP hS hl => lv_lstore F.1 F.2.1 hd hl hn hl' (fun la' h' => k H locs la' hP hS h')
theorem z_iinc (F : zF x G cc nL own fr lo) {i : Nat} {n : Int} {y : Int32} {c : Int32} (lv' : List (Nat × Value)) (hd : decode cc pc = .ok (.iinc i n, 3)) (j : Nat) (hj : ls[j]? = some (i, .int y)) (hc : Int32.ofInt n = c) (hn : i < nL) (hl' : (i, Value.int (y + c)) :: ls.filter (fun q => (!(q.1 == i) && !(q.1 + 1 == i && q.2.category == 2))) = lv') (k : zJ x G nL Q cs sl (pc + 3) lv' st v) : zJ x G nL Q cs sl pc ls st v :=
  fun H locs la hP hS hl => lv_iinc F.1 F.2.1 hd hl hj (by rw [hc]) hn hl' (fun la' h' => k H locs la' hP hS h')
theorem z_iadd (F : zF x G cc nL own fr lo) {a b : Int32} (hd : decode cc pc = .ok (.iadd, 1)) (k : zJ x G nL Q cs sl (pc + 1) ls (.int (a + b) :: st) v) : zJ x G nL Q cs sl pc ls (.int b :: .int a :: st) v :=
  fun H locs la hP hS hl => lv_iadd F.1 F.2.1 hd (k H locs la hP hS hl)
theorem z_isub (F : zF x G cc nL own fr lo) {a b : Int32} (hd : decode cc pc = .ok (.isub, 1)) (k : zJ x G nL Q cs sl (pc + 1) ls (.int (a - b) :: st) v) : zJ x G nL Q cs sl pc ls (.int b :: .int a :: st) v :=
  fun H locs la hP hS hl => lv_isub F.1 F.2.1 hd (k H locs la hP hS hl)
theorem z_imul (F : zF x G cc nL own fr lo) {a b : Int32} (hd : decode cc pc = .ok (.imul, 1)) (k : zJ x G nL Q cs sl (pc + 1) ls (.int (a * b) :: st) v) : zJ x G nL Q cs sl pc ls (.int b :: .int a :: st) v :=
  fun H locs la hP hS hl => lv_imul F.1 F.2.1 hd (k H locs la hP hS hl)
theorem z_iand (F : zF x G cc nL own fr lo) {a b : Int32} (hd : decode cc pc = .ok (.iand, 1)) (k : zJ x G nL Q cs sl (pc + 1) ls (.int (a &&& b) :: st) v) : zJ x G nL Q cs sl pc ls (.int b :: .int a :: st) v :=
  fun H locs la hP hS hl => lv_iand F.1 F.2.1 hd (k H locs la hP hS hl)
theorem z_ior (F : zF x G cc nL own fr lo) {a b : Int32} (hd : decode cc pc = .ok (.ior, 1)) (k : zJ x G nL Q cs sl (pc + 1) ls (.int (a ||| b) :: st) v) : zJ x G nL Q cs sl pc ls (.int b :: .int a :: st) v :=
  fun H locs la hP hS hl => lv_ior F.1 F.2.1 hd (k H locs la hP hS hl)
theorem z_ixor (F : zF x G cc nL own fr lo) {a b : Int32} (hd : decode cc pc = .ok (.ixor, 1)) (k : zJ x G nL Q cs sl (pc + 1) ls (.int (a ^^^ b) :: st) v) : zJ x G nL Q cs sl pc ls (.int b :: .int a :: st) v :=
  fun H locs la hP hS hl => lv_ixor F.1 F.2.1 hd (k H locs la hP hS hl)
theorem z_ishl (F : zF x G cc nL own fr lo) {a b : Int32} (hd : decode cc pc = .ok (.ishl, 1)) (k : zJ x G nL Q cs sl (pc + 1) ls (.int (a <<< (b &&& 31)) :: st) v) : zJ x G nL Q cs sl pc ls (.int b :: .int a :: st) v :=
  fun H locs la hP hS hl => lv_ishl F.1 F.2.1 hd (k H locs la hP hS hl)
theorem z_ishr (F : zF x G cc nL own fr lo) {a b : Int32} (hd : decode cc pc = .ok (.ishr, 1)) (k : zJ x G nL Q cs sl (pc + 1) ls (.int (a >>> (b &&& 31)) :: st) v) : zJ x G nL Q cs sl pc ls (.int b :: .int a :: st) v :=
  fun H locs la hP hS hl => lv_ishr F.1 F.2.1 hd (k H locs la hP hS hl)
theorem z_iushr (F : zF x G cc nL own fr lo) {a b : Int32} (hd : decode cc pc = .ok (.iushr, 1)) (k : zJ x G nL Q cs sl (pc + 1) ls (.int ((a.toUInt32 >>> (b.toUInt32 &&& Int32.toUInt32 31)).toInt32) :: st) v) : zJ x G nL Q cs sl pc ls (.int b :: .int a :: st) v :=
  fun H locs la hP hS hl => lv_iushr F.1 F.2.1 hd rfl (k H locs la hP hS hl)
theorem z_idiv (F : zF x G cc nL own fr lo) {a b : Int32} (hd : decode cc pc = .ok (.idiv, 1)) (hne : ¬ b = 0) (k : zJ x G nL Q cs sl (pc + 1) ls (.int (a / b) :: st) v) : zJ x G nL Q cs sl pc ls (.int b :: .int a :: st) v :=
  fun H locs la hP hS hl => lv_idiv F.1 F.2.1 hd hne (k H locs la hP hS hl)
theorem z_irem (F : zF x G cc nL own fr lo) {a b : Int32} (hd : decode cc pc = .ok (.irem, 1)) (hne : ¬ b = 0) (k : zJ x G nL Q cs sl (pc + 1) ls (.int (a - a / b * b) :: st) v) : zJ x G nL Q cs sl pc ls (.int b :: .int a :: st) v :=
  fun H locs la hP hS hl => lv_irem F.1 F.2.1 hd hne (k H locs la hP hS hl)
theorem z_ineg (F : zF x G cc nL own fr lo) {a : Int32} (hd : decode cc pc = .ok (.ineg, 1)) (k : zJ x G nL Q cs sl (pc + 1) ls (.int (-a) :: st) v) : zJ x G nL Q cs sl pc ls (.int a :: st) v :=
  fun H locs la hP hS hl => lv_ineg F.1 F.2.1 hd (k H locs la hP hS hl)
theorem z_i2l (F : zF x G cc nL own fr lo) {a : Int32} (hd : decode cc pc = .ok (.i2l, 1)) (k : zJ x G nL Q cs sl (pc + 1) ls (.long a.toInt64 :: st) v) : zJ x G nL Q cs sl pc ls (.int a :: st) v :=
  fun H locs la hP hS hl => lv_i2l F.1 F.2.1 hd rfl (k H locs la hP hS hl)
theorem z_i2b (F : zF x G cc nL own fr lo) {a : Int32} (hd : decode cc pc = .ok (.i2b, 1)) (k : zJ x G nL Q cs sl (pc + 1) ls (.int a.toInt8.toInt32 :: st) v) : zJ x G nL Q cs sl pc ls (.int a :: st) v :=
  fun H locs la hP hS hl => lv_i2b F.1 F.2.1 hd rfl (k H locs la hP hS hl)
theorem z_ladd (F : zF x G cc nL own fr lo) {a b : Int64} (hd : decode cc pc = .ok (.ladd, 1)) (k : zJ x G nL Q cs sl (pc + 1) ls (.long (a + b) :: st) v) : zJ x G nL Q cs sl pc ls (.long b :: .long a :: st) v :=
  fun H locs la hP hS hl => lv_ladd F.1 F.2.1 hd (k H locs la hP hS hl)
theorem z_lsub (F : zF x G cc nL own fr lo) {a b : Int64} (hd : decode cc pc = .ok (.lsub, 1)) (k : zJ x G nL Q cs sl (pc + 1) ls (.long (a - b) :: st) v) : zJ x G nL Q cs sl pc ls (.long b :: .long a :: st) v :=
  fun H locs la hP hS hl => lv_lsub F.1 F.2.1 hd (k H locs la hP hS hl)
theorem z_lmul (F : zF x G cc nL own fr lo) {a b : Int64} (hd : decode cc pc = .ok (.lmul, 1)) (k : zJ x G nL Q cs sl (pc + 1) ls (.long (a * b) :: st) v) : zJ x G nL Q cs sl pc ls (.long b :: .long a :: st) v :=
  fun H locs la hP hS hl => lv_lmul F.1 F.2.1 hd (k H locs la hP hS hl)
theorem z_lcmp (F : zF x G cc nL own fr lo) {a b : Int64} (hd : decode cc pc = .ok (.lcmp, 1)) (k : zJ x G nL Q cs sl (pc + 1) ls (.int (lg_cmp a b) :: st) v) : zJ x G nL Q cs sl pc ls (.long b :: .long a :: st) v :=
  fun H locs la hP hS hl => W.lcmp F.1 F.2.1 hd (k H locs la hP hS hl)
theorem z_dup (F : zF x G cc nL own fr lo) {a : Value} (hd : decode cc pc = .ok (.dup, 1)) (ha : a.category = 1) (k : zJ x G nL Q cs sl (pc + 1) ls (a :: a :: st) v) : zJ x G nL Q cs sl pc ls (a :: st) v :=
  fun H locs la hP hS hl => lv_dup F.1 F.2.1 hd ha (k H locs la hP hS hl)
theorem z_pop (F : zF x G cc nL own fr lo) {a : Value} (hd : decode cc pc = .ok (.pop, 1)) (ha : a.category = 1) (k : zJ x G nL Q cs sl (pc + 1) ls st v) : zJ x G nL Q cs sl pc ls (a :: st) v :=
  fun H locs la hP hS hl => lv_pop F.1 F.2.1 hd ha (k H locs la hP hS hl)
theorem z_dup2 (F : zF x G cc nL own fr lo) {a b : Value} (hd : decode cc pc = .ok (.dup2, 1)) (ha : a.category = 1) (hb : b.category = 1) (k : zJ x G nL Q cs sl (pc + 1) ls (a :: b :: a :: b :: st) v) : zJ x G nL Q cs sl pc ls (a :: b :: st) v :=
  fun H locs la hP hS hl => lv_dup2_11 F.1 F.2.1 hd ha hb (k H locs la hP hS hl)
theorem z_icmp_eq (F : zF x G cc nL own fr lo) {a b : Int32} {off : Int} (tgt : Nat) (hd : decode cc pc = .ok (.if_icmp .eq off, 3)) (ht : (pc : Int) + off = (tgt : Int)) (kt : a = b → zJ x G nL Q cs sl tgt ls st v) (kf : ¬ a = b → zJ x G nL Q cs sl (pc + 3) ls st v) : zJ x G nL Q cs sl pc ls (.int b :: .int a :: st) v :=
  fun H locs la hP hS hl => lv_icmp_eq F.1 F.2.1 hd ht (fun h => kt h H locs la hP hS hl) (fun h => kf h H locs la hP hS hl)
theorem z_if_eq (F : zF x G cc nL own fr lo) {a : Int32} {off : Int} (tgt : Nat) (hd : decode cc pc = .ok (.ifCond .eq off, 3)) (ht : (pc : Int) + off = (tgt : Int)) (kt : a = 0 → zJ x G nL Q cs sl tgt ls st v) (kf : ¬ a = 0 → zJ x G nL Q cs sl (pc + 3) ls st v) : zJ x G nL Q cs sl pc ls (.int a :: st) v :=
  fun H locs la hP hS hl => lv_if_eq F.1 F.2.1 hd ht (fun h => kt h H locs la hP hS hl) (fun h => kf h H locs la hP hS hl)
theorem z_icmp_ne (F : zF x G cc nL own fr lo) {a b : Int32} {off : Int} (tgt : Nat) (hd : decode cc pc = .ok (.if_icmp .ne off, 3)) (ht : (pc : Int) + off = (tgt : Int)) (kt : ¬ a = b → zJ x G nL Q cs sl tgt ls st v) (kf : a = b → zJ x G nL Q cs sl (pc + 3) ls st v) : zJ x G nL Q cs sl pc ls (.int b :: .int a :: st) v :=
  fun H locs la hP hS hl => lv_icmp_ne F.1 F.2.1 hd ht (fun h => kt h H locs la hP hS hl) (fun h => kf h H locs la hP hS hl)
theorem z_if_ne (F : zF x G cc nL own fr lo) {a : Int32} {off : Int} (tgt : Nat) (hd : decode cc pc = .ok (.ifCond .ne off, 3)) (ht : (pc : Int) + off = (tgt : Int)) (kt : ¬ a = 0 → zJ x G nL Q cs sl tgt ls st v) (kf : a = 0 → zJ x G nL Q cs sl (pc + 3) ls st v) : zJ x G nL Q cs sl pc ls (.int a :: st) v :=
  fun H locs la hP hS hl => lv_if_ne F.1 F.2.1 hd ht (fun h => kt h H locs la hP hS hl) (fun h => kf h H locs la hP hS hl)
theorem z_icmp_lt (F : zF x G cc nL own fr lo) {a b : Int32} {off : Int} (tgt : Nat) (hd : decode cc pc = .ok (.if_icmp .lt off, 3)) (ht : (pc : Int) + off = (tgt : Int)) (kt : a < b → zJ x G nL Q cs sl tgt ls st v) (kf : ¬ a < b → zJ x G nL Q cs sl (pc + 3) ls st v) : zJ x G nL Q cs sl pc ls (.int b :: .int a :: st) v :=
  fun H locs la hP hS hl => lv_icmp_lt F.1 F.2.1 hd ht (fun h => kt h H locs la hP hS hl) (fun h => kf h H locs la hP hS hl)
theorem z_if_lt (F : zF x G cc nL own fr lo) {a : Int32} {off : Int} (tgt : Nat) (hd : decode cc pc = .ok (.ifCond .lt off, 3)) (ht : (pc : Int) + off = (tgt : Int)) (kt : a < 0 → zJ x G nL Q cs sl tgt ls st v) (kf : ¬ a < 0 → zJ x G nL Q cs sl (pc + 3) ls st v) : zJ x G nL Q cs sl pc ls (.int a :: st) v :=
  fun H locs la hP hS hl => lv_if_lt F.1 F.2.1 hd ht (fun h => kt h H locs la hP hS hl) (fun h => kf h H locs la hP hS hl)
theorem z_icmp_ge (F : zF x G cc nL own fr lo) {a b : Int32} {off : Int} (tgt : Nat) (hd : decode cc pc = .ok (.if_icmp .ge off, 3)) (ht : (pc : Int) + off = (tgt : Int)) (kt : b ≤ a → zJ x G nL Q cs sl tgt ls st v) (kf : ¬ b ≤ a → zJ x G nL Q cs sl (pc + 3) ls st v) : zJ x G nL Q cs sl pc ls (.int b :: .int a :: st) v :=
  fun H locs la hP hS hl => lv_icmp_ge F.1 F.2.1 hd ht (fun h => kt h H locs la hP hS hl) (fun h => kf h H locs la hP hS hl)
theorem z_if_ge (F : zF x G cc nL own fr lo) {a : Int32} {off : Int} (tgt : Nat) (hd : decode cc pc = .ok (.ifCond .ge off, 3)) (ht : (pc : Int) + off = (tgt : Int)) (kt : 0 ≤ a → zJ x G nL Q cs sl tgt ls st v) (kf : ¬ 0 ≤ a → zJ x G nL Q cs sl (pc + 3) ls st v) : zJ x G nL Q cs sl pc ls (.int a :: st) v :=
  fun H locs la hP hS hl => lv_if_ge F.1 F.2.1 hd ht (fun h => kt h H locs la hP hS hl) (fun h => kf h H locs la hP hS hl)
theorem z_icmp_gt (F : zF x G cc nL own fr lo) {a b : Int32} {off : Int} (tgt : Nat) (hd : decode cc pc = .ok (.if_icmp .gt off, 3)) (ht : (pc : Int) + off = (tgt : Int)) (kt : b < a → zJ x G nL Q cs sl tgt ls st v) (kf : ¬ b < a → zJ x G nL Q cs sl (pc + 3) ls st v) : zJ x G nL Q cs sl pc ls (.int b :: .int a :: st) v :=
  fun H locs la hP hS hl => lv_icmp_gt F.1 F.2.1 hd ht (fun h => kt h H locs la hP hS hl) (fun h => kf h H locs la hP hS hl)
theorem z_if_gt (F : zF x G cc nL own fr lo) {a : Int32} {off : Int} (tgt : Nat) (hd : decode cc pc = .ok (.ifCond .gt off, 3)) (ht : (pc : Int) + off = (tgt : Int)) (kt : 0 < a → zJ x G nL Q cs sl tgt ls st v) (kf : ¬ 0 < a → zJ x G nL Q cs sl (pc + 3) ls st v) : zJ x G nL Q cs sl pc ls (.int a :: st) v :=
  fun H locs la hP hS hl => lv_if_gt F.1 F.2.1 hd ht (fun h => kt h H locs la hP hS hl) (fun h => kf h H locs la hP hS hl)
theorem z_icmp_le (F : zF x G cc nL own fr lo) {a b : Int32} {off : Int} (tgt : Nat) (hd : decode cc pc = .ok (.if_icmp .le off, 3)) (ht : (pc : Int) + off = (tgt : Int)) (kt : a ≤ b → zJ x G nL Q cs sl tgt ls st v) (kf : ¬ a ≤ b → zJ x G nL Q cs sl (pc + 3) ls st v) : zJ x G nL Q cs sl pc ls (.int b :: .int a :: st) v :=
  fun H locs la hP hS hl => lv_icmp_le F.1 F.2.1 hd ht (fun h => kt h H locs la hP hS hl) (fun h => kf h H locs la hP hS hl)
theorem z_if_le (F : zF x G cc nL own fr lo) {a : Int32} {off : Int} (tgt : Nat) (hd : decode cc pc = .ok (.ifCond .le off, 3)) (ht : (pc : Int) + off = (tgt : Int)) (kt : a ≤ 0 → zJ x G nL Q cs sl tgt ls st v) (kf : ¬ a ≤ 0 → zJ x G nL Q cs sl (pc + 3) ls st v) : zJ x G nL Q cs sl pc ls (.int a :: st) v :=
  fun H locs la hP hS hl => lv_if_le F.1 F.2.1 hd ht (fun h => kt h H locs la hP hS hl) (fun h => kf h H locs la hP hS hl)
theorem z_goto (F : zF x G cc nL own fr lo) {off : Int} (tgt : Nat) (hd : decode cc pc = .ok (.goto off, 3)) (ht : (pc : Int) + off = (tgt : Int)) (k : zJ x G nL Q cs sl tgt ls st v) : zJ x G nL Q cs sl pc ls st v :=
  fun H locs la hP hS hl => lv_goto F.1 F.2.1 hd ht (k H locs la hP hS hl)
theorem z_lookup (F : zF x G cc nL own fr lo) {dflt : Int} {ps : Array (Int × Int)} {len : Nat} {a : Int32} {off : Int} (tgt : Nat) (hd : decode cc pc = .ok (.lookupswitch dflt ps, len)) (hp : (ps.toList.zip (ps.toList.drop 1)).all (fun (a, next) => a.1 < next.1) = true) (ho : Op.lookupswitch.offset ps.toList dflt a.toInt = off) (ht : (pc : Int) + off = (tgt : Int)) (k : zJ x G nL Q cs sl tgt ls st v) : zJ x G nL Q cs sl pc ls (.int a :: st) v :=
  fun H locs la hP hS hl => lv_lookup F.1 F.2.1 hd hp ho ht (k H locs la hP hS hl)
theorem z_tableOut (F : zF x G cc nL own fr lo) {dflt lo1 hi1 : Int} {offs : Array Int} {len : Nat} {a : Int32} (tgt : Nat) (hd : decode cc pc = .ok (.tableswitch dflt lo1 hi1 offs, len)) (h : a.toInt < lo1 ∨ hi1 < a.toInt) (ht : (pc : Int) + dflt = (tgt : Int)) (k : zJ x G nL Q cs sl tgt ls st v) : zJ x G nL Q cs sl pc ls (.int a :: st) v :=
  fun H locs la hP hS hl => lv_tableOut F.1 F.2.1 hd h ht (k H locs la hP hS hl)
theorem z_tableIn (F : zF x G cc nL own fr lo) {dflt lo1 hi1 : Int} {offs : Array Int} {len : Nat} {a : Int32} {off : Int} (tgt : Nat) (hd : decode cc pc = .ok (.tableswitch dflt lo1 hi1 offs, len)) (h1 : ¬ a.toInt < lo1) (h2 : ¬ hi1 < a.toInt) (ho : offs[(a.toInt - lo1).toNat]? = some off) (ht : (pc : Int) + off = (tgt : Int)) (k : zJ x G nL Q cs sl tgt ls st v) : zJ x G nL Q cs sl pc ls (.int a :: st) v :=
  fun H locs la hP hS hl => lv_tableIn F.1 F.2.1 hd h1 h2 ho ht (k H locs la hP hS hl)
theorem z_ls (ls' : List (Nat × Value)) (ks : List Nat) (h : lv_pick ls ks = ls') (k : zJ x G nL Q cs sl pc ls' st v) : zJ x G nL Q cs sl pc ls st v :=
  fun H locs la hP hS hl => k H locs la hP hS (lv_sub hl ks h)
theorem z_ldc (F : zF x G cc nL own fr lo) {index : Nat} {y : Int32} (hw : Jvm.Cond.constant own index y ∈ zTbl) (hd : decode cc pc = .ok (.ldc index, 2)) (k : zJ x G nL Q cs sl (pc + 2) ls (.int y :: st) v) : zJ x G nL Q cs sl pc ls st v :=
  fun H locs la hP hS hl => lv_ldc F.1 F.2.1 F.2.2.2.1 (F.2.2.2.2.1 _ hw) hd (k H locs la hP hS hl)
theorem z_ldcw (F : zF x G cc nL own fr lo) {index : Nat} {y : Int32} (hw : Jvm.Cond.constant own index y ∈ zTbl) (hd : decode cc pc = .ok (.ldc_w index, 3)) (k : zJ x G nL Q cs sl (pc + 3) ls (.int y :: st) v) : zJ x G nL Q cs sl pc ls st v :=
  fun H locs la hP hS hl => lv_ldcw F.1 F.2.1 F.2.2.2.1 (F.2.2.2.2.1 _ hw) hd (k H locs la hP hS hl)
theorem z_ldc2 (F : zF x G cc nL own fr lo) {index : Nat} {y : Int64} (hw : Jvm.Cond.constantLong own index y ∈ zTbl) (hd : decode cc pc = .ok (.ldc2_w index, 3)) (k : zJ x G nL Q cs sl (pc + 3) ls (.long y :: st) v) : zJ x G nL Q cs sl pc ls st v :=
  fun H locs la hP hS hl => lv_ldc2 F.1 F.2.1 F.2.2.2.1 (F.2.2.2.2.1 _ hw) hd (k H locs la hP hS hl)
theorem z_iald (F : zF x G cc nL own fr lo) {a : Nat} {i : Int32} (hT : zty G a 2 0) (hd : decode cc pc = .ok (.iaload, 1)) (hin : vp_in i (zlen a)) (k : zJ x G nL Q cs sl (pc + 1) ls (.int (v a i.toNatClampNeg) :: st) v) : zJ x G nL Q cs sl pc ls (.int i :: zr G a :: st) v :=
  fun H locs la hP hS hl => va_iald F.1 F.2.1 F.2.2.2.2.2.1 hP a 0 (zW_a hT) rfl hin hd (k H locs la hP hS hl)
theorem z_bald (F : zF x G cc nL own fr lo) {a : Nat} {i : Int32} (hT : zty G a 2 1) (hd : decode cc pc = .ok (.baload, 1)) (hin : vp_in i (zlen a)) (k : zJ x G nL Q cs sl (pc + 1) ls (.int (v a i.toNatClampNeg) :: st) v) : zJ x G nL Q cs sl pc ls (.int i :: zr G a :: st) v :=
  fun H locs la hP hS hl => va_bald F.1 F.2.1 F.2.2.2.2.2.1 hP a 1 (zW_a hT) rfl hin hd (k H locs la hP hS hl)
theorem z_lald (F : zF x G cc nL own fr lo) {a : Nat} {i : Int32} (hT : zty G a 2 2) (hd : decode cc pc = .ok (.laload, 1)) (hin : vp_in i (zlen a)) (k : zJ x G nL Q cs sl (pc + 1) ls (.long (v a i.toNatClampNeg).toInt64 :: st) v) : zJ x G nL Q cs sl pc ls (.int i :: zr G a :: st) v :=
  fun H locs la hP hS hl => va_lald F.1 F.2.1 F.2.2.2.2.2.1 hP a 2 (zW_a hT) rfl hin hd (k H locs la hP hS hl)
theorem z_iast (F : zF x G cc nL own fr lo) {a : Nat} {i y : Int32} (hT : zty G a 2 0) (hd : decode cc pc = .ok (.iastore, 1)) (hin : vp_in i (zlen a)) (k : zJ x G nL Q cs sl (pc + 1) ls st (zup v a i.toNatClampNeg y)) : zJ x G nL Q cs sl pc ls (.int y :: .int i :: zr G a :: st) v :=
  fun H locs la hP hS hl => va_iast F.1 F.2.1 F.2.2.2.2.2.1 hP (zW_D G v) hS a 0 (zW_a hT) rfl hin hd (fun H1 l1 hP1 _ hS1 => k H1 l1 la (by rw [zW_set G v (zup v a i.toNatClampNeg y) a hT.1.1 (zup_ne _ _ _ _) (by rw [zE_a hT, zup_at]; rfl)] at hP1; exact hP1) hS1 hl)
theorem z_bast (F : zF x G cc nL own fr lo) {a : Nat} {i y : Int32} (hT : zty G a 2 1) (hd : decode cc pc = .ok (.bastore, 1)) (hin : vp_in i (zlen a)) (k : zJ x G nL Q cs sl (pc + 1) ls st (zup v a i.toNatClampNeg y.toInt8.toInt32)) : zJ x G nL Q cs sl pc ls (.int y :: .int i :: zr G a :: st) v :=
  fun H locs la hP hS hl => va_bast F.1 F.2.1 F.2.2.2.2.2.1 hP (zW_D G v) hS a 1 (zW_a hT) rfl hin hd (fun H1 l1 hP1 _ hS1 => k H1 l1 la (by rw [vp_nar_byte, zW_set G v (zup v a i.toNatClampNeg y.toInt8.toInt32) a hT.1.1 (zup_ne _ _ _ _) (by rw [zE_a hT, zup_at]; rfl)] at hP1; exact hP1) hS1 hl)
theorem z_updL (G : zG) (a n : Nat) (f : Nat → Int32) (y : Int32) : (.inl (G.2.1 2, zlen a, .inr (.inl (vp_updL (fun k => (f k).toInt64) n y.toInt64))) : va_E) = zAr G (fun j => if j = n then y else f j) a 2 := by
  have h : (vp_updL (fun k => (f k).toInt64) n y.toInt64) = (fun k => ((fun j => if j = n then y else f j) k).toInt64) := by
    funext j
    unfold vp_updL
    by_cases hj : j = n
    · simp [hj]
    · simp [hj]
  rw [h]
  rfl
theorem z_last (F : zF x G cc nL own fr lo) {a : Nat} {i y : Int32} (hT : zty G a 2 2) (hd : decode cc pc = .ok (.lastore, 1)) (hin : vp_in i (zlen a)) (k : zJ x G nL Q cs sl (pc + 1) ls st (zup v a i.toNatClampNeg y)) : zJ x G nL Q cs sl pc ls (.long y.toInt64 :: .int i :: zr G a :: st) v :=
  fun H locs la hP hS hl => va_last F.1 F.2.1 F.2.2.2.2.2.1 hP (zW_D G v) hS a 2 (zW_a hT) rfl hin hd (fun H1 l1 hP1 _ hS1 => k H1 l1 la (by rw [zW_set G v (zup v a i.toNatClampNeg y) a hT.1.1 (zup_ne _ _ _ _) (by rw [zE_a hT, zup_at]; exact z_updL _ _ _ _ _)] at hP1; exact hP1) hS1 hl)
theorem z_aald3 (F : zF x G cc nL own fr lo) {a : Nat} {i : Int32} (hT : zty G a 2 3) (hd : decode cc pc = .ok (.aaload, 1)) (hin : vp_in i (zlen a)) (k : zJ x G nL Q cs sl (pc + 1) ls (zr G (zrf a i.toNatClampNeg) :: st) v) : zJ x G nL Q cs sl pc ls (.int i :: zr G a :: st) v := by
  intro H locs la hP hS hl
  have hlt : i.toNatClampNeg < zlen a := Nat.not_le.mp fun q => hin (Or.inr q)
  exact W.aald (v := zr G (zrf a i.toNatClampNeg)) (ty := .array .int) F.1 F.2.1 (hP a _ (zW_a hT)) ((F.2.2.2.2.2.1.2 3 _ rfl).1 (zlen a) (fun j => va_rf (some (G.2.2 + zrf a j)))) rfl (fun q => by cases q) (by show ¬ (i < 0 ∨ (arrV _ _ _).slots.size ≤ _); rw [arrV_size]; exact hin) (by show (arrV _ _ _).slots[_]? = _; rw [arrV_read _ _ hlt]; rfl) rfl rfl hd (k H locs la hP hS hl)
theorem z_aald4 (F : zF x G cc nL own fr lo) {a : Nat} {i : Int32} (hT : zty G a 2 4) (hd : decode cc pc = .ok (.aaload, 1)) (hin : vp_in i (zlen a)) (k : zJ x G nL Q cs sl (pc + 1) ls (zr G (zrf a i.toNatClampNeg) :: st) v) : zJ x G nL Q cs sl pc ls (.int i :: zr G a :: st) v :=
  fun H locs la hP hS hl => va_aldq F.1 F.2.1 F.2.2.2.2.2.1 hP a 4 (zW_a hT) rfl hin hd (k H locs la hP hS hl)
theorem z_alen0 (F : zF x G cc nL own fr lo) {a : Nat} {y : Int32} (hT : zty G a 2 0) (hd : decode cc pc = .ok (.arraylength, 1)) (hy : Int32.ofNat (zlen a) = y) (k : zJ x G nL Q cs sl (pc + 1) ls (.int y :: st) v) : zJ x G nL Q cs sl pc ls (zr G a :: st) v :=
  fun H locs la hP hS hl => va_alen F.1 F.2.1 F.2.2.2.2.2.1 hP a 0 (zW_a hT) rfl hy hd (k H locs la hP hS hl)
theorem z_alen1 (F : zF x G cc nL own fr lo) {a : Nat} {y : Int32} (hT : zty G a 2 1) (hd : decode cc pc = .ok (.arraylength, 1)) (hy : Int32.ofNat (zlen a) = y) (k : zJ x G nL Q cs sl (pc + 1) ls (.int y :: st) v) : zJ x G nL Q cs sl pc ls (zr G a :: st) v :=
  fun H locs la hP hS hl => va_alen F.1 F.2.1 F.2.2.2.2.2.1 hP a 1 (zW_a hT) rfl hy hd (k H locs la hP hS hl)
theorem z_alen4 (F : zF x G cc nL own fr lo) {a : Nat} {y : Int32} (hT : zty G a 2 4) (hd : decode cc pc = .ok (.arraylength, 1)) (hy : Int32.ofNat (zlen a) = y) (k : zJ x G nL Q cs sl (pc + 1) ls (.int y :: st) v) : zJ x G nL Q cs sl pc ls (zr G a :: st) v :=
  fun H locs la hP hS hl => va_alen F.1 F.2.1 F.2.2.2.2.2.1 hP a 4 (zW_a hT) rfl hy hd (k H locs la hP hS hl)

/-! fields -/
theorem z_getI (F : zF x G cc nL own fr lo) {i idx c N : Nat} {C : String} {T : u_T} (hc : vwCl[c]? = some (C, T, N)) (hin : ∀ w ∈ u_ws C T N, w ∈ zTbl) (k : Nat) (hk : k < N) (hn : k < znf c) (hr : zfr c k = false) (hT : zty G i 1 c) (hlink : Cond.fieldLink own idx (T k).1 (T k).2.1 (T k).2.2.1 ∈ zTbl) (hd : decode cc pc = .ok (.getfield idx, 3)) (kk : zJ x G nL Q cs sl (pc + 3) ls (.int (v i k) :: st) v) : zJ x G nL Q cs sl pc ls (zr G i :: st) v :=
  fun H locs la hP hS hl => va_get F.1 F.2.1 F.2.2.2.2.1 hin F.2.2.2.1 F.2.2.2.2.2.1 hP i (zW_o hT) hc k hk (F.2.2.2.2.1 _ hlink) (fun _ h => h) (v := .int (v i k)) (by rw [zFs_at G _ i c k hn, hr]; rfl) hd (kk H locs la hP hS hl)
theorem z_getR (F : zF x G cc nL own fr lo) {i idx c N : Nat} {C : String} {T : u_T} (hc : vwCl[c]? = some (C, T, N)) (hin : ∀ w ∈ u_ws C T N, w ∈ zTbl) (k : Nat) (hk : k < N) (hn : k < znf c) (hr : zfr c k = true) (hT : zty G i 1 c) (hlink : Cond.fieldLink own idx (T k).1 (T k).2.1 (T k).2.2.1 ∈ zTbl) (hd : decode cc pc = .ok (.getfield idx, 3)) (kk : zJ x G nL Q cs sl (pc + 3) ls (zr G (zrf i k) :: st) v) : zJ x G nL Q cs sl pc ls (zr G i :: st) v :=
  fun H locs la hP hS hl => va_get F.1 F.2.1 F.2.2.2.2.1 hin F.2.2.2.1 F.2.2.2.2.2.1 hP i (zW_o hT) hc k hk (F.2.2.2.2.1 _ hlink) (fun _ h => h) (v := zr G (zrf i k)) (by rw [zFs_at G _ i c k hn, hr]; rfl) hd (kk H locs la hP hS hl)
theorem z_putI (F : zF x G cc nL own fr lo) {i idx c N : Nat} {C : String} {T : u_T} {y : Int32} {ty : FieldType} (ty0 : Nat → FieldType) (hty : ∀ k, k < N → parseFieldDescriptor (T k).2.2.1 = some (ty0 k)) (hnm : ∀ a, a < N → ∀ b, b < N → a ≠ b → (T a).2.1 ≠ (T b).2.1) (hc : vwCl[c]? = some (C, T, N)) (hin : ∀ w ∈ u_ws C T N, w ∈ zTbl) (k : Nat) (hk : k < N) (hn : k < znf c) (hr : zfr c k = false) (hfin : (T k).2.2.2 = false) (hdt : parseFieldDescriptor (T k).2.2.1 = some ty) (hnar : narrow ty (.int y) = .int y) (hfit : fits ty (.int y) = true) (hT : zty G i 1 c) (hlink : Cond.fieldLink own idx (T k).1 (T k).2.1 (T k).2.2.1 ∈ zTbl) (hd : decode cc pc = .ok (.putfield idx, 3)) (kk : zJ x G nL Q cs sl (pc + 3) ls st (zup v i k y)) : zJ x G nL Q cs sl pc ls (.int y :: zr G i :: st) v :=
  fun H locs la hP hS hl => va_put F.1 F.2.1 F.2.2.2.2.1 hin ty0 hty hnm F.2.2.2.1 F.2.2.2.2.2.1 hP (zW_D G v) hS i (zW_o hT) hc k hk (F.2.2.2.2.1 _ hlink) (fun _ h => h) hfin hdt hnar hfit (by rw [zFs_len]; exact hn) hd (fun H1 l1 hP1 _ hS1 => kk H1 l1 la (by rw [zW_set G v (zup v i k y) i hT.1.1 (zup_ne _ _ _ _) (by rw [zE_o hT, zup_at, zFs_set _ _ _ _ _ _ hn hr])] at hP1; exact hP1) hS1 hl)
/-! contracts -/
def zQ (x : zCx) (G : zG) (o : Option Value) (v' : zV) (mc ms : Nat) : State → Prop := MQ x.2.2.2.2.2.2.2.1 (fun _ st oc t => (oc = .returned o ∧ va_P G.1 vwCl (zW G v') t.heap) ∧ va_F (zA G) st t) x.2.2.2.2.2.2.1 x.2.2.2.2.1 mc ms (zA G)
def zMet (l : Launch) (y : MethodName) (cc : ByteArray) (nL : Nat) (ret : Option FieldType) (fr lo mc ms : Nat) (av : List Value) (G : zG) (v : zV) (o : Option Value) (v' : zV) : Prop :=
  Met l y (Cond.code y cc nL ret :: zTbl) { frames := fr, cells := mc, slots := ms, locals := lo } (va_Pc av (zSt G v)) (fun _ st oc t => (oc = .returned o ∧ va_P G.1 vwCl (zW G v') t.heap) ∧ va_F (zA G) st t) mc ms (zA G)
theorem z_retv (F : zF x G cc nL own fr lo) (hr : x.2.2.2.2.2.2.2.2.1.sig.returnType = none) (hlocks : x.2.2.2.2.2.2.2.2.1.locks = false) (hd : decode cc pc = .ok (.return_, 1)) : zJ x G nL (zQ x G none v cs sl) cs sl pc ls [] v :=
  fun _ _ _ hP hS _ => W.vret F.1 F.2.1 hr (fun _ ht _ => ⟨⟨rfl, by rw [ht]; exact hP⟩, hS.F ht⟩) hS.2.2 hd hlocks
theorem z_reti (F : zF x G cc nL own fr lo) {y : Int32} (hr : x.2.2.2.2.2.2.2.2.1.sig.returnType = some .int) (hlocks : x.2.2.2.2.2.2.2.2.1.locks = false) (hd : decode cc pc = .ok (.ireturn, 1)) : zJ x G nL (zQ x G (some (.int y)) v cs sl) cs sl pc ls [.int y] v :=
  fun _ _ _ hP hS _ => W.iret F.1 F.2.1 hr (fun _ ht _ => ⟨⟨rfl, by rw [ht]; exact hP⟩, hS.F ht⟩) hS.2.2 hd hlocks
theorem z_retz (F : zF x G cc nL own fr lo) {y : Int32} (hr : x.2.2.2.2.2.2.2.2.1.sig.returnType = some .boolean) (hlocks : x.2.2.2.2.2.2.2.2.1.locks = false) (hn : narrow .boolean (.int y) = .int y) (hd : decode cc pc = .ok (.ireturn, 1)) : zJ x G nL (zQ x G (some (.int y)) v cs sl) cs sl pc ls [.int y] v :=
  fun _ _ _ hP hS _ => W.zret F.1 F.2.1 hr hn (fun _ ht _ => ⟨⟨rfl, by rw [ht]; exact hP⟩, hS.F ht⟩) hS.2.2 hd hlocks
theorem z_retl (F : zF x G cc nL own fr lo) {y : Int64} (hr : x.2.2.2.2.2.2.2.2.1.sig.returnType = some .long) (hlocks : x.2.2.2.2.2.2.2.2.1.locks = false) (hd : decode cc pc = .ok (.lreturn, 1)) : zJ x G nL (zQ x G (some (.long y)) v cs sl) cs sl pc ls [.long y] v :=
  fun _ _ _ hP hS _ => W.lret F.1 F.2.1 hr (fun _ ht _ => ⟨⟨rfl, by rw [ht]; exact hP⟩, hS.F ht⟩) hS.2.2 hd hlocks
theorem z_wide {cs' sl' : Nat} (h1 : cs ≤ cs') (h2 : sl ≤ sl') (k : zJ x G nL Q cs' sl' pc ls st v) : zJ x G nL Q cs sl pc ls st v :=
  fun H locs la hP hS hl => W.widen (k := cs') (n := sl') h1 h2 (k H locs la hP hS hl)
/-- what is said of a method that may be called -/
def zMI (y : MethodName) (cc : ByteArray) (nL : Nat) (ret : Option FieldType) (n : Nat) : Prop :=
  Cond.code y cc nL ret ∈ zTbl ∧ Cond.initialized y.cls ∈ zTbl ∧ (y.cls ≠ "java/lang/invoke/MethodHandle" ∧ y.cls ≠ "java/lang/invoke/VarHandle") ∧ (parseMethodDescriptor y.desc).map (fun d => d.parameters.length) = some n
theorem zTbl_good : ∀ w ∈ zTbl, (w.onTables && w.keeps) = true ∨ ∃ ty, w = .arrayClass ty := fun _ h => good_of_word (List.mem_filter.mp h).2
theorem zGood {w0 : Cond} (h : w0 ∈ zTbl) : ∀ w ∈ w0 :: zTbl, w ∈ zTbl ∧ ((w.onTables && w.keeps) = true ∨ ∃ ty, w = .arrayClass ty) := by
  intro w hw
  rcases List.mem_cons.mp hw with rfl | hw
  · exact ⟨h, zTbl_good _ h⟩
  · exact ⟨hw, zTbl_good _ hw⟩
theorem zMet_pre (F : zF x G cc nL own fr lo) {H : Heap} {locs : List Loc} (hP : va_P G.1 vwCl (zW G v) H) (hS : va_S (zA G) x.2.2.2.2.1.heap H locs) {av : List Value} : PreS x.2.2.2.2.1 H (va_Pc av (zSt G v)) av := by
  obtain ⟨s0, a0, h1, h2, h3, h4, h5, h6⟩ := F.2.2.2.2.2.2.2.2
  refine ⟨fun a U g mk q => ⟨q.1, q.2.1, va_K.moved (u := U) (U := U.calling g mk a) (Vm.Alike.refl U.vm) q.2.2.1, ?_⟩, fun U hU hW => ⟨rfl, by rw [hU]; exact hP, va_K.moved hW.alike F.2.2.2.2.2.1, s0, a0, h1, h2, h3, State.WarmedH.trans h4 hW, fun q hq => ?_, h6⟩⟩
  · exact q.2.2.2
  · have hlt : q < x.2.2.2.2.1.heap.size := by
      have h8 : q < s0.heap.size := by rw [h3]; exact hq
      have h7 := h5 q hq
      rw [Array.getElem?_eq_getElem h8] at h7
      exact (Array.getElem?_eq_some_iff.mp h7).1
    rw [hU, hS.2.1 q hlt (Nat.not_le.mpr hq)]
    exact h5 q hq
theorem z_ran {mc ms : Nat} {av rest st0 : List Value} {o : Option Value} {v1 : zV} {a : Array Value}
    (hr : ∀ (H : Heap) (locs : List Loc) (la : Array Slot), va_P G.1 vwCl (zW G v) H → va_S (zA G) x.2.2.2.2.1.heap H locs → lv_has la nL ls → va_Run x.1 x.2.1 x.2.2.1 x.2.2.2.1 x.2.2.2.2.1 x.2.2.2.2.2.1 x.2.2.2.2.2.2.1 x.2.2.2.2.2.2.2.1 x.2.2.2.2.2.2.2.2.1 x.2.2.2.2.2.2.2.2.2 H locs cs sl mc ms (F0 x.2.2.2.2.2.1 pc la st) rest (fun st oc t => (oc = .returned o ∧ va_P G.1 vwCl (zW G v1) t.heap) ∧ va_F (zA G) st t) (zA G))
    (k : zJ x G nL Q (cs + mc) (sl + ms) (pc + 3) ls (o.toList ++ rest) v1) : zJ x G nL Q cs sl pc ls st v := by
  intro H locs la hP hS hl T hT X
  obtain ⟨w, st₀, t, T', L, h0, X', hL, e1, e2, ⟨⟨hv, hp⟩, hz, hk⟩, sp⟩ := hr H locs la hP hS hl T hT X
  cases hv
  rw [h0] at hz hk
  obtain ⟨t2, a1, b1⟩ := k T'.heap (locs ++ L) la (by rw [e1]; exact hp) ⟨Nat.le_trans hS.1 (by rw [e1]; exact hz), fun q h1 h2 => by rw [e1, hk q (Nat.lt_of_lt_of_le h1 hS.1) h2]; exact hS.2.1 q h1 h2, fun q hq => by
      rcases List.mem_append.mp hq with h | h
      · exact hS.2.2 q h
      · exact hL q h⟩ hl T' rfl X'
  exact ⟨t2, sp t2 a1, b1⟩
theorem z_callV (F : zF x G cc nL own fr lo) {y : MethodName} {cc' : ByteArray} {nL' fr' lo' mc ms n i c N idx : Nat} {T0 : u_T} {ret' : Option FieldType} {o : Option Value} {v1 : zV} {C : String} (As rest : List Value) (hM : zMet x.2.1 y cc' nL' ret' fr' lo' mc ms (zr G i :: As) G v o v1) (hI : zMI y cc' nL' ret' n) (hc : vwCl[c]? = some (C, T0, N)) (hT : zty G i 1 c)
    (hl1 : Cond.methodLink own idx y ∈ zTbl) (hl2 : Cond.instanceMethod y ∈ zTbl) (hl3 : Cond.selects C y y ∈ zTbl) (hd : decode cc pc = .ok (.invokevirtual idx, 3)) (hn : As.length = n) (hroom : fr' + 1 ≤ fr ∧ 8 + (nL' + 11) + lo' ≤ lo) (hst : st = As.reverse ++ zr G i :: rest) (hW : (rest.map fun q => q.category).sum ≤ 8) (hcs : cs + mc ≤ x.2.2.2.1.cells ∧ sl + ms ≤ x.2.2.2.1.slots) (k : zJ x G nL Q (cs + mc) (sl + ms) (pc + 3) ls (o.toList ++ rest) v1) : zJ x G nL Q cs sl pc ls st v := by
  refine z_ran (av := zr G i :: As) (rest := rest) (st0 := st) (a := #[]) (fun H locs la hP hS hl => ?_) k
  have hpre := zMet_pre F hP hS (av := zr G i :: As)
  have hrec := va_recv F.2.2.2.2.2.1 hP hc (zW_o hT)
  refine va_runV (C := C) (b := G.2.2 + i) (As := As) (rest := rest) ⟨F.1, F.2.1, F.2.2.1, F.2.2.2.1, F.2.2.2.2.1⟩ hM ⟨⟨rfl, rfl, Nat.le_trans hroom.1 F.2.2.2.2.2.2.1, Nat.le_trans hroom.2 F.2.2.2.2.2.2.2.1, pay_in F.2.2.2.2.1 (zGood hI.1), List.mem_cons_self, F.2.2.2.2.1 _ hI.1, F.2.2.2.2.1 _ hI.2.1, hI.2.2.1, fun sig h => ?_, F.2.2.2.2.1 _ hl1⟩, F.2.2.2.2.1 _ hl2, F.2.2.2.2.1 _ hl3⟩ ⟨hpre.1, hrec, hpre.2⟩ rfl hn hl.1 hst (lv_room hW) hd hcs
  have h2 := hI.2.2.2
  rw [h] at h2
  exact (Option.some.inj h2).symm
theorem z_callS (F : zF x G cc nL own fr lo) {y : MethodName} {cc' : ByteArray} {nL' fr' lo' mc ms n idx : Nat} {ret' : Option FieldType} {o : Option Value} {v1 : zV} (As rest : List Value) (hM : zMet x.2.1 y cc' nL' ret' fr' lo' mc ms As G v o v1) (hI : zMI y cc' nL' ret' n)
    (hl1 : Cond.methodLink own idx y ∈ zTbl) (hl2 : Cond.static y ∈ zTbl) (hd : decode cc pc = .ok (.invokestatic idx, 3)) (hn : As.length = n) (hroom : fr' + 1 ≤ fr ∧ 8 + (nL' + 11) + lo' ≤ lo) (hst : st = As.reverse ++ rest) (hW : (rest.map fun q => q.category).sum ≤ 8) (hcs : cs + mc ≤ x.2.2.2.1.cells ∧ sl + ms ≤ x.2.2.2.1.slots) (k : zJ x G nL Q (cs + mc) (sl + ms) (pc + 3) ls (o.toList ++ rest) v1) : zJ x G nL Q cs sl pc ls st v := by
  refine z_ran (av := As) (rest := rest) (st0 := st) (a := #[]) (fun H locs la hP hS hl => ?_) k
  refine va_runS (As := As) (rest := rest) ⟨F.1, F.2.1, F.2.2.1, F.2.2.2.1, F.2.2.2.2.1⟩ hM ⟨⟨rfl, rfl, Nat.le_trans hroom.1 F.2.2.2.2.2.2.1, Nat.le_trans hroom.2 F.2.2.2.2.2.2.2.1, pay_in F.2.2.2.2.1 (zGood hI.1), List.mem_cons_self, F.2.2.2.2.1 _ hI.1, F.2.2.2.2.1 _ hI.2.1, hI.2.2.1, fun sig h => ?_, F.2.2.2.2.1 _ hl1⟩, F.2.2.2.2.1 _ hl2⟩ (zMet_pre F hP hS) rfl hn hl.1 hst (lv_room hW) hd hcs
  have h2 := hI.2.2.2
  rw [h] at h2
  exact (Option.some.inj h2).symm
/-- a link to a nest mate, from the law's start -/
theorem z_nest (F : zF x G cc nL own fr lo) {idx : Nat} {y : MethodName} {host : String} (h : Cond.methodLinkNest own idx y host ∈ lw_tbl) : va_Nw (.methodLinkNest own idx y host) x.2.2.2.2.1 := by
  obtain ⟨s0, a0, h1, h2, h3, h4, h5⟩ := F.2.2.2.2.2.2.2.2
  exact va_Nw.warmM h4 (va_Nw.of rfl (h1 _ h))
theorem z_callSN (F : zF x G cc nL own fr lo) {y : MethodName} {cc' : ByteArray} {nL' fr' lo' mc ms n idx : Nat} {ret' : Option FieldType} {o : Option Value} {v1 : zV} {host : String} (As rest : List Value) (hM : zMet x.2.1 y cc' nL' ret' fr' lo' mc ms As G v o v1) (hI : zMI y cc' nL' ret' n)
    (hl1 : Cond.methodLinkNest own idx y host ∈ lw_tbl) (hl2 : Cond.static y ∈ zTbl) (hd : decode cc pc = .ok (.invokestatic idx, 3)) (hn : As.length = n) (hroom : fr' + 1 ≤ fr ∧ 8 + (nL' + 11) + lo' ≤ lo) (hst : st = As.reverse ++ rest) (hW : (rest.map fun q => q.category).sum ≤ 8) (hcs : cs + mc ≤ x.2.2.2.1.cells ∧ sl + ms ≤ x.2.2.2.1.slots) (k : zJ x G nL Q (cs + mc) (sl + ms) (pc + 3) ls (o.toList ++ rest) v1) : zJ x G nL Q cs sl pc ls st v := by
  refine z_ran (av := As) (rest := rest) (st0 := st) (a := #[]) (fun H locs la hP hS hl => ?_) k
  refine va_runSN (host := host) (As := As) (rest := rest) ⟨F.1, F.2.1, F.2.2.1, F.2.2.2.1, F.2.2.2.2.1⟩ hM ⟨⟨⟨rfl, rfl, Nat.le_trans hroom.1 F.2.2.2.2.2.2.1, Nat.le_trans hroom.2 F.2.2.2.2.2.2.2.1, pay_in F.2.2.2.2.1 (zGood hI.1), List.mem_cons_self⟩, F.2.2.2.2.1 _ hI.1, F.2.2.2.2.1 _ hI.2.1, hI.2.2.1, fun sig h => ?_, va_Nw.use rfl (z_nest F hl1)⟩, F.2.2.2.2.1 _ hl2, trivial⟩ (zMet_pre F hP hS) rfl hn hl.1 hst (lv_room hW) hd hcs
  have h2 := hI.2.2.2
  rw [h] at h2
  exact (Option.some.inj h2).symm
end ZR
theorem zM_of {l : Launch} {y : MethodName} {cc : ByteArray} {nL : Nat} {ret : Option FieldType} {fr lo mc ms : Nat} {av : List Value} {G : zG} {v : zV} {o : Option Value} {v' : zV} {own : String} (hy : plainName y.cls = true) (ho : y.cls = own) (hav : (lg_sl av).length ≤ nL)
    (body : ∀ x : zCx, x.2.1 = l → zF x G cc nL own fr lo → x.2.2.2.2.2.2.2.2.1.sig.returnType = ret → x.2.2.2.2.2.2.2.2.1.locks = false → mc ≤ x.2.2.2.1.cells ∧ ms ≤ x.2.2.2.1.slots → zJ x G nL (zQ x G o v' mc ms) 0 0 0 (lv_args 0 av) [] v) : zMet l y cc nL ret fr lo mc ms av G v o v' := by
  refine Met.ofW (cc := cc) (maxL := nL) (ret := ret) hy rfl ?_
  intro p e s m args below meth c s₁ B hml hv
  obtain ⟨rfl, hP, hK, hO⟩ := hv
  have hts := atoms_spec (ws := Cond.code y cc nL ret :: zTbl) B.pre
  have hown : s.vm.findClass y.cls = some m.cls := findClass_of_methodNamed B.named
  have h := body (p, l, e, { frames := fr, cells := mc, slots := ms, locals := lo }, s, m, av.toArray, below, meth, c) rfl ⟨B.exec, B.bytes, hml, by rw [← ho]; exact hown, fun w hw => hts w (List.mem_cons_of_mem _ hw), hK, Nat.le_refl _, Nat.le_refl _, hO⟩ B.returns B.notSynchronized ⟨Nat.le_refl _, Nat.le_refl _⟩
  have hl := lv_entry av (n := nL) hav
  rw [lg_entry_eq]
  exact h s.heap [] _ hP va_S.rf hl

