theorem in_places {big ws : List Cond} (ps : List Nat) (h : ps.map (fun i => big[i]?) = ws.map some) : ∀ w ∈ ws, w ∈ big := by
  intro w hw
  have h1 : some w ∈ ps.map (fun i => big[i]?) := by rw [h]; exact List.mem_map.mpr ⟨w, hw, rfl⟩
  obtain ⟨i, -, hi⟩ := List.mem_map.mp h1
  exact List.mem_of_getElem? hi
theorem in_app {big a b : List Cond} (ha : ∀ w ∈ a, w ∈ big) (hb : ∀ w ∈ b, w ∈ big) : ∀ w ∈ a ++ b, w ∈ big := fun w h => (List.mem_append.mp h).elim (ha w) (hb w)
set_option maxRecDepth 100000 in
theorem wsL_law_r1_in : ∀ w ∈ wsL_law_r1, w ∈ lw_tbl := in_places [30, 31, 25, 447, 448, 29, 32, 33, 34, 35, 36, 37, 38, 39, 26, 157, 158, 159, 160, 71, 161, 40, 41, 42] rfl
set_option maxRecDepth 100000 in
theorem wsL_law_r2_in : ∀ w ∈ wsL_law_r2, w ∈ lw_tbl := in_places [43, 103, 105, 107, 109, 111, 113, 115, 117, 44, 45, 27, 125, 127, 46, 47, 48, 49, 51, 52, 50, 72, 73, 74] rfl
set_option maxRecDepth 100000 in
theorem wsL_law_r3_in : ∀ w ∈ wsL_law_r3, w ∈ lw_tbl := in_places [75, 119, 121, 123, 76, 77, 78, 79, 53, 54, 56, 80, 81, 82, 83, 84, 85, 86, 87, 88, 90, 0, 91, 92] rfl
set_option maxRecDepth 100000 in
theorem wsL_law_r4_in : ∀ w ∈ wsL_law_r4, w ∈ lw_tbl := in_places [93, 94, 95, 96, 97, 28, 98, 99, 100, 101, 102, 449, 450, 451, 452, 467, 468, 469, 471, 453, 455, 6, 456, 457] rfl
set_option maxRecDepth 100000 in
theorem wsL_law_r5_in : ∀ w ∈ wsL_law_r5, w ∈ lw_tbl := in_places [458, 459, 460, 462, 7, 463, 464, 465, 466, 173, 174, 175, 176, 104, 106, 108, 110, 177, 178, 179, 180, 182, 1, 183] rfl
set_option maxRecDepth 100000 in
theorem wsL_law_r6_in : ∀ w ∈ wsL_law_r6, w ∈ lw_tbl := in_places [184, 186, 2, 187, 188, 190, 3, 191, 192, 193, 194, 195, 196, 197, 198, 199, 200, 201, 202, 203, 204, 486, 487, 488] rfl
set_option maxRecDepth 100000 in
theorem wsL_law_r7_in : ∀ w ∈ wsL_law_r7, w ∈ lw_tbl := in_places [489, 490, 491, 492, 493, 495, 8, 496, 497, 499, 9, 500, 470, 501, 502, 503, 205, 206, 207, 208, 112, 504, 505, 506] rfl
set_option maxRecDepth 100000 in
theorem wsL_law_r8_in : ∀ w ∈ wsL_law_r8, w ∈ lw_tbl := in_places [507, 508, 510, 10, 511, 209, 210, 211, 212, 213, 114, 512, 513, 514, 515, 516, 214, 215, 216, 217, 116, 517, 518, 519] rfl
set_option maxRecDepth 100000 in
theorem wsL_law_r9_in : ∀ w ∈ wsL_law_r9, w ∈ lw_tbl := in_places [520, 218, 219, 220, 221, 118, 521, 522, 523, 524, 222, 223, 224, 225, 226, 227, 228, 229, 230, 231, 232, 233, 234, 235] rfl
set_option maxRecDepth 100000 in
theorem wsL_law_r10_in : ∀ w ∈ wsL_law_r10, w ∈ lw_tbl := in_places [236, 237, 238, 240, 4, 241, 242, 243, 28, 244, 245, 246, 247, 248, 249, 250, 251, 252, 278, 279, 280, 253, 254, 255] rfl
set_option maxRecDepth 100000 in
theorem wsL_law_r11_in : ∀ w ∈ wsL_law_r11, w ∈ lw_tbl := in_places [256, 257, 258, 259, 260, 261, 262, 263, 264, 57, 265, 266, 267, 268, 269, 270, 271, 272, 273, 274, 275, 276, 277, 281] rfl
set_option maxRecDepth 100000 in
theorem wsL_law_r12_in : ∀ w ∈ wsL_law_r12, w ∈ lw_tbl := in_places [282, 283, 284, 285, 286, 287, 288, 289, 290, 291, 292, 293, 525, 526, 527, 528, 529, 531, 11, 532, 533, 535, 12, 536] rfl
set_option maxRecDepth 100000 in
theorem wsL_law_r13_in : ∀ w ∈ wsL_law_r13, w ∈ lw_tbl := in_places [537, 539, 13, 540, 541, 543, 14, 544, 545, 547, 15, 548, 549, 551, 16, 552, 553, 555, 17, 556, 557, 559, 18, 560] rfl
set_option maxRecDepth 100000 in
theorem wsL_law_r14_in : ∀ w ∈ wsL_law_r14, w ∈ lw_tbl := in_places [561, 563, 19, 564, 565, 566, 294, 295, 296, 297, 298, 299, 300, 301, 567, 568, 569, 570, 302, 303, 304, 305, 306, 571] rfl
set_option maxRecDepth 100000 in
theorem wsL_law_r15_in : ∀ w ∈ wsL_law_r15, w ∈ lw_tbl := in_places [572, 573, 574, 575, 576, 577, 307, 308, 309, 310, 311, 578, 579, 580, 581, 312, 313, 314, 315, 316, 317, 318, 319, 582] rfl
set_option maxRecDepth 100000 in
theorem wsL_law_r16_in : ∀ w ∈ wsL_law_r16, w ∈ lw_tbl := in_places [583, 584, 585, 320, 321, 322, 323, 586, 587, 588, 589, 324, 325, 326, 327, 328, 329, 330, 331, 332, 590, 591, 592, 593] rfl
set_option maxRecDepth 100000 in
theorem wsL_law_r17_in : ∀ w ∈ wsL_law_r17, w ∈ lw_tbl := in_places [333, 334, 335, 336, 337, 594, 595, 596, 597, 338, 339, 340, 341, 598, 599, 600, 601, 342, 343, 344, 345, 346, 347, 348] rfl
set_option maxRecDepth 100000 in
theorem wsL_law_r18_in : ∀ w ∈ wsL_law_r18, w ∈ lw_tbl := in_places [349, 350, 351, 352, 353, 602, 603, 604, 605, 606, 608, 20, 609, 354, 355, 356, 357, 124, 358, 359, 360, 361, 363, 364] rfl
set_option maxRecDepth 100000 in
theorem wsL_law_r19_in : ∀ w ∈ wsL_law_r19, w ∈ lw_tbl := in_places [365, 366, 367, 610, 611, 612, 613, 614, 616, 21, 617, 368, 369, 370, 371, 372, 618, 619, 620, 621, 622, 373, 374, 375] rfl
set_option maxRecDepth 100000 in
theorem wsL_law_r20_in : ∀ w ∈ wsL_law_r20, w ∈ lw_tbl := in_places [376, 377, 623, 624, 625, 626, 378, 379, 380, 381, 55, 382, 627, 628, 629, 630, 383, 384, 385, 386, 387, 389, 5, 390] rfl
set_option maxRecDepth 100000 in
theorem wsL_law_r21_in : ∀ w ∈ wsL_law_r21, w ∈ lw_tbl := in_places [391, 392, 393, 394, 631, 632, 633, 634, 635, 637, 22, 638, 395, 396, 397, 398, 399, 400, 401, 402, 639, 640, 641, 642] rfl
set_option maxRecDepth 100000 in
theorem wsL_law_r22_in : ∀ w ∈ wsL_law_r22, w ∈ lw_tbl := in_places [403, 404, 405, 406, 120, 643, 644, 645, 646, 407, 408, 409, 410, 122, 647, 648, 649, 650, 411, 412, 413, 414, 651, 652] rfl
set_option maxRecDepth 100000 in
theorem wsL_law_r23_in : ∀ w ∈ wsL_law_r23, w ∈ lw_tbl := in_places [653, 654, 415, 416, 417, 418, 655, 656, 657, 658, 419, 420, 421, 422, 659, 660, 661, 662, 423, 424, 425, 426, 427, 126] rfl
set_option maxRecDepth 100000 in
theorem wsL_law_r24_in : ∀ w ∈ wsL_law_r24, w ∈ lw_tbl := in_places [128, 428, 429, 430, 431, 432, 433, 434, 435, 437, 438, 439, 440, 442, 443, 444, 445, 446, 663, 664, 665, 666, 667, 472] rfl
set_option maxRecDepth 100000 in
theorem wsL_law_r25_in : ∀ w ∈ wsL_law_r25, w ∈ lw_tbl := in_places [668, 670, 23, 671, 672] rfl
set_option maxRecDepth 100000 in
theorem wsX00_in : ∀ w ∈ wsX00, w ∈ lw_tbl := in_places [58, 60, 62, 64, 66, 68] rfl
set_option maxRecDepth 100000 in
theorem wsX10_in : ∀ w ∈ wsX10, w ∈ lw_tbl := in_places [129, 131, 133, 135, 137, 139, 141, 143, 145, 147, 149, 151, 153] rfl
set_option maxRecDepth 100000 in
theorem wsX20_in : ∀ w ∈ wsX20, w ∈ lw_tbl := in_places [162, 164, 166, 168, 170] rfl
set_option maxRecDepth 100000 in
theorem wsX30_in : ∀ w ∈ wsX30, w ∈ lw_tbl := in_places [473, 475, 477, 479, 481, 483] rfl
theorem wsL_law_in : ∀ w ∈ wsL_law, w ∈ lw_tbl := in_app (in_app (in_app (in_app (in_app (in_app wsL_law_r1_in (in_app wsL_law_r2_in (in_app wsL_law_r3_in (in_app wsL_law_r4_in (in_app wsL_law_r5_in (in_app wsL_law_r6_in (in_app wsL_law_r7_in (in_app wsL_law_r8_in (in_app wsL_law_r9_in (in_app wsL_law_r10_in (in_app wsL_law_r11_in (in_app wsL_law_r12_in (in_app wsL_law_r13_in (in_app wsL_law_r14_in (in_app wsL_law_r15_in (in_app wsL_law_r16_in (in_app wsL_law_r17_in (in_app wsL_law_r18_in (in_app wsL_law_r19_in (in_app wsL_law_r20_in (in_app wsL_law_r21_in (in_app wsL_law_r22_in (in_app wsL_law_r23_in (in_app wsL_law_r24_in (wsL_law_r25_in))))))))))))))))))))))))) wsX20_in) wsX30_in) wsX10_in) wsX00_in) (fun _ h => absurd h List.not_mem_nil)

theorem inlX0 : ∀ w ∈ wsX00, w ∈ wsL_law := fun _ h => List.mem_append_left _ (List.mem_append_right _ h)
theorem inX0 : ∀ w ∈ wsX00, w ∈ lw_tbl := fun w h => wsL_law_in w (inlX0 w h)
theorem inlX1 : ∀ w ∈ wsX10, w ∈ wsL_law := fun _ h => List.mem_append_left _ (List.mem_append_left _ (List.mem_append_right _ h))
theorem inX1 : ∀ w ∈ wsX10, w ∈ lw_tbl := fun w h => wsL_law_in w (inlX1 w h)
theorem inlX2 : ∀ w ∈ wsX20, w ∈ wsL_law := fun _ h => List.mem_append_left _ (List.mem_append_left _ (List.mem_append_left _ (List.mem_append_left _ (List.mem_append_right _ h))))
theorem inX2 : ∀ w ∈ wsX20, w ∈ lw_tbl := fun w h => wsL_law_in w (inlX2 w h)
theorem inlX3 : ∀ w ∈ wsX30, w ∈ wsL_law := fun _ h => List.mem_append_left _ (List.mem_append_left _ (List.mem_append_left _ (List.mem_append_right _ h)))
theorem inX3 : ∀ w ∈ wsX30, w ∈ lw_tbl := fun w h => wsL_law_in w (inlX3 w h)
theorem inJ9 : ∀ w ∈ wsJ90, w ∈ lw_tbl := by decide +kernel
