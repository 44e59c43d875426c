/-! The words of the law stand in the tables: by place. -/
set_option maxRecDepth 20000 in
theorem li_wsL_law_r1 : wsL_law_r1 = [58, 59, 47, 533, 534, 56, 737, 60, 61, 62, 63, 64, 65, 66, 67, 48, 339, 143, 144, 49, 340, 175, 176, 51].filterMap (fun i => lw_tbl[i]?) := by decide +kernel
set_option maxRecDepth 20000 in
theorem li_wsL_law_r2 : wsL_law_r2 = [341, 342, 69, 70, 71, 141, 82, 85, 88, 91, 93, 96, 99, 142, 102, 105, 72, 109, 145, 146, 147, 148, 149, 150].filterMap (fun i => lw_tbl[i]?) := by decide +kernel
set_option maxRecDepth 20000 in
theorem li_wsL_law_r3 : wsL_law_r3 = [50, 166, 167, 165, 152, 153, 154, 157, 177, 178, 179, 180, 181, 182, 52, 193, 194, 195, 196, 198, 192, 184, 185, 186].filterMap (fun i => lw_tbl[i]?) := by decide +kernel
set_option maxRecDepth 20000 in
theorem li_wsL_law_r4 : wsL_law_r4 = [191, 187, 217, 218, 219, 220, 75, 76, 77, 221, 222, 223, 224, 155, 225, 227, 0, 228, 100, 106, 103, 81, 229, 230].filterMap (fun i => lw_tbl[i]?) := by decide +kernel
set_option maxRecDepth 20000 in
theorem li_wsL_law_r5 : wsL_law_r5 = [53, 231, 232, 234, 1, 235, 84, 87, 90, 236, 238, 2, 239, 240, 241, 242, 243, 156, 244, 245, 246, 247, 248, 249].filterMap (fun i => lw_tbl[i]?) := by decide +kernel
set_option maxRecDepth 20000 in
theorem li_wsL_law_r6 : wsL_law_r6 = [250, 251, 252, 253, 254, 255, 256, 257, 258, 259, 261, 3, 262, 263, 265, 4, 266, 267, 269, 5, 270, 272, 273, 274].filterMap (fun i => lw_tbl[i]?) := by decide +kernel
set_option maxRecDepth 20000 in
theorem li_wsL_law_r7 : wsL_law_r7 = [275, 54, 276, 277, 279, 6, 280, 92, 281, 283, 7, 284, 285, 286, 287, 288, 289, 291, 8, 292, 293, 295, 9, 296].filterMap (fun i => lw_tbl[i]?) := by decide +kernel
set_option maxRecDepth 20000 in
theorem li_wsL_law_r8 : wsL_law_r8 = [297, 298, 299, 300, 302, 10, 303, 304, 306, 11, 307, 95, 98, 308, 310, 12, 311, 312, 314, 316, 318, 13, 319, 320].filterMap (fun i => lw_tbl[i]?) := by decide +kernel
set_option maxRecDepth 20000 in
theorem li_wsL_law_r9 : wsL_law_r9 = [322, 14, 323, 324, 326, 15, 327, 111, 328, 330, 16, 331, 332, 334, 17, 335, 336, 337, 55, 338, 535, 536, 537, 538].filterMap (fun i => lw_tbl[i]?) := by decide +kernel
set_option maxRecDepth 20000 in
theorem li_wsL_law_r10 : wsL_law_r10 = [593, 594, 595, 596, 597, 598, 599, 600, 601, 602, 604, 539, 540, 541, 542, 589, 590, 592, 543, 545, 26, 546, 591, 603].filterMap (fun i => lw_tbl[i]?) := by decide +kernel
set_option maxRecDepth 20000 in
theorem li_wsL_law_r11 : wsL_law_r11 = [547, 549, 27, 550, 551, 553, 28, 554, 555, 557, 29, 558, 559, 560, 561, 563, 30, 564, 565, 567, 31, 568, 569, 571].filterMap (fun i => lw_tbl[i]?) := by decide +kernel
set_option maxRecDepth 20000 in
theorem li_wsL_law_r12 : wsL_law_r12 = [32, 572, 573, 575, 33, 576, 577, 579, 34, 580, 581, 583, 35, 584, 585, 587, 36, 588, 352, 353, 354, 355, 80, 356].filterMap (fun i => lw_tbl[i]?) := by decide +kernel
set_option maxRecDepth 20000 in
theorem li_wsL_law_r13 : wsL_law_r13 = [644, 357, 358, 359, 360, 83, 86, 89, 94, 97, 101, 104, 107, 361, 362, 363, 364, 74, 701, 702, 703, 704, 657, 659].filterMap (fun i => lw_tbl[i]?) := by decide +kernel
set_option maxRecDepth 20000 in
theorem li_wsL_law_r14 : wsL_law_r14 = [39, 660, 365, 366, 367, 368, 110, 369, 370, 371, 372, 373, 705, 706, 707, 708, 673, 675, 43, 676, 374, 375, 376, 377].filterMap (fun i => lw_tbl[i]?) := by decide +kernel
set_option maxRecDepth 20000 in
theorem li_wsL_law_r15 : wsL_law_r15 = [78, 709, 710, 711, 712, 378, 379, 380, 381, 713, 714, 715, 716, 382, 383, 384, 385, 386, 387, 388, 389, 390, 391, 392].filterMap (fun i => lw_tbl[i]?) := by decide +kernel
set_option maxRecDepth 20000 in
theorem li_wsL_law_r16 : wsL_law_r16 = [393, 394, 396, 18, 397, 398, 400, 19, 401, 402, 403, 404, 405, 406, 407, 408, 409, 410, 411, 412, 413, 414, 415, 416].filterMap (fun i => lw_tbl[i]?) := by decide +kernel
set_option maxRecDepth 20000 in
theorem li_wsL_law_r17 : wsL_law_r17 = [57, 417, 418, 419, 420, 421, 422, 423, 424, 425, 426, 427, 428, 717, 718, 719, 720, 669, 671, 42, 672, 677, 678, 679].filterMap (fun i => lw_tbl[i]?) := by decide +kernel
set_option maxRecDepth 20000 in
theorem li_wsL_law_r18 : wsL_law_r18 = [429, 430, 431, 432, 433, 434, 435, 436, 437, 721, 722, 723, 724, 665, 667, 41, 668, 661, 663, 40, 664, 438, 439, 440].filterMap (fun i => lw_tbl[i]?) := by decide +kernel
set_option maxRecDepth 20000 in
theorem li_wsL_law_r19 : wsL_law_r19 = [441, 442, 443, 444, 445, 446, 447, 448, 449, 725, 726, 727, 728, 450, 451, 452, 453, 729, 730, 731, 732, 454, 455, 456].filterMap (fun i => lw_tbl[i]?) := by decide +kernel
set_option maxRecDepth 20000 in
theorem li_wsL_law_r20 : wsL_law_r20 = [457, 458, 459, 460, 461, 733, 734, 735, 736, 462, 463, 464, 465, 197, 466, 467, 468, 469, 200, 470, 472, 20, 473, 474].filterMap (fun i => lw_tbl[i]?) := by decide +kernel
set_option maxRecDepth 20000 in
theorem li_wsL_law_r21 : wsL_law_r21 = [475, 476, 477, 478, 479, 480, 481, 482, 483, 484, 485, 487, 21, 488, 79, 489, 490, 492, 22, 493, 108, 494, 495, 497].filterMap (fun i => lw_tbl[i]?) := by decide +kernel
set_option maxRecDepth 20000 in
theorem li_wsL_law_r22 : wsL_law_r22 = [23, 498, 499, 500, 501, 502, 503, 504, 645, 646, 647, 648, 649, 651, 37, 652, 605, 606, 653, 655, 38, 656, 680, 682].filterMap (fun i => lw_tbl[i]?) := by decide +kernel
set_option maxRecDepth 20000 in
theorem li_wsL_law_r23 : wsL_law_r23 = [44, 683, 505, 506, 507, 508, 199, 684, 685, 686, 687, 509, 510, 511, 512, 201, 513, 514, 515, 516, 688, 689, 690, 691].filterMap (fun i => lw_tbl[i]?) := by decide +kernel
set_option maxRecDepth 20000 in
theorem li_wsL_law_r24 : wsL_law_r24 = [517, 518, 519, 520, 521, 522, 523, 524, 525, 527, 24, 528, 529, 531, 25, 532, 692, 693, 694, 695, 696, 697, 699, 45].filterMap (fun i => lw_tbl[i]?) := by decide +kernel
set_option maxRecDepth 20000 in
theorem li_wsL_law_r25 : wsL_law_r25 = [700].filterMap (fun i => lw_tbl[i]?) := by decide +kernel
set_option maxRecDepth 20000 in
theorem li_wsX60 : wsX60 = [343, 345, 347, 349].filterMap (fun i => lw_tbl[i]?) := by decide +kernel
set_option maxRecDepth 20000 in
theorem li_wsX70 : wsX70 = [607, 609, 611, 613, 615, 617, 619, 621, 623, 625, 627, 629, 631, 633, 635, 637, 639, 641].filterMap (fun i => lw_tbl[i]?) := by decide +kernel
set_option maxRecDepth 20000 in
theorem li_wsX00 : wsX00 = [112, 114, 116, 118, 120, 122, 124, 126, 128, 130, 132, 134, 136, 138].filterMap (fun i => lw_tbl[i]?) := by decide +kernel
set_option maxRecDepth 20000 in
theorem li_wsX20 : wsX20 = [168, 170, 172].filterMap (fun i => lw_tbl[i]?) := by decide +kernel
set_option maxRecDepth 20000 in
theorem li_wsX40 : wsX40 = [202, 204, 206, 208, 210, 212, 214].filterMap (fun i => lw_tbl[i]?) := by decide +kernel
set_option maxRecDepth 20000 in
theorem li_wsX10 : wsX10 = [158, 160, 162].filterMap (fun i => lw_tbl[i]?) := by decide +kernel
set_option maxRecDepth 20000 in
theorem li_wsX30 : wsX30 = [188].filterMap (fun i => lw_tbl[i]?) := by decide +kernel
theorem li_of {ws : List Cond} {ps : List Nat} (h : ws = ps.filterMap (fun i => lw_tbl[i]?)) : ∀ w ∈ ws, w ∈ lw_tbl := fun w hw => by
  rw [h] at hw
  obtain ⟨i, -, hi⟩ := List.mem_filterMap.mp hw
  exact List.mem_of_getElem? hi
theorem wsL_law_in : ∀ w ∈ wsL_law, w ∈ lw_tbl := (List.forall_mem_append.mpr ⟨(List.forall_mem_append.mpr ⟨(List.forall_mem_append.mpr ⟨(List.forall_mem_append.mpr ⟨(List.forall_mem_append.mpr ⟨(List.forall_mem_append.mpr ⟨(List.forall_mem_append.mpr ⟨(List.forall_mem_append.mpr ⟨(List.forall_mem_append.mpr ⟨li_of li_wsL_law_r1, (List.forall_mem_append.mpr ⟨li_of li_wsL_law_r2, (List.forall_mem_append.mpr ⟨li_of li_wsL_law_r3, (List.forall_mem_append.mpr ⟨li_of li_wsL_law_r4, (List.forall_mem_append.mpr ⟨li_of li_wsL_law_r5, (List.forall_mem_append.mpr ⟨li_of li_wsL_law_r6, (List.forall_mem_append.mpr ⟨li_of li_wsL_law_r7, (List.forall_mem_append.mpr ⟨li_of li_wsL_law_r8, (List.forall_mem_append.mpr ⟨li_of li_wsL_law_r9, (List.forall_mem_append.mpr ⟨li_of li_wsL_law_r10, (List.forall_mem_append.mpr ⟨li_of li_wsL_law_r11, (List.forall_mem_append.mpr ⟨li_of li_wsL_law_r12, (List.forall_mem_append.mpr ⟨li_of li_wsL_law_r13, (List.forall_mem_append.mpr ⟨li_of li_wsL_law_r14, (List.forall_mem_append.mpr ⟨li_of li_wsL_law_r15, (List.forall_mem_append.mpr ⟨li_of li_wsL_law_r16, (List.forall_mem_append.mpr ⟨li_of li_wsL_law_r17, (List.forall_mem_append.mpr ⟨li_of li_wsL_law_r18, (List.forall_mem_append.mpr ⟨li_of li_wsL_law_r19, (List.forall_mem_append.mpr ⟨li_of li_wsL_law_r20, (List.forall_mem_append.mpr ⟨li_of li_wsL_law_r21, (List.forall_mem_append.mpr ⟨li_of li_wsL_law_r22, (List.forall_mem_append.mpr ⟨li_of li_wsL_law_r23, (List.forall_mem_append.mpr ⟨li_of li_wsL_law_r24, (li_of li_wsL_law_r25)⟩)⟩)⟩)⟩)⟩)⟩)⟩)⟩)⟩)⟩)⟩)⟩)⟩)⟩)⟩)⟩)⟩)⟩)⟩)⟩)⟩)⟩)⟩)⟩), li_of li_wsX60⟩), li_of li_wsX70⟩), li_of li_wsX00⟩), li_of li_wsX20⟩), li_of li_wsX40⟩), li_of li_wsX10⟩), li_of li_wsX30⟩), fun _ h => absurd h List.not_mem_nil⟩)
theorem inX6 : ∀ w ∈ wsX60, w ∈ lw_tbl := li_of li_wsX60
theorem inX7 : ∀ w ∈ wsX70, w ∈ lw_tbl := li_of li_wsX70
theorem inX0 : ∀ w ∈ wsX00, w ∈ lw_tbl := li_of li_wsX00
theorem inX2 : ∀ w ∈ wsX20, w ∈ lw_tbl := li_of li_wsX20
theorem inX4 : ∀ w ∈ wsX40, w ∈ lw_tbl := li_of li_wsX40
theorem inX1 : ∀ w ∈ wsX10, w ∈ lw_tbl := li_of li_wsX10
theorem inX3 : ∀ w ∈ wsX30, w ∈ lw_tbl := li_of li_wsX30
